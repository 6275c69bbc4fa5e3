/-! ===== conditions: told one in another here, waiting on a stack in the reference ===== -/
def fAR (y : Int32 × Int32 × Mem) : Option ((Int32 × Int32 × Mem) ⊕ (Nat × Mem)) := st_X12_readAny_9 y.1 y.2.1 y.2.2
def finA (r32 : Nat × Mem) : Option (Int32 × Mem) :=
  if r32.1 = 0 then (f_X12_errs 3 r32.2).bind fun r33 =>
  some (r33.1, r33.2) else if r32.1 = 1 then some ((-1), r32.2) else if r32.1 = 2 then some (0, r32.2) else (f_X12_errs 1 r32.2).bind fun r34 =>
  some (r34.1, r34.2)
def endS (x1 : Int32) (r7 : Mem) : Option ((Int32 × Int32 × Mem) ⊕ (Nat × Mem)) :=
  if x1 = 0 then
  some (.inr (2, r7))
  else
  (f_X12_isSign 41 r7).bind fun r9 =>
  if r9.1 = 0 then
  some (.inr (3, r9.2))
  else
  (f_X12_settles 9 (mset (mset r9.2 0 26 ((r9.2 0 26) - 1)) 0 24 (((mset r9.2 0 26 ((r9.2 0 26) - 1)) 0 24) - 1))).bind fun r11 =>
  (f_X12_reads r11).bind fun r12 =>
  some (.inl ((x1 - 1), 0, r12))
/-- how many truths such codes leave -/
def EK (m b : Nat) (d : List Int32) : Prop := ∀ (F : Nat → Int32) (st : List Int32), st.length ≤ b → ∃ vs : List Int32, vs.length = m ∧ (∀ v, v ∈ vs → isB v) ∧ evL F d st = some (vs ++ st)
theorem EK_0 {b : Nat} : EK 0 b [] := fun F st hs => ⟨[], rfl, fun v hv => by simp at hv, rfl⟩
theorem EK_claim {m b b' : Nat} {d1 d2 : List Int32} (h1 : EK m b d1) (h2 : EZ b' d2) (hb : m + b ≤ b') : EK (m + 1) b (d1 ++ d2) := by
  intro F st hs
  obtain ⟨vs, e1, e2, e3⟩ := h1 F st hs
  obtain ⟨v, hv, e4⟩ := h2 F (vs ++ st) (by rw [List.length_append]; omega)
  refine ⟨v :: vs, by simp [e1], fun w hw => ?_, ?_⟩
  · rcases List.mem_cons.mp hw with q | q
    · rw [q]; exact hv
    · exact e2 w q
  · rw [evL_app, e3, Option.bind_some, e4]
    rfl
theorem op2_B {c x y : Int32} (hc : c = 20007 ∨ c = 20008) (hx : isB x) (hy : isB y) : ∃ v, isB v ∧ op2 c x y = some v := by
  rcases hc with rfl | rfl <;> rcases hx with rfl | rfl <;> rcases hy with rfl | rfl
  · exact ⟨0, Or.inl rfl, by decide⟩
  · exact ⟨0, Or.inl rfl, by decide⟩
  · exact ⟨0, Or.inl rfl, by decide⟩
  · exact ⟨1, Or.inr rfl, by decide⟩
  · exact ⟨0, Or.inl rfl, by decide⟩
  · exact ⟨1, Or.inr rfl, by decide⟩
  · exact ⟨1, Or.inr rfl, by decide⟩
  · exact ⟨1, Or.inr rfl, by decide⟩
theorem EK_op {m b : Nat} {d : List Int32} {c : Int32} (h : EK (m + 2) b d) (hc : c = 20007 ∨ c = 20008) : EK (m + 1) b (d ++ [c]) := by
  intro F st hs
  obtain ⟨vs, e1, e2, e3⟩ := h F st hs
  match vs, e1, e2, e3 with
  | y :: x :: r, e1, e2, e3 =>
    obtain ⟨v, hv, e4⟩ := op2_B hc (e2 x (by simp)) (e2 y (by simp))
    refine ⟨v :: r, by simp at e1 ⊢; omega, fun w hw => ?_, ?_⟩
    · rcases List.mem_cons.mp hw with q | q
      · rw [q]; exact hv
      · exact e2 w (by simp [q])
    · rw [evL_app, e3, Option.bind_some]
      exact evL_op e4
theorem EK_1 {b : Nat} {d : List Int32} (h : EK 1 b d) : EZ b d := by
  intro F st hs
  obtain ⟨vs, e1, e2, e3⟩ := h F st hs
  match vs, e1, e2, e3 with
  | [v], e1, e2, e3 => exact ⟨v, e2 v (by simp), e3⟩
section T8
variable {K s0 t0 : Mem} {T op : Nat}
theorem x_stn {s t : Mem} {j : Nat} {cs cs' : List Int32} {P : Option (List Int32)} (h : stX K T s0 s j cs) (h' : stY K T t0 P op t j cs') (hk : K j 0 ≠ 0) : ∃ s', f_X6_advance s = some s' ∧ stX K T s0 s' (j + 1) cs := by
  have hj := cur_lt h'.1 hk
  have hT := h'.1.1
  obtain ⟨s', e1, e2, e3⟩ := x_next h.1 hj hT.1 hT.2.2.1 hT.2.2.2.1
  refine ⟨s', e1, e2, fX_173 h.2.1 e3, ?_, ?_⟩
  · rw [e3 178 (by omega)]; exact h.2.2.1
  · rw [e3 183 (by omega)]; exact h.2.2.2
theorem m_stn {t : Mem} {j : Nat} {cs : List Int32} {P : Option (List Int32)} (h' : stY K T t0 P op t j cs) (hk : K j 0 ≠ 0) : ∃ t', f_X12_reads t = some t' ∧ stY K T t0 P op t' (j + 1) cs := by
  obtain ⟨t', g1, g2, g3, g4⟩ := m_next h'.1 (cur_lt h'.1 hk)
  refine ⟨t', g1, g2, fY_0 h'.2.1 g3 (fun i hi => g4 i (by omega)), ?_, ?_, ?_⟩
  · rw [g4 26 (by omega), g3 14 (by omega), g4 24 (by omega)]; exact h'.2.2.1
  · rw [g4 23 (by omega)]; exact h'.2.2.2.1
  · rw [g3 12 (by omega), g3 13 (by omega)]; exact h'.2.2.2.2
/-- 24 and 26 alone change -/
theorem stY_pnd {t t' : Mem} {j op' : Nat} {cs : List Int32} {P P' : Option (List Int32)} (h : stY K T t0 P op t j cs) (hc : ∀ c, c ≠ 0 → c ≠ 14 → t' c = t c) (h0 : ∀ i, i ≠ 24 → i ≠ 26 → t' 0 i = t 0 i) (hp : pnd P' op' (t' 0 26) (t' 14) (t' 0 24)) : stY K T t0 P' op' t' j cs := by
  obtain ⟨h1, h2, h3, h4, h5⟩ := h
  refine ⟨cuR_eq h1 (hc 5 (by omega) (by omega)) (hc 6 (by omega) (by omega)) (fun i q1 q2 => h0 i (by omega) (by omega)), ⟨fun c q1 q2 q3 q4 => (hc c q1 q4).trans (h2.1 c q1 q2 q3 q4), fun i hi => (h0 i (by omega) (by omega)).trans (h2.2.1 i hi), ?_⟩, hp, ?_, ?_⟩
  · rw [hc 12 (by omega) (by omega), hc 13 (by omega) (by omega)]; exact h2.2.2
  · rw [h0 23 (by omega) (by omega)]; exact h4
  · rw [hc 12 (by omega) (by omega), hc 13 (by omega) (by omega)]; exact h5
theorem m_waits {t : Mem} {j : Nat} {cs L : List Int32} (w : Int32) (h : stY K T t0 (some L) op t j cs) (hL : L.length < 40) : ∃ t', f_X12_waits w t = some t' ∧ stY K T t0 (some (w :: L)) op t' j cs := by
  obtain ⟨p1, p2⟩ := h.2.2.1.2 L rfl
  unfold f_X12_waits
  rw [p1, wr_N hL (by omega)]
  dsimp only [Option.bind_some]
  refine ⟨_, rfl, stY_pnd h (fun c h1 h2 => by rw [m_ne h1, m_ne h2]) (fun i h1 h2 => by rw [m_eq, u_ne h2, m_ne (by omega)]) ⟨?_, fun L' hL' => ?_⟩⟩
  · rw [m_eq, u_ne (by omega), m_ne (by omega)]; exact h.2.2.1.1
  · cases hL'
    rw [m_eq, u_eq, m_ne (by omega), p1, N_addL, m_ne (by omega), m_eq]
    exact ⟨by simp, u_eq, stkR_upd p2 (Nat.le_refl _)⟩
/-- what waits on top comes out -/
theorem m_settle {t : Mem} {j k op' : Nat} {cs Qs : List Int32} {w c : Int32} (hc : cdR c w 0) (hq : ∀ r, Qs ≠ w :: r) (h : stY K T t0 (some (List.replicate k w ++ Qs)) op t j cs) (ho : op = (if w = 9 then k else 0) + op') (hk : cs.length + k ≤ 400) (hl : k + Qs.length ≤ 40) (hop : op ≤ 40) :
    ∃ t', f_X12_settles w t = some t' ∧ stY K T t0 (some Qs) op' t' j (cs ++ List.replicate k c) := by
  have key : ok (it FUEL (fun y => st_X12_settles_0 w y) t) (fun r => stY K T t0 (some Qs) op' r j (cs ++ List.replicate k c)) := by
    refine it_ok1 k (by omega) (fun i y => i ≤ k ∧ stY K T t0 (some (List.replicate (k - i) w ++ Qs)) ((if w = 9 then k - i else 0) + op') y j (cs ++ List.replicate i c)) ⟨by omega, by rw [Nat.sub_zero, ← ho]; simpa using h⟩ (fun i y q => q.1) ?_
    rintro i y ⟨hi, hY⟩
    try dsimp only
    obtain ⟨p1, p2⟩ := hY.2.2.1.2 _ rfl
    have hlen : (List.replicate (k - i) w ++ Qs).length = (k - i) + Qs.length := by simp
    unfold st_X12_settles_0
    rw [p1, hlen]
    by_cases hik : i = k
    · subst hik
      rw [show i - i = 0 by omega] at hY p1 p2 ⊢
      simp only [List.replicate_zero, List.nil_append, Nat.zero_add] at hY p1 p2 ⊢
      refine Or.inr ⟨y, ?_, by simpa using hY⟩
      cases Qs with
      | nil => rw [if_pos (by decide)]
      | cons v r =>
        have e1 : Int32.ofNat (v :: r).length - 1 = Int32.ofNat r.length := by
          rw [N_subL (by simp), List.length_cons, Nat.add_sub_cancel]
        simp only [List.length_cons] at hl
        rw [if_neg (by rw [show (0 : Int32) = Int32.ofNat 0 from rfl, N_le (by simp; omega) (by omega)]; simp), e1, rd_N (by omega) (by omega)]
        dsimp only [Option.bind_some]
        rw [p2.1, if_neg (fun z => hq r (by rw [z]))]
    · obtain ⟨d, hd⟩ : ∃ d, k - i = d + 1 := ⟨k - i - 1, by omega⟩
      rw [hd] at hY p1 p2 ⊢
      have e0 : List.replicate (d + 1) w ++ Qs = w :: (List.replicate d w ++ Qs) := by rw [List.replicate_succ]; rfl
      rw [e0] at hY p1 p2
      have e1 : Int32.ofNat (d + 1 + Qs.length) - 1 = Int32.ofNat (d + Qs.length) := by
        rw [N_subL (by omega)]
        congr 1
        omega
      rw [if_neg (by rw [show (0 : Int32) = Int32.ofNat 0 from rfl, N_le (by omega) (by omega)]; omega), e1, rd_N (by omega) (by omega)]
      dsimp only [Option.bind_some]
      have p3 : y 14 (d + Qs.length) = w := by
        have := p2.1
        simp only [List.length_append, List.length_replicate] at this
        exact this
      rw [p3, if_pos rfl]
      have hpop : stY K T t0 (some (List.replicate d w ++ Qs)) ((if w = 9 then d + 1 else 0) + op') (mset y 0 26 (Int32.ofNat (d + Qs.length))) j (cs ++ List.replicate i c) := by
        refine stY_pnd hY (fun c h1 h2 => m_ne h1) (fun i h1 h2 => by rw [m_eq, u_ne h2]) ⟨?_, fun L' hL' => ?_⟩
        · rw [m_eq, u_ne (by omega)]; exact hY.2.2.1.1
        · cases hL'
          rw [m_eq, u_eq, m_ne (by omega)]
          exact ⟨by simp, p2.2⟩
      obtain ⟨t1, f1, f2⟩ := m_emits hpop hc (by simp; omega)
      rw [f1]
      dsimp only [Option.bind_some]
      have e9 : cs ++ List.replicate i c ++ [c] = cs ++ List.replicate (i + 1) c := by rw [List.append_assoc, ← List.replicate_succ']
      rw [e9] at f2
      have e8 : k - (i + 1) = d := by omega
      by_cases h9 : w = 9
      · rw [if_pos h9]
        refine Or.inl ⟨_, rfl, by omega, ?_⟩
        rw [e8]
        refine stY_pnd f2 (fun c h1 h2 => m_ne h1) (fun i h1 h2 => by rw [m_eq, u_ne h1]) ⟨?_, fun L' hL' => ?_⟩
        · have q := f2.2.2.1.1
          rw [if_pos h9] at q ⊢
          rw [m_eq, u_eq, q, N_subL (by omega)]
          congr 1
          omega
        · have q := f2.2.2.1.2 L' hL'
          rw [m_eq, u_ne (by omega), m_ne (by omega)]
          exact q
      · rw [if_neg h9]
        refine Or.inl ⟨_, rfl, by omega, ?_⟩
        rw [e8]
        rw [if_neg h9] at f2 ⊢
        exact f2
  unfold f_X12_settles
  obtain ⟨r, e1, e2⟩ := key
  rw [e1]
  exact ⟨r, rfl, e2⟩
/-- as it is, where nothing of it waits on top -/
theorem m_settle0 {t : Mem} {j : Nat} {cs Qs : List Int32} {w c : Int32} (hc : cdR c w 0) (hq : ∀ r, Qs ≠ w :: r) (h : stY K T t0 (some Qs) op t j cs) (hk : cs.length ≤ 400) (hl : Qs.length ≤ 40) (hop : op ≤ 40) : ∃ t', f_X12_settles w t = some t' ∧ stY K T t0 (some Qs) op t' j cs := by
  obtain ⟨t', e1, e2⟩ := m_settle (k := 0) (op' := op) hc hq (by simpa using h) (by split <;> omega) (by omega) (by omega) hop
  exact ⟨t', e1, by simpa using e2⟩
theorem m_settle1 {t : Mem} {j : Nat} {cs Qs : List Int32} {w c : Int32} (hc : cdR c w 0) (h9 : w ≠ 9) (hq : ∀ r, Qs ≠ w :: r) (h : stY K T t0 (some (w :: Qs)) op t j cs) (hk : cs.length < 400) (hl : Qs.length < 40) (hop : op ≤ 40) : ∃ t', f_X12_settles w t = some t' ∧ stY K T t0 (some Qs) op t' j (cs ++ [c]) := by
  obtain ⟨t', e1, e2⟩ := m_settle (k := 1) (op' := op) hc hq (by simpa using h) (by rw [if_neg h9]; omega) (by omega) (by omega) hop
  exact ⟨t', e1, by simpa using e2⟩
end T8
