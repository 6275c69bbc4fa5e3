/-! ===== numbers, persons, marks: as both take them ===== -/
def pS (K : Mem) (T : Nat) (s0 t0 : Mem) (j : Nat) (s t : Mem) : Prop := cuC K T s j ∧ cuR K T t j ∧ tgX s0 s ∧ tgY t0 t
section U3
variable {K s0 t0 : Mem} {T : Nat}
theorem p_next {s t : Mem} {j : Nat} (h : pS K T s0 t0 j s t) (hk : K j 0 ≠ 0) : ∃ s' t', f_X6_advance s = some s' ∧ f_X12_reads t = some t' ∧ pS K T s0 t0 (j + 1) s' t' ∧ (∀ c, c ≠ 173 → s' c = s c) ∧ ∀ c, c ≠ 0 → t' c = t c := by
  obtain ⟨h1, h2, h3, h4⟩ := h
  have hj := cur_lt h2 hk
  have hT := h2.1
  obtain ⟨s', e1, e2, e3⟩ := x_next h1 hj hT.1 hT.2.2.1 hT.2.2.2.1
  obtain ⟨t', g1, g2, g3, g4⟩ := m_next h2 hj
  refine ⟨s', t', e1, g1, ⟨e2, g2, ⟨fun c q1 q2 q3 => (e3 c q2).trans (h3.1 c q1 q2 q3), by rw [e3 172 (by omega)]; exact h3.2⟩, ?_⟩, e3, g3⟩
  obtain ⟨a1, a2, a3, a4, a5, a6, a7, a8⟩ := h4
  refine ⟨fun c q1 q2 => (g3 c q1).trans (a1 c q1 q2), fun i hi => (g4 i (by omega)).trans (a2 i hi), ?_, ?_, ?_, ?_, ?_, ?_⟩
  · rw [g3 8 (by omega), g3 9 (by omega), g3 10 (by omega), g3 11 (by omega)]; exact a3
  · rw [g3 12 (by omega), g3 13 (by omega)]; exact a4
  · rw [g3 15 (by omega)]; exact a5
  · rw [g3 16 (by omega)]; exact a6
  · rw [g3 17 (by omega)]; exact a7
  · rw [g3 18 (by omega)]; exact a8
theorem p_fail {s t : Mem} {j : Nat} (h : pS K T s0 t0 j s t) (k : Int32) : ∃ s' t', f_X4_fail k s = some (0, s') ∧ f_X12_errs k t = some (-1, t') ∧ badR s0 t0 s' t' := by
  obtain ⟨h1, h2, h3, h4⟩ := h
  rw [x_fail, m_errs]
  obtain ⟨a1, a2, a3, a4, a5, a6, a7, a8⟩ := h4
  refine ⟨_, _, rfl, rfl, ⟨fun c q1 q2 q3 => ?_, ?_⟩, ⟨fun c q1 q2 => ?_, fun i hi => ?_, ?_, ?_, ?_, ?_, ?_, ?_⟩, ?_, ?_, ?_⟩
  · rw [m_ne q1, m_ne q1]; exact h3.1 c q1 q2 q3
  · rw [m_eq, u_ne (by omega), m_eq, u_ne (by omega)]; exact h3.2
  · rw [m_ne q1, m_ne q1]; exact a1 c q1 q2
  · rw [m_eq, u_ne (by omega), m_eq, u_ne (by omega)]; exact a2 i hi
  · simp (disch := omega) only [m_ne]; exact a3
  · simp (disch := omega) only [m_ne]; exact a4
  · simp (disch := omega) only [m_ne]; exact a5
  · simp (disch := omega) only [m_ne]; exact a6
  · simp (disch := omega) only [m_ne]; exact a7
  · simp (disch := omega) only [m_ne]; exact a8
  · rw [m_eq, u_ne (by omega), m_eq, u_eq, m_eq, u_ne (by omega), m_eq, u_eq]
  · rw [m_eq, u_eq, m_eq, u_eq, h1.2.2.2.2.2.1, h2.2.2.2.1]
  · rw [m_ne (by omega), m_ne (by omega), h1.2.1]; exact h2.1.2.2.2.2.2.2
theorem badR_m {s t : Mem} {c i : Nat} {v : Int32} (h : badR s0 t0 s t) (hc : (8 ≤ c ∧ c ≤ 11 ∧ 16 ≤ i) ∨ (c = 15 ∧ 48 ≤ i) ∨ (c = 16 ∧ 64 ≤ i) ∨ (c = 17 ∧ 14 ≤ i) ∨ (c = 18 ∧ 84 ≤ i)) : badR s0 t0 s (mset t c i v) :=
  ⟨h.1, tgY_m h.2.1 hc, by rw [m_ne (by omega)]; exact h.2.2.1, by rw [m_ne (by omega)]; exact h.2.2.2⟩
theorem pS_m {s t : Mem} {j c i : Nat} {v : Int32} (h : pS K T s0 t0 j s t) (hc : (8 ≤ c ∧ c ≤ 11 ∧ 16 ≤ i) ∨ (c = 15 ∧ 48 ≤ i) ∨ (c = 16 ∧ 64 ≤ i) ∨ (c = 17 ∧ 14 ≤ i) ∨ (c = 18 ∧ 84 ≤ i)) : pS K T s0 t0 j s (mset t c i v) :=
  ⟨h.1, cuR_eq h.2.1 (m_ne (by omega)) (m_ne (by omega)) (fun l _ _ => by rw [m_ne (by omega)]), h.2.2.1, tgY_m h.2.2.2 hc⟩
theorem pS_x {s s' t : Mem} {j : Nat} (h : pS K T s0 t0 j s t) (hs : ∀ c, c < 178 → s' c = s c) : pS K T s0 t0 j s' t :=
  ⟨cuC_eq h.1 (hs _ (by omega)) (hs _ (by omega)) (hs _ (by omega)) (hs _ (by omega)) (hs _ (by omega)), h.2.1, ⟨fun c q1 q2 q3 => (hs c q3).trans (h.2.2.1.1 c q1 q2 q3), by rw [hs 172 (by omega)]; exact h.2.2.1.2⟩, h.2.2.2⟩
def numQ (K : Mem) (T : Nat) (s0 t0 : Mem) (j : Nat) (s t : Mem) (V : Nat → Prop) (r r' : Int32 × Mem) : Prop :=
  (r.1 = -1 ∧ r'.1 = -1 ∧ badR s0 t0 r.2 r'.2) ∨ ∃ v, v < 10000 ∧ V v ∧ r.1 = Int32.ofNat v ∧ r'.1 = Int32.ofNat v ∧ pS K T s0 t0 (j + 1) r.2 r'.2 ∧ (∀ c, c ≠ 173 → r.2 c = s c) ∧ ∀ c, c ≠ 0 → r'.2 c = t c
theorem r_num {s t : Mem} {j : Nat} (lo hi : Int32) (h : pS K T s0 t0 j s t) : ok2 (f_X4_takeNumber lo hi s) (f_X12_readNumber lo hi t) (numQ K T s0 t0 j s t (fun v => lo ≤ Int32.ofNat v ∧ Int32.ofNat v ≤ hi)) := by
  unfold f_X4_takeNumber f_X4_isNumber f_X12_readNumber jn_X4_isNumber_39 jn_X4_isNumber_47
  rw [h.1.2.2.2.1, h.2.1.2.2.2.2.1]
  by_cases k3 : K j 0 = 3
  · have k0 : K j 0 ≠ 0 := by rw [k3]; decide
    obtain ⟨v, hv, e4, e1⟩ := tkF_n (cur_F h.2.1 k0) k3
    rw [if_pos (ckd_2.mpr k3), if_pos k3, h.1.2.2.2.2.1, h.2.1.2.2.2.2.2 k0 (by rw [k3]; decide), e1, e4, m_isIn]
    dsimp only [Option.bind_some]
    by_cases hb : lo ≤ Int32.ofNat v ∧ Int32.ofNat v ≤ hi
    · rw [if_neg (show ¬ Int32.ofNat v < lo by grind), if_pos hb.2, if_pos hb, if_neg (by decide)]
      dsimp only [Option.bind_some]
      rw [if_neg (by decide)]
      obtain ⟨s', t', c1, c2, c3, c4, c5⟩ := p_next h k0
      rw [c1, c2]
      dsimp only [Option.bind_some]
      rw [h.1.2.2.2.2.1, h.2.1.2.2.2.2.2 k0 (by rw [k3]; decide), e1, e4]
      exact ok2.some (Or.inr ⟨v, hv, hb, rfl, rfl, c3, c4, c5⟩)
    · rw [if_neg hb, if_pos rfl]
      obtain ⟨s', t', f1, f2, f3⟩ := p_fail h 2
      rw [f1, f2]
      dsimp only [Option.bind_some]
      rw [if_pos rfl]
      have e : (if Int32.ofNat v < lo then some ((0 : Int32), s') else if Int32.ofNat v ≤ hi then some (1, s) else some (0, s')) = some (0, s') := by
        by_cases q : Int32.ofNat v < lo
        · rw [if_pos q]
        · rw [if_neg q, if_neg (fun z => hb ⟨by grind, z⟩)]
      rw [e]
      dsimp only [Option.bind_some]
      rw [if_pos rfl]
      exact ok2.some (Or.inl ⟨rfl, rfl, f3⟩)
  · rw [if_neg (fun z => k3 (ckd_2.mp z)), if_neg k3]
    obtain ⟨s', t', f1, f2, f3⟩ := p_fail h 1
    rw [f1, f2]
    dsimp only [Option.bind_some]
    rw [if_neg (by decide)]
    dsimp only [Option.bind_some]
    rw [if_pos rfl]
    exact ok2.some (Or.inl ⟨rfl, rfl, f3⟩)
theorem N_lep {v n : Nat} (hv : v < 10000) (hn : n ≤ 14) : (Int32.ofNat v ≤ Int32.ofNat n - 1) = (v < n) := by
  cases n with
  | zero =>
    rw [show Int32.ofNat 0 - 1 = -1 by decide]
    have h1 : (0 : Int32) ≤ Int32.ofNat v := by rw [N_0le (by omega)]; trivial
    have : ¬ Int32.ofNat v ≤ -1 := by grind
    simp [this]
  | succ n =>
    rw [N_subL (by omega), N_le (by omega) (by omega)]
    apply propext
    constructor <;> intro h <;> omega
/-- a PERSON, unlike x -/
theorem r_person {s t : Mem} {j n : Nat} (x : Int32) (h : pS K T s0 t0 j s t) (hn : n ≤ 14) (h172 : s 172 3 = Int32.ofNat n) :
    ok2 (f_X4_takePerson x s) (if K j 0 = 3 ∧ K j 4 = x then f_X12_errs 2 t else f_X12_readNumber 0 (Int32.ofNat n - 1) t) (numQ K T s0 t0 j s t (fun v => v < n ∧ Int32.ofNat v ≠ x)) := by
  unfold f_X4_takePerson f_X4_isPerson f_X4_isNumber jn_X4_isNumber_39 jn_X4_isNumber_47 jn_X4_isPerson_35
  rw [h172, h.1.2.2.2.1]
  by_cases k3 : K j 0 = 3
  · have k0 : K j 0 ≠ 0 := by rw [k3]; decide
    obtain ⟨v, hv, e4, e1⟩ := tkF_n (cur_F h.2.1 k0) k3
    have e13 : t 0 13 = Int32.ofNat v := (h.2.1.2.2.2.2.2 k0 (by rw [k3]; decide)).trans e4
    have e2 : s 173 2 = Int32.ofNat v := h.1.2.2.2.2.1.trans e1
    obtain ⟨s2, t2, f1, f2, f3⟩ := p_fail h 2
    have hr : ¬ v < n → (if K j 0 = 3 ∧ K j 4 = x then f_X12_errs 2 t else f_X12_readNumber 0 (Int32.ofNat n - 1) t) = some (-1, t2) := by
      intro hvn
      by_cases q : K j 0 = 3 ∧ K j 4 = x
      · rw [if_pos q, f2]
      · rw [if_neg q]
        unfold f_X12_readNumber
        rw [h.2.1.2.2.2.2.1, if_pos k3, e13, m_isIn, if_neg (fun z => hvn (by have := z.2; rw [N_lep hv hn] at this; exact this))]
        dsimp only [Option.bind_some]
        rw [if_pos rfl, f2]
        rfl
    rw [if_pos (ckd_2.mpr k3), e2, if_neg (by rw [N_nlt0 (by omega)]; exact fun z => z)]
    by_cases hvn : v < n
    · rw [if_pos (show Int32.ofNat v ≤ Int32.ofNat n - 1 by rw [N_lep hv hn]; exact hvn)]
      dsimp only [Option.bind_some]
      rw [if_neg (show ¬ (1 : Int32) = 0 by decide)]
      by_cases q : Int32.ofNat v = x
      · rw [if_pos (show s 173 2 = x from e2.trans q), if_pos ⟨k3, by rw [e4]; exact q⟩, f1, f2]
        dsimp only [Option.bind_some]
        rw [if_pos rfl]
        dsimp only [Option.bind_some]
        rw [if_pos rfl]
        exact ok2.some (Or.inl ⟨rfl, rfl, f3⟩)
      · rw [if_neg (show ¬ s 173 2 = x from fun z => q (e2.symm.trans z)), if_neg (fun z => q (by rw [← e4]; exact z.2))]
        dsimp only [Option.bind_some]
        rw [if_neg (show ¬ (1 : Int32) = 0 by decide)]
        unfold f_X12_readNumber
        rw [h.2.1.2.2.2.2.1, if_pos k3, e13, m_isIn, if_pos (show (0 : Int32) ≤ Int32.ofNat v ∧ Int32.ofNat v ≤ Int32.ofNat n - 1 from ⟨by rw [N_0le (by omega)]; trivial, by rw [N_lep hv hn]; exact hvn⟩)]
        dsimp only [Option.bind_some]
        rw [if_neg (show ¬ (1 : Int32) = 0 by decide)]
        obtain ⟨s3, t3, c1, c2, c3, c4, c5⟩ := p_next h k0
        rw [c1, c2]
        dsimp only [Option.bind_some]
        rw [e2, e13]
        exact ok2.some (Or.inr ⟨v, hv, ⟨hvn, q⟩, rfl, rfl, c3, c4, c5⟩)
    · rw [hr hvn, if_neg (show ¬ Int32.ofNat v ≤ Int32.ofNat n - 1 by rw [N_lep hv hn]; exact hvn), f1]
      dsimp only [Option.bind_some]
      rw [if_pos rfl]
      dsimp only [Option.bind_some]
      rw [if_pos rfl]
      dsimp only [Option.bind_some]
      rw [if_pos rfl]
      exact ok2.some (Or.inl ⟨rfl, rfl, f3⟩)
  · obtain ⟨s2, t2, f1, f2, f3⟩ := p_fail h 1
    rw [if_neg (fun z => k3 (ckd_2.mp z)), if_neg (fun z => k3 z.1), f1]
    unfold f_X12_readNumber
    rw [h.2.1.2.2.2.2.1, if_neg k3, f2]
    dsimp only [Option.bind_some]
    rw [if_neg (by decide)]
    dsimp only [Option.bind_some]
    rw [if_pos rfl]
    dsimp only [Option.bind_some]
    rw [if_pos rfl]
    exact ok2.some (Or.inl ⟨rfl, rfl, f3⟩)
theorem r_person0 {s t : Mem} {j n : Nat} (h : pS K T s0 t0 j s t) (hn : n ≤ 14) (h172 : s 172 3 = Int32.ofNat n) :
    ok2 (f_X4_takePerson (-1) s) (f_X12_readNumber 0 (Int32.ofNat n - 1) t) (numQ K T s0 t0 j s t (fun v => v < n)) := by
  have h1 := r_person (-1) h hn h172
  rw [if_neg (by
    rintro ⟨q1, q2⟩
    obtain ⟨v, hv, e4, -⟩ := tkF_n (cur_F h.2.1 (by rw [q1]; decide)) q1
    rw [e4, N_neg (by omega)] at q2
    exact q2)] at h1
  refine h1.mono ?_
  rintro r r' (q | ⟨v, q1, q2, q3⟩)
  · exact Or.inl q
  · exact Or.inr ⟨v, q1, q2.1, q3⟩
theorem r_other {s t : Mem} {j n p : Nat} (h : pS K T s0 t0 j s t) (hn : n ≤ 14) (h172 : s 172 3 = Int32.ofNat n) (h6 : t 0 6 = Int32.ofNat n) (hp : p < 14) :
    ok2 (f_X4_takePerson (Int32.ofNat p) s) (f_X12_readOther (Int32.ofNat p) t) (numQ K T s0 t0 j s t (fun v => v < n ∧ v ≠ p)) := by
  have h1 := r_person (Int32.ofNat p) h hn h172
  have e : f_X12_readOther (Int32.ofNat p) t = (if K j 0 = 3 ∧ K j 4 = Int32.ofNat p then f_X12_errs 2 t else f_X12_readNumber 0 (Int32.ofNat n - 1) t) := by
    unfold f_X12_readOther jn_X12_readOther_22
    rw [h.2.1.2.2.2.2.1, h6]
    have eB : ∀ o : Option (Int32 × Mem), (o.bind fun r4 => some (r4.1, r4.2)) = o := fun o => by cases o <;> rfl
    rw [eB, eB]
    by_cases k3 : K j 0 = 3
    · rw [if_pos k3, h.2.1.2.2.2.2.2 (by rw [k3]; decide) (by rw [k3]; decide)]
      by_cases q : K j 4 = Int32.ofNat p
      · rw [if_pos q, if_pos ⟨k3, q⟩]
      · rw [if_neg q, if_neg (fun z => q z.2)]
    · rw [if_neg k3, if_neg (fun z => k3 z.1)]
  rw [e]
  refine h1.mono ?_
  rintro r r' (q | ⟨v, q1, q2, q3⟩)
  · exact Or.inl q
  · exact Or.inr ⟨v, q1, ⟨q2.1, fun z => q2.2 (by rw [z])⟩, q3⟩
def mrkQ (K : Mem) (T : Nat) (s0 t0 : Mem) (j : Nat) (s t : Mem) (r r' : Int32 × Mem) : Prop :=
  (r.1 = 0 ∧ r'.1 = -1 ∧ badR s0 t0 r.2 r'.2) ∨ (r.1 = 1 ∧ r'.1 = 0 ∧ pS K T s0 t0 (j + 1) r.2 r'.2 ∧ (∀ c, c ≠ 173 → r.2 c = s c) ∧ ∀ c, c ≠ 0 → r'.2 c = t c)
theorem r_mark {s t : Mem} {j : Nat} (c : Int32) (h : pS K T s0 t0 j s t) : ok2 (f_X4_takeSign c s) (f_X12_readMark c t) (mrkQ K T s0 t0 j s t) := by
  unfold f_X4_takeSign f_X12_readMark
  rw [x_isS c h.1, m_isS c h.2.1]
  dsimp only [Option.bind_some]
  by_cases q : isS K j c
  · rw [if_pos q, if_neg (by decide), if_neg (by decide)]
    obtain ⟨s', t', c1, c2, c3, c4, c5⟩ := p_next h (by rw [q.1]; decide)
    rw [c1, c2]
    exact ok2.some (Or.inr ⟨rfl, rfl, c3, c4, c5⟩)
  · rw [if_neg q, if_pos rfl, if_pos rfl]
    obtain ⟨s', t', f1, f2, f3⟩ := p_fail h 1
    rw [f1, f2]
    dsimp only [Option.bind_some]
    rw [if_neg (by decide)]
    exact ok2.some (Or.inl ⟨rfl, rfl, f3⟩)
theorem x_addLine {s : Mem} {k : Nat} {a b c d : Int32} (h : s 185 0 = Int32.ofNat k) (hk : k < 16) : f_X5_addLine 185 a b c d s = some (mset (mset (mset (mset (mset s 186 k a) 187 k b) 188 k c) 189 k d) 185 0 (Int32.ofNat (k + 1))) := by
  unfold f_X5_addLine
  rw [h, if_neg (by rw [L_leN (by omega) (by omega)]; omega)]
  simp (disch := omega) only [wr_N, Option.bind_some, m_ne, h, N_addL]
end U3
