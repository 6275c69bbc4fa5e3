/-! ===== THE LAW read: where both stand, units, products, sums ===== -/
def fX (s0 s : Mem) : Prop := (∀ c, c ≠ 172 → c ≠ 173 → c ≠ 178 → c ≠ 183 → s c = s0 c) ∧ s 172 3 = s0 172 3 ∧ s 178 0 = s0 178 0
def fY (t0 t : Mem) : Prop := (∀ c, c ≠ 0 → c ≠ 12 → c ≠ 13 → c ≠ 14 → t c = t0 c) ∧ (∀ i, i < 10 ∨ (13 < i ∧ i < 23) ∨ 28 < i → t 0 i = t0 0 i) ∧ ∀ i, i < 800 → t 12 i = t0 12 i ∧ t 13 i = t0 13 i
def stX (K : Mem) (T : Nat) (s0 s : Mem) (j : Nat) (cs : List Int32) : Prop := cuC K T s j ∧ fX s0 s ∧ s 178 1 = Int32.ofNat cs.length ∧ ∀ i, i < cs.length → s 183 i = cs.getD i 0
def pnd (P : Option (List Int32)) (op : Nat) (a : Int32) (f : Nat → Int32) (b : Int32) : Prop := b = Int32.ofNat op ∧ ∀ L, P = some L → a = Int32.ofNat L.length ∧ stkR f L
def stY (K : Mem) (T : Nat) (t0 : Mem) (P : Option (List Int32)) (op : Nat) (t : Mem) (j : Nat) (cs : List Int32) : Prop := cuR K T t j ∧ fY t0 t ∧ pnd P op (t 0 26) (t 14) (t 0 24) ∧ t 0 23 = Int32.ofNat cs.length ∧ ∀ i, i < cs.length → cdR (cs.getD i 0) (t 12 (800 + i)) (t 13 (800 + i))
def flR (s0 t0 s t : Mem) : Prop := fX s0 s ∧ fY t0 t ∧ s 172 1 = t 0 27 ∧ s 172 2 = t 0 28 ∧ 0 ≤ s 173 0
def rdR (s0 t0 : Mem) (Q : Mem → Mem → Prop) (r r' : Int32 × Mem) : Prop := (r.1 = 0 ∧ r'.1 = -1 ∧ flR s0 t0 r.2 r'.2) ∨ (r.1 = 1 ∧ r'.1 = 0 ∧ Q r.2 r'.2)
theorem fX_173 {s0 s s' : Mem} (h : fX s0 s) (hs : ∀ c, c ≠ 173 → s' c = s c) : fX s0 s' :=
  ⟨fun c h1 h2 h3 h4 => (hs c h2).trans (h.1 c h1 h2 h3 h4), by rw [hs 172 (by omega)]; exact h.2.1, by rw [hs 178 (by omega)]; exact h.2.2⟩
theorem fY_0 {t0 t t' : Mem} (h : fY t0 t) (hc : ∀ c, c ≠ 0 → t' c = t c) (hj : ∀ i, i < 10 ∨ (13 < i ∧ i < 23) ∨ 28 < i → t' 0 i = t 0 i) : fY t0 t' :=
  ⟨fun c h1 h2 h3 h4 => (hc c h1).trans (h.1 c h1 h2 h3 h4), fun i hi => (hj i hi).trans (h.2.1 i hi), fun i hi => by rw [hc 12 (by omega), hc 13 (by omega)]; exact h.2.2 i hi⟩
section T6
variable {K s0 t0 s t : Mem} {T j op : Nat} {P : Option (List Int32)} {cs : List Int32}
theorem st_next (h : stX K T s0 s j cs) (h' : stY K T t0 P op t j cs) (hk : K j 0 ≠ 0) :
    ∃ s' t', f_X6_advance s = some s' ∧ f_X12_reads t = some t' ∧ stX K T s0 s' (j + 1) cs ∧ stY K T t0 P op t' (j + 1) cs := by
  have hj := cur_lt h'.1 hk
  have hT := h'.1.1
  obtain ⟨s', e1, e2, e3⟩ := x_next h.1 hj hT.1 hT.2.2.1 hT.2.2.2.1
  obtain ⟨t', g1, g2, g3, g4⟩ := m_next h'.1 hj
  refine ⟨s', t', e1, g1, ⟨e2, fX_173 h.2.1 e3, ?_, ?_⟩, g2, fY_0 h'.2.1 g3 (fun i hi => g4 i (by omega)), ?_, ?_, ?_⟩
  · rw [e3 178 (by omega)]; exact h.2.2.1
  · rw [e3 183 (by omega)]; exact h.2.2.2
  · rw [g4 26 (by omega), g3 14 (by omega), g4 24 (by omega)]; exact h'.2.2.1
  · rw [g4 23 (by omega)]; exact h'.2.2.2.1
  · rw [g3 12 (by omega), g3 13 (by omega)]; exact h'.2.2.2.2
theorem getD_app {l : List Int32} {c : Int32} {i : Nat} (h : i < l.length) : (l ++ [c]).getD i 0 = l.getD i 0 := by
  rw [List.getD_eq_getElem?_getD, List.getD_eq_getElem?_getD, List.getElem?_append_left h]
theorem getD_end {l : List Int32} {c : Int32} : (l ++ [c]).getD l.length 0 = c := by
  rw [List.getD_eq_getElem?_getD, List.getElem?_append_right (Nat.le_refl _)]
  simp
theorem x_emit (h : stX K T s0 s j cs) (c : Int32) (hl : cs.length < 400) : ∃ s', f_X1_emit 178 c s = some s' ∧ stX K T s0 s' j (cs ++ [c]) := by
  obtain ⟨h1, h2, h3, h4⟩ := h
  unfold f_X1_emit
  rw [h3, if_neg (by rw [L_leN (by omega) (by omega)]; omega), wr_N hl (by omega)]
  dsimp only [Option.bind_some]
  refine ⟨_, rfl, cuC_eq h1 ?_ ?_ ?_ ?_ (by rw [m_ne (by omega), m_ne (by omega)]), ⟨fun c q1 q2 q3 q4 => ?_, ?_, ?_⟩, ?_, fun i hi => ?_⟩
  · rw [m_ne (by omega), m_ne (by omega)]
  · rw [m_ne (by omega), m_ne (by omega)]
  · rw [m_ne (by omega), m_ne (by omega)]
  · rw [m_ne (by omega), m_ne (by omega)]
  · rw [m_ne q3, m_ne (by omega)]; exact h2.1 c q1 q2 q3 q4
  · rw [m_ne (by omega), m_ne (by omega)]; exact h2.2.1
  · rw [m_eq, u_ne (by omega), m_ne (by omega)]; exact h2.2.2
  · rw [m_eq, u_eq, m_ne (by omega), h3, N_addL]; simp
  · rw [m_ne (by omega), m_eq]
    simp only [List.length_append, List.length_singleton] at hi
    by_cases q : i = cs.length
    · rw [q, u_eq, getD_end]
    · rw [u_ne q, getD_app (by omega)]
      exact h4 i (by omega)
theorem m_emits (h : stY K T t0 P op t j cs) {c x y : Int32} (hc : cdR c x y) (hl : cs.length < 400) : ∃ t', f_X12_emits x y t = some t' ∧ stY K T t0 P op t' j (cs ++ [c]) := by
  obtain ⟨h1, h2, h3, h4, h5⟩ := h
  unfold f_X12_emits
  rw [h4, L_addN, wr_N (by omega) (by omega)]
  dsimp only [Option.bind_some]
  rw [m_ne (by omega), h4, L_addN, wr_N (by omega) (by omega)]
  dsimp only [Option.bind_some]
  refine ⟨_, rfl, cuR_eq h1 ?_ ?_ (fun i q1 q2 => ?_), ⟨fun c q1 q2 q3 q4 => ?_, fun i hi => ?_, fun i hi => ⟨?_, ?_⟩⟩, ?_, ?_, fun i hi => ?_⟩
  · simp (disch := omega) only [m_ne]
  · simp (disch := omega) only [m_ne]
  · rw [m_eq, u_ne (by omega), m_ne (by omega), m_ne (by omega)]
  · rw [m_ne q1, m_ne q3, m_ne q2]; exact h2.1 c q1 q2 q3 q4
  · rw [m_eq, u_ne (by omega), m_ne (by omega), m_ne (by omega)]; exact h2.2.1 i hi
  · rw [m_ne (by omega), m_ne (by omega), m_eq, u_ne (by omega)]; exact (h2.2.2 i hi).1
  · rw [m_ne (by omega), m_eq, m_ne (by omega), u_ne (by omega)]; exact (h2.2.2 i hi).2
  · simp (disch := omega) only [m_eq, u_ne, m_ne]; exact h3
  · rw [m_eq, u_eq, m_ne (by omega), m_ne (by omega), h4, N_addL]; simp
  · simp only [List.length_append, List.length_singleton] at hi
    rw [m_ne (by omega), m_ne (by omega), m_eq, m_ne (by omega), m_eq, m_ne (by omega)]
    by_cases q : i = cs.length
    · rw [q, u_eq, u_eq, getD_end]
      exact hc
    · rw [u_ne (by omega), u_ne (by omega), getD_app (by omega)]
      exact h5 i (by omega)
theorem st_fail (h : stX K T s0 s j cs) (h' : stY K T t0 P op t j cs) (k : Int32) : ∃ s' t', f_X4_fail k s = some (0, s') ∧ f_X12_errs k t = some (-1, t') ∧ flR s0 t0 s' t' := by
  rw [x_fail, m_errs]
  refine ⟨_, _, rfl, rfl, ⟨fun c q1 q2 q3 q4 => ?_, ?_, ?_⟩, fY_0 h'.2.1 (fun c hc => by rw [m_ne hc, m_ne hc]) (fun i hi => by rw [m_eq, u_ne (by omega), m_eq, u_ne (by omega)]), ?_, ?_, ?_⟩
  · rw [m_ne q1, m_ne q1]; exact h.2.1.1 c q1 q2 q3 q4
  · rw [m_eq, u_ne (by omega), m_eq, u_ne (by omega)]; exact h.2.1.2.1
  · rw [m_ne (by omega), m_ne (by omega)]; exact h.2.1.2.2
  · rw [m_eq, u_ne (by omega), m_eq, u_eq, m_eq, u_ne (by omega), m_eq, u_eq]
  · rw [m_eq, u_eq, m_eq, u_eq, h.1.2.2.2.2.2.1, h'.1.2.2.2.1]
  · rw [m_ne (by omega), m_ne (by omega), h.1.2.1]; exact h'.1.1.2.2.2.2.2.2
theorem cw_mid : ∀ q, q < 23 → ((3 ≤ cw q ∧ cw q ≤ 10) ↔ (7 ≤ q ∧ q ≤ 14)) ∧ (7 ≤ q ∧ q ≤ 14 → cw q + 4 = q) := by decide +kernel
theorem m_canAsk {v : Int32} {t : Mem} : f_X12_canAsk v t = some (if 7 ≤ v ∧ v ≤ 14 then 1 else 0, t) := by
  unfold f_X12_canAsk
  rw [m_isIn]
  dsimp only [Option.bind_some]
  by_cases h : 7 ≤ v ∧ v ≤ 14
  · simp only [if_pos h]
    rw [if_neg (by decide)]
  · simp only [if_neg h]
    rw [if_neg (by decide)]
theorem cd_num {v : Nat} (h : v < 10000) : cdR (Int32.ofNat v) 0 (Int32.ofNat v) := Or.inl ⟨by rw [N_0le (by omega)]; trivial, by rw [N_ltL (by omega) (by omega)]; exact h, rfl, rfl⟩
/-- one number, or one word that tells of a PERSON -/
theorem r_unit (h : stX K T s0 s j cs) (h' : stY K T t0 P op t j cs) (hl : cs.length < 400) :
    ok2 (f_X4_readUnit 0 s) (f_X12_readUnit t) (rdR s0 t0 (fun s' t' => ∃ c, stX K T s0 s' (j + 1) (cs ++ [c]) ∧ stY K T t0 P op t' (j + 1) (cs ++ [c]) ∧ ((0 ≤ c ∧ c < 10000) ∨ (10000 ≤ c ∧ c < 10008)) ∧ (K j 0 = 3 → c = K j 1 ∧ 0 ≤ c ∧ c < 10000) ∧ j < T)) := by
  have hC := h.1
  have hR := h'.1
  unfold f_X4_readUnit f_X12_readUnit
  rw [hC.2.2.2.1, hR.2.2.2.2.1]
  have fl := st_fail h h' 1
  have bad : K j 0 ≠ 3 → ¬ (K j 0 = 2 ∧ 7 ≤ K j 4 ∧ K j 4 ≤ 14) → ok2 (jn_X4_readUnit_82 s) (jn_X12_readUnit_23 t) (rdR s0 t0 (fun s' t' => ∃ c, stX K T s0 s' (j + 1) (cs ++ [c]) ∧ stY K T t0 P op t' (j + 1) (cs ++ [c]) ∧ ((0 ≤ c ∧ c < 10000) ∨ (10000 ≤ c ∧ c < 10008)) ∧ (K j 0 = 3 → c = K j 1 ∧ 0 ≤ c ∧ c < 10000) ∧ j < T)) := by
    intro n3 nw
    obtain ⟨s', t', e1, e2, e3⟩ := fl
    unfold jn_X4_readUnit_82 jn_X12_readUnit_23 jn_X12_readUnit_24
    rw [e1, e2, if_pos rfl, hR.2.2.2.2.1, if_neg n3]
    dsimp only [Option.bind_some]
    rw [if_neg (by decide)]
    exact ok2.some (Or.inl ⟨rfl, rfl, e3⟩)
  by_cases k3 : K j 0 = 3
  · obtain ⟨v, hv, e4, e1⟩ := tkF_n (cur_F hR (by rw [k3]; decide)) k3
    rw [if_pos (ckd_2.mpr k3), if_pos rfl, if_neg (by rw [k3]; decide)]
    unfold jn_X4_readUnit_31 jn_X4_readUnit_88 jn_X12_readUnit_23 jn_X12_readUnit_24 jn_X12_readUnit_43 jn_X12_readUnit_53 jn_X12_readUnit_71
    rw [if_pos rfl, hR.2.2.2.2.1, if_pos k3, if_pos rfl, if_pos rfl, hC.2.2.2.2.1, hR.2.2.2.2.2 (by rw [k3]; decide) (by rw [k3]; decide), e1, e4]
    obtain ⟨s1, a1, a2⟩ := x_emit h (Int32.ofNat v) hl
    obtain ⟨t1, b1, b2⟩ := m_emits h' (cd_num hv) hl
    rw [a1, b1]
    dsimp only [Option.bind_some]
    obtain ⟨s2, t2, c1, c2, c3, c4⟩ := st_next a2 b2 (by rw [k3]; decide)
    rw [c1, c2]
    dsimp only [Option.bind_some]
    have hb : (0 : Int32) ≤ Int32.ofNat v ∧ Int32.ofNat v < 10000 := ⟨by rw [N_0le (by omega)]; trivial, by rw [N_ltL (by omega) (by omega)]; exact hv⟩
    exact ok2.some (Or.inr ⟨rfl, rfl, Int32.ofNat v, c3, c4, Or.inl hb, fun _ => ⟨rfl, hb⟩, cur_lt hR (by rw [k3]; decide)⟩)
  · rw [if_neg (fun z => k3 (ckd_2.mp z)), if_pos rfl]
    unfold f_X4_isFact
    rw [hC.2.2.2.1, hC.2.2.2.2.1]
    by_cases k2 : K j 0 = 2
    · obtain ⟨q, hq, e4, e1⟩ := tkF_w (cur_F hR (by rw [k2]; decide)) k2
      obtain ⟨q1, q2⟩ := cw_mid q hq
      have hcq := cw_lt q hq
      rw [if_pos (ckd_1.mpr k2), if_pos k2, e1, hR.2.2.2.2.2 (by rw [k2]; decide) (by rw [k2]; decide), e4]
      rw [m_canAsk]
      by_cases hm : 7 ≤ q ∧ q ≤ 14
      · have hw := q2 hm
        rw [if_neg (by rw [N_ltL (by omega) (by omega)]; omega), if_neg (by rw [L_ltN (by omega) (by omega)]; omega), if_pos (by rw [L_leN (by omega) (by omega), N_leL (by omega) (by omega)]; exact hm)]
        dsimp only [Option.bind_some]
        rw [if_neg (by decide), if_neg (by decide)]
        unfold jn_X4_readUnit_88 jn_X12_readUnit_24 jn_X12_readUnit_43 jn_X12_readUnit_53 jn_X12_readUnit_71
        rw [if_neg (by decide), if_neg (by decide), if_neg (by decide), hC.2.2.2.2.1, e1, hR.2.2.2.2.2 (by rw [k2]; decide) (by rw [k2]; decide), e4, L_addN, N_subL (by omega), N_subL (by omega)]
        have hcd : cdR (Int32.ofNat (10000 + cw q - 3)) 1 (Int32.ofNat (q - 7)) := by
          refine Or.inr (Or.inl ⟨by rw [L_leN (by omega) (by omega)]; omega, by rw [N_ltL (by omega) (by omega)]; omega, rfl, ?_⟩)
          rw [N_subL (by omega), show 10000 + cw q - 3 - 10000 = q - 7 by omega]
        obtain ⟨s1, a1, a2⟩ := x_emit h (Int32.ofNat (10000 + cw q - 3)) hl
        obtain ⟨t1, b1, b2⟩ := m_emits h' hcd hl
        rw [a1, b1]
        dsimp only [Option.bind_some]
        obtain ⟨s2, t2, c1, c2, c3, c4⟩ := st_next a2 b2 (by rw [k2]; decide)
        rw [c1, c2]
        dsimp only [Option.bind_some]
        refine ok2.some (Or.inr ⟨rfl, rfl, _, c3, c4, Or.inr ⟨by rw [L_leN (by omega) (by omega)]; omega, by rw [N_ltL (by omega) (by omega)]; omega⟩, fun z => absurd z k3, cur_lt hR (by rw [k2]; decide)⟩)
      · have nb : ¬ (3 ≤ cw q ∧ cw q ≤ 10) := fun z => hm (q1.mp z)
        rw [if_neg (show ¬ ((7 : Int32) ≤ Int32.ofNat q ∧ Int32.ofNat q ≤ 14) by rw [L_leN (by omega) (by omega), N_leL (by omega) (by omega)]; exact hm)]
        dsimp only [Option.bind_some]
        rw [if_pos (rfl : (0 : Int32) = 0)]
        have e9 : (if Int32.ofNat (cw q) < 3 then some ((0 : Int32), s) else if 10 < Int32.ofNat (cw q) then some (0, s) else some (1, s)) = some (0, s) := by
          by_cases z : Int32.ofNat (cw q) < 3
          · rw [if_pos z]
          · rw [N_ltL (by omega) (by omega)] at z
            rw [if_neg (by rw [N_ltL (by omega) (by omega)]; exact z), if_pos (by rw [L_ltN (by omega) (by omega)]; omega)]
        rw [e9]
        dsimp only [Option.bind_some]
        rw [if_pos rfl]
        rw [← e1]
        refine bad k3 (fun z => hm ?_)
        have z2 := z.2
        rw [e4, L_leN (by omega) (by omega), N_leL (by omega) (by omega)] at z2
        exact z2
    · rw [if_neg (fun z => k2 (ckd_1.mp z)), if_neg k2]
      dsimp only [Option.bind_some]
      rw [if_pos rfl]
      exact bad k3 (fun z => k2 z.1)
theorem x_either {a ca b cb : Int32} (h : cuC K T s j) : f_X4_eitherSign a ca b cb s = some (if isS K j a then ca else if isS K j b then cb else -1, s) := by
  unfold f_X4_eitherSign
  rw [x_isS a h]
  dsimp only [Option.bind_some]
  by_cases q : isS K j a
  · rw [if_pos q, if_pos q, if_neg (by decide)]
  · rw [if_neg q, if_neg q, if_pos rfl, x_isS b h]
    dsimp only [Option.bind_some]
    by_cases q2 : isS K j b
    · rw [if_pos q2, if_pos q2, if_neg (by decide)]
    · rw [if_neg q2, if_neg q2, if_pos rfl]
end T6
def runO {S B : Type} (n : Nat) (f : S → Option (S ⊕ B)) (o : Option (S ⊕ B)) : Option B := o.bind (fun q => match q with
  | .inl y => it n f y
  | .inr b => some b)
theorem it_S {S B : Type} {n : Nat} {f : S → Option (S ⊕ B)} {y : S} : it (n + 1) f y = runO n f (f y) := by
  unfold runO
  rw [it]
  cases f y with
  | none => rfl
  | some q => cases q <;> rfl
theorem runO_l {S B : Type} {n : Nat} {f : S → Option (S ⊕ B)} {y : S} : runO n f (some (.inl y)) = it n f y := rfl
theorem runO_r {S B : Type} {n : Nat} {f : S → Option (S ⊕ B)} {b : B} : runO n f (some (.inr b)) = some b := rfl
theorem runO_b {S B A : Type} {n : Nat} {f : S → Option (S ⊕ B)} {o : Option A} {g : A → Option (S ⊕ B)} : runO n f (o.bind g) = o.bind (fun a => runO n f (g a)) := by
  unfold runO
  rw [Option.bind_assoc]
