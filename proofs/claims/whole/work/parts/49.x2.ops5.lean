/-! ===== in thought: goes, peace ===== -/
theorem m_thinks {t : Mem} : f_X12_thinks t = some (mset (cpM t 1 0 3 0 102) 0 5 1) := by
  unfold f_X12_thinks
  have e := it_go (f := fun y => st_X12_thinks_2 y.1 y.2) (fun k => (Int32.ofNat k, cpM t 1 0 3 0 k)) 102 (cpM t 1 0 3 0 102) (by omega) (fun k hk => by
    dsimp only
    unfold st_X12_thinks_2
    rw [if_neg (by rw [L_leN (by omega) (by omega)]; omega)]
    have e2 : cpM t 1 0 3 0 k 1 k = t 1 (0 + k) := by rw [cpM_ne (by omega), Nat.zero_add]
    simp (disch := omega) only [rd_N, e2, Option.bind_some, wr_N, N_addL]
    have e3 := cpM_succ (t := t) (A := 1) (oa := 0) (B := 3) (ob := 0) (k := k)
    simp only [Nat.zero_add] at e3 ⊢
    rw [e3]) (by
    dsimp only
    unfold st_X12_thinks_2
    rw [if_pos (by decide)])
  rw [cpM_0] at e
  have e' : it FUEL (fun y => st_X12_thinks_2 y.1 y.2) ((0 : Int32), t) = some (cpM t 1 0 3 0 102) := e
  rw [e']
  rfl
theorem m_ends {t : Mem} : f_X12_endsThought t = some (mset (cpM t 3 0 1 0 102) 0 5 0) := by
  unfold f_X12_endsThought
  have e := it_go (f := fun y => st_X12_endsThought_2 y.1 y.2) (fun k => (Int32.ofNat k, cpM t 3 0 1 0 k)) 102 (cpM t 3 0 1 0 102) (by omega) (fun k hk => by
    dsimp only
    unfold st_X12_endsThought_2
    rw [if_neg (by rw [L_leN (by omega) (by omega)]; omega)]
    have e2 : cpM t 3 0 1 0 k 3 k = t 3 (0 + k) := by rw [cpM_ne (by omega), Nat.zero_add]
    simp (disch := omega) only [rd_N, e2, Option.bind_some, wr_N, N_addL]
    have e3 := cpM_succ (t := t) (A := 3) (oa := 0) (B := 1) (ob := 0) (k := k)
    simp only [Nat.zero_add] at e3 ⊢
    rw [e3]) (by
    dsimp only
    unfold st_X12_endsThought_2
    rw [if_pos (by decide)])
  rw [cpM_0] at e
  have e' : it FUEL (fun y => st_X12_endsThought_2 y.1 y.2) ((0 : Int32), t) = some (cpM t 3 0 1 0 102) := e
  rw [e']
  rfl
theorem WS_fr {n : Nat} {s s' t t' : Mem} (h : WS n s t) (hs : ∀ c, 10 ≤ c → c < 31 → c ≠ 16 → s' c = s c) (h0 : ∀ j, j ≠ 5 → t' 0 j = t 0 j) (ht : ∀ c, 7 ≤ c → c < 19 → t' c = t c) : WS n s' t' := by
  obtain ⟨w1, w2, w3, w4⟩ := h
  exact ⟨lawR_eq w1 (fun j hj => hs _ (by omega) (by omega) (by omega)) (fun c q1 q2 => ht c (by omega) (by omega)), ordR_eq w2 (fun j hj => hs _ (by omega) (by omega) (by omega)) (h0 _ (by omega)) (ht _ (by omega) (by omega)) (ht _ (by omega) (by omega)), planT_eq w3 (fun j hj => hs _ (by omega) (by omega) (by omega)) (h0 _ (by omega)) (ht _ (by omega) (by omega)), planC_eq w4 (fun j hj => hs _ (by omega) (by omega) (by omega)) (h0 _ (by omega)) (ht _ (by omega) (by omega))⟩
theorem r_think {n : Nat} {s t : Mem} (hL : GL n s t) (hX : GX n s t) :
    ∃ s1, f_X0_copyFrom 115 2 s = some s1 ∧ nS n 115 s1 (mset (cpM t 1 0 3 0 102) 0 5 1) ∧ nC n ((mset (cpM t 1 0 3 0 102) 0 5 1) 1) ∧ WS n s1 (mset (cpM t 1 0 3 0 102) 0 5 1) ∧ (∀ c, (c < 115 ∨ 122 < c) → s1 c = s c) ∧ s1 115 0 = 1 ∧
      (∀ c, c ≠ 0 → c ≠ 3 → (mset (cpM t 1 0 3 0 102) 0 5 1) c = t c) ∧ (∀ j, j ≠ 5 → (mset (cpM t 1 0 3 0 102) 0 5 1) 0 j = t 0 j) ∧ (mset (cpM t 1 0 3 0 102) 0 5 1) 0 5 = 1 ∧ ∀ j, j < 102 → (mset (cpM t 1 0 3 0 102) 0 5 1) 3 j = t 1 j := by
  have hn := hL.1.1.2.1
  obtain ⟨s1, e1, f1, f2, R1⟩ := nR_copy (d := 115) (e := 2) (by omega) hn hL.1.2.1
  have g1 : ∀ c, c ≠ 0 → c ≠ 3 → (mset (cpM t 1 0 3 0 102) 0 5 1) c = t c := fun c q1 q2 => by rw [m_ne q1, cpM_ne q2]
  have g2 : ∀ j, j ≠ 5 → (mset (cpM t 1 0 3 0 102) 0 5 1) 0 j = t 0 j := fun j q => by rw [m_eq, u_ne q, cpM_ne (by omega)]
  have g3 : (mset (cpM t 1 0 3 0 102) 0 5 1) 0 5 = 1 := by rw [m_eq, u_eq]
  have g4 : ∀ j, j < 102 → (mset (cpM t 1 0 3 0 102) 0 5 1) 3 j = t 1 j := fun j hj => by
    rw [m_ne (by omega)]
    have := cpM_in (t := t) (A := 1) (oa := 0) (B := 3) (ob := 0) (m := 102) hj
    rw [Nat.zero_add] at this
    exact this
  generalize mset (cpM t 1 0 3 0 102) 0 5 1 = t1 at *
  have e11 : t1 1 = t 1 := g1 1 (by omega) (by omega)
  have h115 : s1 115 0 = 1 := f2.trans hX.1.1
  obtain ⟨⟨ha, _, q1, q2, q3⟩, q4, q5, q6⟩ := hL.1
  refine ⟨s1, e1, ⟨⟨Or.inr rfl, hn, by rw [g2 _ (by omega)]; exact q1, by rw [h115, g3], by rw [g3]; exact Or.inr rfl⟩, by rw [e11]; exact R1, by rw [e11]; exact q5, fun i hi => by rw [f1 57 (by omega), g1 4 (by omega) (by omega)]; exact q6 i hi⟩, by rw [e11]; exact hL.2.1, WS_fr hX.1.2.1 (fun c p1 p2 p3 => f1 _ (by omega)) g2 (fun c p1 p2 => g1 _ (by omega) (by omega)), f1, h115, g1, g2, g3, g4⟩
theorem think_end {n : Nat} {s t s1 t1 s2 t2 : Mem} (hL : GL n s t) (hX : GX n s t) (f1 : ∀ c, (c < 115 ∨ 122 < c) → s1 c = s c) (h115 : s1 115 0 = 1) (g1 : ∀ c, c ≠ 0 → c ≠ 3 → t1 c = t c) (g2 : ∀ j, j ≠ 5 → t1 0 j = t 0 j) (g4 : ∀ j, j < 102 → t1 3 j = t 1 j)
    (hs : nXF 115 s1 s2) (ht : nTF t1 t2) (hb : ∀ i, i < 600 → s2 57 i = t2 4 i) : GR s2 (mset (cpM t2 3 0 1 0 102) 0 5 0) := by
  have hn := hL.1.1.2.1
  have k1 : ∀ c, c < 115 ∨ 122 < c → c ≠ 16 → c ≠ 31 → c ≠ 57 → s2 c = s c := fun c q1 q2 q3 q4 => (hs.1 c (by omega) q2 q3 q4).trans (f1 c q1)
  have k2 : ∀ c, c ≠ 0 → c ≠ 1 → c ≠ 3 → c ≠ 4 → c ≠ 19 → c ≠ 20 → (mset (cpM t2 3 0 1 0 102) 0 5 0) c = t c := fun c q1 q2 q3 q4 q5 q6 => by rw [m_ne q1, cpM_ne q2, ht.1 c q1 q2 q4 q5 q6, g1 c q1 q3]
  have k3 : ∀ j, (mset (cpM t2 3 0 1 0 102) 0 5 0) 0 j = t 0 j := fun j => by
    by_cases hj : j = 5
    · subst hj
      rw [m_eq, u_eq, hL.2.2.2]
    · rw [m_eq, u_ne hj, cpM_ne (by omega), ht.2.1, g2 j hj]
  have k4 : ∀ j, j < 102 → (mset (cpM t2 3 0 1 0 102) 0 5 0) 1 j = t 1 j := fun j hj => by
    rw [m_ne (by omega)]
    have := cpM_in (t := t2) (A := 3) (oa := 0) (B := 1) (ob := 0) (m := 102) hj
    rw [Nat.zero_add] at this
    rw [this, ht.1 3 (by omega) (by omega) (by omega) (by omega) (by omega), g4 j hj]
  have k5 : (mset (cpM t2 3 0 1 0 102) 0 5 0) 4 = t2 4 := by rw [m_ne (by omega), cpM_ne (by omega)]
  generalize mset (cpM t2 3 0 1 0 102) 0 5 0 = t3 at *
  obtain ⟨⟨h1, h2, h3⟩, h4, h5, h6, h7⟩ := hX
  obtain ⟨⟨ha, _, q1, q2, q3⟩, q4, q5, q6⟩ := hL.1
  refine ⟨n, ⟨⟨⟨ha, hn, by rw [k3]; exact q1, by rw [k1 2 (by omega) (by omega) (by omega) (by omega), k3]; exact q2, by rw [k3]; exact q3⟩, nR_eq q4 (fun f hf => k1 _ (by omega) (by omega) (by omega) (by omega)) k4 hn, nB_eq q5 k4 hn, fun i hi => by rw [k5]; exact hb i hi⟩, nC_eq hL.2.1 k4 hn, by rw [k4 0 (by omega)]; exact hL.2.2.1, by rw [k3]; exact hL.2.2.2⟩,
    ⟨by rw [hs.2]; exact h115, WS_fr h2 (fun c p1 p2 p3 => k1 _ (by omega) (by omega) (by omega) (by omega)) (fun j _ => k3 j) (fun c p1 p2 => k2 _ (by omega) (by omega) (by omega) (by omega) (by omega) (by omega)), rowsR_t h3 (fun j p1 p2 => k1 _ (by omega) (by omega) (by omega) (by omega)) (fun j p1 p2 => k3 j) (fun c p1 p2 p3 p4 p5 => k2 _ (by omega) (by omega) (by omega) (by omega) (by omega) (by omega))⟩,
    pastR_eq h4 hn (fun c p1 p2 => k1 _ (by omega) (by omega) (by omega) (by omega)) (by rw [k1 0 (by omega) (by omega) (by omega) (by omega)]) (by rw [k1 0 (by omega) (by omega) (by omega) (by omega)]) (k2 _ (by omega) (by omega) (by omega) (by omega) (by omega) (by omega)) (k3 _),
    imgR_eq h5 (fun c p1 p2 => k1 _ (by omega) (by omega) (by omega) (by omega)) (by rw [k1 0 (by omega) (by omega) (by omega) (by omega)]) (k3 _) (k2 _ (by omega) (by omega) (by omega) (by omega) (by omega) (by omega)),
    txtR_eq h6 (fun c p1 p2 => k1 _ (by omega) (by omega) (by omega) (by omega)) (k3 _) (k3 _) (k3 _) (k2 _ (by omega) (by omega) (by omega) (by omega) (by omega) (by omega)), ?_⟩
  unfold wrdR
  rw [k2 6 (by omega) (by omega) (by omega) (by omega) (by omega) (by omega)]
  exact h7
theorem r_sumO {n fx mi : Nat} {s t : Mem} (h : nS n 115 s t) (he : ∀ i, i < n → s (115 + fx) i = t 1 (mi + i)) (hmi : mi ≤ 88) : ∃ v, f_X0_sum 115 (115 + fx) 14 s = some (v, s) ∧ f_X12_sumOf (Int32.ofNat mi) t = some (v, t) := by
  have hn := h.1.2.1
  have key : ok2 (it FUEL (fun y => st_X0_sum_4 115 (115 + fx) 14 y.1 y.2.1 y.2.2) (0, 0, s)) (it FUEL (fun y => st_X12_sumOf_4 (Int32.ofNat mi) y.1 y.2.1 y.2.2) (0, 0, t)) (fun r r' => r.1 = r'.1 ∧ r.2 = s ∧ r'.2 = t) := by
    refine it_ok2 14 (by omega) (fun k y y' => k ≤ n ∧ y.1 = y'.1 ∧ y.2 = (Int32.ofNat k, s) ∧ y'.2 = (Int32.ofNat k, t)) ⟨by omega, rfl, rfl, rfl⟩ (fun k y y' q => by omega) ?_
    rintro k ⟨v, y⟩ ⟨v', y'⟩ ⟨hk, rfl, rfl, rfl⟩
    unfold st_X0_sum_4 st_X12_sumOf_4
    dsimp only
    simp only [h.2.1.1.1, h.1.2.2.1]
    by_cases hkn : k = n
    · subst hkn
      simp (disch := omega) only [rd_N, wr_N, rd_L, wr_L, Option.bind_some, N_le, N_lt, N_eq, N_leL, L_leN, N_ltL, L_ltN, N_eqL, L_eqN, N_neg, neg_N, N_nlt0, N_0le, N_add, N_addL, L_addN, N_mul, N_mulL, L_mulN, N_sub, N_subL, m_eq, m_ne, u_eq, u_ne, if_true, if_false, ite_true, ite_false, if_pos, if_neg]
      exact ok2.some (Or.inr ⟨_, _, rfl, rfl, rfl, rfl, rfl⟩)
    · simp (disch := omega) only [rd_N, wr_N, rd_L, wr_L, Option.bind_some, N_le, N_lt, N_eq, N_leL, L_leN, N_ltL, L_ltN, N_eqL, L_eqN, N_neg, neg_N, N_nlt0, N_0le, N_add, N_addL, L_addN, N_mul, N_mulL, L_mulN, N_sub, N_subL, m_eq, m_ne, u_eq, u_ne, if_true, if_false, ite_true, ite_false, if_pos, if_neg, he k (by omega)]
      exact ok2.some (Or.inl ⟨_, _, rfl, rfl, by omega, rfl, rfl, rfl⟩)
  obtain ⟨⟨v, s1⟩, ⟨v', t1⟩, e1, e2, q1, q2, q3⟩ := key
  dsimp only at q1 q2 q3
  subst q1 q2 q3
  refine ⟨v, ?_, ?_⟩
  · unfold f_X0_sum
    rw [e1]
    rfl
  · unfold f_X12_sumOf
    rw [e2]
    rfl
theorem o_goes {x w : Int32} {s t : Mem} (h : GR s t) : opR (f_X11_goes x w s) (f_X12_goes x w t) := by
  obtain ⟨n, hL0, hX0⟩ := h
  have hn := hL0.1.1.2.1
  have hL := told_L hL0
  have hX := told_X hn hX0
  unfold f_X11_goes f_X12_goes
  generalize mset t 0 0 0 = t0 at *
  clear hL0 hX0
  have no : opR (some ((-1 : Int32), s)) (some (-1, t0)) := opR.ret ⟨n, hL, hX⟩
  simp only [m_isIn, Option.bind_some]
  by_cases hx : 1 ≤ x ∧ x ≤ 60
  · simp only [if_pos hx, show (x < 1) = False from by simp; grind, show (60 < x) = False from by simp; grind, if_false, show ((1 : Int32) = 0) = False from by decide]
    by_cases hw : 0 ≤ w ∧ w ≤ 3
    · simp only [if_pos hw, show (w < 0) = False from by simp; grind, show (w ≤ 3) = True from by simp; grind, show (0 ≤ w) = True from by simp; exact hw.1, and_self, if_false, if_true, show ((1 : Int32) = 0) = False from by decide]
      obtain ⟨m, ex, hm⟩ := N_of (m := 60) (x := x) (by grind) hx.2 (by omega)
      subst ex
      obtain ⟨m0, em, hm0⟩ := min_N hL.1
      have hm1 : m0 ≤ 9999 := by
        have := hL.2.2.1
        rw [em, N_leL (by omega) (by omega)] at this
        exact this
      obtain ⟨s1, e1, hS1, hC1, hW1, f1, h115, g1, g2, g3, g4⟩ := r_think hL hX
      rw [show (1 + 1 : Nat) = 2 from rfl, e1, m_thinks]
      generalize mset (cpM t0 1 0 3 0 102) 0 5 1 = t1 at *
      dsimp only [Option.bind_some]
      have key : ok2 (it FUEL (fun y => st_X11_goes_38 (Int32.ofNat m) w y.1 y.2) (0, s1)) (it FUEL (fun y => st_X12_goes_34 (Int32.ofNat m) w y.1 y.2) (0, t1)) (fun s' t' => nS n 115 s' t' ∧ nXF 115 s1 s' ∧ nTF t1 t') := by
        refine it_ok2 60 (by omega) (fun k y y' => k ≤ m ∧ y.1 = Int32.ofNat k ∧ y'.1 = Int32.ofNat k ∧ nS n 115 y.2 y'.2 ∧ nC n (y'.2 1) ∧ WS n y.2 y'.2 ∧ nXF 115 s1 y.2 ∧ nTF t1 y'.2 ∧ y'.2 1 0 = Int32.ofNat (m0 + k)) ⟨by omega, rfl, rfl, hS1, hC1, hW1, nXF.refl, nTF.refl, by dsimp only; rw [g1 1 (by omega) (by omega), em]; rfl⟩ (fun k y y' q => by omega) ?_
        rintro k ⟨i, s2⟩ ⟨i', t2⟩ ⟨hk, rfl, rfl, q1, q2, q3, q4, q5, q6⟩
        dsimp only at q1 q2 q3 q4 q5 q6 ⊢
        unfold st_X11_goes_38 st_X12_goes_34
        by_cases hkm : k = m
        · subst hkm
          simp (disch := omega) only [rd_N, wr_N, rd_L, wr_L, Option.bind_some, N_le, N_lt, N_eq, N_leL, L_leN, N_ltL, L_ltN, N_eqL, L_eqN, N_neg, neg_N, N_nlt0, N_0le, N_add, N_addL, L_addN, N_mul, N_mulL, L_mulN, N_sub, N_subL, m_eq, m_ne, u_eq, u_ne, if_true, if_false, ite_true, ite_false, if_pos, if_neg]
          exact ok2.some (Or.inr ⟨_, _, rfl, rfl, q1, q4, q5⟩)
        · simp (disch := omega) only [rd_N, wr_N, rd_L, wr_L, Option.bind_some, N_le, N_lt, N_eq, N_leL, L_leN, N_ltL, L_ltN, N_eqL, L_eqN, N_neg, neg_N, N_nlt0, N_0le, N_add, N_addL, L_addN, N_mul, N_mulL, L_mulN, N_sub, N_subL, m_eq, m_ne, u_eq, u_ne, if_true, if_false, ite_true, ite_false, if_pos, if_neg]
          refine (r_minute q1 q2 q3 (by rw [q6, N_ltL (by omega) (by omega)]; omega)).bind ?_
          rintro ⟨v, s4⟩ ⟨v', t4⟩ ⟨-, p1, p2, p3, p4, p5⟩
          dsimp only at p1 p2 p3 p4 p5 ⊢
          refine ok2.some (Or.inl ⟨_, _, rfl, rfl, by omega, rfl, rfl, p1, p2, WS_eq (Or.inr rfl) q3 p3 p4, q4.trans p3, q5.trans p4, ?_⟩)
          dsimp only
          rw [p5, q6, N_addL]
          rfl
      refine key.bind ?_
      intro s2 t2 ⟨q1, q4, q5⟩
      have fin : ∀ v, opR (some (v, s2)) (jn_X12_goes_97 v t2) := by
        intro v
        unfold jn_X12_goes_97
        rw [m_ends]
        exact opR.ret (think_end hL hX f1 h115 g1 g2 g4 q4 q5 q1.2.2.2)
      by_cases w0 : w = 0
      · rw [if_pos w0, if_pos w0]
        obtain ⟨v, a1, a2⟩ := r_sumO (fx := 2) (mi := 18) q1 (fun i hi => (q1.2.1.2 i hi).2.1) (by omega)
        rw [a1, show (18 : Int32) = Int32.ofNat 18 from rfl, a2]
        dsimp only [Option.bind_some]
        exact fin v
      rw [if_neg w0, if_neg w0]
      by_cases w1 : w = 1
      · rw [if_pos w1, if_pos w1]
        obtain ⟨v, a1, a2⟩ := r_sumO (fx := 6) (mi := 74) q1 (fun i hi => (q1.2.1.2 i hi).2.2.2.2.2.1) (by omega)
        rw [a1, show (74 : Int32) = Int32.ofNat 74 from rfl, a2]
        dsimp only [Option.bind_some]
        exact fin v
      rw [if_neg w1, if_neg w1]
      by_cases w2 : w = 2
      · rw [if_pos w2, if_pos w2]
        obtain ⟨v, a1, a2⟩ := r_sumO (fx := 5) (mi := 60) q1 (fun i hi => (q1.2.1.2 i hi).2.2.2.2.1) (by omega)
        rw [a1, show (60 : Int32) = Int32.ofNat 60 from rfl, a2]
        dsimp only [Option.bind_some]
        exact fin v
      rw [if_neg w2, if_neg w2]
      simp (disch := omega) only [rd_N, wr_N, rd_L, wr_L, Option.bind_some, N_le, N_lt, N_eq, N_leL, L_leN, N_ltL, L_ltN, N_eqL, L_eqN, N_neg, neg_N, N_nlt0, N_0le, N_add, N_addL, L_addN, N_mul, N_mulL, L_mulN, N_sub, N_subL, m_eq, m_ne, u_eq, u_ne, if_true, if_false, ite_true, ite_false, if_pos, if_neg]
      rw [q1.2.1.1.2.1]
      exact fin _
    · simp only [if_neg hw, if_true]
      by_cases hw0 : w < 0
      · rw [if_pos hw0]; exact no
      · rw [if_neg hw0, if_neg (by grind)]; exact no
  · simp only [if_neg hx, if_true]
    by_cases hx0 : x < 1
    · rw [if_pos hx0]; exact no
    · rw [if_neg hx0, if_pos (show 60 < x by grind)]; exact no
theorem o_peace {s t : Mem} (h : GR s t) : opR (f_X11_peace s) (f_X12_peace t) := by
  obtain ⟨n, hL0, hX0⟩ := h
  have hn := hL0.1.1.2.1
  have hL := told_L hL0
  have hX := told_X hn hX0
  unfold f_X11_peace f_X12_peace
  generalize mset t 0 0 0 = t0 at *
  clear hL0 hX0
  obtain ⟨m0, em, hm0⟩ := min_N hL.1
  have hm1 : m0 ≤ 9999 := by
    have := hL.2.2.1
    rw [em, N_leL (by omega) (by omega)] at this
    exact this
  obtain ⟨s1, e1, hS1, hC1, hW1, f1, h115, g1, g2, g3, g4⟩ := r_think hL hX
  rw [show (1 + 1 : Nat) = 2 from rfl, e1, m_thinks]
  generalize mset (cpM t0 1 0 3 0 102) 0 5 1 = t1 at *
  dsimp only [Option.bind_some]
  have key : ∀ j k, k + j = 60 → ∀ n1 m1, j + 3 ≤ n1 → j + 3 ≤ m1 → ∀ s2 t2, nS n 115 s2 t2 → nC n (t2 1) → WS n s2 t2 → nXF 115 s1 s2 → nTF t1 t2 → t2 1 0 = Int32.ofNat (m0 + k) →
      ok2 (it n1 (fun y => st_X11_peace_16 y.1 y.2) (Int32.ofNat k, s2)) (it m1 (fun y => st_X12_peace_11 y.1 y.2) (Int32.ofNat k, t2)) (fun r r' => (nXF 115 s1 r.2.2 ∧ nTF t1 r'.2 ∧ ∀ i, i < 600 → r.2.2 57 i = r'.2 4 i) ∧
        ((r.1 = 0 ∧ ∃ i, i ≤ 60 ∧ r.2.1 = Int32.ofNat i ∧ r'.1 = Int32.ofNat i) ∨ (r.1 = 1 ∧ ∃ v, f_X0_havers 115 r.2.2 = some (v, r.2.2) ∧ ((v = 0 ∧ r'.1 = 60) ∨ (v ≠ 0 ∧ r'.1 = 61))))) := by
    intro j
    induction j with
    | zero =>
      intro k hk n1 m1 hn1 hm1' s2 t2 q1 q2 q3 q4 q5 q6
      have hk60 : k = 60 := by omega
      subst hk60
      obtain ⟨v, a1, a2⟩ := r_havers q1
      obtain ⟨n1, rfl⟩ : ∃ i, n1 = i + 1 := ⟨n1 - 1, by omega⟩
      obtain ⟨m1, rfl⟩ : ∃ i, m1 = i + 2 := ⟨m1 - 2, by omega⟩
      have eX : st_X11_peace_16 (Int32.ofNat 60) s2 = some (.inr (1, 0, s2)) := by
        unfold st_X11_peace_16
        rw [if_pos (by decide)]
      have lX : it (n1 + 1) (fun y => st_X11_peace_16 y.1 y.2) (Int32.ofNat 60, s2) = some (1, 0, s2) := by
        rw [it]
        dsimp only
        rw [eX]
      rw [lX]
      by_cases hv : v = 0
      · have eM : st_X12_peace_11 (Int32.ofNat 60) t2 = some (.inr (Int32.ofNat 60, t2)) := by
          unfold st_X12_peace_11
          rw [if_neg (by decide), a2]
          dsimp only [Option.bind_some]
          rw [if_pos hv]
        have lM : it (m1 + 2) (fun y => st_X12_peace_11 y.1 y.2) (Int32.ofNat 60, t2) = some (Int32.ofNat 60, t2) := by
          rw [it]
          dsimp only
          rw [eM]
        rw [lM]
        exact ok2.some ⟨⟨q4, q5, q1.2.2.2⟩, Or.inr ⟨rfl, v, a1, Or.inl ⟨hv, rfl⟩⟩⟩
      · obtain ⟨⟨c, s4⟩, ⟨c', t4⟩, b1, b2, -, p1, p2, p3, p4, p5⟩ := r_minute q1 q2 q3 (by rw [q6, N_ltL (by omega) (by omega)]; omega)
        dsimp only at p1 p4
        have eM : st_X12_peace_11 (Int32.ofNat 60) t2 = some (.inl (Int32.ofNat 61, t4)) := by
          unfold st_X12_peace_11
          rw [if_neg (by decide), a2]
          dsimp only [Option.bind_some]
          rw [if_neg hv, b2]
          rfl
        have eM2 : st_X12_peace_11 (Int32.ofNat 61) t4 = some (.inr (Int32.ofNat 61, t4)) := by
          unfold st_X12_peace_11
          rw [if_pos (by decide)]
        have lM : it (m1 + 2) (fun y => st_X12_peace_11 y.1 y.2) (Int32.ofNat 60, t2) = some (Int32.ofNat 61, t4) := by
          rw [it]
          dsimp only
          rw [eM]
          dsimp only
          rw [it]
          dsimp only
          rw [eM2]
        rw [lM]
        have e4 : t4 4 = t2 4 := p4.2.2 (by rw [q5.2.1, g3]; decide)
        exact ok2.some ⟨⟨q4, q5.trans p4, fun i hi => by dsimp only; rw [e4]; exact q1.2.2.2 i hi⟩, Or.inr ⟨rfl, v, a1, Or.inr ⟨hv, rfl⟩⟩⟩
    | succ j ih =>
      intro k hk n1 m1 hn1 hm1' s2 t2 q1 q2 q3 q4 q5 q6
      obtain ⟨v, a1, a2⟩ := r_havers q1
      obtain ⟨n1, rfl⟩ : ∃ i, n1 = i + 1 := ⟨n1 - 1, by omega⟩
      obtain ⟨m1, rfl⟩ : ∃ i, m1 = i + 1 := ⟨m1 - 1, by omega⟩
      rw [it, it]
      dsimp only
      unfold st_X11_peace_16 st_X12_peace_11
      rw [if_neg (show ¬ (60 : Int32) ≤ Int32.ofNat k by rw [L_leN (by omega) (by omega)]; omega), if_neg (show ¬ (60 : Int32) < Int32.ofNat k by rw [L_ltN (by omega) (by omega)]; omega), a1, a2]
      dsimp only [Option.bind_some]
      by_cases hv : v = 0
      · rw [if_pos hv, if_pos hv]
        exact ok2.some ⟨⟨q4, q5, q1.2.2.2⟩, Or.inl ⟨rfl, k, by omega, rfl, rfl⟩⟩
      · rw [if_neg hv, if_neg hv]
        obtain ⟨⟨c, s4⟩, ⟨c', t4⟩, b1, b2, -, p1, p2, p3, p4, p5⟩ := r_minute q1 q2 q3 (by rw [q6, N_ltL (by omega) (by omega)]; omega)
        dsimp only at p1 p2 p3 p4 p5
        rw [b1, b2]
        dsimp only [Option.bind_some]
        rw [N_addL]
        exact ih (k + 1) (by omega) n1 m1 (by omega) (by omega) s4 t4 p1 p2 (WS_eq (Or.inr rfl) q3 p3 p4) (q4.trans p3) (q5.trans p4) (by rw [p5, q6, N_addL]; rfl)
  have k0 := key 60 0 rfl FUEL FUEL (by unfold FUEL; omega) (by unfold FUEL; omega) s1 t1 hS1 hC1 hW1 nXF.refl nTF.refl (by rw [g1 1 (by omega) (by omega), em]; rfl)
  refine ok2.bind k0 ?_
  rintro ⟨b, i, s2⟩ ⟨i', t2⟩ ⟨⟨q4, q5, hb⟩, hq⟩
  dsimp only at q4 q5 hb hq ⊢
  have fin : ∀ v, opR (some (v, s2)) (some (v, mset (cpM t2 3 0 1 0 102) 0 5 0)) := fun v => opR.ret (think_end hL hX f1 h115 g1 g2 g4 q4 q5 hb)
  unfold jn_X12_peace_36
  rw [m_ends]
  dsimp only [Option.bind_some]
  rcases hq with ⟨rfl, i, hi, rfl, rfl⟩ | ⟨rfl, v, a1, ⟨rfl, rfl⟩ | ⟨hv, rfl⟩⟩
  · rw [if_pos rfl, if_pos (by rw [N_leL (by omega) (by omega)]; omega)]
    exact fin _
  · rw [if_neg (by decide), a1]
    dsimp only [Option.bind_some]
    rw [if_pos rfl, if_pos (by decide)]
    exact fin _
  · rw [if_neg (by decide), a1]
    dsimp only [Option.bind_some]
    rw [if_neg hv, if_neg (by decide)]
    exact fin _
