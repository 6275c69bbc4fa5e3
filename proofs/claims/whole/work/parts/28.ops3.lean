/-! ===== undo, book, look ===== -/
theorem o_undo {s t : Mem} (h : GR s t) : opR (f_X11_undo s) (f_X12_undo t) := by
  obtain ⟨n, hL, hX⟩ := h
  have hn := hL.1.1.2.1
  have hL1 := told_L hL
  have hX1 := told_X hn hX
  unfold f_X11_undo f_X12_undo
  generalize mset t 0 0 0 = t1 at *
  clear hL hX
  obtain ⟨⟨h1, ⟨w1, w2, w3, w4⟩, h3⟩, ⟨c, nx, p1, p2, p3, p4, p5, p6⟩, h5, h6, h7⟩ := hX1
  by_cases hc : c = 0
  · subst hc
    rw [if_pos (show s 0 5 = 0 by rw [p3]; rfl), if_pos (show t1 0 3 = 0 by rw [p5]; rfl)]
    exact opR.ret ⟨n, hL1, ⟨h1, ⟨w1, w2, w3, w4⟩, h3⟩, ⟨0, nx, p1, p2, p3, p4, p5, p6⟩, h5, h6, h7⟩
  · rw [if_neg (show ¬ s 0 5 = 0 by rw [p3]; exact N_ne0 (by omega) (by omega)), if_neg (show ¬ t1 0 3 = 0 by rw [p5]; exact N_ne0 (by omega) (by omega))]
    -- the slot that goes back
    have hslot : (nx + 6 - c + (c - 1)) % 6 = (if nx = 0 then 5 else nx - 1) := by split <;> omega
    have hk := p6 (c - 1) (by omega)
    rw [hslot] at hk
    generalize hnx : (if nx = 0 then 5 else nx - 1) = nx' at *
    have hnx6 : nx' < 6 := by rw [← hnx]; split <;> omega
    -- here
    have X : ∀ v, v = Int32.ofNat nx' → ∃ s', jn_X11_undo_27 v s = some (1, s') ∧ s' 0 5 = Int32.ofNat (c - 1) ∧ s' 0 6 = Int32.ofNat nx' ∧ (∀ j, j ≠ 5 → j ≠ 6 → s' 0 j = s 0 j) ∧ (∀ d, d ≠ 0 → (d < 2 ∨ 9 < d) → s' d = s d) ∧ s' 2 0 = s 2 0 ∧ nR n s' 2 (fun j => t1 2 (102 * (c - 1) + j)) := by
      rintro v rfl
      unfold jn_X11_undo_27
      have e5 : (mset s 0 6 (Int32.ofNat nx')) 0 5 = Int32.ofNat c := by rw [m_eq, u_ne (by omega)]; exact p3
      have e6 : (mset (mset s 0 6 (Int32.ofNat nx')) 0 5 (Int32.ofNat (c - 1))) 0 6 = Int32.ofNat nx' := by rw [m_eq, u_ne (by omega), m_eq, u_eq]
      rw [e5, N_pred (by omega), e6, rdq_past hnx6]
      dsimp only [Option.bind_some]
      obtain ⟨s', g1, g2, g3, g4⟩ := nR_copy (d := 2) (e := 124 + 8 * nx') (s := mset (mset s 0 6 (Int32.ofNat nx')) 0 5 (Int32.ofNat (c - 1))) (by omega) hn (nR_eq hk.1 (fun f hf => by rw [m_ne (by omega), m_ne (by omega)]) (fun _ _ => rfl) hn)
      rw [show (1 + 1 : Nat) = 2 from rfl, g1]
      dsimp only [Option.bind_some]
      refine ⟨s', rfl, ?_, ?_, fun j q1 q2 => ?_, fun d q1 q2 => ?_, ?_, g4⟩
      · rw [g2 0 (by omega), m_eq, u_eq]
      · rw [g2 0 (by omega), m_eq, u_ne (by omega), m_eq, u_eq]
      · rw [g2 0 (by omega), m_eq, u_ne q1, m_eq, u_ne q2]
      · rw [g2 d (by omega), m_ne q1, m_ne q1]
      · rw [g3, m_ne (by omega), m_ne (by omega)]
    -- the reference
    have e := it_go (f := fun y => st_X12_undo_26 y.1 y.2) (fun k => (Int32.ofNat k, cpM (mset t1 0 3 (Int32.ofNat (c - 1))) 2 (102 * (c - 1)) 1 0 k)) 102 (cpM (mset t1 0 3 (Int32.ofNat (c - 1))) 2 (102 * (c - 1)) 1 0 102) (by omega) (fun k hk => by
      dsimp only
      unfold st_X12_undo_26
      rw [if_neg (by rw [L_leN (by omega) (by omega)]; omega)]
      have e1 : cpM (mset t1 0 3 (Int32.ofNat (c - 1))) 2 (102 * (c - 1)) 1 0 k 0 3 = Int32.ofNat (c - 1) := by rw [cpM_ne (by omega), m_eq, u_eq]
      have e2 : cpM (mset t1 0 3 (Int32.ofNat (c - 1))) 2 (102 * (c - 1)) 1 0 k 2 (102 * (c - 1) + k) = mset t1 0 3 (Int32.ofNat (c - 1)) 2 (102 * (c - 1) + k) := by rw [cpM_ne (by omega)]
      simp (disch := omega) only [e1, L_mulN, N_add, rd_N, e2, Option.bind_some, wr_N, N_addL]
      have e3 := cpM_succ (t := mset t1 0 3 (Int32.ofNat (c - 1))) (A := 2) (oa := 102 * (c - 1)) (B := 1) (ob := 0) (k := k)
      rw [Nat.zero_add] at e3
      rw [e3]) (by
      dsimp only
      unfold st_X12_undo_26
      rw [if_pos (by decide)])
    rw [cpM_0] at e
    have e' : it FUEL (fun y => st_X12_undo_26 y.1 y.2) ((0 : Int32), mset t1 0 3 (t1 0 3 - 1)) = some (cpM (mset t1 0 3 (Int32.ofNat (c - 1))) 2 (102 * (c - 1)) 1 0 102) := by
      rw [p5, N_pred (by omega)]
      exact e
    rw [e']
    dsimp only [Option.bind_some]
    have fin : ∀ v, v = Int32.ofNat nx' → opR (jn_X11_undo_27 v s) (some (1, cpM (mset t1 0 3 (Int32.ofNat (c - 1))) 2 (102 * (c - 1)) 1 0 102)) := by
      intro v hv
      obtain ⟨s', g1, g2, g3, g4, g5, g6, g7⟩ := X v hv
      rw [g1]
      have et : ∀ d, d ≠ 0 → d ≠ 1 → cpM (mset t1 0 3 (Int32.ofNat (c - 1))) 2 (102 * (c - 1)) 1 0 102 d = t1 d := fun d q1 q2 => by rw [cpM_ne q2, m_ne q1]
      have et0 : ∀ j, j ≠ 3 → cpM (mset t1 0 3 (Int32.ofNat (c - 1))) 2 (102 * (c - 1)) 1 0 102 0 j = t1 0 j := fun j q => by rw [cpM_ne (by omega), m_eq, u_ne q]
      have et1 : ∀ j, j < 102 → cpM (mset t1 0 3 (Int32.ofNat (c - 1))) 2 (102 * (c - 1)) 1 0 102 1 j = t1 2 (102 * (c - 1) + j) := fun j hj => by
        have := cpM_in (t := mset t1 0 3 (Int32.ofNat (c - 1))) (A := 2) (oa := 102 * (c - 1)) (B := 1) (ob := 0) (m := 102) hj
        rw [Nat.zero_add] at this
        rw [this, m_ne (by omega)]
      have et3 : cpM (mset t1 0 3 (Int32.ofNat (c - 1))) 2 (102 * (c - 1)) 1 0 102 0 3 = Int32.ofNat (c - 1) := by rw [cpM_ne (by omega), m_eq, u_eq]
      generalize cpM (mset t1 0 3 (Int32.ofNat (c - 1))) 2 (102 * (c - 1)) 1 0 102 = t2 at *
      obtain ⟨⟨ha, _, q1, q2, q3⟩, q4, q5, q6⟩ := hL1.1
      refine opR.ret ⟨n, ⟨⟨⟨ha, hn, by rw [et0 _ (by omega)]; exact q1, by rw [g6, et0 _ (by omega)]; exact q2, by rw [et0 _ (by omega)]; exact q3⟩, nR_eq g7 (fun _ _ => rfl) et1 hn, nB_eq hk.2.1 et1 hn, fun i hi => by rw [g5 57 (by omega) (by omega), et 4 (by omega) (by omega)]; exact q6 i hi⟩, nC_eq hk.2.2.1 et1 hn, by rw [et1 0 (by omega)]; exact hk.2.2.2, by rw [et0 _ (by omega)]; exact hL1.2.2.2⟩,
        ⟨⟨by rw [g5 115 (by omega) (by omega)]; exact h1, ⟨lawR_eq w1 (fun j hj => g5 _ (by omega) (by omega)) (fun c q1 q2 => et c (by omega) (by omega)), ordR_eq w2 (fun j hj => g5 _ (by omega) (by omega)) (et0 _ (by omega)) (et _ (by omega) (by omega)) (et _ (by omega) (by omega)), planT_eq w3 (fun j hj => g5 _ (by omega) (by omega)) (et0 _ (by omega)) (et _ (by omega) (by omega)), planC_eq w4 (fun j hj => g5 _ (by omega) (by omega)) (et0 _ (by omega)) (et _ (by omega) (by omega))⟩, rowsR_t h3 (fun j q1 q2 => g5 _ (by omega) (by omega)) (fun j q1 q2 => et0 _ (by omega)) (fun c q1 q2 q3 q4 q5 => et _ (by omega) (by omega))⟩,
          ⟨c - 1, nx', by omega, hnx6, g2, g3, et3, fun u hu => ?_⟩, imgR_eq h5 (fun c q1 q2 => g5 _ (by omega) (by omega)) (g4 _ (by omega) (by omega)) (et0 _ (by omega)) (et _ (by omega) (by omega)), txtR_eq h6 (fun c q1 q2 => g5 _ (by omega) (by omega)) (et0 _ (by omega)) (et0 _ (by omega)) (et0 _ (by omega)) (et _ (by omega) (by omega)), ?_⟩⟩
      · have es : (nx' + 6 - (c - 1) + u) % 6 = (nx + 6 - c + u) % 6 := by rw [← hnx]; split <;> omega
        rw [es]
        exact kepR_eq (p6 u (by omega)) (fun f hf => g5 _ (by omega) (by omega)) (fun j hj => by rw [et 2 (by omega) (by omega)]) hn
      · unfold wrdR
        rw [et 6 (by omega) (by omega)]
        exact h7
    by_cases hnx0 : nx = 0
    · subst hnx0
      rw [if_pos (show s 0 6 = 0 by rw [p4]; rfl)]
      exact fin 5 (by rw [← hnx]; rfl)
    · rw [if_neg (show ¬ s 0 6 = 0 by rw [p4]; exact N_ne0 (by omega) (by omega)), p4, N_pred (by omega)]
      exact fin _ (by rw [← hnx, if_neg hnx0])
theorem o_book {x w : Int32} {s t : Mem} (h : GR s t) : opR (f_X11_book x w s) (f_X12_book x w t) := by
  have h1 := GR_told (v := 0) h
  unfold f_X11_book f_X12_book
  generalize mset t 0 0 0 = t1 at *
  clear h
  obtain ⟨n, hL, hX⟩ := h1
  have no : opR (some ((-1 : Int32), s)) (some (-1, t1)) := opR.ret ⟨n, hL, hX⟩
  obtain ⟨b1, b2, -⟩ := hL.1.2.2.1.1
  obtain ⟨k, ek, hk⟩ := N_of (m := 150) b1 b2 (by omega)
  have e12 : s (1 + 1) 12 = Int32.ofNat k := hL.1.2.1.1.2.2.2.2.trans ek
  rw [show (2 : Int32) = Int32.ofNat 2 from rfl, rd_N (by omega) (by omega)]
  simp only [Option.bind_some, ek, e12, m_isIn]
  by_cases hx : 0 ≤ x ∧ x ≤ Int32.ofNat k - 1
  · have hx2 : x < Int32.ofNat k := by
      have : Int32.ofNat k ≤ Int32.ofNat 150 ∧ 0 ≤ Int32.ofNat k := ⟨(N_le0 hk (by omega)).2, (N_le0 hk (by omega)).1⟩
      have e : Int32.ofNat 150 = 150 := rfl
      grind
    simp only [if_pos hx, show ((1 : Int32) = 0) = False from by decide, if_false, show (x < 0) = False from by simp; grind, show (Int32.ofNat k ≤ x) = False from by simp; grind]
    by_cases hw : 0 ≤ w ∧ w ≤ 3
    · simp only [if_pos hw, show ((1 : Int32) = 0) = False from by decide, if_false, show (w < 0) = False from by simp; grind, show (w < 4) = True from by simp; grind, if_true]
      obtain ⟨i, ei, hi⟩ := N_of (m := 149) (x := x) hx.1 (by
        have : Int32.ofNat k ≤ Int32.ofNat 150 := (N_le0 hk (by omega)).2
        have e : Int32.ofNat 150 = 150 := rfl
        have e' : Int32.ofNat 149 = 149 := rfl
        grind) (by omega)
      obtain ⟨j, ej, hj⟩ := N_of (m := 3) (x := w) hw.1 hw.2 (by omega)
      subst ei ej
      simp (disch := omega) only [rd_N, wr_N, rd_L, wr_L, Option.bind_some, N_le, N_lt, N_eq, N_leL, L_leN, N_ltL, L_ltN, N_eqL, L_eqN, N_neg, neg_N, N_nlt0, N_0le, N_add, N_addL, L_addN, N_mul, N_mulL, L_mulN, N_sub, N_subL, m_eq, m_ne, u_eq, u_ne, if_true, if_false, ite_true, ite_false, if_pos, if_neg, show (1 + 56 : Nat) = 57 from rfl]
      rw [hL.1.2.2.2 _ (by omega), show 4 * i + j = i * 4 + j by omega]
      exact opR.ret ⟨n, hL, hX⟩
    · simp only [if_neg hw, if_true]
      by_cases hw0 : w < 0
      · rw [if_pos hw0]; exact no
      · rw [if_neg hw0, if_neg (by grind)]; exact no
  · simp only [if_neg hx, if_true]
    by_cases hx0 : x < 0
    · rw [if_pos hx0]; exact no
    · rw [if_neg hx0, if_pos (by
        have : Int32.ofNat k ≤ Int32.ofNat 150 ∧ 0 ≤ Int32.ofNat k := ⟨(N_le0 hk (by omega)).2, (N_le0 hk (by omega)).1⟩
        have e : Int32.ofNat 150 = 150 := rfl
        grind)]; exact no
theorem o_look {x : Int32} {s t : Mem} (h : GR s t) : opR (f_X11_look x s) (f_X12_look x t) := by
  have h1 := GR_told (v := 0) h
  unfold f_X11_look f_X12_look
  generalize mset t 0 0 0 = t1 at *
  clear h
  have hG := h1
  obtain ⟨n, hL, hX⟩ := h1
  obtain ⟨g1, g2, g3, g4, g5⟩ := hL.1.2.1.1
  simp only [show (1 + 1 : Nat) = 2 from rfl]
  by_cases x0 : x = 0
  · rw [if_pos x0, if_pos x0]
    exact opR.rets (g1.trans hL.1.1.2.2.1.symm) hG
  rw [if_neg x0, if_neg x0]
  by_cases x1 : x = 1
  · rw [if_pos x1, if_pos x1]
    obtain ⟨v, e1, e2⟩ := r_havers hL.1
    rw [e1, e2]
    exact opR.ret hG
  rw [if_neg x1, if_neg x1]
  by_cases x2 : x = 2
  · rw [if_pos x2, if_pos x2]
    simp (disch := omega) only [rd_N, wr_N, rd_L, wr_L, Option.bind_some, N_le, N_lt, N_eq, N_leL, L_leN, N_ltL, L_ltN, N_eqL, L_eqN, N_neg, neg_N, N_nlt0, N_0le, N_add, N_addL, L_addN, N_mul, N_mulL, L_mulN, N_sub, N_subL, m_eq, m_ne, u_eq, u_ne, if_true, if_false, ite_true, ite_false, if_pos, if_neg]
    exact opR.rets g2 hG
  rw [if_neg x2, if_neg x2]
  by_cases x3 : x = 3
  · rw [if_pos x3, if_pos x3]
    simp (disch := omega) only [rd_N, wr_N, rd_L, wr_L, Option.bind_some, N_le, N_lt, N_eq, N_leL, L_leN, N_ltL, L_ltN, N_eqL, L_eqN, N_neg, neg_N, N_nlt0, N_0le, N_add, N_addL, L_addN, N_mul, N_mulL, L_mulN, N_sub, N_subL, m_eq, m_ne, u_eq, u_ne, if_true, if_false, ite_true, ite_false, if_pos, if_neg]
    exact opR.rets g3 hG
  rw [if_neg x3, if_neg x3]
  by_cases x4 : x = 4
  · rw [if_pos x4, if_pos x4]
    simp (disch := omega) only [rd_N, wr_N, rd_L, wr_L, Option.bind_some, N_le, N_lt, N_eq, N_leL, L_leN, N_ltL, L_ltN, N_eqL, L_eqN, N_neg, neg_N, N_nlt0, N_0le, N_add, N_addL, L_addN, N_mul, N_mulL, L_mulN, N_sub, N_subL, m_eq, m_ne, u_eq, u_ne, if_true, if_false, ite_true, ite_false, if_pos, if_neg]
    exact opR.rets g5 hG
  rw [if_neg x4, if_neg x4]
  by_cases x5 : x = 5
  · rw [if_pos x5, if_pos x5]
    simp (disch := omega) only [rd_N, wr_N, rd_L, wr_L, Option.bind_some, N_le, N_lt, N_eq, N_leL, L_leN, N_ltL, L_ltN, N_eqL, L_eqN, N_neg, neg_N, N_nlt0, N_0le, N_add, N_addL, L_addN, N_mul, N_mulL, L_mulN, N_sub, N_subL, m_eq, m_ne, u_eq, u_ne, if_true, if_false, ite_true, ite_false, if_pos, if_neg]
    exact opR.rets g4 hG
  rw [if_neg x5, if_neg x5]
  obtain ⟨⟨-, ⟨⟨c1, z1, -, -, q1, q2, -⟩, ⟨c2, -, q3, q4, -⟩, ⟨c3, -, q5, q6, -⟩, ⟨c4, -, q7, q8, -⟩⟩, -⟩, ⟨c5, nx, -, -, q9, -, q10, -⟩, -⟩ := hX
  by_cases x6 : x = 6
  · rw [if_pos x6, if_pos x6]
    simp (disch := omega) only [rd_N, wr_N, rd_L, wr_L, Option.bind_some, N_le, N_lt, N_eq, N_leL, L_leN, N_ltL, L_ltN, N_eqL, L_eqN, N_neg, neg_N, N_nlt0, N_0le, N_add, N_addL, L_addN, N_mul, N_mulL, L_mulN, N_sub, N_subL, m_eq, m_ne, u_eq, u_ne, if_true, if_false, ite_true, ite_false, if_pos, if_neg]
    exact opR.rets (q1.trans q2.symm) hG
  rw [if_neg x6, if_neg x6]
  by_cases x7 : x = 7
  · rw [if_pos x7, if_pos x7]
    exact opR.rets (q5.trans q6.symm) hG
  rw [if_neg x7, if_neg x7]
  by_cases x8 : x = 8
  · rw [if_pos x8, if_pos x8]
    exact opR.rets (q7.trans q8.symm) hG
  rw [if_neg x8, if_neg x8]
  by_cases x9 : x = 9
  · rw [if_pos x9, if_pos x9]
    exact opR.rets (q3.trans q4.symm) hG
  rw [if_neg x9, if_neg x9]
  by_cases x10 : x = 10
  · rw [if_pos x10, if_pos x10]
    exact opR.rets (q9.trans q10.symm) hG
  rw [if_neg x10, if_neg x10]
  exact opR.ret hG
