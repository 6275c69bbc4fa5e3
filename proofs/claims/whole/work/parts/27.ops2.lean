/-! ===== set, act, minutes, undo ===== -/
theorem per_N {n : Nat} {x : Int32} (hn : n ≤ 14) (h : 0 ≤ x ∧ x < Int32.ofNat n) : ∃ p, p < n ∧ x = Int32.ofNat p := by
  have h1 : x ≤ Int32.ofNat 14 := by
    have : Int32.ofNat n ≤ Int32.ofNat 14 := by rw [N_le (by omega) (by omega)]; exact hn
    grind
  obtain ⟨p, e, hp⟩ := N_of h.1 h1 (by omega)
  subst e
  have h2 := h.2
  rw [N_lt (by omega) (by omega)] at h2
  exact ⟨p, h2, rfl⟩
theorem o_set {w x v : Int32} {s t : Mem} (h : GR s t) : opR (f_X11_set w x v s) (f_X12_set w x v t) := by
  obtain ⟨n, hL, hX⟩ := h
  have hn := hL.1.1.2.1
  have hL1 := told_L hL
  have hX1 := told_X hn hX
  unfold f_X11_set f_X12_set
  generalize mset t 0 0 0 = t1 at *
  clear hL hX
  have no : opR (some ((0 : Int32), s)) (some (0, t1)) := opR.ret ⟨n, hL1, hX1⟩
  have e1 : s (1 + 1) 1 = Int32.ofNat n := hL1.1.2.1.1.1
  have e6 := hL1.1.1.2.2.1
  rw [x_has e1, m_isIn]
  dsimp only [Option.bind_some]
  have hMM : ∀ r, (if (if 0 ≤ w ∧ w ≤ 1 then (1 : Int32) else 0) = 0 then some ((0 : Int32), t1) else r) = if 0 ≤ w ∧ w ≤ 1 then r else some (0, t1) := by
    intro r
    by_cases hw : 0 ≤ w ∧ w ≤ 1
    · rw [if_pos hw, if_neg (by decide), if_pos hw]
    · rw [if_neg hw, if_pos rfl, if_neg hw]
  rw [hMM, m_isPerson e6]
  clear hMM
  dsimp only [Option.bind_some]
  by_cases hp : 0 ≤ x ∧ x < Int32.ofNat n
  · simp only [if_pos hp, show ((1 : Int32) = 0) = False from by decide, if_false]
    obtain ⟨p, hpn, rfl⟩ := per_N hn hp
    clear hp
    unfold jn_X12_set_37 jn_X11_set_45 jn_X11_set_68 f_X11_forget
    simp only [m_isIn, Option.bind_some]
    by_cases hv : 0 ≤ v
    · simp only [if_pos hv]
      by_cases hw0 : w = 0
      · subst hw0
        simp only [show (0 : Int32) ≤ 0 ∧ (0 : Int32) ≤ 1 from by decide, if_true, show ((0 : Int32) = 1) = False from by decide, if_false]
        by_cases hv9 : v ≤ 9
        · rw [if_neg (show ¬ 9 < v by grind), if_pos (show 0 ≤ v ∧ v ≤ 9 from ⟨hv, hv9⟩), if_neg (show ¬ ((1 : Int32) = 0) by decide)]
          simp (disch := omega) only [rd_N, wr_N, rd_L, wr_L, Option.bind_some, N_le, N_lt, N_eq, N_leL, L_leN, N_ltL, L_ltN, N_eqL, L_eqN, N_neg, neg_N, N_nlt0, N_0le, N_add, N_addL, L_addN, N_mul, N_mulL, L_mulN, N_sub, N_subL, m_eq, m_ne, u_eq, u_ne, if_true, if_false, ite_true, ite_false, if_pos, if_neg, show (1 + 1 + 1 : Nat) = 3 from rfl]
          have hP : nP n 2 s t1 (mset s 3 p v) (mset t1 1 (4 + p) v) := ⟨nS_nerve hL1.1 hpn ⟨hv, hv9⟩, nC_same hL1.2.1 (fun j q1 q2 => by simp (disch := omega) only [rd_N, wr_N, rd_L, wr_L, Option.bind_some, N_le, N_lt, N_eq, N_leL, L_leN, N_ltL, L_ltN, N_eqL, L_eqN, N_neg, neg_N, N_nlt0, N_0le, N_add, N_addL, L_addN, N_mul, N_mulL, L_mulN, N_sub, N_subL, m_eq, m_ne, u_eq, u_ne, if_true, if_false, ite_true, ite_false, if_pos, if_neg]) hn, nXF.put (a := 2) (f := 0) (by omega), nTF.put, by simp (disch := omega) only [rd_N, wr_N, rd_L, wr_L, Option.bind_some, N_le, N_lt, N_eq, N_leL, L_leN, N_ltL, L_ltN, N_eqL, L_eqN, N_neg, neg_N, N_nlt0, N_0le, N_add, N_addL, L_addN, N_mul, N_mulL, L_mulN, N_sub, N_subL, m_eq, m_ne, u_eq, u_ne, if_true, if_false, ite_true, ite_false, if_pos, if_neg]⟩
          exact ok2.some ⟨rfl, n, forget_L (step_L hL1 hP), forget_X hn (step_X hn hX1 hP)⟩
        · rw [if_pos (show 9 < v by grind), if_neg (show ¬ (0 ≤ v ∧ v ≤ 9) from fun q => hv9 q.2), if_pos rfl]
          exact no
      · simp only [if_neg hw0]
        by_cases hw1 : w = 1
        · subst hw1
          simp only [show (0 : Int32) ≤ 1 ∧ (1 : Int32) ≤ 1 from by decide, if_true]
          by_cases hv99 : v ≤ 99
          · rw [if_neg (show ¬ 99 < v by grind), if_pos (show 0 ≤ v ∧ v ≤ 99 from ⟨hv, hv99⟩), if_neg (show ¬ ((1 : Int32) = 0) by decide), x_hiccup (by omega), m_hasThen (by omega) hv, cl_id hv hv99]
            dsimp only [Option.bind_some]
            have hP : nP n 2 s t1 (hX 2 p v s) (hM p v t1) := ⟨nS_h hL1.1 hpn ⟨hv, hv99⟩, hM_C hn hpn hL1.2.1, hX_f, hM_f, hM_0⟩
            exact ok2.some ⟨rfl, n, forget_L (step_L hL1 hP), forget_X hn (step_X hn hX1 hP)⟩
          · rw [if_pos (show 99 < v by grind), if_neg (show ¬ (0 ≤ v ∧ v ≤ 99) from fun q => hv99 q.2), if_pos rfl]
            exact no
        · rw [if_neg hw1, if_neg (show ¬ (0 ≤ w ∧ w ≤ 1) by grind)]
          exact no
    · simp only [if_neg hv]
      by_cases hw : 0 ≤ w ∧ w ≤ 1
      · simp only [if_pos hw]
        have h9 : ¬ (0 ≤ v ∧ v ≤ 9) := fun q => hv q.1
        have h99 : ¬ (0 ≤ v ∧ v ≤ 99) := fun q => hv q.1
        simp only [if_neg h9, if_neg h99, if_true]
        split <;> exact no
      · simp only [if_neg hw]
        exact no
  · simp only [if_neg hp, if_true]
    split <;> exact no
theorem r_canAct {n : Nat} {w x v : Int32} {s t : Mem} (hL : GL n s t) :
    ∃ b, f_X11_canAct w x v s = some (b, s) ∧ f_X12_canAct w x v t = some (b, t) ∧ (b = 0 ∨ (b = 1 ∧ ∃ p, p < n ∧ x = Int32.ofNat p ∧ ((w = 0 ∧ ∃ q, q < n ∧ v = Int32.ofNat q ∧ p ≠ q) ∨ (w = 1 ∧ t 1 (18 + p) ≠ 0) ∨ (w = 2 ∧ ∃ q, q < n ∧ v = Int32.ofNat q ∧ p ≠ q) ∨ (w = 3 ∧ t 1 (18 + p) ≠ 0)))) := by
  have hn := hL.1.1.2.1
  have e1 : s (1 + 1) 1 = Int32.ofNat n := hL.1.2.1.1.1
  have e6 := hL.1.1.2.2.1
  unfold f_X11_canAct f_X12_canAct
  simp only [x_has e1, m_isPerson e6, Option.bind_some]
  by_cases hp : 0 ≤ x ∧ x < Int32.ofNat n
  · simp only [if_pos hp, show ((1 : Int32) = 0) = False from by decide, if_false]
    obtain ⟨p, hpn, rfl⟩ := per_N hn hp
    clear hp
    have x0 := (hL.1.2.1.2 p hpn).2.1
    obtain ⟨k, ek, hk⟩ := hic_N hL.1 hpn
    unfold jn_X11_canAct_38 jn_X11_canAct_39 jn_X11_canAct_75 jn_X12_canAct_75
    simp only [m_hasAny (show p < 14 by omega), Option.bind_some]
    have ex : s 4 p = Int32.ofNat k := x0.trans ek
    simp (disch := omega) only [rd_N, wr_N, rd_L, wr_L, Option.bind_some, N_le, N_lt, N_eq, N_leL, L_leN, N_ltL, L_ltN, N_eqL, L_eqN, N_neg, neg_N, N_nlt0, N_0le, N_add, N_addL, L_addN, N_mul, N_mulL, L_mulN, N_sub, N_subL, m_eq, m_ne, u_eq, u_ne, if_true, if_false, ite_true, ite_false, if_pos, if_neg, ex, ek, show (1 + 1 + 2 : Nat) = 4 from rfl]
    have eb : (if k ≤ 0 then some ((0 : Int32), s) else some (1, s)) = some (if k = 0 then 0 else 1, s) := by
      by_cases h0 : k = 0
      · rw [if_pos (by omega), if_pos h0]
      · rw [if_neg (by omega), if_neg h0]
    have eM : (if (if k ≤ 0 then (0 : Int32) else 1) = 0 then some ((0 : Int32), t) else some (1, t)) = some (if k = 0 then 0 else 1, t) := by
      by_cases h0 : k = 0
      · simp only [h0]; rfl
      · simp only [if_neg h0, if_neg (show ¬ k ≤ 0 by omega)]; rfl
    simp only [eb, eM]
    have hk0 : k ≠ 0 → t 1 (18 + p) ≠ 0 := fun q => by rw [ek]; exact N_ne0 (by omega) (by omega)
    by_cases hv : 0 ≤ v ∧ v < Int32.ofNat n
    · simp only [if_pos hv, show ((1 : Int32) = 0) = False from by decide, if_false]
      obtain ⟨q, hqn, rfl⟩ := per_N hn hv
      clear hv
      simp (disch := omega) only [rd_N, wr_N, rd_L, wr_L, Option.bind_some, N_le, N_lt, N_eq, N_leL, L_leN, N_ltL, L_ltN, N_eqL, L_eqN, N_neg, neg_N, N_nlt0, N_0le, N_add, N_addL, L_addN, N_mul, N_mulL, L_mulN, N_sub, N_subL, m_eq, m_ne, u_eq, u_ne, if_true, if_false, ite_true, ite_false, if_pos, if_neg]
      by_cases hqp : q = p
      · subst hqp
        simp only [if_true]
        by_cases w0 : w = 0
        · subst w0; exact ⟨0, rfl, rfl, Or.inl rfl⟩
        · simp only [if_neg w0]
          by_cases w1 : w = 1
          · subst w1
            refine ⟨_, rfl, rfl, ?_⟩
            by_cases h0 : k = 0
            · rw [if_pos h0]; exact Or.inl rfl
            · rw [if_neg h0]; exact Or.inr ⟨rfl, q, hpn, rfl, Or.inr (Or.inl ⟨rfl, hk0 h0⟩)⟩
          · simp only [if_neg w1]
            by_cases w2 : w = 2
            · subst w2; exact ⟨0, rfl, rfl, Or.inl rfl⟩
            · simp only [if_neg w2]
              by_cases w3 : w = 3
              · subst w3
                refine ⟨_, rfl, rfl, ?_⟩
                by_cases h0 : k = 0
                · rw [if_pos h0]; exact Or.inl rfl
                · rw [if_neg h0]; exact Or.inr ⟨rfl, q, hpn, rfl, Or.inr (Or.inr (Or.inr ⟨rfl, hk0 h0⟩))⟩
              · simp only [if_neg w3]
                exact ⟨0, rfl, rfl, Or.inl rfl⟩
      · simp only [if_neg hqp, show ((1 : Int32) = 0) = False from by decide, if_false, show ¬ ¬ (False ∨ (1 : Int32) = 1) from by simp]
        have hpq : p ≠ q := fun e => hqp e.symm
        by_cases w0 : w = 0
        · subst w0
          simp only [if_true]
          exact ⟨1, rfl, rfl, Or.inr ⟨rfl, p, hpn, rfl, Or.inl ⟨trivial, q, hqn, rfl, hpq⟩⟩⟩
        · simp only [if_neg w0]
          by_cases w1 : w = 1
          · subst w1
            refine ⟨_, rfl, rfl, ?_⟩
            by_cases h0 : k = 0
            · rw [if_pos h0]; exact Or.inl rfl
            · rw [if_neg h0]; exact Or.inr ⟨rfl, p, hpn, rfl, Or.inr (Or.inl ⟨rfl, hk0 h0⟩)⟩
          · simp only [if_neg w1]
            by_cases w2 : w = 2
            · subst w2
              refine ⟨_, rfl, rfl, ?_⟩
              by_cases h0 : k = 0
              · rw [if_pos h0]; exact Or.inl rfl
              · rw [if_neg h0]; exact Or.inr ⟨rfl, p, hpn, rfl, Or.inr (Or.inr (Or.inl ⟨rfl, q, hqn, rfl, hpq⟩))⟩
            · simp only [if_neg w2]
              by_cases w3 : w = 3
              · subst w3
                refine ⟨_, rfl, rfl, ?_⟩
                by_cases h0 : k = 0
                · rw [if_pos h0]; exact Or.inl rfl
                · rw [if_neg h0]; exact Or.inr ⟨rfl, p, hpn, rfl, Or.inr (Or.inr (Or.inr ⟨rfl, hk0 h0⟩))⟩
              · simp only [if_neg w3]
                exact ⟨0, rfl, rfl, Or.inl rfl⟩
    · simp only [if_neg hv, if_true]
      by_cases w0 : w = 0
      · subst w0; exact ⟨0, rfl, rfl, Or.inl rfl⟩
      · simp only [if_neg w0]
        by_cases w1 : w = 1
        · subst w1
          refine ⟨_, rfl, rfl, ?_⟩
          by_cases h0 : k = 0
          · rw [if_pos h0]; exact Or.inl rfl
          · rw [if_neg h0]; exact Or.inr ⟨rfl, p, hpn, rfl, Or.inr (Or.inl ⟨rfl, hk0 h0⟩)⟩
        · simp only [if_neg w1]
          by_cases w2 : w = 2
          · subst w2; exact ⟨0, rfl, rfl, Or.inl rfl⟩
          · simp only [if_neg w2]
            by_cases w3 : w = 3
            · subst w3
              refine ⟨_, rfl, rfl, ?_⟩
              by_cases h0 : k = 0
              · rw [if_pos h0]; exact Or.inl rfl
              · rw [if_neg h0]; exact Or.inr ⟨rfl, p, hpn, rfl, Or.inr (Or.inr (Or.inr ⟨rfl, hk0 h0⟩))⟩
            · simp only [if_neg w3]
              exact ⟨0, rfl, rfl, Or.inl rfl⟩
  · simp only [if_neg hp, if_true]
    exact ⟨0, rfl, rfl, Or.inl rfl⟩
/-- the lane kept ahead of a step -/
theorem keep_G {n : Nat} {s t : Mem} (hL : GL n s t) (hX : GX n s t) : ∃ s' t', f_X11_keep s = some s' ∧ f_X12_keepsAhead t = some t' ∧ GL n s' t' ∧ GX n s' t' ∧ t' 1 = t 1 := by
  have hn := hL.1.1.2.1
  obtain ⟨⟨h1, ⟨w1, w2, w3, w4⟩, h3⟩, h4, h5, h6, h7⟩ := hX
  obtain ⟨s', t', k1, k2, k3, fs, fs0, ft, ft0⟩ := r_keep hL.1 hL.2.1 hL.2.2.1 h4
  have e1 : t' 1 = t 1 := ft 1 (by omega) (by omega)
  refine ⟨s', t', k1, k2, ⟨nS_t hL.1 (fun c q1 q2 => fs _ (by omega) (by omega)) (fs _ (by omega) (by omega)) e1 (ft _ (by omega) (by omega)) (ft0 _ (by omega)) (ft0 _ (by omega)), by rw [e1]; exact hL.2.1, by rw [e1]; exact hL.2.2.1, by rw [ft0 _ (by omega)]; exact hL.2.2.2⟩,
    ⟨⟨by rw [fs 115 (by omega) (by omega)]; exact h1, ⟨lawR_eq w1 (fun j hj => fs _ (by omega) (by omega)) (fun c q1 q2 => ft c (by omega) (by omega)), ordR_eq w2 (fun j hj => fs _ (by omega) (by omega)) (ft0 _ (by omega)) (ft _ (by omega) (by omega)) (ft _ (by omega) (by omega)), planT_eq w3 (fun j hj => fs _ (by omega) (by omega)) (ft0 _ (by omega)) (ft _ (by omega) (by omega)), planC_eq w4 (fun j hj => fs _ (by omega) (by omega)) (ft0 _ (by omega)) (ft _ (by omega) (by omega))⟩, rowsR_t h3 (fun j q1 q2 => fs _ (by omega) (by omega)) (fun j q1 q2 => ft0 _ (by omega)) (fun c q1 q2 q3 q4 q5 => ft _ (by omega) (by omega))⟩,
      k3, imgR_eq h5 (fun c q1 q2 => fs _ (by omega) (by omega)) (fs0 _ (by omega) (by omega)) (ft0 _ (by omega)) (ft _ (by omega) (by omega)), txtR_eq h6 (fun c q1 q2 => fs _ (by omega) (by omega)) (ft0 _ (by omega)) (ft0 _ (by omega)) (ft0 _ (by omega)) (ft _ (by omega) (by omega)), ?_⟩, e1⟩
  unfold wrdR
  rw [ft 6 (by omega) (by omega)]
  exact h7
theorem o_act {w x v : Int32} {s t : Mem} (h : GR s t) : opR (f_X11_act w x v s) (f_X12_act w x v t) := by
  obtain ⟨n, hL, hX⟩ := h
  have hn := hL.1.1.2.1
  have hL1 := told_L hL
  have hX1 := told_X hn hX
  unfold f_X11_act f_X12_act
  generalize mset t 0 0 0 = t1 at *
  clear hL hX
  obtain ⟨b, c1, c2, hb⟩ := r_canAct (w := w) (x := x) (v := v) hL1
  rw [c1, c2]
  dsimp only [Option.bind_some]
  rcases hb with rfl | ⟨rfl, p, hp, rfl, hb⟩
  · simp only [if_true]
    exact opR.ret ⟨n, hL1, hX1⟩
  · simp only [show ((1 : Int32) = 0) = False from by decide, if_false]
    obtain ⟨s2, t2, k1, k2, hL2, hX2, e1⟩ := keep_G hL1 hX1
    rw [k1, k2]
    dsimp only [Option.bind_some]
    have hW := hX2.1.2.1
    unfold jn_X12_act_31 jn_X12_act_41 jn_X12_act_52
    rcases hb with ⟨rfl, q, hq, rfl, hpq⟩ | ⟨rfl, h0⟩ | ⟨rfl, q, hq, rfl, hpq⟩ | ⟨rfl, h0⟩
    · simp only [show ((0 : Int32) = 1) = False from by decide, show ((0 : Int32) = 2) = False from by decide, show ((0 : Int32) = 3) = False from by decide, if_false, if_true]
      refine (r_nameOne hL2.1 hL2.2.1 hW hq hp).bind ?_
      intro s3 t3 hP
      exact ok2.some ⟨rfl, n, step_L hL2 hP, step_X hn hX2 hP⟩
    · simp only [show ((1 : Int32) = 0) = False from by decide, show ((1 : Int32) = 2) = False from by decide, show ((1 : Int32) = 3) = False from by decide, if_false, if_true]
      refine (r_frighten hL2.1 hL2.2.1 hp).bind ?_
      intro s3 t3 hP
      exact ok2.some ⟨rfl, n, step_L hL2 hP, step_X hn hX2 hP⟩
    · simp only [show ((2 : Int32) = 0) = False from by decide, show ((2 : Int32) = 1) = False from by decide, show ((2 : Int32) = 3) = False from by decide, if_false, if_true]
      refine (r_handOn hL2.1 hL2.2.1 hp hq hpq).bind ?_
      intro s3 t3 hP
      exact ok2.some ⟨rfl, n, step_L hL2 hP, step_X hn hX2 hP⟩
    · simp only [show ((3 : Int32) = 0) = False from by decide, show ((3 : Int32) = 1) = False from by decide, show ((3 : Int32) = 2) = False from by decide, if_false, if_true]
      refine (r_speak hL2.1 hL2.2.1 hW hp (by rw [e1]; exact h0)).bind ?_
      rintro ⟨b, s3⟩ ⟨b', t3⟩ ⟨-, -, hP⟩
      exact ok2.some ⟨rfl, n, step_L hL2 hP, step_X hn hX2 hP⟩
theorem min_N {n a : Nat} {s t : Mem} (h : nS n a s t) : ∃ m, t 1 0 = Int32.ofNat m ∧ m ≤ 10100 := by
  obtain ⟨-, -, h1, h2⟩ := h.2.2.1.1
  exact N_of (m := 10100) h1 h2 (by omega)
theorem o_minutes {x : Int32} {s t : Mem} (h : GR s t) : opR (f_X11_minutes x s) (f_X12_minutes x t) := by
  obtain ⟨n, hL, hX⟩ := h
  have hn := hL.1.1.2.1
  have hL1 := told_L hL
  have hX1 := told_X hn hX
  unfold f_X11_minutes f_X12_minutes
  generalize mset t 0 0 0 = t1 at *
  clear hL hX
  have no : opR (some ((-1 : Int32), s)) (some (-1, t1)) := opR.ret ⟨n, hL1, hX1⟩
  rw [m_isIn]
  dsimp only [Option.bind_some]
  by_cases hx : 1 ≤ x ∧ x ≤ 60
  · rw [if_neg (show ¬ x < 1 by grind), if_neg (show ¬ 60 < x by grind), if_pos hx, if_neg (show ¬ ((1 : Int32) = 0) by decide)]
    obtain ⟨m, ex, hm⟩ := N_of (m := 60) (x := x) (by grind) hx.2 (by omega)
    subst ex
    obtain ⟨m0, em, hm0⟩ := min_N hL1.1
    have e2 : s (1 + 1) 10 = Int32.ofNat m0 := hL1.1.2.1.1.2.2.1.trans em
    simp (disch := omega) only [rd_N, wr_N, rd_L, wr_L, Option.bind_some, N_le, N_lt, N_eq, N_leL, L_leN, N_ltL, L_ltN, N_eqL, L_eqN, N_neg, neg_N, N_nlt0, N_0le, N_add, N_addL, L_addN, N_mul, N_mulL, L_mulN, N_sub, N_subL, m_eq, m_ne, u_eq, u_ne, if_true, if_false, ite_true, ite_false, if_pos, if_neg, em, e2]
    by_cases hmm : m0 + m ≤ 9999
    · simp only [if_pos hmm]
      have key : ok2 (it FUEL (fun y => st_X11_minutes_35 (Int32.ofNat m) y.1 y.2.1 y.2.2) (0, 0, s)) (it FUEL (fun y => st_X12_minutes_36 (Int32.ofNat m) y.1 y.2.1 y.2.2) (0, 0, t1)) (fun r r' => r.1 = r'.1 ∧ GR r.2 r'.2) := by
        refine it_ok2 60 (by omega) (fun k y y' => k ≤ m ∧ y.1 = y'.1 ∧ y.2.1 = Int32.ofNat k ∧ y'.2.1 = Int32.ofNat k ∧ GL n y.2.2 y'.2.2 ∧ GX n y.2.2 y'.2.2 ∧ y'.2.2 1 0 = Int32.ofNat (m0 + k)) ⟨by omega, rfl, rfl, rfl, hL1, hX1, em⟩ (fun k y y' q => by omega) ?_
        rintro k ⟨c, i, s2⟩ ⟨c', i', t2⟩ ⟨hk, rfl, rfl, rfl, hL2, hX2, e3⟩
        dsimp only at hL2 hX2 e3 ⊢
        unfold st_X11_minutes_35 st_X12_minutes_36
        by_cases hkm : k = m
        · subst hkm
          simp (disch := omega) only [rd_N, wr_N, rd_L, wr_L, Option.bind_some, N_le, N_lt, N_eq, N_leL, L_leN, N_ltL, L_ltN, N_eqL, L_eqN, N_neg, neg_N, N_nlt0, N_0le, N_add, N_addL, L_addN, N_mul, N_mulL, L_mulN, N_sub, N_subL, m_eq, m_ne, u_eq, u_ne, if_true, if_false, ite_true, ite_false, if_pos, if_neg]
          exact ok2.some (Or.inr ⟨_, _, rfl, rfl, rfl, n, hL2, hX2⟩)
        · simp (disch := omega) only [rd_N, wr_N, rd_L, wr_L, Option.bind_some, N_le, N_lt, N_eq, N_leL, L_leN, N_ltL, L_ltN, N_eqL, L_eqN, N_neg, neg_N, N_nlt0, N_0le, N_add, N_addL, L_addN, N_mul, N_mulL, L_mulN, N_sub, N_subL, m_eq, m_ne, u_eq, u_ne, if_true, if_false, ite_true, ite_false, if_pos, if_neg]
          obtain ⟨s3, t3, k1, k2, hL3, hX3, e4⟩ := keep_G hL2 hX2
          rw [k1, k2]
          dsimp only [Option.bind_some]
          have e5 : t3 1 0 = Int32.ofNat (m0 + k) := by rw [e4, e3]
          refine (r_minute hL3.1 hL3.2.1 hX3.1.2.1 (by rw [e5, N_ltL (by omega) (by omega)]; omega)).bind ?_
          rintro ⟨v, s4⟩ ⟨v', t4⟩ ⟨e6, q1, q2, q3, q4, q5⟩
          dsimp only at e6 q1 q2 q3 q4 q5 ⊢
          subst e6
          have e7 : t4 1 0 = Int32.ofNat (m0 + (k + 1)) := by rw [q5, e5, N_addL]; rfl
          exact ok2.some (Or.inl ⟨_, _, rfl, rfl, by omega, rfl, rfl, rfl, ⟨q1, q2, by dsimp only; rw [e7, N_leL (by omega) (by omega)]; omega, by dsimp only; rw [q4.2.1]; exact hL3.2.2.2⟩, GX_lane hX3 hn q3 q4, e7⟩)
      refine key.bind ?_
      rintro ⟨v, s2⟩ ⟨v', t2⟩ ⟨e, hG⟩
      exact ok2.some ⟨e, hG⟩
    · simp only [if_neg hmm]
      exact no
  · rw [if_neg hx, if_pos rfl]
    by_cases h1 : x < 1
    · rw [if_pos h1]; exact no
    · rw [if_neg h1, if_pos (show 60 < x by grind)]; exact no
