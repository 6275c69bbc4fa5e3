/-! ===== queries: game, least, tongues, hics ===== -/
theorem row_1 {s t : Mem} {cap hi : Nat} {lo : Int32} {rc : Nat} {x : Int32} {m : Nat → Int32} (h : rowR cap s rc x m lo (Int32.ofNat hi)) (h0 : 0 ≤ lo) (hhi : hi < 1000) : ∃ (n : Nat) (f : Nat → Nat), n ≤ cap ∧ s rc 1 = Int32.ofNat n ∧ x = Int32.ofNat n ∧ ∀ i, i < n → s (rc + 1) i = Int32.ofNat (f i) ∧ m i = Int32.ofNat (f i) ∧ lo ≤ Int32.ofNat (f i) ∧ f i ≤ hi := row_N h h0 hhi
theorem bit1 {x v : Int32} (hx : x = 0 ∨ x = 1) (hv : 0 ≤ v) (hv1 : v ≤ 1) : x ^^^ v = 0 ∨ x ^^^ v = 1 := by
  have : v = 0 ∨ v = 1 := by grind
  rcases hx with rfl | rfl <;> rcases this with rfl | rfl <;> decide
theorem o_game {s t : Mem} (h : GR s t) : opR (f_X11_game s) (f_X12_game t) := by
  have h1 := GR_told (v := 0) h
  unfold f_X11_game f_X12_game
  generalize mset t 0 0 0 = t1 at *
  clear h
  have hG := h1
  obtain ⟨nn, hL, hX⟩ := h1
  have r13 := hX.1.2.2.2.2.2.2.2.2
  clear hL hX
  obtain ⟨n, f, hn, e1, e2, hf⟩ := row_N (hi := 15) r13 (by decide) (by omega)
  simp only [show (32 + 23 : Nat) = 55 from rfl, show (32 + 23 + 1 : Nat) = 56 from rfl] at e1 hf
  clear r13
  -- who is to take, one heap being so many
  have won : ∀ i left, i < n → left ≤ 15 → ∃ b : Int32, (b = 0 ∨ b = 1) ∧ f_X9_isLost 55 (Int32.ofNat i) (Int32.ofNat left) s = some (1 - b, s) ∧ f_X12_isWonWith (Int32.ofNat i) (Int32.ofNat left) t1 = some (b, t1) := by
    intro i left hi hleft
    have key : ok2 (it FUEL (fun y => st_X9_isLost_8 55 (Int32.ofNat i) (Int32.ofNat left) y.1 y.2.1 y.2.2.1 y.2.2.2) (0, 0, 0, s)) (it FUEL (fun y => st_X12_isWonWith_8 (Int32.ofNat i) (Int32.ofNat left) y.1 y.2.1 y.2.2.1 y.2.2.2) (0, 0, 0, t1))
        (fun r r' => r.1 = r'.1 ∧ r.2.1 = (if 1 < r'.2.1 then 1 else 0) ∧ r.2.2 = s ∧ r'.2.2 = t1 ∧ (r'.2.1 ≤ 1 → r.1 = 0 ∨ r.1 = 1)) := by
      refine it_ok2 4 (by omega) (fun k y y' => k ≤ n ∧ y.1 = y'.1 ∧ y.2.1 = (if 1 < y'.2.1 then 1 else 0) ∧ y.2.2 = (Int32.ofNat k, s) ∧ y'.2.2 = (Int32.ofNat k, t1) ∧ (y'.2.1 ≤ 1 → y.1 = 0 ∨ y.1 = 1)) ⟨by omega, rfl, rfl, rfl, rfl, fun _ => Or.inl rfl⟩ (fun k y y' q => by omega) ?_
      rintro k ⟨v, a, y⟩ ⟨v', m, y'⟩ ⟨hk, z1, z2, z3, z4, hb⟩
      dsimp only at z1 z2 z3 z4 hb ⊢
      subst z1 z2 z3 z4
      unfold st_X9_isLost_8 st_X12_isWonWith_8
      simp only [e1, e2, gl_rows.2.2.2.2.2.2.2.2.2.2.2, show (55 + 1 : Nat) = 56 from rfl]
      by_cases hkn : k = n
      · subst hkn
        simp (disch := omega) only [rd_N, wr_N, rd_L, wr_L, Option.bind_some, N_le, N_lt, N_eq, N_leL, L_leN, N_ltL, L_ltN, N_eqL, L_eqN, N_neg, neg_N, N_nlt0, N_0le, N_add, N_addL, L_addN, N_mul, N_mulL, L_mulN, N_sub, N_subL, m_eq, m_ne, u_eq, u_ne, if_true, if_false, ite_true, ite_false, if_pos, if_neg]
        exact ok2.some (Or.inr ⟨_, _, rfl, rfl, rfl, rfl, rfl, rfl, hb⟩)
      · obtain ⟨q1, q2, -, q4⟩ := hf k (by omega)
        have go : ∀ z, z ≤ 15 → ok2 (jn_X9_isLost_33 55 (Int32.ofNat i) (Int32.ofNat left) v (if 1 < m then 1 else 0) (Int32.ofNat k) (Int32.ofNat z) s) (jn_X12_isWonWith_34 (Int32.ofNat i) (Int32.ofNat left) v m (Int32.ofNat k) (Int32.ofNat z) t1)
            (fun q q' => (∃ s' t', q = Sum.inl s' ∧ q' = Sum.inl t' ∧ k + 1 ≤ n ∧ s'.1 = t'.1 ∧ s'.2.1 = (if 1 < t'.2.1 then 1 else 0) ∧ s'.2.2 = (Int32.ofNat (k + 1), s) ∧ t'.2.2 = (Int32.ofNat (k + 1), t1) ∧ (t'.2.1 ≤ 1 → s'.1 = 0 ∨ s'.1 = 1)) ∨ (∃ b b', q = Sum.inr b ∧ q' = Sum.inr b' ∧ b.1 = b'.1 ∧ b.2.1 = (if 1 < b'.2.1 then 1 else 0) ∧ b.2.2 = s ∧ b'.2.2 = t1 ∧ (b'.2.1 ≤ 1 → b.1 = 0 ∨ b.1 = 1))) := by
          intro z hz
          unfold jn_X9_isLost_33 jn_X12_isWonWith_34 jn_X9_isLost_51
          rw [m_greater]
          dsimp only [Option.bind_some]
          have hz0 := (N_le0 (m := 15) hz (by omega)).1
          simp only [N_addL]
          by_cases hm : 1 < m
          · have e : 1 < jmmax m (Int32.ofNat z) := by unfold jmmax; grind
            rw [if_pos hm, if_neg (by decide)]
            exact ok2.some (Or.inl ⟨_, _, rfl, rfl, by omega, rfl, by dsimp only; rw [if_pos e], rfl, rfl, fun q => by dsimp only at q; grind⟩)
          · rw [if_neg hm, if_pos rfl]
            by_cases hz1 : Int32.ofNat z ≤ 1
            · have e : ¬ 1 < jmmax m (Int32.ofNat z) := by unfold jmmax; grind
              rw [if_pos hz1]
              exact ok2.some (Or.inl ⟨_, _, rfl, rfl, by omega, rfl, by dsimp only; rw [if_neg e], rfl, rfl, fun q => bit1 (hb (by grind)) hz0 hz1⟩)
            · have e : 1 < jmmax m (Int32.ofNat z) := by unfold jmmax; grind
              rw [if_neg hz1]
              exact ok2.some (Or.inl ⟨_, _, rfl, rfl, by omega, rfl, by dsimp only; rw [if_pos e], rfl, rfl, fun q => by dsimp only at q; grind⟩)
        by_cases hki : k = i
        · subst hki
          simp (disch := omega) only [rd_N, wr_N, rd_L, wr_L, Option.bind_some, N_le, N_lt, N_eq, N_leL, L_leN, N_ltL, L_ltN, N_eqL, L_eqN, N_neg, neg_N, N_nlt0, N_0le, N_add, N_addL, L_addN, N_mul, N_mulL, L_mulN, N_sub, N_subL, m_eq, m_ne, u_eq, u_ne, if_true, if_false, ite_true, ite_false, if_pos, if_neg]
          exact go left hleft
        · simp (disch := omega) only [rd_N, wr_N, rd_L, wr_L, Option.bind_some, N_le, N_lt, N_eq, N_leL, L_leN, N_ltL, L_ltN, N_eqL, L_eqN, N_neg, neg_N, N_nlt0, N_0le, N_add, N_addL, L_addN, N_mul, N_mulL, L_mulN, N_sub, N_subL, m_eq, m_ne, u_eq, u_ne, if_true, if_false, ite_true, ite_false, if_pos, if_neg, x_at e1 rfl gl_rows.2.2.2.2.2.2.2.2.2.2.2 hn (by omega), q1, q2]
          exact go (f k) q4
    obtain ⟨⟨v, a, s2⟩, ⟨v', m, t2⟩, g1, g2, q1, q2, q3, q4, q5⟩ := key
    dsimp only at q1 q2 q3 q4 q5
    subst q1 q2 q3 q4
    unfold f_X9_isLost f_X12_isWonWith
    rw [g1, g2]
    dsimp only [Option.bind_some]
    by_cases hm : 1 < m
    · rw [if_pos hm, if_neg (show ¬ ((1 : Int32) = 0) by decide), if_neg (show ¬ m ≤ 1 by grind)]
      by_cases hv : v = 0
      · rw [if_pos hv, if_pos hv]
        exact ⟨0, Or.inl rfl, rfl, rfl⟩
      · rw [if_neg hv, if_neg hv]
        exact ⟨1, Or.inr rfl, rfl, rfl⟩
    · rw [if_neg hm, if_pos (rfl : (0 : Int32) = 0), if_pos (show m ≤ 1 by grind)]
      rcases q5 (by grind) with rfl | rfl
      · exact ⟨1, Or.inr rfl, rfl, rfl⟩
      · exact ⟨0, Or.inl rfl, rfl, rfl⟩
  unfold f_X9_winningMove
  have key : ok2 (it FUEL (fun y => st_X9_winningMove_2 55 y.1 y.2) (0, s)) (it FUEL (fun y => st_X12_game_7 y.1 y.2) (0, t1)) (fun r r' => (r.1 = 0 ∧ r'.1 = 0 ∧ r.2.1 = r'.2.1 ∧ r.2.2.1 = r'.2.2.1 ∨ r.1 = 1 ∧ r'.1 = 1) ∧ r.2.2.2 = s ∧ r'.2.2.2 = t1) := by
    refine it_ok2 4 (by omega) (fun k y y' => k ≤ n ∧ y = (Int32.ofNat k, s) ∧ y' = (Int32.ofNat k, t1)) ⟨by omega, rfl, rfl⟩ (fun k y y' q => by omega) ?_
    rintro k y y' ⟨hk, rfl, rfl⟩
    dsimp only
    unfold st_X9_winningMove_2 st_X12_game_7
    simp only [e1, e2]
    by_cases hkn : k = n
    · subst hkn
      simp (disch := omega) only [rd_N, wr_N, rd_L, wr_L, Option.bind_some, N_le, N_lt, N_eq, N_leL, L_leN, N_ltL, L_ltN, N_eqL, L_eqN, N_neg, neg_N, N_nlt0, N_0le, N_add, N_addL, L_addN, N_mul, N_mulL, L_mulN, N_sub, N_subL, m_eq, m_ne, u_eq, u_ne, if_true, if_false, ite_true, ite_false, if_pos, if_neg]
      exact ok2.some (Or.inr ⟨_, _, rfl, rfl, Or.inr ⟨rfl, rfl⟩, rfl, rfl⟩)
    · simp (disch := omega) only [rd_N, wr_N, rd_L, wr_L, Option.bind_some, N_le, N_lt, N_eq, N_leL, L_leN, N_ltL, L_ltN, N_eqL, L_eqN, N_neg, neg_N, N_nlt0, N_0le, N_add, N_addL, L_addN, N_mul, N_mulL, L_mulN, N_sub, N_subL, m_eq, m_ne, u_eq, u_ne, if_true, if_false, ite_true, ite_false, if_pos, if_neg]
      obtain ⟨q1, q2, -, q4⟩ := hf k (by omega)
      have inner : ok2 (it FUEL (fun y => st_X9_winningMove_12 55 (Int32.ofNat k) y.1 y.2) (1, s)) (it FUEL (fun y => st_X12_game_17 (Int32.ofNat k) y.1 y.2) (1, t1)) (fun r r' => (r.1 = 0 ∧ r'.1 = 0 ∧ r.2.1 = r'.2.1 ∨ r.1 = 1 ∧ r'.1 = 1) ∧ r.2.2 = s ∧ r'.2.2 = t1) := by
        refine it_ok2 15 (by omega) (fun j y y' => j ≤ f k ∧ y = (Int32.ofNat (j + 1), s) ∧ y' = (Int32.ofNat (j + 1), t1)) ⟨by omega, rfl, rfl⟩ (fun j y y' q => by omega) ?_
        rintro j y y' ⟨hj, rfl, rfl⟩
        dsimp only
        unfold st_X9_winningMove_12 st_X12_game_17
        simp (disch := omega) only [rd_N, wr_N, rd_L, wr_L, Option.bind_some, N_le, N_lt, N_eq, N_leL, L_leN, N_ltL, L_ltN, N_eqL, L_eqN, N_neg, neg_N, N_nlt0, N_0le, N_add, N_addL, L_addN, N_mul, N_mulL, L_mulN, N_sub, N_subL, m_eq, m_ne, u_eq, u_ne, if_true, if_false, ite_true, ite_false, if_pos, if_neg, x_at e1 rfl gl_rows.2.2.2.2.2.2.2.2.2.2.2 hn (by omega), q1, q2]
        by_cases hjf : j = f k
        · simp (disch := omega) only [rd_N, wr_N, rd_L, wr_L, Option.bind_some, N_le, N_lt, N_eq, N_leL, L_leN, N_ltL, L_ltN, N_eqL, L_eqN, N_neg, neg_N, N_nlt0, N_0le, N_add, N_addL, L_addN, N_mul, N_mulL, L_mulN, N_sub, N_subL, m_eq, m_ne, u_eq, u_ne, if_true, if_false, ite_true, ite_false, if_pos, if_neg]
          exact ok2.some (Or.inr ⟨_, _, rfl, rfl, Or.inr ⟨rfl, rfl⟩, rfl, rfl⟩)
        · simp (disch := omega) only [rd_N, wr_N, rd_L, wr_L, Option.bind_some, N_le, N_lt, N_eq, N_leL, L_leN, N_ltL, L_ltN, N_eqL, L_eqN, N_neg, neg_N, N_nlt0, N_0le, N_add, N_addL, L_addN, N_mul, N_mulL, L_mulN, N_sub, N_subL, m_eq, m_ne, u_eq, u_ne, if_true, if_false, ite_true, ite_false, if_pos, if_neg]
          obtain ⟨b, hb, g1, g2⟩ := won k (f k - (j + 1)) (by omega) (by omega)
          rw [g1, g2]
          dsimp only [Option.bind_some]
          rcases hb with rfl | rfl
          · rw [if_neg (by decide), if_pos rfl]
            exact ok2.some (Or.inr ⟨_, _, rfl, rfl, Or.inl ⟨rfl, rfl, rfl⟩, rfl, rfl⟩)
          · rw [if_pos (by decide), if_neg (by decide)]
            exact ok2.some (Or.inl ⟨_, _, rfl, rfl, by omega, rfl, rfl⟩)
      refine inner.bind ?_
      rintro ⟨b, v, s2⟩ ⟨b', v', t2⟩ ⟨hq, q5, q6⟩
      dsimp only at hq q5 q6 ⊢
      subst q5 q6
      rcases hq with ⟨rfl, rfl, rfl⟩ | ⟨rfl, rfl⟩
      · rw [if_pos rfl, if_pos rfl]
        exact ok2.some (Or.inr ⟨_, _, rfl, rfl, Or.inl ⟨rfl, rfl, rfl, rfl⟩, rfl, rfl⟩)
      · rw [if_neg (by decide), if_neg (by decide)]
        exact ok2.some (Or.inl ⟨_, _, rfl, rfl, by omega, rfl, rfl⟩)
  rw [show (1 + 31 + 23 : Nat) = 55 from rfl]
  obtain ⟨⟨b, v, w, s2⟩, ⟨b', v', w', t2⟩, g1, g2, hq, q1, q2⟩ := key
  dsimp only at hq q1 q2
  subst q1 q2
  rw [g1, g2]
  dsimp only [Option.bind_some]
  rcases hq with ⟨rfl, rfl, rfl, rfl⟩ | ⟨rfl, rfl⟩
  · exact opR.ret hG
  · exact opR.ret hG
theorem o_least {x w : Int32} {s t : Mem} (h : GR s t) : opR (f_X11_least x w s) (f_X12_least x w t) := by
  have h1 := GR_told (v := 0) h
  unfold f_X11_least f_X12_least
  generalize mset t 0 0 0 = t1 at *
  clear h
  have hG := h1
  obtain ⟨nn, hL, hX⟩ := h1
  obtain ⟨n, hn, e1, e2, hr⟩ := hX.1.2.2.1
  clear hL hX
  simp only [show (32 + 1 : Nat) = 33 from rfl, show (32 + 1 + 1 : Nat) = 34 from rfl] at e1 hr
  simp only [show (1 + 31 + 1 : Nat) = 33 from rfl, m_isIn, Option.bind_some, e1, e2]
  have no : opR (some ((-1 : Int32), s)) (some (-1, t1)) := opR.ret hG
  have hn0 := N_le0 (m := 16) hn (by omega)
  rw [show Int32.ofNat 16 = 16 from rfl] at hn0
  by_cases hx : 0 ≤ x ∧ x ≤ Int32.ofNat n - 1
  · have hx2 : x < Int32.ofNat n := by grind
    simp only [if_pos hx, show ((1 : Int32) = 0) = False from by decide, if_false, show (x < 0) = False from by simp; grind]
    rw [if_pos hx2]
    obtain ⟨i, ei, hi⟩ := N_of (m := 15) (x := x) hx.1 (by
      have e : Int32.ofNat 15 = 15 := rfl
      grind) (by omega)
    subst ei
    have hin : i < n := by rw [N_lt (by omega) (by omega)] at hx2; exact hx2
    clear hx hx2
    have hi1 := (hr i hin).1
    -- to the right
    have R : ∃ j, i < j ∧ j ≤ n ∧ f_X9_lessToRight 33 (Int32.ofNat i) s = some (Int32.ofNat j, s) ∧ ∀ p2 : Int32, it FUEL (fun y => st_X12_least_73 (Int32.ofNat i) p2 y.1 y.2) (Int32.ofNat i + 1, t1) = some (Int32.ofNat j, t1) := by
      have key : ∀ p2 : Int32, ok2 (it FUEL (fun y => st_X9_lessToRight_4 33 (Int32.ofNat i) y.1 y.2) (Int32.ofNat i + 1, s)) (it FUEL (fun y => st_X12_least_73 (Int32.ofNat i) p2 y.1 y.2) (Int32.ofNat i + 1, t1)) (fun r r' => r.2.2 = s ∧ r'.2 = t1 ∧ ∃ j, i < j ∧ j ≤ n ∧ r'.1 = Int32.ofNat j ∧ ((r.1 = 0 ∧ r.2.1 = Int32.ofNat j) ∨ (r.1 = 1 ∧ j = n)) ∧ ((∀ k, i < k → k < j → t1 21 i ≤ t1 21 k) ∧ (j < n → t1 21 j < t1 21 i))) := by
        intro p2
        refine it_ok2 16 (by omega) (fun k y y' => i + 1 + k ≤ n ∧ y = (Int32.ofNat (i + 1 + k), s) ∧ y' = (Int32.ofNat (i + 1 + k), t1) ∧ ∀ k', i < k' → k' < i + 1 + k → t1 21 i ≤ t1 21 k') ⟨by omega, by rw [N_addL], by rw [N_addL], fun k' h1 h2 => by omega⟩ (fun k y y' q => by omega) ?_
        rintro k y y' ⟨hk, rfl, rfl, hall⟩
        dsimp only
        unfold st_X9_lessToRight_4 st_X12_least_73
        simp only [e1, e2, gl_rows.1, show (33 + 1 : Nat) = 34 from rfl]
        by_cases hkn : i + 1 + k = n
        · simp (disch := omega) only [rd_N, wr_N, rd_L, wr_L, Option.bind_some, N_le, N_lt, N_eq, N_leL, L_leN, N_ltL, L_ltN, N_eqL, L_eqN, N_neg, neg_N, N_nlt0, N_0le, N_add, N_addL, L_addN, N_mul, N_mulL, L_mulN, N_sub, N_subL, m_eq, m_ne, u_eq, u_ne, if_true, if_false, ite_true, ite_false, if_pos, if_neg]
          exact ok2.some (Or.inr ⟨_, _, rfl, rfl, rfl, rfl, i + 1 + k, by omega, by omega, rfl, Or.inr ⟨rfl, hkn⟩, hall, fun q => by omega⟩)
        · simp (disch := omega) only [rd_N, wr_N, rd_L, wr_L, Option.bind_some, N_le, N_lt, N_eq, N_leL, L_leN, N_ltL, L_ltN, N_eqL, L_eqN, N_neg, neg_N, N_nlt0, N_0le, N_add, N_addL, L_addN, N_mul, N_mulL, L_mulN, N_sub, N_subL, m_eq, m_ne, u_eq, u_ne, if_true, if_false, ite_true, ite_false, if_pos, if_neg, x_at e1 rfl gl_rows.1 hn (by omega), (hr (i + 1 + k) (by omega)).1, hi1]
          by_cases hlt : t1 21 (i + 1 + k) < t1 21 i
          · rw [if_neg (show ¬ t1 21 i ≤ t1 21 (i + 1 + k) by grind), if_pos hlt]
            exact ok2.some (Or.inr ⟨_, _, rfl, rfl, rfl, rfl, i + 1 + k, by omega, by omega, rfl, Or.inl ⟨rfl, rfl⟩, hall, fun _ => hlt⟩)
          · rw [if_pos (show t1 21 i ≤ t1 21 (i + 1 + k) by grind), if_neg hlt]
            refine ok2.some (Or.inl ⟨_, _, rfl, rfl, by omega, rfl, rfl, fun k' h1 h2 => ?_⟩)
            by_cases e : k' = i + 1 + k
            · subst e; grind
            · exact hall k' h1 (by omega)
      obtain ⟨⟨b, v, s2⟩, ⟨v', t2⟩, g1, g2, q1, q2, j, h1, h2, h3, h4, h5⟩ := key 0
      dsimp only at q1 q2 h3 h4
      subst q1 q2 h3
      refine ⟨j, h1, h2, ?_, fun p2 => ?_⟩
      · unfold f_X9_lessToRight
        rw [g1]
        dsimp only [Option.bind_some]
        rcases h4 with ⟨rfl, rfl⟩ | ⟨rfl, rfl⟩
        · rfl
        · rw [if_neg (by decide), e1]
      · exact g2
    obtain ⟨j, hij, hjn, R1, R2⟩ := R
    -- to the left
    have L0 : ok2 (f_X9_lessToLeft 33 (Int32.ofNat i) 0 s) (it FUEL (fun y => st_X12_least_36 (Int32.ofNat i) w y.1 y.2) (Int32.ofNat i - 1, t1)) (fun r r' => r.1 = r'.1 ∧ r.2 = s ∧ r'.2 = t1) := by
      have key : ok2 (it FUEL (fun y => st_X9_lessToLeft_5 33 (Int32.ofNat i) 0 y.1 y.2) (Int32.ofNat i - 1, s)) (it FUEL (fun y => st_X12_least_36 (Int32.ofNat i) w y.1 y.2) (Int32.ofNat i - 1, t1)) (fun r r' => r.2.2 = s ∧ r'.2 = t1 ∧ ((r.1 = 0 ∧ r.2.1 = r'.1) ∨ (r.1 = 1 ∧ r'.1 = -1))) := by
        refine it_ok2 16 (by omega) (fun k y y' => k ≤ i ∧ y = (Int32.ofNat (i - k) - 1, s) ∧ y' = (Int32.ofNat (i - k) - 1, t1)) ⟨by omega, rfl, rfl⟩ (fun k y y' q => by omega) ?_
        rintro k y y' ⟨hk, rfl, rfl⟩
        dsimp only
        unfold st_X9_lessToLeft_5 st_X12_least_36
        by_cases hki : k = i
        · rw [show i - k = 0 by omega, if_pos (by decide), if_pos (by decide)]
          exact ok2.some (Or.inr ⟨_, _, rfl, rfl, rfl, rfl, Or.inr ⟨rfl, by dsimp only; decide⟩⟩)
        · rw [N_pred (by omega)]
          simp (disch := omega) only [rd_N, wr_N, rd_L, wr_L, Option.bind_some, N_le, N_lt, N_eq, N_leL, L_leN, N_ltL, L_ltN, N_eqL, L_eqN, N_neg, neg_N, N_nlt0, N_0le, N_add, N_addL, L_addN, N_mul, N_mulL, L_mulN, N_sub, N_subL, m_eq, m_ne, u_eq, u_ne, if_true, if_false, ite_true, ite_false, if_pos, if_neg, x_at e1 rfl gl_rows.1 hn (by omega), (hr (i - k - 1) (by omega)).1, hi1]
          by_cases hlt : t1 21 (i - k - 1) < t1 21 i
          · rw [if_pos hlt, if_pos hlt]
            exact ok2.some (Or.inr ⟨_, _, rfl, rfl, rfl, rfl, Or.inl ⟨rfl, rfl⟩⟩)
          · rw [if_neg hlt, if_neg hlt]
            refine ok2.some (Or.inl ⟨_, _, rfl, rfl, by omega, ?_, ?_⟩)
            · rw [show i - k - 1 = i - (k + 1) by omega]
              have e9 : Int32.ofNat (i - (k + 1)) + (-1) = Int32.ofNat (i - (k + 1)) - 1 := by grind
              rw [e9]
            · rw [show i - k - 1 = i - (k + 1) by omega]
      unfold f_X9_lessToLeft
      obtain ⟨⟨b, v, s2⟩, ⟨v', t2⟩, g1, g2, q1, q2, hq⟩ := key
      dsimp only at q1 q2 hq
      subst q1 q2
      rw [g1]
      dsimp only [Option.bind_some]
      rcases hq with ⟨rfl, rfl⟩ | ⟨rfl, rfl⟩
      · exact ⟨_, _, rfl, g2, rfl, rfl, rfl⟩
      · exact ⟨_, _, rfl, g2, rfl, rfl, rfl⟩
    have L1 : ∀ p4 : Int32, ok2 (f_X9_lessToLeft 33 (Int32.ofNat i) 1 s) (it FUEL (fun y => st_X12_least_133 (Int32.ofNat i) p4 y.1 y.2) (Int32.ofNat i - 1, t1)) (fun r r' => r.1 = r'.1 ∧ r.2 = s ∧ r'.2 = t1) := by
      intro p4
      have key : ok2 (it FUEL (fun y => st_X9_lessToLeft_5 33 (Int32.ofNat i) 1 y.1 y.2) (Int32.ofNat i - 1, s)) (it FUEL (fun y => st_X12_least_133 (Int32.ofNat i) p4 y.1 y.2) (Int32.ofNat i - 1, t1)) (fun r r' => r.2.2 = s ∧ r'.2 = t1 ∧ ((r.1 = 0 ∧ r.2.1 = r'.1) ∨ (r.1 = 1 ∧ r'.1 = -1))) := by
        refine it_ok2 16 (by omega) (fun k y y' => k ≤ i ∧ y = (Int32.ofNat (i - k) - 1, s) ∧ y' = (Int32.ofNat (i - k) - 1, t1)) ⟨by omega, rfl, rfl⟩ (fun k y y' q => by omega) ?_
        rintro k y y' ⟨hk, rfl, rfl⟩
        dsimp only
        unfold st_X9_lessToLeft_5 st_X12_least_133
        by_cases hki : k = i
        · rw [show i - k = 0 by omega, if_pos (by decide), if_pos (by decide)]
          exact ok2.some (Or.inr ⟨_, _, rfl, rfl, rfl, rfl, Or.inr ⟨rfl, by dsimp only; decide⟩⟩)
        · rw [N_pred (by omega)]
          simp (disch := omega) only [rd_N, wr_N, rd_L, wr_L, Option.bind_some, N_le, N_lt, N_eq, N_leL, L_leN, N_ltL, L_ltN, N_eqL, L_eqN, N_neg, neg_N, N_nlt0, N_0le, N_add, N_addL, L_addN, N_mul, N_mulL, L_mulN, N_sub, N_subL, m_eq, m_ne, u_eq, u_ne, if_true, if_false, ite_true, ite_false, if_pos, if_neg, x_at e1 rfl gl_rows.1 hn (by omega), (hr (i - k - 1) (by omega)).1, hi1]
          rw [if_neg (show ¬ ((1 : Int32) = 0) by decide)]
          have e9 : Int32.ofNat (i - k - 1) + (-1) = Int32.ofNat (i - k - 1) - 1 := by grind
          have next : ok2 (some (Sum.inl (Int32.ofNat (i - k - 1) + (-1), s)) : Option ((Int32 × Mem) ⊕ (Nat × Int32 × Mem))) (some (Sum.inl (Int32.ofNat (i - k - 1) - 1, t1)) : Option ((Int32 × Mem) ⊕ (Int32 × Mem))) (fun q q' => (∃ s' t', q = Sum.inl s' ∧ q' = Sum.inl t' ∧ k + 1 ≤ i ∧ s' = (Int32.ofNat (i - (k + 1)) - 1, s) ∧ t' = (Int32.ofNat (i - (k + 1)) - 1, t1)) ∨ (∃ b b', q = Sum.inr b ∧ q' = Sum.inr b' ∧ b.2.2 = s ∧ b'.2 = t1 ∧ ((b.1 = 0 ∧ b.2.1 = b'.1) ∨ (b.1 = 1 ∧ b'.1 = -1)))) := by
            rw [e9, show i - k - 1 = i - (k + 1) by omega]
            exact ok2.some (Or.inl ⟨_, _, rfl, rfl, by omega, rfl, rfl⟩)
          by_cases hlt : t1 21 (i - k - 1) < t1 21 i
          · rw [if_pos hlt, if_pos (show t1 21 (i - k - 1) ≤ t1 21 i by grind)]
            exact ok2.some (Or.inr ⟨_, _, rfl, rfl, rfl, rfl, Or.inl ⟨rfl, rfl⟩⟩)
          · rw [if_neg hlt]
            by_cases heq : t1 21 (i - k - 1) = t1 21 i
            · rw [if_pos heq, if_pos (show t1 21 (i - k - 1) ≤ t1 21 i by grind)]
              exact ok2.some (Or.inr ⟨_, _, rfl, rfl, rfl, rfl, Or.inl ⟨rfl, rfl⟩⟩)
            · rw [if_neg heq, if_neg (show ¬ t1 21 (i - k - 1) ≤ t1 21 i by grind)]
              exact next
      unfold f_X9_lessToLeft
      obtain ⟨⟨b, v, s2⟩, ⟨v', t2⟩, g1, g2, q1, q2, hq⟩ := key
      dsimp only at q1 q2 hq
      subst q1 q2
      rw [g1]
      dsimp only [Option.bind_some]
      rcases hq with ⟨rfl, rfl⟩ | ⟨rfl, rfl⟩
      · exact ⟨_, _, rfl, g2, rfl, rfl, rfl⟩
      · exact ⟨_, _, rfl, g2, rfl, rfl, rfl⟩
    rw [R1]
    dsimp only [Option.bind_some]
    simp only [e1]
    unfold jn_X12_least_62 jn_X12_least_107 jn_X12_least_163
    by_cases hw : 0 ≤ w ∧ w ≤ 2
    · simp only [if_pos hw, show ((1 : Int32) = 0) = False from by decide, if_false]
      obtain ⟨⟨v, s2⟩, ⟨v', t2⟩, g1, g2, q1, q2, q3⟩ := L0
      dsimp only at q1 q2 q3
      subst q1 q2 q3
      rw [g2]
      dsimp only [Option.bind_some]
      by_cases w0 : w = 0
      · subst w0
        rw [if_pos rfl, if_pos rfl, g1]
        exact opR.ret hG
      · rw [if_neg w0, if_neg w0, R2]
        dsimp only [Option.bind_some]
        by_cases w1 : w = 1
        · rw [if_pos w1, if_pos w1]
          simp only [e2]
          split
          · exact opR.ret hG
          · exact opR.ret hG
        · rw [if_neg w1, if_neg w1, if_pos (show w = 2 by grind)]
          obtain ⟨⟨v2, s3⟩, ⟨v3, t3⟩, g3, g4, q1, q2, q3⟩ := L1 (Int32.ofNat j)
          dsimp only at q1 q2 q3
          subst q1 q2 q3
          rw [g3, g4]
          exact opR.ret hG
    · simp only [if_neg hw, if_true]
      rw [if_neg (show ¬ w = 0 by grind), if_neg (show ¬ w = 1 by grind), if_neg (show ¬ w = 2 by grind)]
      exact no
  · simp only [if_neg hx, if_true]
    by_cases h0 : x < 0
    · rw [if_pos h0]; exact no
    · rw [if_neg h0, if_neg (show ¬ x < Int32.ofNat n by grind)]; exact no
