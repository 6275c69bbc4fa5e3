/-! ===== queries: gossip, game, least ===== -/
theorem m_has {a k : Nat} {t : Mem} (ha : a < 2147483648) (hk : k < 32) : f_X12_has (Int32.ofNat a) (Int32.ofNat k) t = some (if a.testBit k then 1 else 0, t) := by
  unfold f_X12_has
  rw [N_bit ha hk]
  by_cases h : a.testBit k = true
  · rw [if_pos h, if_pos rfl]
  · rw [if_neg h, if_neg (by decide)]
theorem gl_rows : gL 0 34 = 16 ∧ gL 0 36 = 10 ∧ gL 0 38 = 10 ∧ gL 0 40 = 10 ∧ gL 0 42 = 14 ∧ gL 0 44 = 14 ∧ gL 0 46 = 14 ∧ gL 0 48 = 6 ∧ gL 0 50 = 6 ∧ gL 0 52 = 6 ∧ gL 0 54 = 8 ∧ gL 0 56 = 4 := by decide +kernel
theorem row_N {cap hi : Nat} {lo : Int32} {s : Mem} {rc : Nat} {x : Int32} {m : Nat → Int32} (h : rowR cap s rc x m lo (Int32.ofNat hi)) (h0 : 0 ≤ lo) (hhi : hi < 1000) : ∃ (n : Nat) (f : Nat → Nat), n ≤ cap ∧ s rc 1 = Int32.ofNat n ∧ x = Int32.ofNat n ∧ ∀ i, i < n → s (rc + 1) i = Int32.ofNat (f i) ∧ m i = Int32.ofNat (f i) ∧ lo ≤ Int32.ofNat (f i) ∧ f i ≤ hi := by
  obtain ⟨n, h1, h2, h3, h4⟩ := h
  refine ⟨n, fun i => (m i).toNatClampNeg, h1, h2, h3, fun i hin => ?_⟩
  obtain ⟨q1, q2, q3⟩ := h4 i hin
  obtain ⟨k, ek, hk⟩ := N_of (x := m i) (m := hi) (by grind) q3 (by omega)
  dsimp only
  rw [ek, N_nat (by omega)]
  exact ⟨q1.trans ek, rfl, by rw [← ek]; exact q2, hk⟩
theorem row_M {cap hi n : Nat} {lo : Int32} {s : Mem} {rc : Nat} {x : Int32} {m : Nat → Int32} (h : rowR cap s rc x m lo (Int32.ofNat hi)) (h0 : 0 ≤ lo) (hhi : hi < 1000) (hcap : cap < 1000) (hn : n < 1000) (hx : x = Int32.ofNat n) : ∃ f : Nat → Nat, s rc 1 = Int32.ofNat n ∧ ∀ i, i < n → s (rc + 1) i = Int32.ofNat (f i) ∧ m i = Int32.ofNat (f i) ∧ lo ≤ Int32.ofNat (f i) ∧ f i ≤ hi := by
  obtain ⟨k, f, h1, h2, h3, h4⟩ := row_N h h0 hhi
  rw [h3, N_eq (by omega) (by omega)] at hx
  subst hx
  exact ⟨f, h2, h4⟩
theorem o_gossip {x y w : Int32} {s t : Mem} (h : GR s t) : opR (f_X11_gossip x y w s) (f_X12_gossip x y w t) := by
  have h1 := GR_told (v := 0) h
  unfold f_X11_gossip f_X12_gossip f_X11_areTwoPlaces jn_X11_gossip_42
  generalize mset t 0 0 0 = t1 at *
  clear h
  have hG := h1
  obtain ⟨nn, hL, hX⟩ := h1
  obtain ⟨r6, r7, r8⟩ := hX.1.2.2.2.2.1
  clear hL hX
  obtain ⟨n, fa, hn, e1, e2, ha⟩ := row_N (hi := 5) r6 (by decide) (by omega)
  obtain ⟨fb, e3, hb⟩ := row_M (hi := 5) (n := n) r7 (by decide) (by omega) (by omega) (by omega) e2
  obtain ⟨fc, e4, hc⟩ := row_M (hi := 20) (n := n) r8 (by decide) (by omega) (by omega) (by omega) e2
  simp only [show (32 + 9 : Nat) = 41 from rfl, show (32 + 11 : Nat) = 43 from rfl, show (32 + 13 : Nat) = 45 from rfl, show (32 + 9 + 1 : Nat) = 42 from rfl, show (32 + 11 + 1 : Nat) = 44 from rfl, show (32 + 13 + 1 : Nat) = 46 from rfl] at e1 e3 e4 ha hb hc
  clear r6 r7 r8
  have no : opR (some ((-1 : Int32), s)) (some (-1, t1)) := opR.ret hG
  -- one cut
  have hcut : ∀ (w' : Nat), w' < 2 → ∀ k, k < 64 → ∀ (p1 p2 p4 : Int32), ∃ S, S ≤ 280 ∧ f_X9_cut 32 (Int32.ofNat k) (Int32.ofNat w') s = some (Int32.ofNat S, s) ∧ it FUEL (fun y => st_X12_gossip_86 p1 p2 (Int32.ofNat w') p4 (Int32.ofNat k) y.1 y.2.1 y.2.2) (0, 0, t1) = some (Int32.ofNat S, t1) := by
    intro w' hw' k hk p1 p2 p4
    have key : ok2 (it FUEL (fun y => st_X9_cut_6 32 (Int32.ofNat k) (Int32.ofNat w') y.1 y.2.1 y.2.2) (0, 0, s)) (it FUEL (fun y => st_X12_gossip_86 p1 p2 (Int32.ofNat w') p4 (Int32.ofNat k) y.1 y.2.1 y.2.2) (0, 0, t1)) (fun r r' => ∃ S, S ≤ 280 ∧ r = (Int32.ofNat S, s) ∧ r' = (Int32.ofNat S, t1)) := by
      refine it_ok2 14 (by omega) (fun i y y' => i ≤ n ∧ ∃ S, S ≤ 20 * i ∧ y = (Int32.ofNat S, Int32.ofNat i, s) ∧ y' = (Int32.ofNat S, Int32.ofNat i, t1)) ⟨by omega, 0, by omega, rfl, rfl⟩ (fun i y y' q => by omega) ?_
      rintro i y y' ⟨hi, S, hS, rfl, rfl⟩
      dsimp only
      unfold st_X9_cut_6 st_X12_gossip_86 jn_X9_cut_55 jn_X9_cut_56
      simp only [show (32 + 9 : Nat) = 41 from rfl, show (32 + 11 : Nat) = 43 from rfl, show (32 + 13 : Nat) = 45 from rfl, show (41 + 1 : Nat) = 42 from rfl, show (43 + 1 : Nat) = 44 from rfl, show (45 + 1 : Nat) = 46 from rfl, gl_rows.2.2.2.2.1, gl_rows.2.2.2.2.2.1, gl_rows.2.2.2.2.2.2.1, e1, e2]
      by_cases hin : i = n
      · subst hin
        simp (disch := omega) only [rd_N, wr_N, rd_L, wr_L, Option.bind_some, N_le, N_lt, N_eq, N_leL, L_leN, N_ltL, L_ltN, N_eqL, L_eqN, N_neg, neg_N, N_nlt0, N_0le, N_add, N_addL, L_addN, N_mul, N_mulL, L_mulN, N_sub, N_subL, m_eq, m_ne, u_eq, u_ne, if_true, if_false, ite_true, ite_false, if_pos, if_neg]
        exact ok2.some (Or.inr ⟨_, _, rfl, rfl, S, by omega, rfl, rfl⟩)
      · obtain ⟨a1, a2, -, a4⟩ := ha i (by omega)
        obtain ⟨b1, b2, -, b4⟩ := hb i (by omega)
        obtain ⟨c1, c2, -, c4⟩ := hc i (by omega)
        simp (disch := omega) only [rd_N, wr_N, rd_L, wr_L, Option.bind_some, N_le, N_lt, N_eq, N_leL, L_leN, N_ltL, L_ltN, N_eqL, L_eqN, N_neg, neg_N, N_nlt0, N_0le, N_add, N_addL, L_addN, N_mul, N_mulL, L_mulN, N_sub, N_subL, m_eq, m_ne, u_eq, u_ne, if_true, if_false, ite_true, ite_false, if_pos, if_neg, x_at e1 rfl gl_rows.2.2.2.2.1 hn (by omega), x_at e3 rfl gl_rows.2.2.2.2.2.1 hn (by omega), x_at e4 rfl gl_rows.2.2.2.2.2.2.1 hn (by omega), a1, a2, b1, b2, N_bit, m_has]
        by_cases ta : k.testBit (fa i) = true
        · simp only [if_pos ta, if_true, show ((1 : Int32) = 0) = False from by decide, if_false]
          by_cases tb : k.testBit (fb i) = true
          · simp only [if_pos tb, show ((1 : Int32) = 0) = False from by decide, if_false, if_true]
            exact ok2.some (Or.inl ⟨_, _, rfl, rfl, by omega, S, by omega, rfl, rfl⟩)
          · simp only [if_neg tb, show ((1 : Int32) = 0) = False from by decide, if_false, if_true]
            by_cases hw0 : w' = 0
            · subst hw0
              simp (disch := omega) only [rd_N, wr_N, rd_L, wr_L, Option.bind_some, N_le, N_lt, N_eq, N_leL, L_leN, N_ltL, L_ltN, N_eqL, L_eqN, N_neg, neg_N, N_nlt0, N_0le, N_add, N_addL, L_addN, N_mul, N_mulL, L_mulN, N_sub, N_subL, m_eq, m_ne, u_eq, u_ne, if_true, if_false, ite_true, ite_false, if_pos, if_neg, x_at e4 rfl gl_rows.2.2.2.2.2.2.1 hn (by omega), c1, c2]
              exact ok2.some (Or.inl ⟨_, _, rfl, rfl, by omega, S + fc i, by omega, rfl, rfl⟩)
            · simp (disch := omega) only [rd_N, wr_N, rd_L, wr_L, Option.bind_some, N_le, N_lt, N_eq, N_leL, L_leN, N_ltL, L_ltN, N_eqL, L_eqN, N_neg, neg_N, N_nlt0, N_0le, N_add, N_addL, L_addN, N_mul, N_mulL, L_mulN, N_sub, N_subL, m_eq, m_ne, u_eq, u_ne, if_true, if_false, ite_true, ite_false, if_pos, if_neg]
              exact ok2.some (Or.inl ⟨_, _, rfl, rfl, by omega, S + 1, by omega, rfl, rfl⟩)
        · simp only [if_neg ta, show ((0 : Int32) = 1) = False from by decide, if_false, if_true]
          exact ok2.some (Or.inl ⟨_, _, rfl, rfl, by omega, S, by omega, rfl, rfl⟩)
    obtain ⟨r, r', g1, g2, S, hS, rfl, rfl⟩ := key
    refine ⟨S, hS, ?_, g2⟩
    unfold f_X9_cut
    rw [g1]
    rfl
  -- all of them
  have hall : ∀ (w' : Nat), w' < 2 → ∀ p q, p < 6 → q < 6 → p ≠ q → opR (f_X9_leastCut 32 (Int32.ofNat p) (Int32.ofNat q) (Int32.ofNat w') s) ((it FUEL (fun y => st_X12_gossip_50 (Int32.ofNat p) (Int32.ofNat q) (Int32.ofNat w') y.1 y.2.1 y.2.2) (100000000, 0, t1)).bind fun r24 => some (r24.1, r24.2)) := by
    intro w' hw' p q hp hq hpq
    unfold f_X9_leastCut
    have key : ok2 (it FUEL (fun y => st_X9_leastCut_8 32 (Int32.ofNat p) (Int32.ofNat q) (Int32.ofNat w') y.1 y.2.1 y.2.2) (280, 0, s)) (it FUEL (fun y => st_X12_gossip_50 (Int32.ofNat p) (Int32.ofNat q) (Int32.ofNat w') y.1 y.2.1 y.2.2) (100000000, 0, t1)) (fun r r' => r.1 = r'.1 ∧ r.2 = s ∧ r'.2 = t1) := by
      refine it_ok2 64 (by omega) (fun k y y' => k ≤ 64 ∧ ∃ a b : Nat, a = min 280 b ∧ b ≤ 100000000 ∧ (2 ^ p < k → b ≤ 280) ∧ y = (Int32.ofNat a, Int32.ofNat k, s) ∧ y' = (Int32.ofNat b, Int32.ofNat k, t1)) ⟨by omega, 280, 100000000, by omega, by omega, fun q => absurd q (Nat.not_lt_zero _), rfl, rfl⟩ (fun k y y' q => q.1) ?_
      rintro k y y' ⟨hk, a, b, hab, hb1, hf, rfl, rfl⟩
      dsimp only
      unfold st_X9_leastCut_8 st_X12_gossip_50
      by_cases hk64 : k = 64
      · subst hk64
        rw [if_pos (by decide), if_pos (by decide)]
        have hp2 : 2 ^ p < 64 := Nat.lt_of_lt_of_le (Nat.pow_lt_pow_right (a := 2) (by omega) hp) (by decide)
        have := hf hp2
        exact ok2.some (Or.inr ⟨_, _, rfl, rfl, by dsimp only; rw [hab, Nat.min_eq_right this], rfl, rfl⟩)
      · simp (disch := omega) only [rd_N, wr_N, rd_L, wr_L, Option.bind_some, N_le, N_lt, N_eq, N_leL, L_leN, N_ltL, L_ltN, N_eqL, L_eqN, N_neg, neg_N, N_nlt0, N_0le, N_add, N_addL, L_addN, N_mul, N_mulL, L_mulN, N_sub, N_subL, m_eq, m_ne, u_eq, u_ne, if_true, if_false, ite_true, ite_false, if_pos, if_neg, N_bit, m_has]
        by_cases ta : k.testBit p = true
        · simp only [if_pos ta, if_true, show ((1 : Int32) = 0) = False from by decide, if_false]
          by_cases tb : k.testBit q = true
          · simp only [if_pos tb, show ((1 : Int32) = 0) = False from by decide, if_false]
            refine ok2.some (Or.inl ⟨_, _, rfl, rfl, by omega, a, b, hab, hb1, fun q1 => ?_, rfl, rfl⟩)
            by_cases e : k = 2 ^ p
            · exfalso
              rw [e, Nat.testBit_two_pow] at tb
              simp at tb
              exact hpq tb
            · exact hf (by omega)
          · simp only [if_neg tb, if_true]
            obtain ⟨S, hS, g1, g2⟩ := hcut w' hw' k (by omega) (Int32.ofNat p) (Int32.ofNat q) (Int32.ofNat b)
            rw [g1, g2]
            dsimp only [Option.bind_some]
            rw [m_lesser]
            have j1 : ∀ u v, u < 2147483648 → v < 2147483648 → jmmin (Int32.ofNat u) (Int32.ofNat v) = Int32.ofNat (min u v) := by
              intro u v hu hv
              unfold jmmin
              simp (disch := omega) only [rd_N, wr_N, rd_L, wr_L, Option.bind_some, N_le, N_lt, N_eq, N_leL, L_leN, N_ltL, L_ltN, N_eqL, L_eqN, N_neg, neg_N, N_nlt0, N_0le, N_add, N_addL, L_addN, N_mul, N_mulL, L_mulN, N_sub, N_subL, m_eq, m_ne, u_eq, u_ne, if_true, if_false, ite_true, ite_false, if_pos, if_neg]
              by_cases q1 : v < u
              · rw [if_pos q1, Nat.min_eq_right (by omega)]
              · rw [if_neg q1, Nat.min_eq_left (by omega)]
            rw [j1 _ _ (by omega) (by omega), j1 _ _ (by omega) (by omega)]
            exact ok2.some (Or.inl ⟨_, _, rfl, rfl, by omega, min a S, min b S, by omega, by omega, fun _ => by omega, rfl, rfl⟩)
        · simp only [if_neg ta, show ((0 : Int32) = 1) = False from by decide, if_false, if_true]
          refine ok2.some (Or.inl ⟨_, _, rfl, rfl, by omega, a, b, hab, hb1, fun q1 => ?_, rfl, rfl⟩)
          by_cases e : k = 2 ^ p
          · exfalso
            apply ta
            rw [e, Nat.testBit_two_pow]
            simp
          · exact hf (by omega)
    obtain ⟨⟨v, s2⟩, ⟨v', t2⟩, g1, g2, q1, q2, q3⟩ := key
    dsimp only at q1 q2 q3
    subst q1 q2 q3
    rw [g1, g2]
    exact opR.ret hG
  simp only [m_isIn, Option.bind_some, show (1 + 31 : Nat) = 32 from rfl]
  by_cases hx : 0 ≤ x ∧ x ≤ 5
  · simp only [if_pos hx, show ((1 : Int32) = 0) = False from by decide, if_false, show (x < 0) = False from by simp; grind, show (5 < x) = False from by simp; grind]
    by_cases hy : 0 ≤ y ∧ y ≤ 5
    · simp only [if_pos hy, show ((1 : Int32) = 0) = False from by decide, if_false, show (y < 0) = False from by simp; grind, show (5 < y) = False from by simp; grind]
      by_cases hxy : x = y
      · simp only [if_pos hxy, Option.bind_some, if_true]
        exact no
      · simp only [if_neg hxy, Option.bind_some, show ((1 : Int32) = 0) = False from by decide, if_false]
        obtain ⟨p, ep, hp⟩ := N_of (m := 5) hx.1 hx.2 (by omega)
        obtain ⟨q, eq, hq⟩ := N_of (m := 5) hy.1 hy.2 (by omega)
        subst ep eq
        have hpq : p ≠ q := fun e => hxy (by rw [e])
        by_cases w0 : w = 0
        · subst w0
          have g := hall 0 (by omega) p q (by omega) (by omega) hpq
          rw [if_neg (show ¬ ((0 : Int32) < 0) by decide), if_pos (show (0 : Int32) ≤ 1 by decide), if_neg (show ¬ ((0 : Int32) = 1) by decide), if_pos (show (0 : Int32) ≤ 0 ∧ (0 : Int32) ≤ 1 by decide), if_neg (show ¬ ((1 : Int32) = 0) by decide)]
          obtain ⟨⟨v, s2⟩, r', g1, g2, g3⟩ := g
          exact ⟨(v, s2), r', by rw [show (0 : Int32) = Int32.ofNat 0 from rfl, g1]; rfl, g2, g3⟩
        · by_cases w1 : w = 1
          · subst w1
            have g := hall 1 (by omega) p q (by omega) (by omega) hpq
            rw [if_neg (show ¬ ((1 : Int32) < 0) by decide), if_pos (show (1 : Int32) ≤ 1 by decide), if_pos (show ((1 : Int32) = 1) by decide), if_pos (show (0 : Int32) ≤ 1 ∧ (1 : Int32) ≤ 1 by decide), if_neg (show ¬ ((1 : Int32) = 0) by decide)]
            obtain ⟨⟨v, s2⟩, r', g1, g2, g3⟩ := g
            exact ⟨(v, s2), r', by rw [show (1 : Int32) = Int32.ofNat 1 from rfl, g1]; rfl, g2, g3⟩
          · rw [if_neg (show ¬ (0 ≤ w ∧ w ≤ 1) by grind), if_pos (rfl : (0 : Int32) = 0)]
            by_cases h0 : w < 0
            · rw [if_pos h0]; exact no
            · rw [if_neg h0, if_neg (show ¬ w ≤ 1 by grind)]; exact no
    · simp only [if_neg hy, if_true]
      by_cases h4 : y < 0
      · simp only [if_pos h4, Option.bind_some, if_true]; exact no
      · simp only [if_neg h4, if_pos (show 5 < y by grind), Option.bind_some, if_true]; exact no
  · simp only [if_neg hx, if_true]
    by_cases h4 : x < 0
    · simp only [if_pos h4, Option.bind_some, if_true]; exact no
    · simp only [if_neg h4, if_pos (show 5 < x by grind), Option.bind_some, if_true]; exact no
