/-! ===== queries: tongues, hics ===== -/
theorem half_lt {r b k m : Nat} (h : r < 2 ^ (m - k)) (hk : k < m) (hb : 2 ≤ b) : r / b < 2 ^ (m - (k + 1)) := by
  have e : 2 ^ (m - k) = 2 * 2 ^ (m - (k + 1)) := by
    rw [show m - k = (m - (k + 1)) + 1 by omega, Nat.pow_succ]
    omega
  rw [Nat.div_lt_iff_lt_mul (by omega)]
  have : 2 ^ (m - (k + 1)) * 2 ≤ 2 ^ (m - (k + 1)) * b := Nat.mul_le_mul_left _ hb
  omega
theorem r_digsum {n b : Nat} {s t : Mem} (hn : n ≤ 9999) (hb : 2 ≤ b) (hb2 : b ≤ 16) : ∃ v, f_X2_digitSum (Int32.ofNat n) (Int32.ofNat b) s = some (v, s) ∧ (it FUEL (fun y => st_X12_tongues_109 (Int32.ofNat b) y.1 y.2.1 y.2.2) (0, Int32.ofNat n, t)) = some (v, t) := by
  have key : ok2 (it FUEL (fun y => st_X2_digitSum_7 (Int32.ofNat b) y.1 y.2.1 y.2.2.1 y.2.2.2) (0, Int32.ofNat n, 0, s)) (it FUEL (fun y => st_X12_tongues_109 (Int32.ofNat b) y.1 y.2.1 y.2.2) (0, Int32.ofNat n, t)) (fun r r' => r.1 = r'.1 ∧ r.2 = s ∧ r'.2 = t) := by
    refine it_ok2 14 (by omega) (fun k y y' => ∃ r, k ≤ 14 ∧ r < 2 ^ (14 - k) ∧ y.1 = y'.1 ∧ y.2 = (Int32.ofNat r, Int32.ofNat k, s) ∧ y'.2 = (Int32.ofNat r, t)) ⟨n, by omega, by omega, rfl, rfl, rfl⟩ (fun k y y' q => by obtain ⟨_, q, _⟩ := q; exact q) ?_
    rintro k ⟨v, y⟩ ⟨v', y'⟩ ⟨r, hk, hr, z1, z2, z3⟩
    dsimp only at z1 z2 z3
    subst z1 z2 z3
    dsimp only
    have hr2 : r < 2 ^ 14 := Nat.lt_of_lt_of_le hr (Nat.pow_le_pow_right (by omega) (by omega))
    unfold st_X2_digitSum_7 st_X12_tongues_109
    simp (disch := omega) only [rd_N, wr_N, rd_L, wr_L, Option.bind_some, N_le, N_lt, N_eq, N_leL, L_leN, N_ltL, L_ltN, N_eqL, L_eqN, N_neg, neg_N, N_nlt0, N_0le, N_add, N_addL, L_addN, N_mul, N_mulL, L_mulN, N_sub, N_subL, m_eq, m_ne, u_eq, u_ne, if_true, if_false, ite_true, ite_false, if_pos, if_neg, N_mod, N_div]
    by_cases hr0 : r = 0
    · subst hr0
      simp (disch := omega) only [rd_N, wr_N, rd_L, wr_L, Option.bind_some, N_le, N_lt, N_eq, N_leL, L_leN, N_ltL, L_ltN, N_eqL, L_eqN, N_neg, neg_N, N_nlt0, N_0le, N_add, N_addL, L_addN, N_mul, N_mulL, L_mulN, N_sub, N_subL, m_eq, m_ne, u_eq, u_ne, if_true, if_false, ite_true, ite_false, if_pos, if_neg]
      exact ok2.some (Or.inr ⟨_, _, rfl, rfl, rfl, rfl, rfl⟩)
    · have hk14 : k < 14 := by
        rcases Nat.lt_or_ge k 14 with q | q
        · exact q
        · rw [show 14 - k = 0 by omega] at hr
          omega
      simp (disch := omega) only [rd_N, wr_N, rd_L, wr_L, Option.bind_some, N_le, N_lt, N_eq, N_leL, L_leN, N_ltL, L_ltN, N_eqL, L_eqN, N_neg, neg_N, N_nlt0, N_0le, N_add, N_addL, L_addN, N_mul, N_mulL, L_mulN, N_sub, N_subL, m_eq, m_ne, u_eq, u_ne, if_true, if_false, ite_true, ite_false, if_pos, if_neg]
      exact ok2.some (Or.inl ⟨_, _, rfl, rfl, r / b, by omega, half_lt hr hk14 hb, rfl, rfl, rfl⟩)
  obtain ⟨⟨v, s2⟩, ⟨v', t2⟩, g1, g2, q1, q2, q3⟩ := key
  dsimp only at q1 q2 q3
  subst q1 q2 q3
  refine ⟨v, ?_, g2⟩
  unfold f_X2_digitSum
  rw [g1]
  rfl
theorem r_alike {n b : Nat} {s t : Mem} (hn : n ≤ 9999) (hb : 2 ≤ b) (hb2 : b ≤ 16) : ∃ v, f_X2_readsAlike (Int32.ofNat n) (Int32.ofNat b) s = some (if v = Int32.ofNat n then 1 else 0, s) ∧ f_X12_turnedIn (Int32.ofNat n) (Int32.ofNat b) t = some (v, t) := by
  have key : ok2 (it FUEL (fun y => st_X2_readsAlike_7 (Int32.ofNat n) (Int32.ofNat b) y.1 y.2.1 y.2.2.1 y.2.2.2) (0, Int32.ofNat n, 0, s)) (it FUEL (fun y => st_X12_turnedIn_5 (Int32.ofNat b) y.1 y.2.1 y.2.2) (0, Int32.ofNat n, t)) (fun r r' => r.1 = r'.1 ∧ r.2 = s ∧ r'.2 = t) := by
    refine it_ok2 14 (by omega) (fun k y y' => ∃ r, k ≤ 14 ∧ r < 2 ^ (14 - k) ∧ y.1 = y'.1 ∧ y.2 = (Int32.ofNat r, Int32.ofNat k, s) ∧ y'.2 = (Int32.ofNat r, t)) ⟨n, by omega, by omega, rfl, rfl, rfl⟩ (fun k y y' q => by obtain ⟨_, q, _⟩ := q; exact q) ?_
    rintro k ⟨v, y⟩ ⟨v', y'⟩ ⟨r, hk, hr, z1, z2, z3⟩
    dsimp only at z1 z2 z3
    subst z1 z2 z3
    dsimp only
    have hr2 : r < 2 ^ 14 := Nat.lt_of_lt_of_le hr (Nat.pow_le_pow_right (by omega) (by omega))
    unfold st_X2_readsAlike_7 st_X12_turnedIn_5
    simp (disch := omega) only [rd_N, wr_N, rd_L, wr_L, Option.bind_some, N_le, N_lt, N_eq, N_leL, L_leN, N_ltL, L_ltN, N_eqL, L_eqN, N_neg, neg_N, N_nlt0, N_0le, N_add, N_addL, L_addN, N_mul, N_mulL, L_mulN, N_sub, N_subL, m_eq, m_ne, u_eq, u_ne, if_true, if_false, ite_true, ite_false, if_pos, if_neg, N_mod, N_div]
    by_cases hr0 : r = 0
    · subst hr0
      simp (disch := omega) only [rd_N, wr_N, rd_L, wr_L, Option.bind_some, N_le, N_lt, N_eq, N_leL, L_leN, N_ltL, L_ltN, N_eqL, L_eqN, N_neg, neg_N, N_nlt0, N_0le, N_add, N_addL, L_addN, N_mul, N_mulL, L_mulN, N_sub, N_subL, m_eq, m_ne, u_eq, u_ne, if_true, if_false, ite_true, ite_false, if_pos, if_neg]
      exact ok2.some (Or.inr ⟨_, _, rfl, rfl, rfl, rfl, rfl⟩)
    · have hk14 : k < 14 := by
        rcases Nat.lt_or_ge k 14 with q | q
        · exact q
        · rw [show 14 - k = 0 by omega] at hr
          omega
      simp (disch := omega) only [rd_N, wr_N, rd_L, wr_L, Option.bind_some, N_le, N_lt, N_eq, N_leL, L_leN, N_ltL, L_ltN, N_eqL, L_eqN, N_neg, neg_N, N_nlt0, N_0le, N_add, N_addL, L_addN, N_mul, N_mulL, L_mulN, N_sub, N_subL, m_eq, m_ne, u_eq, u_ne, if_true, if_false, ite_true, ite_false, if_pos, if_neg]
      exact ok2.some (Or.inl ⟨_, _, rfl, rfl, r / b, by omega, half_lt hr hk14 hb, rfl, rfl, rfl⟩)
  obtain ⟨⟨v, s2⟩, ⟨v', t2⟩, g1, g2, q1, q2, q3⟩ := key
  dsimp only at q1 q2 q3
  subst q1 q2 q3
  refine ⟨v, ?_, ?_⟩
  · unfold f_X2_readsAlike jn_X2_readsAlike_41
    rw [g1]
    dsimp only [Option.bind_some]
    split <;> rfl
  · unfold f_X12_turnedIn
    rw [g2]
    rfl
theorem o_tongues {x b w : Int32} {s t : Mem} (h : GR s t) : opR (f_X11_tongues x b w s) (f_X12_tongues x b w t) := by
  have h1 := GR_told (v := 0) h
  unfold f_X11_tongues f_X12_tongues
  generalize mset t 0 0 0 = t1 at *
  clear h
  have hG := h1
  have no : opR (some ((-1 : Int32), s)) (some (-1, t1)) := opR.ret hG
  simp only [m_isIn, Option.bind_some]
  unfold jn_X12_tongues_45
  by_cases hx : 1 ≤ x ∧ x ≤ 9999
  · simp only [if_pos hx, show ((1 : Int32) = 0) = False from by decide, if_false, show (x < 1) = False from by simp; grind, show (9999 < x) = False from by simp; grind]
    obtain ⟨n, en, hn⟩ := N_of (m := 9999) (x := x) (by grind) hx.2 (by omega)
    subst en
    by_cases hw : 0 ≤ w ∧ w ≤ 2
    · simp only [if_pos hw, show ((1 : Int32) = 0) = False from by decide, if_false, show (w < 0) = False from by simp; grind]
      rw [if_pos hw.2]
      by_cases w2 : w = 2
      · subst w2
        rw [if_pos rfl, if_pos (show (2 : Int32) ≤ 2 by decide), if_neg (show ¬ ((2 : Int32) = 1) by decide), if_pos rfl]
        have key : ok2 (it FUEL (fun y => st_X2_leastAlikeBase_2 (Int32.ofNat n) y.1 y.2) (2, s)) (it FUEL (fun y => st_X12_tongues_74 (Int32.ofNat n) y.1 y.2) (2, t1)) (fun r r' => r.1 = r'.1 ∧ r.2.1 = r'.2.1 ∧ r.2.2 = s ∧ r'.2.2 = t1) := by
          refine it_ok2 15 (by omega) (fun k y y' => k ≤ 15 ∧ y = (Int32.ofNat (2 + k), s) ∧ y' = (Int32.ofNat (2 + k), t1)) ⟨by omega, rfl, rfl⟩ (fun k y y' q => q.1) ?_
          rintro k y y' ⟨hk, rfl, rfl⟩
          dsimp only
          unfold st_X2_leastAlikeBase_2 st_X12_tongues_74
          by_cases hk15 : k = 15
          · subst hk15
            rw [if_pos (by decide), if_pos (by decide)]
            exact ok2.some (Or.inr ⟨_, _, rfl, rfl, rfl, rfl, rfl, rfl⟩)
          · rw [if_neg (show ¬ (16 : Int32) < Int32.ofNat (2 + k) by rw [L_ltN (by omega) (by omega)]; omega), if_neg (show ¬ (17 : Int32) ≤ Int32.ofNat (2 + k) by rw [L_leN (by omega) (by omega)]; omega)]
            obtain ⟨v, g1, g2⟩ := r_alike (s := s) (t := t1) hn (show 2 ≤ 2 + k by omega) (by omega)
            rw [g1, g2]
            dsimp only [Option.bind_some]
            rw [N_addL]
            by_cases hv : v = Int32.ofNat n
            · rw [if_pos hv, if_neg (by decide), if_pos hv]
              exact ok2.some (Or.inr ⟨_, _, rfl, rfl, rfl, rfl, rfl, rfl⟩)
            · rw [if_neg hv, if_pos rfl, if_neg hv]
              exact ok2.some (Or.inl ⟨_, _, rfl, rfl, by omega, rfl, rfl⟩)
        unfold f_X2_leastAlikeBase
        obtain ⟨⟨b1, v, s2⟩, ⟨b2, v', t2⟩, g1, g2, q1, q2, q3, q4⟩ := key
        dsimp only at q1 q2 q3 q4
        subst q1 q2 q3 q4
        rw [g1, g2]
        dsimp only [Option.bind_some]
        by_cases hb1 : b1 = 0
        · rw [if_pos hb1, if_pos hb1]
          exact opR.ret hG
        · rw [if_neg hb1, if_neg hb1]
          exact opR.ret hG
      · rw [if_neg w2, if_neg (show ¬ 2 ≤ w by grind)]
        by_cases hb : 2 ≤ b ∧ b ≤ 16
        · simp only [if_pos hb, show ((1 : Int32) = 0) = False from by decide, if_false, show (b < 2) = False from by simp; grind]
          rw [if_pos hb.2]
          obtain ⟨c, ec, hc⟩ := N_of (m := 16) (x := b) (by grind) hb.2 (by omega)
          subst ec
          have hc2 : 2 ≤ c := by
            have := hb.1
            rw [L_leN (by omega) (by omega)] at this
            exact this
          by_cases w1 : w = 1
          · subst w1
            rw [if_neg (show ¬ ((1 : Int32) = 0) by decide), if_pos rfl]
            obtain ⟨v, g1, g2⟩ := r_alike (s := s) (t := t1) hn hc2 hc
            rw [g1, g2]
            dsimp only [Option.bind_some]
            by_cases hv : v = Int32.ofNat n
            · rw [if_pos hv, if_neg (by decide), if_pos hv]
              exact opR.ret hG
            · rw [if_neg hv, if_pos rfl, if_neg hv]
              exact opR.ret hG
          · rw [if_pos (show w = 0 by grind), if_neg w1, if_neg w2]
            obtain ⟨v, g1, g2⟩ := r_digsum (s := s) (t := t1) hn hc2 hc
            rw [g1, g2]
            exact opR.ret hG
        · simp only [if_neg hb, if_true]
          by_cases h0 : b < 2
          · rw [if_pos h0]; exact no
          · rw [if_neg h0, if_neg (show ¬ b ≤ 16 by grind)]; exact no
    · simp only [if_neg hw, if_true]
      by_cases h0 : w < 0
      · rw [if_pos h0]; exact no
      · rw [if_neg h0, if_neg (show ¬ w ≤ 2 by grind)]; exact no
  · simp only [if_neg hx, if_true]
    by_cases h0 : x < 1
    · rw [if_pos h0]; exact no
    · rw [if_neg h0, if_pos (show 9999 < x by grind)]; exact no
/-- hics, by numbers -/
def hb (k n b : Nat) : Bool := decide (b * k % n < k)
def gXs (k n : Nat) : Nat → Nat × Nat
  | 0 => (0, 0)
  | i + 1 => if hb k n (i + 1) then (max (gXs k n i).1 (i + 1 - (gXs k n i).2), i + 1) else gXs k n i
def gMs (k n : Nat) : Nat → Nat × Nat
  | 0 => (0, 0)
  | i + 1 => if hb k n (i % n) then (if (gMs k n i).2 = 0 then (gMs k n i).1 else max (gMs k n i).1 (i - ((gMs k n i).2 - 1)), i + 1) else gMs k n i
def gok (k n : Nat) : Bool := k == 0 || decide (n < k) || (gXs k n n).1 == (gMs k n (2 * n)).1
theorem gall : allN 31 (fun n => allN 31 (fun k => gok k n)) = true := by decide +kernel
theorem gXs_le {k n : Nat} : ∀ i, (gXs k n i).1 ≤ i ∧ (gXs k n i).2 ≤ i
  | 0 => by simp [gXs]
  | i + 1 => by
    have := gXs_le (k := k) (n := n) i
    unfold gXs
    split
    · dsimp only
      omega
    · omega
theorem gMs_le {k n : Nat} : ∀ i, (gMs k n i).1 ≤ i ∧ (gMs k n i).2 ≤ i
  | 0 => by simp [gMs]
  | i + 1 => by
    have := gMs_le (k := k) (n := n) i
    unfold gMs
    split
    · dsimp only
      split
      · omega
      · omega
    · omega
theorem x_hasBeat {k n b : Nat} {s : Mem} (hk : k ≤ 30) (hn : n ≤ 30) (hn0 : 0 < n) (hb' : b ≤ 60) : f_X2_hasBeat (Int32.ofNat k) (Int32.ofNat n) (Int32.ofNat b) s = some (if hb k n b then 1 else 0, s) := by
  have hbk : b * k ≤ 60 * 30 := Nat.mul_le_mul hb' hk
  have hmod : b * k % n < n := Nat.mod_lt _ hn0
  unfold f_X2_hasBeat hb
  simp (disch := omega) only [rd_N, wr_N, rd_L, wr_L, Option.bind_some, N_le, N_lt, N_eq, N_leL, L_leN, N_ltL, L_ltN, N_eqL, L_eqN, N_neg, neg_N, N_nlt0, N_0le, N_add, N_addL, L_addN, N_mul, N_mulL, L_mulN, N_sub, N_subL, m_eq, m_ne, u_eq, u_ne, if_true, if_false, ite_true, ite_false, if_pos, if_neg, N_mod]
  by_cases h : b * k % n < k
  · simp (disch := omega) only [rd_N, wr_N, rd_L, wr_L, Option.bind_some, N_le, N_lt, N_eq, N_leL, L_leN, N_ltL, L_ltN, N_eqL, L_eqN, N_neg, neg_N, N_nlt0, N_0le, N_add, N_addL, L_addN, N_mul, N_mulL, L_mulN, N_sub, N_subL, m_eq, m_ne, u_eq, u_ne, if_true, if_false, ite_true, ite_false, if_pos, if_neg, h]
    simp [h]
  · simp (disch := omega) only [rd_N, wr_N, rd_L, wr_L, Option.bind_some, N_le, N_lt, N_eq, N_leL, L_leN, N_ltL, L_ltN, N_eqL, L_eqN, N_neg, neg_N, N_nlt0, N_0le, N_add, N_addL, L_addN, N_mul, N_mulL, L_mulN, N_sub, N_subL, m_eq, m_ne, u_eq, u_ne, if_true, if_false, ite_true, ite_false, if_pos, if_neg, h]
    simp [h]
theorem jmax_N {a b : Nat} (ha : a < 2147483648) (hb : b < 2147483648) : jmmax (Int32.ofNat a) (Int32.ofNat b) = Int32.ofNat (max a b) := by
  unfold jmmax
  simp (disch := omega) only [rd_N, wr_N, rd_L, wr_L, Option.bind_some, N_le, N_lt, N_eq, N_leL, L_leN, N_ltL, L_ltN, N_eqL, L_eqN, N_neg, neg_N, N_nlt0, N_0le, N_add, N_addL, L_addN, N_mul, N_mulL, L_mulN, N_sub, N_subL, m_eq, m_ne, u_eq, u_ne, if_true, if_false, ite_true, ite_false, if_pos, if_neg]
  by_cases h : a < b
  · rw [if_pos h, Nat.max_eq_right (by omega)]
  · rw [if_neg h, Nat.max_eq_left (by omega)]
theorem x_longest {k n : Nat} {s : Mem} (hk : k ≤ n) (hn : n ≤ 30) (hk0 : 0 < k) : f_X2_longestWay (Int32.ofNat k) (Int32.ofNat n) s = some (Int32.ofNat (gXs k n n).1, s) := by
  unfold f_X2_longestWay
  rw [if_neg (show ¬ Int32.ofNat k = 0 from N_ne0 hk0 (by omega))]
  have e := it_go (f := fun y => st_X2_longestWay_13 (Int32.ofNat k) (Int32.ofNat n) y.1 y.2.1 y.2.2.1 y.2.2.2) (fun i => (Int32.ofNat (gXs k n i).1, Int32.ofNat (gXs k n i).2, Int32.ofNat (i + 1), s)) n (Int32.ofNat (gXs k n n).1, s) (by omega) (fun i hi => by
    dsimp only
    unfold st_X2_longestWay_13
    have hle := gXs_le (k := k) (n := n) i
    rw [if_neg (by rw [N_lt (by omega) (by omega)]; omega), x_hasBeat (by omega) hn (by omega) (by omega)]
    dsimp only [Option.bind_some]
    by_cases hh : hb k n (i + 1) = true
    · rw [if_pos hh, if_neg (by decide)]
      have e2 : gXs k n (i + 1) = (max (gXs k n i).1 (i + 1 - (gXs k n i).2), i + 1) := by rw [gXs, if_pos hh]
      rw [e2]
      dsimp only
      rw [N_sub (by omega), jmax_N (by omega) (by omega), N_addL]
    · rw [if_neg hh, if_pos rfl]
      have e2 : gXs k n (i + 1) = gXs k n i := by rw [gXs, if_neg hh]
      rw [e2, N_addL]) (by
    dsimp only
    unfold st_X2_longestWay_13
    rw [if_pos (by rw [N_lt (by omega) (by omega)]; omega)])
  have e' : it FUEL (fun y => st_X2_longestWay_13 (Int32.ofNat k) (Int32.ofNat n) y.1 y.2.1 y.2.2.1 y.2.2.2) (0, 0, 1, s) = some (Int32.ofNat (gXs k n n).1, s) := e
  rw [e']
  rfl
theorem m_longest {k n : Nat} {t : Mem} (hk : k ≤ n) (hn : n ≤ 30) (hk0 : 0 < k) : it FUEL (fun y => st_X12_hics_76 (Int32.ofNat k) (Int32.ofNat n) y.1 y.2.1 y.2.2.1 y.2.2.2) (0, (-1), 0, t) = some (Int32.ofNat (gMs k n (2 * n)).1, t) := by
  have e := it_go (f := fun y => st_X12_hics_76 (Int32.ofNat k) (Int32.ofNat n) y.1 y.2.1 y.2.2.1 y.2.2.2) (fun i => (Int32.ofNat (gMs k n i).1, (if (gMs k n i).2 = 0 then -1 else Int32.ofNat ((gMs k n i).2 - 1)), Int32.ofNat i, t)) (2 * n) (Int32.ofNat (gMs k n (2 * n)).1, t) (by omega) (fun i hi => by
    dsimp only
    unfold st_X12_hics_76
    have hle := gMs_le (k := k) (n := n) i
    have hin : i % n < n := Nat.mod_lt _ (by omega)
    have hbk : i % n * k ≤ 30 * 30 := Nat.mul_le_mul (by omega) (by omega)
    have hmm : i % n * k % n < n := Nat.mod_lt _ (by omega)
    rw [if_neg (by rw [L_mulN, N_le (by omega) (by omega)]; omega), if_neg (by rw [N_leL (by omega) (by omega)]; omega), if_neg (N_ne0 (by omega) (by omega)), if_neg (N_ne0 (by omega) (by omega))]
    rw [N_mod (by omega) (by omega), N_mul, N_mod (by omega) (by omega)]
    by_cases hh : i % n * k % n < k
    · have hh' : hb k n (i % n) = true := by unfold hb; exact decide_eq_true hh
      rw [if_pos (by rw [N_lt (by omega) (by omega)]; exact hh)]
      have e2 : gMs k n (i + 1) = (if (gMs k n i).2 = 0 then (gMs k n i).1 else max (gMs k n i).1 (i - ((gMs k n i).2 - 1)), i + 1) := by rw [gMs, if_pos hh']
      rw [e2]
      dsimp only
      by_cases h0 : (gMs k n i).2 = 0
      · rw [if_pos h0, if_pos rfl, if_pos h0, if_neg (show ¬ i + 1 = 0 by omega), N_addL]
        rfl
      · rw [if_neg h0, if_neg (by rw [N_neg (by omega)]; exact id), if_neg h0, m_greater, N_sub (by omega), jmax_N (by omega) (by omega), if_neg (show ¬ i + 1 = 0 by omega)]
        dsimp only [Option.bind_some]
        rw [N_addL]
        rfl
    · have hh' : ¬ hb k n (i % n) = true := by unfold hb; rw [decide_eq_true_eq]; exact hh
      rw [if_neg (by rw [N_lt (by omega) (by omega)]; exact hh)]
      have e2 : gMs k n (i + 1) = gMs k n i := by rw [gMs, if_neg hh']
      rw [e2, N_addL]) (by
    dsimp only
    unfold st_X12_hics_76
    rw [if_pos (by rw [L_mulN, N_le (by omega) (by omega)]; omega)])
  exact e
theorem o_hics {x y z : Int32} {s t : Mem} (h : GR s t) : opR (f_X11_hics x y z s) (f_X12_hics x y z t) := by
  have h1 := GR_told (v := 0) h
  unfold f_X11_hics f_X12_hics
  generalize mset t 0 0 0 = t1 at *
  clear h
  have hG := h1
  have no : opR (some ((-1 : Int32), s)) (some (-1, t1)) := opR.ret hG
  simp only [m_isIn, Option.bind_some]
  unfold jn_X12_hics_46
  by_cases hy : 1 ≤ y ∧ y ≤ 30
  · simp only [if_pos hy, show ((1 : Int32) = 0) = False from by decide, if_false, show (y < 1) = False from by simp; grind, show (30 < y) = False from by simp; grind]
    obtain ⟨n, en, hn⟩ := N_of (m := 30) (x := y) (by grind) hy.2 (by omega)
    subst en
    have hn0 : 0 < n := by
      have := hy.1
      rw [L_leN (by omega) (by omega)] at this
      omega
    by_cases hx : 0 ≤ x ∧ x ≤ Int32.ofNat n
    · simp only [if_pos hx, show ((1 : Int32) = 0) = False from by decide, if_false, show (x < 0) = False from by simp; grind]
      rw [if_pos hx.2]
      obtain ⟨k, ek, hk⟩ := N_of (m := n) hx.1 hx.2 (by omega)
      subst ek
      by_cases z100 : z = 100
      · subst z100
        simp only [if_true]
        by_cases hk0 : k = 0
        · subst hk0
          have eX : f_X2_longestWay (Int32.ofNat 0) (Int32.ofNat n) s = some (0, s) := by
            unfold f_X2_longestWay
            rw [if_pos (by decide)]
          have eM : it FUEL (fun y => st_X12_hics_76 (Int32.ofNat 0) (Int32.ofNat n) y.1 y.2.1 y.2.2.1 y.2.2.2) (0, (-1), 0, t1) = some (0, t1) := by
            have e := it_go (f := fun y => st_X12_hics_76 (Int32.ofNat 0) (Int32.ofNat n) y.1 y.2.1 y.2.2.1 y.2.2.2) (fun _ => ((0 : Int32), (-1 : Int32), (0 : Int32), t1)) 0 (0, t1) (by omega) (fun i hi => by omega) (by
              dsimp only
              unfold st_X12_hics_76
              rw [if_neg (show ¬ 2 * Int32.ofNat n ≤ 0 by rw [L_mulN, N_leL (by omega) (by omega)]; omega), if_pos (by decide)])
            exact e
          rw [eX, eM]
          exact opR.ret hG
        · have g := allN_of (allN_of gall n (by omega)) k (by omega)
          unfold gok at g
          simp only [Bool.or_eq_true, beq_iff_eq, decide_eq_true_eq] at g
          have e : (gXs k n n).1 = (gMs k n (2 * n)).1 := by
            rcases g with (g | g) | g
            · exact absurd g hk0
            · omega
            · exact g
          rw [x_longest hk hn (by omega), m_longest hk hn (by omega), e]
          exact opR.ret hG
      · simp only [if_neg z100]
        by_cases hz : 0 ≤ z ∧ z ≤ Int32.ofNat n - 1
        · have hn1 := N_le0 (k := n) (m := 30) hn (by omega)
          have e30 : Int32.ofNat 30 = 30 := rfl
          simp only [if_pos hz, show ((1 : Int32) = 0) = False from by decide, if_false, show (z < 0) = False from by simp; grind]
          rw [if_pos (show z < Int32.ofNat n by grind)]
          obtain ⟨b, eb, hb1⟩ := N_of (m := 30) (x := z) hz.1 (by grind) (by omega)
          subst eb
          have hbk : b * k ≤ 30 * 30 := Nat.mul_le_mul (by omega) (by omega)
          have hmm : b * k % n < n := Nat.mod_lt _ (by omega)
          rw [x_hasBeat (by omega) hn hn0 (by omega), if_neg (N_ne0 (by omega) (by omega)), N_mul, N_mod (by omega) (by omega)]
          dsimp only [Option.bind_some]
          unfold hb
          by_cases hh : b * k % n < k
          · rw [if_neg (show ¬ Int32.ofNat k ≤ Int32.ofNat (b * k % n) by rw [N_le (by omega) (by omega)]; omega)]
            simp only [hh, decide_true, if_true, show ((1 : Int32) = 0) = False from by decide, if_false]
            exact opR.ret hG
          · rw [if_pos (show Int32.ofNat k ≤ Int32.ofNat (b * k % n) by rw [N_le (by omega) (by omega)]; omega)]
            simp only [hh, decide_false, if_true, Bool.false_eq_true, if_false]
            exact opR.ret hG
        · have hn1 := N_le0 (k := n) (m := 30) hn (by omega)
          have e30 : Int32.ofNat 30 = 30 := rfl
          simp only [if_neg hz, if_true]
          by_cases h0 : z < 0
          · rw [if_pos h0]; exact no
          · rw [if_neg h0, if_neg (show ¬ z < Int32.ofNat n by grind)]; exact no
    · simp only [if_neg hx, if_true]
      by_cases h0 : x < 0
      · rw [if_pos h0]; exact no
      · rw [if_neg h0, if_neg (show ¬ x ≤ Int32.ofNat n by grind)]; exact no
  · simp only [if_neg hy, if_true]
    by_cases h0 : x < 0
    · rw [if_pos h0]; exact no
    · rw [if_neg h0]
      by_cases h2 : y < 1
      · rw [if_pos h2]; exact no
      · rw [if_neg h2, if_pos (show 30 < y by grind)]; exact no
