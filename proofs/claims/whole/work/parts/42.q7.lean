/-! ===== which digit ===== -/
def Sd (k : Nat) : Nat := if k ≤ 10 then k - 1 else if k ≤ 100 then 9 + 2 * (k - 10) else if k ≤ 1000 then 189 + 3 * (k - 100) else 2889 + 4 * (k - 1000)
def wd (k : Nat) : Nat := if 1000 ≤ k then 4 else if 100 ≤ k then 3 else if 10 ≤ k then 2 else 1
theorem Sd_s {k : Nat} (h : 1 ≤ k) : Sd (k + 1) = Sd k + wd k := by
  unfold Sd wd
  (repeat' split) <;> omega
theorem Sd_mono {k l : Nat} (h : k ≤ l) : Sd k ≤ Sd l := by
  unfold Sd
  (repeat' split) <;> omega
theorem Sd_le {k : Nat} (h : k ≤ 10000) : Sd k ≤ 100000 := by
  unfold Sd
  split
  · omega
  · split
    · omega
    · split <;> omega
theorem Sd_uniq {k l q r x : Nat} (hk : 1 ≤ k) (hl : 1 ≤ l) (h1 : Sd k + q = x) (h2 : q < wd k) (h3 : Sd l + r = x) (h4 : r < wd l) : k = l ∧ q = r := by
  have a := Sd_s hk
  have b := Sd_s hl
  rcases Nat.lt_trichotomy k l with h | h | h
  · have := Sd_mono (show k + 1 ≤ l by omega)
    omega
  · subst h
    exact ⟨rfl, by omega⟩
  · have := Sd_mono (show l + 1 ≤ k by omega)
    omega
theorem m_find {n x : Nat} {t : Mem} (hn : n ≤ 9999) (hx : x < 2147483648) : ok (it FUEL (fun y => st_X12_digit_28 (Int32.ofNat n) y.1 y.2.1 y.2.2) (Int32.ofNat x, 1, t)) (fun r => (r = (1, 0, 0, 0, t) ∧ Sd (n + 1) ≤ x) ∨ ∃ k q, r = (0, Int32.ofNat q, Int32.ofNat k, Int32.ofNat (wd k), t) ∧ 1 ≤ k ∧ k ≤ n ∧ Sd k + q = x ∧ q < wd k) := by
  refine it_ok1 10000 (by omega) (fun i y => y = (Int32.ofNat (x - Sd (i + 1)), Int32.ofNat (i + 1), t) ∧ Sd (i + 1) ≤ x ∧ i ≤ n) ⟨rfl, Nat.zero_le _, by omega⟩ (fun i y q => by omega) ?_
  rintro i y ⟨rfl, h1, h2⟩
  dsimp only
  have hs := Sd_s (k := i + 1) (by omega)
  unfold st_X12_digit_28 jn_X12_digit_69
  simp (disch := omega) only [N_lt, L_leN, N_ltL, N_subL, N_addL]
  by_cases hin : i = n
  · subst hin
    rw [if_pos (by omega)]
    exact Or.inr ⟨_, rfl, Or.inl ⟨rfl, h1⟩⟩
  · rw [if_neg (by omega)]
    have go : ∀ w, wd (i + 1) = w → 1 ≤ w → w ≤ 4 → (∃ s', (if x - Sd (i + 1) < w then some (Sum.inr ((0 : Nat), Int32.ofNat (x - Sd (i + 1)), Int32.ofNat (i + 1), Int32.ofNat w, t)) else some (Sum.inl (Int32.ofNat (x - Sd (i + 1) - w), Int32.ofNat (i + 1 + 1), t))) = some (Sum.inl s') ∧ s' = (Int32.ofNat (x - Sd (i + 1 + 1)), Int32.ofNat (i + 1 + 1), t) ∧ Sd (i + 1 + 1) ≤ x ∧ i + 1 ≤ n) ∨
        ∃ b, (if x - Sd (i + 1) < w then some (Sum.inr ((0 : Nat), Int32.ofNat (x - Sd (i + 1)), Int32.ofNat (i + 1), Int32.ofNat w, t)) else some (Sum.inl (Int32.ofNat (x - Sd (i + 1) - w), Int32.ofNat (i + 1 + 1), t))) = some (Sum.inr b) ∧ ((b = (1, 0, 0, 0, t) ∧ Sd (n + 1) ≤ x) ∨ ∃ k q, b = (0, Int32.ofNat q, Int32.ofNat k, Int32.ofNat (wd k), t) ∧ 1 ≤ k ∧ k ≤ n ∧ Sd k + q = x ∧ q < wd k) := by
      intro w hw hw1 hw4
      by_cases hlt : x - Sd (i + 1) < w
      · rw [if_pos hlt]
        exact Or.inr ⟨_, rfl, Or.inr ⟨i + 1, x - Sd (i + 1), by rw [hw], by omega, by omega, by omega, by omega⟩⟩
      · rw [if_neg hlt]
        exact Or.inl ⟨_, rfl, by rw [hs, hw, Nat.sub_sub], by omega, by omega⟩
    by_cases h10 : 10 ≤ i + 1
    · rw [if_pos h10]
      by_cases h100 : 100 ≤ i + 1
      · rw [if_pos h100]
        by_cases h1000 : 1000 ≤ i + 1
        · rw [if_pos h1000]
          have hw : wd (i + 1) = 4 := by
            unfold wd
            rw [if_pos h1000]
          exact go 4 hw (by omega) (by omega)
        · rw [if_neg h1000]
          have hw : wd (i + 1) = 3 := by
            unfold wd
            rw [if_neg h1000, if_pos h100]
          exact go 3 hw (by omega) (by omega)
      · rw [if_neg h100]
        have hw : wd (i + 1) = 2 := by
          unfold wd
          rw [if_neg (by omega), if_neg h100, if_pos h10]
        exact go 2 hw (by omega) (by omega)
    · rw [if_neg h10]
      have hw : wd (i + 1) = 1 := by
        unfold wd
        rw [if_neg (by omega), if_neg (by omega), if_neg h10]
      exact go 1 hw (by omega) (by omega)
theorem m_shift {k w q : Nat} {t : Mem} (hk : k ≤ 9999) (hq : q < w) (hw : w ≤ 4) : it FUEL (fun y => st_X12_digit_95 (Int32.ofNat q) y.1 y.2.1 y.2.2) (Int32.ofNat k, Int32.ofNat (w - 1), t) = some (Int32.ofNat (k / 10 ^ (w - 1 - q)), t) := by
  have e := it_go (f := fun y => st_X12_digit_95 (Int32.ofNat q) y.1 y.2.1 y.2.2) (fun p => (Int32.ofNat (k / 10 ^ p), Int32.ofNat (w - 1 - p), t)) (w - 1 - q) (Int32.ofNat (k / 10 ^ (w - 1 - q)), t) (by omega) (fun p hp => by
    dsimp only
    have := Nat.div_le_self k (10 ^ p)
    generalize hz : k / 10 ^ p = z at *
    unfold st_X12_digit_95
    rw [if_neg (by rw [N_le (by omega) (by omega)]; omega), N_divL (by omega) (by omega), N_addm (by omega), Nat.pow_succ, ← Nat.div_div_eq_div_mul, hz, Nat.sub_sub (w - 1) p 1]) (by
    dsimp only
    unfold st_X12_digit_95
    rw [if_pos (by rw [N_le (by omega) (by omega)]; omega)])
  rw [Nat.pow_zero, Nat.div_one, Nat.sub_zero] at e
  exact e
theorem x_digitOf {k q : Nat} {s : Mem} (hk : k ≤ 9999) (hq : q ≤ 4) : f_X2_digitOf (Int32.ofNat k) (Int32.ofNat q) s = some (Int32.ofNat (k / 10 ^ q % 10), s) := by
  have e := it_go (f := fun y => st_X2_digitOf_4 (Int32.ofNat q) y.1 y.2.1 y.2.2) (fun p => (Int32.ofNat (k / 10 ^ p), Int32.ofNat p, s)) q (Int32.ofNat (k / 10 ^ q), s) (by omega) (fun p hp => by
    dsimp only
    have := Nat.div_le_self k (10 ^ p)
    generalize hz : k / 10 ^ p = z at *
    unfold st_X2_digitOf_4
    rw [if_neg (by rw [N_le (by omega) (by omega)]; omega), N_divL (by omega) (by omega), N_addL, Nat.pow_succ, ← Nat.div_div_eq_div_mul, hz]) (by
    dsimp only
    unfold st_X2_digitOf_4
    rw [if_pos (by rw [N_le (by omega) (by omega)]; omega)])
  rw [Nat.pow_zero, Nat.div_one] at e
  have e' : it FUEL (fun y => st_X2_digitOf_4 (Int32.ofNat q) y.1 y.2.1 y.2.2) (Int32.ofNat k, 0, s) = some (Int32.ofNat (k / 10 ^ q), s) := e
  unfold f_X2_digitOf
  have := Nat.div_le_self k (10 ^ q)
  rw [e', Option.bind_some]
  dsimp only
  rw [N_modL (by omega) (by omega)]
theorem x_blk {n x i L : Nat} {s : Mem} (hn : n ≤ 9999) (hx : x < 2147483648) (hi : i ≤ 3) (hL : L = 10 ^ i) (hln : L ≤ n) (h1 : Sd L ≤ x) :
    st_X2_digitAt_7 (Int32.ofNat n) (Int32.ofNat (x - Sd L)) (Int32.ofNat L) (Int32.ofNat (i + 1)) s = if Sd (min (L * 10) (n + 1)) ≤ x then some (.inl (Int32.ofNat (x - Sd (min (L * 10) (n + 1))), Int32.ofNat (L * 10), Int32.ofNat (i + 2), s)) else some (.inr (0, Int32.ofNat (x - Sd L), Int32.ofNat L, Int32.ofNat (i + 1), s)) := by
  unfold st_X2_digitAt_7
  have hL2 : 1 ≤ L ∧ L ≤ 1000 := by
    have : i = 0 ∨ i = 1 ∨ i = 2 ∨ i = 3 := by omega
    rcases this with rfl | rfl | rfl | rfl <;> (subst hL; decide)
  have e : Sd (min (L * 10) (n + 1)) = Sd L + (min (L * 10) (n + 1) - L) * (i + 1) := by
    have : i = 0 ∨ i = 1 ∨ i = 2 ∨ i = 3 := by omega
    unfold Sd
    rcases this with rfl | rfl | rfl | rfl <;> (simp only [Nat.reducePow] at hL; subst hL; (repeat' split) <;> omega)
  rw [if_neg (show ¬ 4 < Int32.ofNat (i + 1) by rw [L_ltN (by omega) (by omega)]; omega), if_neg (show ¬ Int32.ofNat n < Int32.ofNat L by rw [N_lt (by omega) (by omega)]; omega)]
  rw [N_mulL, N_subL (show 1 ≤ L * 10 by omega), jmin_N (by omega) (by omega), N_sub (show L ≤ min n (L * 10 - 1) by omega), N_addL, N_mul, show min n (L * 10 - 1) - L + 1 = min (L * 10) (n + 1) - L by omega]
  have hm : min (L * 10) (n + 1) - L ≤ 9999 := by omega
  have hB : (min (L * 10) (n + 1) - L) * (i + 1) ≤ 9999 * 4 := Nat.mul_le_mul hm (by omega)
  rw [e]
  generalize (min (L * 10) (n + 1) - L) * (i + 1) = B at *
  have he : (Int32.ofNat B ≤ Int32.ofNat (x - Sd L)) = (Sd L + B ≤ x) := by
    rw [N_le (by omega) (by omega)]
    apply propext
    omega
  simp only [he]
  by_cases h : Sd L + B ≤ x
  · rw [if_pos h, if_pos h, N_sub (by omega), N_addL, Nat.sub_sub]
  · rw [if_neg h, if_neg h]
theorem x_find {n x : Nat} {s : Mem} (hn : n ≤ 9999) (hx : x < 2147483648) : ok (it FUEL (fun y => st_X2_digitAt_7 (Int32.ofNat n) y.1 y.2.1 y.2.2.1 y.2.2.2) (Int32.ofNat x, 1, 1, s)) (fun r => (r = (1, 0, 0, 0, s) ∧ Sd (n + 1) ≤ x) ∨ ∃ i, i ≤ 3 ∧ r = (0, Int32.ofNat (x - Sd (10 ^ i)), Int32.ofNat (10 ^ i), Int32.ofNat (i + 1), s) ∧ 10 ^ i ≤ n ∧ Sd (10 ^ i) ≤ x ∧ x < Sd (min (10 ^ i * 10) (n + 1))) := by
  refine it_ok1 4 (by omega) (fun i y => i ≤ 4 ∧ y = (Int32.ofNat (x - Sd (min (10 ^ i) (n + 1))), Int32.ofNat (10 ^ i), Int32.ofNat (i + 1), s) ∧ Sd (min (10 ^ i) (n + 1)) ≤ x) ⟨by omega, by rw [Nat.pow_zero, Nat.min_eq_left (by omega)]; rfl, by rw [Nat.pow_zero, Nat.min_eq_left (by omega)]; exact Nat.zero_le _⟩ (fun i y q => q.1) ?_
  rintro i y ⟨h0, rfl, h1⟩
  dsimp only
  by_cases h4 : i = 4
  · subst h4
    unfold st_X2_digitAt_7
    rw [if_pos (by decide)]
    rw [Nat.min_eq_right (show n + 1 ≤ 10 ^ 4 by omega)] at h1
    exact Or.inr ⟨_, rfl, Or.inl ⟨rfl, h1⟩⟩
  · have hp : 10 ^ i ≤ 10 ^ 3 := Nat.pow_le_pow_right (by decide) (by omega)
    by_cases hln : 10 ^ i ≤ n
    · rw [Nat.min_eq_left (show 10 ^ i ≤ n + 1 by omega)] at h1 ⊢
      rw [x_blk hn hx (by omega) rfl hln h1, ← Nat.pow_succ]
      by_cases h : Sd (min (10 ^ (i + 1)) (n + 1)) ≤ x
      · rw [if_pos h]
        exact Or.inl ⟨_, rfl, by omega, rfl, h⟩
      · rw [if_neg h]
        exact Or.inr ⟨_, rfl, Or.inr ⟨i, by omega, rfl, hln, h1, Nat.lt_of_not_le h⟩⟩
    · rw [Nat.min_eq_right (show n + 1 ≤ 10 ^ i by omega)] at h1
      unfold st_X2_digitAt_7
      rw [if_neg (show ¬ 4 < Int32.ofNat (i + 1) by rw [L_ltN (by omega) (by omega)]; omega), if_pos (show Int32.ofNat n < Int32.ofNat (10 ^ i) by rw [N_lt (by omega) (by omega)]; omega)]
      exact Or.inr ⟨_, rfl, Or.inl ⟨rfl, h1⟩⟩
theorem Sd_in {i r n x : Nat} (hi : i ≤ 3) (h1 : Sd (10 ^ i) ≤ x) (h2 : x < Sd (min (10 ^ i * 10) (n + 1))) (hr : r = x - Sd (10 ^ i)) (hln : 10 ^ i ≤ n) (hn : n ≤ 9999) : 1 ≤ 10 ^ i + r / (i + 1) ∧ 10 ^ i + r / (i + 1) ≤ n ∧ Sd (10 ^ i + r / (i + 1)) + r % (i + 1) = x ∧ wd (10 ^ i + r / (i + 1)) = i + 1 := by
  have : i = 0 ∨ i = 1 ∨ i = 2 ∨ i = 3 := by omega
  rcases this with rfl | rfl | rfl | rfl
  all_goals
    have e1 : Sd 1 = 0 := rfl
    have e2 : Sd 10 = 9 := rfl
    have e3 : Sd 100 = 189 := rfl
    have e4 : Sd 1000 = 2889 := rfl
    simp only [Nat.reducePow, Nat.reduceAdd, Nat.reduceMul] at *
    unfold Sd at h2
    unfold Sd wd
    (repeat' split at h2) <;> refine ⟨by omega, by omega, ?_, ?_⟩ <;> (repeat' split) <;> omega
theorem o_digit {x y : Int32} {s t : Mem} (h : GR s t) : opR (f_X11_digit x y s) (f_X12_digit x y t) := by
  have h1 := GR_told (v := 0) h
  unfold f_X11_digit f_X12_digit
  generalize mset t 0 0 0 = t1 at *
  simp only [m_isIn, Option.bind_some]
  by_cases hx : 1 ≤ x ∧ x ≤ 9999
  · rw [if_pos hx, if_neg (show ¬ x < 1 by grind), if_neg (show ¬ 9999 < x by grind), if_neg (show ¬ (1 : Int32) = 0 by decide)]
    by_cases hy : 0 ≤ y
    · rw [if_pos hy, if_pos hy]
      obtain ⟨n, rfl, hn⟩ := N_of (x := x) (m := 9999) (by grind) hx.2 (by omega)
      obtain ⟨v, rfl, hv⟩ := N_of (x := y) (m := 2147483647) hy (by
        rw [Int32.le_iff_toInt_le, N_toInt (by omega)]
        have := Int32.toInt_lt y
        omega) (by omega)
      obtain ⟨r, g1, q1⟩ := x_find (s := s) hn (show v < 2147483648 by omega)
      obtain ⟨r', g2, q2⟩ := m_find (t := t1) hn (show v < 2147483648 by omega)
      unfold f_X2_digitAt
      rw [g1, g2, Option.bind_some, Option.bind_some]
      rcases q1 with ⟨rfl, q1⟩ | ⟨i, hi, rfl, hln, a1, a2⟩
      · rcases q2 with ⟨rfl, q2⟩ | ⟨k, q, rfl, b1, b2, b3, b4⟩
        · rw [if_neg (by dsimp only; decide), if_neg (by dsimp only; decide)]
          exact opR.ret h1
        · have c1 := Sd_s b1
          have c2 := Sd_mono (show k + 1 ≤ n + 1 by omega)
          omega
      · rcases q2 with ⟨rfl, q2⟩ | ⟨k, q, rfl, b1, b2, b3, b4⟩
        · have := Sd_mono (show min (10 ^ i * 10) (n + 1) ≤ n + 1 by omega)
          omega
        · obtain ⟨d1, d2, d3, d4⟩ := Sd_in hi a1 a2 rfl hln hn
          obtain ⟨rfl, rfl⟩ := Sd_uniq b1 d1 b3 b4 d3 (by rw [d4]; exact Nat.mod_lt _ (by omega))
          rw [d4] at b4
          rw [d4]
          rw [if_pos rfl, if_pos rfl]
          dsimp only
          have z0 : ¬ Int32.ofNat (i + 1) = 0 := by rw [N_eqL (by omega) (by omega)]; omega
          rw [if_neg z0, if_neg z0, N_div (by omega) (by omega), N_mod (by omega) (by omega), N_add, N_pred (by omega), N_sub (by omega), x_digitOf (by omega) (by omega), m_shift (by omega) b4 (by omega)]
          dsimp only [Option.bind_some]
          rw [N_modL (by
            have := Nat.div_le_self (10 ^ i + (v - Sd (10 ^ i)) / (i + 1)) (10 ^ (i + 1 - 1 - (v - Sd (10 ^ i)) % (i + 1)))
            omega) (by omega)]
          exact opR.ret h1
    · rw [if_neg hy, if_neg hy]
      exact opR.ret h1
  · rw [if_neg hx, if_pos rfl]
    by_cases h0 : x < 1
    · rw [if_pos h0]; exact opR.ret h1
    · rw [if_neg h0, if_pos (show 9999 < x by grind)]; exact opR.ret h1
