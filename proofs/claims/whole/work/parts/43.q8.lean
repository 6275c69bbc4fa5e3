/-! ===== upside down ===== -/
def tdN (d : Nat) : Nat := 16075144404 / 11 ^ d % 11
theorem td_lt {d : Nat} : tdN d < 11 := Nat.mod_lt _ (by decide)
theorem td_F : ∀ d, d < 10 → tuF d = if tdN d = 10 then -1 else Int32.ofNat (tdN d) := by decide +kernel
theorem td_M : ∀ d, d < 10 → (tdN d = 10 ↔ (2 ≤ d ∧ d ≤ 5) ∨ d = 7) ∧ (d = 6 → tdN d = 9) ∧ (d = 9 → tdN d = 6) ∧ (d = 0 ∨ d = 1 ∨ d = 8 → tdN d = d) := by decide +kernel
def udl : Nat → Nat → Nat → Option Nat
  | 0, _, a => some a
  | f + 1, v, a => if v = 0 then some a else if tdN (v % 10) = 10 then none else udl f (v / 10) (a * 10 + tdN (v % 10))
def oI : Option Nat → Int32
  | none => -1
  | some a => Int32.ofNat a
theorem udl_0 {f a : Nat} : udl f 0 a = some a := by
  cases f with
  | zero => rfl
  | succ f => unfold udl; rw [if_pos rfl]
theorem udl_b : ∀ (f v a r : Nat), udl f v a = some r → r + 1 ≤ (a + 1) * 10 ^ f
  | 0, v, a, r, h => by
    unfold udl at h
    cases h
    omega
  | f + 1, v, a, r, h => by
    unfold udl at h
    by_cases hv : v = 0
    · rw [if_pos hv] at h
      cases h
      exact Nat.le_mul_of_pos_right _ (Nat.pow_pos (by decide))
    · rw [if_neg hv] at h
      by_cases ht : tdN (v % 10) = 10
      · rw [if_pos ht] at h
        cases h
      · rw [if_neg ht] at h
        have := udl_b f _ _ _ h
        have hl := td_lt (d := v % 10)
        rw [Nat.pow_succ, Nat.mul_comm (10 ^ f) 10, ← Nat.mul_assoc]
        exact Nat.le_trans this (Nat.mul_le_mul_right _ (by omega))
theorem x_turned {v : Nat} {s : Mem} (hv : v < 2147483648) : f_X2_turned (Int32.ofNat v) s = some (oI (udl 6 v 0), s) := by
  have key : ok (it FUEL (fun y => st_X2_turned_6 y.1 y.2.1 y.2.2.1 y.2.2.2) (0, Int32.ofNat v, 0, s)) (fun r => r.2.2 = s ∧ (r.1 = 0 ∧ udl 6 v 0 = none ∨ r.1 = 1 ∧ ∃ a, udl 6 v 0 = some a ∧ r.2.1 = Int32.ofNat a)) := by
    refine it_ok1 6 (by omega) (fun k y => ∃ a w, y = (Int32.ofNat a, Int32.ofNat w, Int32.ofNat k, s) ∧ k ≤ 6 ∧ w ≤ v ∧ udl (6 - k) w a = udl 6 v 0) ⟨0, v, rfl, by omega, by omega, rfl⟩ (fun k y q => by obtain ⟨_, _, _, q, _⟩ := q; exact q) ?_
    rintro k y ⟨a, w, rfl, hk, hw, hu⟩
    dsimp only
    unfold st_X2_turned_6
    by_cases h6 : k = 6
    · subst h6
      rw [if_pos (by decide)]
      exact Or.inr ⟨_, rfl, rfl, Or.inr ⟨rfl, a, hu.symm, rfl⟩⟩
    · rw [if_neg (by rw [L_leN (by omega) (by omega)]; omega)]
      by_cases hw0 : w = 0
      · subst hw0
        rw [if_pos (by decide)]
        rw [udl_0] at hu
        exact Or.inr ⟨_, rfl, rfl, Or.inr ⟨rfl, a, hu.symm, rfl⟩⟩
      · rw [if_neg (show ¬ Int32.ofNat w ≤ 0 by rw [N_leL (by omega) (by omega)]; omega)]
        rw [N_modL (by omega) (by omega), rd_N (by omega) (by omega), Option.bind_some, td_F _ (by omega)]
        have e : 6 - k = (6 - (k + 1)) + 1 := by omega
        rw [e] at hu
        unfold udl at hu
        rw [if_neg hw0] at hu
        by_cases ht : tdN (w % 10) = 10
        · rw [if_pos ht] at hu
          rw [if_pos ht, if_pos rfl]
          exact Or.inr ⟨_, rfl, rfl, Or.inl ⟨rfl, hu.symm⟩⟩
        · rw [if_neg ht] at hu
          have hl := td_lt (d := w % 10)
          rw [if_neg ht, if_neg (by rw [N_neg (by omega)]; exact fun q => q), N_mulL, N_add, N_divL (by omega) (by omega), N_addL]
          exact Or.inl ⟨_, rfl, _, _, rfl, by omega, by omega, hu⟩
  obtain ⟨⟨fl, x, s2⟩, e, q1, q2⟩ := key
  dsimp only at q1 q2
  subst q1
  unfold f_X2_turned
  rw [e, Option.bind_some]
  dsimp only
  rcases q2 with ⟨rfl, q⟩ | ⟨rfl, a, q, rfl⟩
  · rw [if_pos rfl, q]
    rfl
  · rw [if_neg (by decide), q]
    rfl
theorem x_mir {v a0 : Nat} {s : Mem} (hv : v < 2147483648) : jn_X2_mirrored_28 (Int32.ofNat a0) (Int32.ofNat v) s = some (oI (udl 3 v a0), s) := by
  have key : ok (it FUEL (fun y => st_X2_mirrored_33 y.1 y.2.1 y.2.2.1 y.2.2.2) (Int32.ofNat v, Int32.ofNat a0, 0, s)) (fun r => r.2.2 = s ∧ (r.1 = 0 ∧ udl 3 v a0 = none ∨ r.1 = 1 ∧ ∃ a, udl 3 v a0 = some a ∧ r.2.1 = Int32.ofNat a)) := by
    refine it_ok1 3 (by omega) (fun k y => ∃ a w, y = (Int32.ofNat w, Int32.ofNat a, Int32.ofNat k, s) ∧ k ≤ 3 ∧ w ≤ v ∧ udl (3 - k) w a = udl 3 v a0) ⟨a0, v, rfl, by omega, by omega, rfl⟩ (fun k y q => by obtain ⟨_, _, _, q, _⟩ := q; exact q) ?_
    rintro k y ⟨a, w, rfl, hk, hw, hu⟩
    dsimp only
    unfold st_X2_mirrored_33
    by_cases h6 : k = 3
    · subst h6
      rw [if_pos (by decide)]
      exact Or.inr ⟨_, rfl, rfl, Or.inr ⟨rfl, a, hu.symm, rfl⟩⟩
    · rw [if_neg (by rw [L_leN (by omega) (by omega)]; omega)]
      by_cases hw0 : w = 0
      · subst hw0
        rw [if_pos (by decide)]
        rw [udl_0] at hu
        exact Or.inr ⟨_, rfl, rfl, Or.inr ⟨rfl, a, hu.symm, rfl⟩⟩
      · rw [if_neg (show ¬ Int32.ofNat w ≤ 0 by rw [N_leL (by omega) (by omega)]; omega)]
        rw [N_modL (by omega) (by omega), rd_N (by omega) (by omega), Option.bind_some, td_F _ (by omega)]
        have e : 3 - k = (3 - (k + 1)) + 1 := by omega
        rw [e] at hu
        unfold udl at hu
        rw [if_neg hw0] at hu
        by_cases ht : tdN (w % 10) = 10
        · rw [if_pos ht] at hu
          rw [if_pos ht, if_pos rfl]
          exact Or.inr ⟨_, rfl, rfl, Or.inl ⟨rfl, hu.symm⟩⟩
        · rw [if_neg ht] at hu
          have hl := td_lt (d := w % 10)
          rw [if_neg ht, if_neg (by rw [N_neg (by omega)]; exact fun q => q), N_mulL, N_add, N_divL (by omega) (by omega), N_addL]
          exact Or.inl ⟨_, rfl, _, _, rfl, by omega, by omega, hu⟩
  obtain ⟨⟨fl, x, s2⟩, e, q1, q2⟩ := key
  dsimp only at q1 q2
  subst q1
  unfold jn_X2_mirrored_28
  rw [e, Option.bind_some]
  dsimp only
  rcases q2 with ⟨rfl, q⟩ | ⟨rfl, a, q, rfl⟩
  · rw [if_pos rfl, q]
    rfl
  · rw [if_neg (by decide), q]
    rfl
def mirN (i b : Nat) : Option Nat := if b = 0 then udl 3 i i else if tdN (i % 10) = i % 10 then udl 3 (i / 10) i else none
theorem x_mirrored {i b : Nat} {s : Mem} (hi : i < 1000) (hb : b ≤ 1) : f_X2_mirrored (Int32.ofNat i) (Int32.ofNat b) s = some (oI (mirN i b), s) := by
  unfold f_X2_mirrored mirN
  by_cases hb0 : b = 0
  · subst hb0
    rw [if_pos (show Int32.ofNat 0 = 0 from rfl), if_pos rfl]
    exact x_mir (by omega)
  · rw [if_neg (by rw [N_eqL (by omega) (by omega)]; exact hb0), if_neg hb0, N_modL (by omega) (by omega), rd_N (by omega) (by omega), Option.bind_some, td_F _ (by omega)]
    have hl := td_lt (d := i % 10)
    by_cases ht : tdN (i % 10) = i % 10
    · rw [if_pos ht, if_neg (show ¬ tdN (i % 10) = 10 by omega), if_pos (by rw [ht]), N_divL (by omega) (by omega)]
      exact x_mir (by omega)
    · rw [if_neg ht]
      by_cases h10 : tdN (i % 10) = 10
      · rw [if_pos h10, if_neg (by rw [neg_N (by omega)]; exact fun q => q)]
        rfl
      · rw [if_neg h10, if_neg (by rw [N_eq (by omega) (by omega)]; exact ht)]
        rfl
theorem m_upside {v : Nat} {t : Mem} (hv : v < 1000000) : f_X12_upside (Int32.ofNat v) t = some (oI (udl 6 v 0), t) := by
  have key : ok (it FUEL (fun y => st_X12_upside_4 y.1 y.2.1 y.2.2) (0, Int32.ofNat v, t)) (fun r => r.2.2 = t ∧ (r.1 = 0 ∧ udl 6 v 0 = none ∨ r.1 = 1 ∧ ∃ a, udl 6 v 0 = some a ∧ r.2.1 = Int32.ofNat a)) := by
    refine it_ok1 6 (by omega) (fun k y => ∃ a w, y = (Int32.ofNat a, Int32.ofNat w, t) ∧ k ≤ 6 ∧ w = v / 10 ^ k ∧ udl (6 - k) w a = udl 6 v 0) ⟨0, v, rfl, by omega, by rw [Nat.pow_zero, Nat.div_one], rfl⟩ (fun k y q => by obtain ⟨_, _, _, q, _⟩ := q; exact q) ?_
    rintro k y ⟨a, w, rfl, hk, hw, hu⟩
    have hwv : w ≤ v := by rw [hw]; exact Nat.div_le_self _ _
    dsimp only
    unfold st_X12_upside_4
    by_cases hw0 : w = 0
    · subst hw0
      rw [if_pos (by decide)]
      rw [udl_0] at hu
      exact Or.inr ⟨_, rfl, rfl, Or.inr ⟨rfl, a, hu.symm, rfl⟩⟩
    · have hk6 : k ≠ 6 := by
        rintro rfl
        apply hw0
        rw [hw]
        omega
      rw [if_neg (show ¬ Int32.ofNat w ≤ 0 by rw [N_leL (by omega) (by omega)]; omega)]
      have e : 6 - k = (6 - (k + 1)) + 1 := by omega
      rw [e] at hu
      unfold udl at hu
      rw [if_neg hw0] at hu
      have hw' : w / 10 = v / 10 ^ (k + 1) := by rw [hw, Nat.div_div_eq_div_mul, Nat.pow_succ]
      obtain ⟨t1, t2, t3, t4⟩ := td_M (w % 10) (by omega)
      rw [m_isIn, Option.bind_some, N_modL (by omega) (by omega)]
      have e25 : (2 ≤ Int32.ofNat (w % 10) ∧ Int32.ofNat (w % 10) ≤ 5) = (2 ≤ w % 10 ∧ w % 10 ≤ 5) := by rw [L_leN (by omega) (by omega), N_leL (by omega) (by omega)]
      simp only [e25]
      by_cases h25 : 2 ≤ w % 10 ∧ w % 10 ≤ 5
      · rw [if_pos (t1.mpr (Or.inl h25))] at hu
        rw [if_pos h25, if_neg (by decide)]
        exact Or.inr ⟨_, rfl, rfl, Or.inl ⟨rfl, hu.symm⟩⟩
      · rw [if_neg h25, if_pos rfl]
        by_cases h7 : w % 10 = 7
        · rw [if_pos (t1.mpr (Or.inr h7))] at hu
          rw [if_pos (show Int32.ofNat (w % 10) = 7 by rw [h7]; rfl)]
          exact Or.inr ⟨_, rfl, rfl, Or.inl ⟨rfl, hu.symm⟩⟩
        · rw [if_neg (fun q => (t1.mp q).elim h25 h7)] at hu
          rw [if_neg (show ¬ Int32.ofNat (w % 10) = 7 by rw [N_eqL (by omega) (by omega)]; exact h7)]
          unfold jn_X12_upside_64
          have fin : ∀ (d : Nat) (D : Int32), D = Int32.ofNat d → tdN (w % 10) = d → (∃ s', (some (.inl (10 * Int32.ofNat a + D, Int32.ofNat w / 10, t)) : Option ((Int32 × Int32 × Mem) ⊕ (Nat × Int32 × Mem))) = some (.inl s') ∧ ∃ a w, s' = (Int32.ofNat a, Int32.ofNat w, t) ∧ k + 1 ≤ 6 ∧ w = v / 10 ^ (k + 1) ∧ udl (6 - (k + 1)) w a = udl 6 v 0) := by
            rintro d D rfl hd
            rw [hd] at hu
            rw [L_mulN, N_add, N_divL (by omega) (by omega), Nat.mul_comm 10 a]
            exact ⟨_, rfl, _, _, rfl, by omega, hw', hu⟩
          by_cases h6 : w % 10 = 6
          · rw [if_pos (show Int32.ofNat (w % 10) = 6 by rw [h6]; rfl)]
            exact Or.inl (fin 9 9 rfl (t2 h6))
          · rw [if_neg (show ¬ Int32.ofNat (w % 10) = 6 by rw [N_eqL (by omega) (by omega)]; exact h6)]
            by_cases h9 : w % 10 = 9
            · rw [if_pos (show Int32.ofNat (w % 10) = 9 by rw [h9]; rfl)]
              exact Or.inl (fin 6 6 rfl (t3 h9))
            · rw [if_neg (show ¬ Int32.ofNat (w % 10) = 9 by rw [N_eqL (by omega) (by omega)]; exact h9)]
              exact Or.inl (fin (w % 10) _ rfl (t4 (by omega)))
  obtain ⟨⟨fl, x, s2⟩, e, q1, q2⟩ := key
  dsimp only at q1 q2
  subst q1
  unfold f_X12_upside
  rw [e, Option.bind_some]
  dsimp only
  rcases q2 with ⟨rfl, q⟩ | ⟨rfl, a, q, rfl⟩
  · rw [if_pos rfl, q]
    rfl
  · rw [if_neg (by decide), q]
    rfl
def isUp (k : Nat) : Bool := match udl 6 k 0 with
  | none => false
  | some r => Nat.beq r k
theorem isUp_iff {k : Nat} : isUp k = true ↔ udl 6 k 0 = some k := by
  unfold isUp
  cases h : udl 6 k 0 with
  | none => simp
  | some r => simp
def invN (x : Nat) : Nat × Nat := if x < 10 then (x, 1) else if x < 100 then (x / 10, 0) else if x < 1000 then (x / 10, 1) else if x < 10000 then (x / 100, 0) else if x < 100000 then (x / 100, 1) else (x / 1000, 0)
def chk1 (i b : Nat) : Bool := match mirN i b with
  | none => true
  | some v => Nat.blt 100001 v || (Nat.beq i 0 && Nat.beq b 0) || (isUp v && Nat.beq (invN v).1 i && Nat.beq (invN v).2 b)
def chk2 (k : Nat) : Bool := !isUp k || Nat.blt 100001 k || (match mirN (invN k).1 (invN k).2 with
  | none => false
  | some v => Nat.beq v k && Nat.blt (invN k).1 1000 && (Nat.blt 0 (invN k).1 || Nat.beq (invN k).2 1) && Nat.ble (invN k).2 1)
set_option maxRecDepth 100000 in
theorem chk1_all : allN 1000 (fun i => chk1 i 0 && chk1 i 1) = true := by decide +kernel
set_option maxRecDepth 100000 in
theorem chk2_all : allN 1001 (fun a => allN 100 (fun b => chk2 (100 * a + b))) = true := by decide +kernel
