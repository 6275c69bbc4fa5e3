/-! ===== how often a digit is said; which digit ===== -/
theorem jmin_N {a b : Nat} (ha : a < 2147483648) (hb : b < 2147483648) : jmmin (Int32.ofNat a) (Int32.ofNat b) = Int32.ofNat (min a b) := by
  unfold jmmin
  by_cases h : b < a
  · rw [if_pos (by rw [N_lt hb ha]; exact h), Nat.min_eq_right (by omega)]
  · rw [if_neg (by rw [N_lt hb ha]; exact h), Nat.min_eq_left (by omega)]
theorem N_addm {a : Nat} (h : 0 < a) : Int32.ofNat a + (-1) = Int32.ofNat (a - 1) := by
  rw [← N_pred h]
  grind
def gX (p n d : Nat) : Nat :=
  if d = 0 ∧ n / p / 10 = 0 then 0 else (if d = 0 then n / p / 10 - 1 else n / p / 10) * p + (if n / p % 10 = d then n % p + 1 else if n / p % 10 < d then 0 else p)
def Gt (n d : Nat) : Nat := gX 1 n d + gX 10 n d + gX 100 n d + gX 1000 n d
def bt (v d : Nat) : Nat := if v % 10 = d ∧ 0 < v then 1 else 0
def dct (v d : Nat) : Nat := bt v d + bt (v / 10) d + bt (v / 100) d + bt (v / 1000) d
theorem gX_core {p a b r d a' b' r' : Nat} (hd : d ≤ 9) (hb : b ≤ 9) (hp : 0 < p) (h : (a' = a ∧ b' = b ∧ r' = r + 1 ∧ r + 1 < p) ∨ (r + 1 = p ∧ r' = 0 ∧ ((b' = b + 1 ∧ a' = a ∧ b < 9) ∨ (b = 9 ∧ b' = 0 ∧ a' = a + 1)))) :
    (if d = 0 ∧ a' = 0 then 0 else (if d = 0 then a' - 1 else a') * p + (if b' = d then r' + 1 else if b' < d then 0 else p)) = (if d = 0 ∧ a = 0 then 0 else (if d = 0 then a - 1 else a) * p + (if b = d then r + 1 else if b < d then 0 else p)) + (if b' = d ∧ 0 < 10 * a' + b' then 1 else 0) := by
  rcases h with ⟨rfl, rfl, rfl, h⟩ | ⟨h, rfl, ⟨rfl, rfl, h9⟩ | ⟨rfl, rfl, rfl⟩⟩
  · by_cases hd0 : d = 0
    · subst hd0
      by_cases ha : a' = 0
      · subst ha
        by_cases hb0 : b' = 0
        · subst hb0
          simp
        · simp [hb0]
      · by_cases hb0 : b' = 0
        · subst hb0
          simp [ha]
          rw [if_pos (by omega)]
          omega
        · simp [ha, hb0]
    · by_cases hbd : b' = d
      · subst hbd
        simp [hd0]
        rw [if_pos (by omega)]
        omega
      · simp [hd0, hbd]
  · by_cases hd0 : d = 0
    · subst hd0
      by_cases ha : a' = 0
      · subst ha
        simp
      · by_cases hb0 : b = 0
        · subst hb0
          simp [ha]
          omega
        · simp [ha, hb0]
    · by_cases hbd : b = d
      · subst hbd
        simp [hd0, show ¬ b + 1 < b by omega]
        omega
      · by_cases hbd2 : b + 1 = d
        · subst hbd2
          simp
        · simp [hd0, hbd, hbd2]
          by_cases hlt : b < d
          · rw [if_pos hlt, if_pos (by omega)]
          · rw [if_neg hlt, if_neg (by omega)]
  · by_cases hd0 : d = 0
    · subst hd0
      by_cases ha : a = 0
      · subst ha
        simp
      · simp [ha]
        have : a * p = (a - 1) * p + p := by
          rw [← Nat.succ_mul]
          congr 1
          omega
        omega
    · by_cases hbd : 9 = d
      · subst hbd
        simp
        rw [Nat.add_mul]
        omega
      · simp [hd0, hbd, Ne.symm hd0, show ¬ 9 < d by omega, show 0 < d by omega, Nat.add_mul]
theorem gX_step {p n d : Nat} (hd : d ≤ 9) (hp : p = 1 ∨ p = 10 ∨ p = 100 ∨ p = 1000) : gX p (n + 1) d = gX p n d + bt ((n + 1) / p) d := by
  unfold gX bt
  have e : (n + 1) / p = 10 * ((n + 1) / p / 10) + (n + 1) / p % 10 := by omega
  have := gX_core (p := p) (a := n / p / 10) (b := n / p % 10) (r := n % p) (d := d) (a' := (n + 1) / p / 10) (b' := (n + 1) / p % 10) (r' := (n + 1) % p) hd (by omega) (by omega) (by
    rcases hp with rfl | rfl | rfl | rfl <;> omega)
  rw [← e] at this
  exact this
theorem Gt_step {n d : Nat} (hd : d ≤ 9) : Gt (n + 1) d = Gt n d + dct (n + 1) d := by
  unfold Gt dct
  rw [gX_step (p := 1) hd (by omega), gX_step (p := 10) hd (by omega), gX_step (p := 100) hd (by omega), gX_step (p := 1000) hd (by omega), Nat.div_one]
  omega
theorem Gt_0 {d : Nat} : Gt 0 d = 0 := by
  have h : ∀ p, gX p 0 d = 0 := by
    intro p
    unfold gX
    simp only [Nat.zero_div, Nat.zero_mod, and_true]
    by_cases hd : d = 0
    · rw [if_pos hd]
    · rw [if_neg hd, if_neg hd, if_neg (by omega), if_pos (by omega), Nat.zero_mul]
  unfold Gt
  rw [h, h, h, h]
theorem dct_s {v d : Nat} (hv : 0 < v) (h : v ≤ 9999) : dct v d = (if v % 10 = d then 1 else 0) + dct (v / 10) d := by
  have e4 : v / 10 / 1000 = 0 := by omega
  have e2 : v / 10 / 10 = v / 100 := by omega
  have e3 : v / 10 / 100 = v / 1000 := by omega
  unfold dct
  rw [e2, e3, e4]
  have e0 : bt 0 d = 0 := by
    unfold bt
    rw [if_neg (by omega)]
  have e1 : bt v d = if v % 10 = d then 1 else 0 := by
    unfold bt
    by_cases h : v % 10 = d
    · rw [if_pos h, if_pos ⟨h, hv⟩]
    · rw [if_neg h, if_neg (fun q => h q.1)]
  rw [e0, e1]
  omega
theorem m_dct {k d c x : Nat} {z : Int32} {t : Mem} (hk : k ≤ 9999) (hd : d ≤ 9) : it FUEL (fun y => st_X12_said_45 z (Int32.ofNat d) (Int32.ofNat x) y.1 y.2.1 y.2.2) (Int32.ofNat c, Int32.ofNat k, t) = some (Int32.ofNat (c + dct k d), t) := by
  have key : ok (it FUEL (fun y => st_X12_said_45 z (Int32.ofNat d) (Int32.ofNat x) y.1 y.2.1 y.2.2) (Int32.ofNat c, Int32.ofNat k, t)) (fun r => r = (Int32.ofNat (c + dct k d), t)) := by
    refine it_ok1 9999 (by omega) (fun i y => ∃ a v, y = (Int32.ofNat a, Int32.ofNat v, t) ∧ a + dct v d = c + dct k d ∧ v + i ≤ 9999) ⟨c, k, rfl, rfl, by omega⟩ (fun i y q => by obtain ⟨_, _, _, _, q⟩ := q; omega) ?_
    rintro i y ⟨a, v, rfl, h1, h2⟩
    dsimp only
    unfold st_X12_said_45
    by_cases hv : v = 0
    · subst hv
      rw [if_pos (by decide)]
      refine Or.inr ⟨_, rfl, ?_⟩
      rw [← h1]
      have : dct 0 d = 0 := by
        unfold dct bt
        simp
      rw [this, Nat.add_zero]
    · rw [if_neg (show ¬ Int32.ofNat v ≤ 0 by rw [N_leL (by omega) (by omega)]; omega)]
      simp (disch := omega) only [N_modL, N_divL, N_eq]
      rw [dct_s (by omega) (by omega)] at h1
      by_cases hx : v % 10 = d
      · rw [if_pos hx] at h1 ⊢
        rw [N_addL]
        exact Or.inl ⟨_, rfl, _, _, rfl, by omega, by omega⟩
      · rw [if_neg hx] at h1 ⊢
        exact Or.inl ⟨_, rfl, _, _, rfl, by omega, by omega⟩
  obtain ⟨r, e, rfl⟩ := key
  exact e
theorem m_said {n d : Nat} {t : Mem} (hn : n ≤ 9999) (hd : d ≤ 9) : it FUEL (fun y => st_X12_said_35 (Int32.ofNat n) (Int32.ofNat d) y.1 y.2.1 y.2.2) (0, 1, t) = some (Int32.ofNat (Gt n d), t) := by
  have e := it_go (f := fun y => st_X12_said_35 (Int32.ofNat n) (Int32.ofNat d) y.1 y.2.1 y.2.2) (fun i => (Int32.ofNat (Gt i d), Int32.ofNat (i + 1), t)) n (Int32.ofNat (Gt n d), t) (by omega) (fun i hi => by
    dsimp only
    unfold st_X12_said_35
    rw [if_neg (by rw [N_lt (by omega) (by omega)]; omega), m_dct (by omega) hd, Option.bind_some, N_addL, Gt_step hd]) (by
    dsimp only
    unfold st_X12_said_35
    rw [if_pos (by rw [N_lt (by omega) (by omega)]; omega)])
  rw [Gt_0] at e
  exact e
theorem x_dc1 {n d c p t u : Nat} {s : Mem} (hu : u ≤ 9) (hd : d ≤ 9) (ht : t ≤ 9999) {r : Nat} : jn_X2_digitCount_45 (Int32.ofNat n) (Int32.ofNat d) (Int32.ofNat c) (Int32.ofNat p) (Int32.ofNat u) (Int32.ofNat r) (Int32.ofNat t) s = some (.inl (Int32.ofNat (c + (t * p + (if u = d then r + 1 else if u < d then 0 else p))), Int32.ofNat (p * 10), s)) := by
  unfold jn_X2_digitCount_45 jn_X2_digitCount_81
  simp (disch := omega) only [N_nlt0, if_false, N_le, N_eq, N_mul, N_addL, N_mulL]
  rcases Nat.lt_trichotomy u d with h | h | h
  · rw [if_pos (by omega), if_neg (by omega), if_neg (by omega), if_pos h]
    rw [N_add]
  · rw [if_pos (by omega), if_pos h, if_pos h, N_add, N_add]
  · rw [if_neg (by omega), if_neg (by omega), if_neg (by omega), N_add, N_add]
theorem x_dc {n d c p : Nat} {s : Mem} (hp : 0 < p) (hp1 : p ≤ 1000) (hn : n ≤ 9999) (hd : d ≤ 9) : st_X2_digitCount_4 (Int32.ofNat n) (Int32.ofNat d) (Int32.ofNat c) (Int32.ofNat p) s = some (.inl (Int32.ofNat (c + gX p n d), Int32.ofNat (p * 10), s)) := by
  have hdiv : n / p ≤ n := Nat.div_le_self n p
  unfold st_X2_digitCount_4
  rw [if_neg (show ¬ 1000 < Int32.ofNat p by rw [L_ltN (by omega) (by omega)]; omega)]
  have h0 : ¬ Int32.ofNat p = 0 := by rw [N_eqL (by omega) (by omega)]; omega
  rw [if_neg h0, if_neg h0, if_neg h0, N_div (by omega) (by omega), N_mod (by omega) (by omega), N_modL (by omega) (by omega), N_divL (by omega) (by omega)]
  have he : (Int32.ofNat d = 0) = (d = 0) := N_eqL (by omega) (by omega)
  simp only [he]
  unfold gX
  generalize n / p = hh' at *
  generalize n % p = rr' at *
  by_cases hd0 : d = 0
  · subst hd0
    rw [if_pos rfl]
    by_cases hh : hh' / 10 = 0
    · rw [if_pos ⟨rfl, hh⟩, hh]
      unfold jn_X2_digitCount_45
      rw [if_pos (by decide), N_mulL, Nat.add_zero]
    · rw [if_neg (fun q => hh q.2), if_pos rfl, N_pred (by omega)]
      exact x_dc1 (by omega) (by omega) (by omega)
  · rw [if_neg hd0, if_neg (fun q => hd0 q.1), if_neg hd0]
    exact x_dc1 (by omega) (by omega) (by omega)
def Gs (n d : Nat) : Nat → Nat
  | 0 => 0
  | i + 1 => Gs n d i + gX (10 ^ i) n d
theorem x_said {n d : Nat} {s : Mem} (hn : n ≤ 9999) (hd : d ≤ 9) : f_X2_digitCount (Int32.ofNat n) (Int32.ofNat d) s = some (Int32.ofNat (Gt n d), s) := by
  have e := it_go (f := fun y => st_X2_digitCount_4 (Int32.ofNat n) (Int32.ofNat d) y.1 y.2.1 y.2.2) (fun i => (Int32.ofNat (Gs n d i), Int32.ofNat (10 ^ i), s)) 4 (Int32.ofNat (Gs n d 4), s) (by omega) (fun i hi => by
    dsimp only
    have h1 : 10 ^ i ≤ 10 ^ 3 := Nat.pow_le_pow_right (by decide) (by omega)
    have h2 : 0 < 10 ^ i := Nat.pow_pos (by decide)
    rw [x_dc h2 h1 hn hd, Nat.pow_succ]
    rfl) (by
    dsimp only
    unfold st_X2_digitCount_4
    rw [if_pos (by decide)])
  have e2 : Gs n d 4 = Gt n d := by
    show 0 + gX 1 n d + gX 10 n d + gX 100 n d + gX 1000 n d = _
    unfold Gt
    omega
  rw [e2] at e
  have e' : it FUEL (fun y => st_X2_digitCount_4 (Int32.ofNat n) (Int32.ofNat d) y.1 y.2.1 y.2.2) (0, 1, s) = some (Int32.ofNat (Gt n d), s) := e
  unfold f_X2_digitCount
  rw [e', Option.bind_some]
theorem o_said {x y : Int32} {s t : Mem} (h : GR s t) : opR (f_X11_said x y s) (f_X12_said x y t) := by
  have h1 := GR_told (v := 0) h
  unfold f_X11_said f_X12_said
  generalize mset t 0 0 0 = t1 at *
  simp only [m_isIn, Option.bind_some]
  by_cases hx : 1 ≤ x ∧ x ≤ 9999
  · rw [if_pos hx, if_neg (show ¬ x < 1 by grind), if_neg (show ¬ 9999 < x by grind), if_neg (show ¬ (1 : Int32) = 0 by decide)]
    by_cases hy : 0 ≤ y ∧ y ≤ 9
    · rw [if_pos hy, if_neg (show ¬ y < 0 by grind), if_pos hy.2, if_neg (show ¬ (1 : Int32) = 0 by decide)]
      obtain ⟨n, rfl, hn⟩ := N_of (x := x) (m := 9999) (by grind) hx.2 (by omega)
      obtain ⟨d, rfl, hd⟩ := N_of (x := y) (m := 9) hy.1 hy.2 (by omega)
      rw [x_said hn hd, m_said hn hd]
      exact opR.ret h1
    · rw [if_neg hy, if_pos rfl]
      by_cases h0 : y < 0
      · rw [if_pos h0]; exact opR.ret h1
      · rw [if_neg h0, if_neg (show ¬ y ≤ 9 by grind)]; exact opR.ret h1
  · rw [if_neg hx, if_pos rfl]
    by_cases h0 : x < 1
    · rw [if_pos h0]; exact opR.ret h1
    · rw [if_neg h0, if_pos (show 9999 < x by grind)]; exact opR.ret h1
