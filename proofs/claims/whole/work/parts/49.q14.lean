/-! ===== the calls: all choices tried ===== -/
def mk (p : Nat → Bool) : Nat → Nat
  | 0 => 0
  | n + 1 => mk p n ||| ((if p n = true then 1 else 0) <<< n)
theorem mk_bit {p : Nat → Bool} {i : Nat} : ∀ n, (mk p n).testBit i = (decide (i < n) && p i)
  | 0 => by
    unfold mk
    rw [Nat.zero_testBit]
    simp
  | n + 1 => by
    unfold mk
    rw [Nat.testBit_or, mk_bit n, Nat.testBit_shiftLeft]
    rcases Nat.lt_trichotomy i n with h | h | h
    · rw [decide_eq_true h, decide_eq_false (show ¬ i ≥ n by omega), decide_eq_true (show i < n + 1 by omega)]
      simp
    · subst h
      rw [decide_eq_false (show ¬ i < i by omega), decide_eq_true (show i ≥ i by omega), decide_eq_true (show i < i + 1 by omega), Nat.sub_self]
      cases p i <;> simp
    · rw [decide_eq_false (show ¬ i < n by omega), decide_eq_true (show i ≥ n by omega), decide_eq_false (show ¬ i < n + 1 by omega)]
      have hz : ∀ x, x ≠ 0 → Nat.testBit 1 x = false := fun x hx => by
        cases hb : Nat.testBit 1 x with
        | false => rfl
        | true => exact absurd (one_bit.mp hb) hx
      cases p n
      · simp
      · simp [hz (i - n) (by omega)]
theorem mk_lt {p : Nat → Bool} : ∀ n, mk p n < 2 ^ n
  | 0 => by
    unfold mk
    decide
  | n + 1 => by
    unfold mk
    refine Nat.or_lt_two_pow ?_ ?_
    · exact Nat.lt_of_lt_of_le (mk_lt n) (Nat.pow_le_pow_right (by decide) (by omega))
    · rw [Nat.shiftLeft_eq, Nat.pow_succ]
      have := Nat.pow_pos (n := n) (show 0 < 2 by decide)
      split <;> omega
theorem pop_all : allN 1024 (fun m => Nat.beq (popN 15 m) (wS one1 m.testBit 10)) = true := by decide +kernel
theorem big_bit {m n i : Nat} (h : m < 2 ^ n) (hi : n ≤ i) : m.testBit i = false := Nat.testBit_lt_two_pow (Nat.lt_of_lt_of_le h (Nat.pow_le_pow_right (by decide) hi))
theorem wS_more {v : Nat → Nat} {p : Nat → Bool} {n : Nat} (h : ∀ i, n ≤ i → p i = false) : ∀ k, wS v p (n + k) = wS v p n
  | 0 => rfl
  | k + 1 => by
    show wS v p (n + k) + (if p (n + k) = true then v (n + k) else 0) = _
    rw [wS_more h k, h (n + k) (by omega)]
    rfl
theorem pop_N {m n : Nat} (hn : n ≤ 10) (hm : m < 2 ^ n) : popN 15 m = wS one1 m.testBit n := by
  have h1 : 2 ^ n ≤ 2 ^ 10 := Nat.pow_le_pow_right (by decide) hn
  have h := Nat.eq_of_beq_eq_true (allN_of pop_all m (by omega))
  rw [h]
  have := wS_more (v := one1) (p := m.testBit) (n := n) (fun i hi => big_bit hm hi) (10 - n)
  rw [show n + (10 - n) = 10 by omega] at this
  exact this
theorem okS_s {a b : Nat → Nat} {p : Nat → Bool} {k : Nat} : okS a b p (k + 1) ↔ okS a b p k ∧ (p k = true → ∀ j, j < k → p j = true → b j ≤ a k ∨ b k ≤ a j) := by
  constructor
  · intro h
    exact ⟨fun i j hi hj => h i j (by omega) hj, fun hk j hj => h k j (by omega) hj hk⟩
  · rintro ⟨h1, h2⟩ i j hi hj pi pj
    by_cases hik : i = k
    · subst hik
      exact h2 pi j hj pj
    · exact h1 i j (by omega) hj pi pj
theorem okS_mono {a b : Nat → Nat} {p : Nat → Bool} {k n : Nat} (h : okS a b p n) (hk : k ≤ n) : okS a b p k := fun i j hi hj => h i j (by omega) hj
theorem m_clash {n k m : Nat} {a b v : Nat → Nat} {t : Mem} {z : Int32} (h : clM t n a b v) (hB : clB n a b v) (hm : m < 1024) (hk : k < n) : ok (it FUEL (fun y => st_X12_worthOf_36 (Int32.ofNat m) z (Int32.ofNat k) y.1 y.2) (0, t)) (fun r => r.2 = t ∧ ((r.1 = 1 ∧ ∀ j, j < k → m.testBit j = true → b j ≤ a k ∨ b k ≤ a j) ∨ (r.1 = 0 ∧ ∃ j, j < k ∧ m.testBit j = true ∧ ¬ (b j ≤ a k ∨ b k ≤ a j)))) := by
  obtain ⟨hn, h0, hi⟩ := h
  refine it_ok1 10 (by omega) (fun q y => y = (Int32.ofNat q, t) ∧ q ≤ k ∧ ∀ j, j < q → m.testBit j = true → b j ≤ a k ∨ b k ≤ a j) ⟨rfl, by omega, fun j hj => by omega⟩ (fun q y w => by omega) ?_
  rintro q y ⟨rfl, hq, hall⟩
  dsimp only
  unfold st_X12_worthOf_36
  by_cases hqk : q = k
  · subst hqk
    rw [if_pos (by rw [N_le (by omega) (by omega)]; omega)]
    exact Or.inr ⟨_, rfl, rfl, Or.inl ⟨rfl, hall⟩⟩
  · rw [if_neg (by rw [N_le (by omega) (by omega)]; omega), m_has (by omega) (by omega), Option.bind_some]
    dsimp only
    obtain ⟨k1, k2, k3⟩ := hi k hk
    obtain ⟨q1, q2, q3⟩ := hi q (by omega)
    obtain ⟨r1, r2, -⟩ := hB k hk
    obtain ⟨r3, r4, -⟩ := hB q (by omega)
    rw [N_addL]
    cases hb : m.testBit q with
    | false =>
      rw [if_pos (show (if false = true then (1 : Int32) else 0) = 0 by decide)]
      refine Or.inl ⟨_, rfl, rfl, by omega, fun j hj pj => ?_⟩
      by_cases hjq : j = q
      · subst hjq
        rw [hb] at pj
        cases pj
      · exact hall j (by omega) pj
    | true =>
      rw [if_neg (show ¬ (if true = true then (1 : Int32) else 0) = 0 by decide)]
      simp (disch := omega) only [rd_N, Option.bind_some, k1, k2, q1, q2, N_le]
      by_cases c1 : b q ≤ a k
      · rw [if_pos c1]
        refine Or.inl ⟨_, rfl, rfl, by omega, fun j hj pj => ?_⟩
        by_cases hjq : j = q
        · subst hjq
          exact Or.inl c1
        · exact hall j (by omega) pj
      · rw [if_neg c1]
        by_cases c2 : b k ≤ a q
        · rw [if_pos c2]
          refine Or.inl ⟨_, rfl, rfl, by omega, fun j hj pj => ?_⟩
          by_cases hjq : j = q
          · subst hjq
            exact Or.inr c2
          · exact hall j (by omega) pj
        · rw [if_neg c2]
          exact Or.inr ⟨_, rfl, rfl, Or.inr ⟨rfl, q, by omega, hb, fun w => w.elim c1 c2⟩⟩
theorem m_worth {n m : Nat} {a b v : Nat → Nat} {t : Mem} (h : clM t n a b v) (hB : clB n a b v) (hm : m < 1024) : ∃ r, f_X12_worthOf (Int32.ofNat m) t = some (r, t) ∧ ((r = Int32.ofNat (wS v m.testBit n) ∧ okS a b m.testBit n) ∨ (r = -1 ∧ ¬ okS a b m.testBit n)) := by
  have h' := h
  obtain ⟨hn, h0, hi⟩ := h'
  have key : ok (it FUEL (fun y => st_X12_worthOf_4 (Int32.ofNat m) y.1 y.2.1 y.2.2) (0, 0, t)) (fun r => r.2.2 = t ∧ ((r.1 = 1 ∧ r.2.1 = Int32.ofNat (wS v m.testBit n) ∧ okS a b m.testBit n) ∨ (r.1 = 0 ∧ ¬ okS a b m.testBit n))) := by
    refine it_ok1 10 (by omega) (fun k y => y = (Int32.ofNat (wS v m.testBit k), Int32.ofNat k, t) ∧ k ≤ n ∧ okS a b m.testBit k) ⟨rfl, by omega, fun i j hi => by omega⟩ (fun k y w => by omega) ?_
    rintro k y ⟨rfl, hk, hok⟩
    dsimp only
    unfold st_X12_worthOf_4
    rw [h0]
    by_cases hkn : k = n
    · subst hkn
      rw [if_pos (by rw [N_le (by omega) (by omega)]; omega)]
      exact Or.inr ⟨_, rfl, rfl, Or.inl ⟨rfl, rfl, hok⟩⟩
    · obtain ⟨k1, k2, k3⟩ := hi k (by omega)
      rw [if_neg (by rw [N_le (by omega) (by omega)]; omega), m_has (by omega) (by omega), Option.bind_some]
      dsimp only
      have hw : wS v m.testBit (k + 1) = wS v m.testBit k + if m.testBit k = true then v k else 0 := rfl
      cases hb : m.testBit k with
      | false =>
        rw [if_pos (show (if false = true then (1 : Int32) else 0) = 0 by decide), N_addL]
        refine Or.inl ⟨_, rfl, ?_, by omega, okS_s.mpr ⟨hok, fun q => by rw [hb] at q; cases q⟩⟩
        rw [hw, hb]
        rfl
      | true =>
        rw [if_neg (show ¬ (if true = true then (1 : Int32) else 0) = 0 by decide), rd_N (by omega) (by omega), Option.bind_some, k3, N_add]
        obtain ⟨⟨fl, t2⟩, e, q1, q2⟩ := m_clash (z := Int32.ofNat (wS v m.testBit k + v k)) h hB hm (show k < n by omega)
        dsimp only at q1 q2
        subst q1
        rw [e, Option.bind_some]
        dsimp only
        rcases q2 with ⟨rfl, q⟩ | ⟨rfl, j, q1, q2, q3⟩
        · rw [if_neg (by decide), N_addL]
          refine Or.inl ⟨_, rfl, ?_, by omega, okS_s.mpr ⟨hok, fun _ => q⟩⟩
          rw [hw, hb]
          rfl
        · rw [if_pos rfl]
          refine Or.inr ⟨_, rfl, rfl, Or.inr ⟨rfl, fun w => q3 (w k j (by omega) q1 hb q2)⟩⟩
  obtain ⟨⟨fl, x, t2⟩, e, q1, q2⟩ := key
  dsimp only at q1 q2
  subst q1
  unfold f_X12_worthOf
  rw [e, Option.bind_some]
  dsimp only
  rcases q2 with ⟨rfl, rfl, q⟩ | ⟨rfl, q⟩
  · exact ⟨_, by rw [if_neg (by decide)], Or.inl ⟨rfl, q⟩⟩
  · exact ⟨_, by rw [if_pos rfl], Or.inr ⟨rfl, q⟩⟩
theorem m_tries {n : Nat} {a b v : Nat → Nat} {t : Mem} {x : Int32} (h : clM t n a b v) (hB : clB n a b v) (hx : ¬ 2 ≤ x) : ok (it FUEL (fun y => st_X12_calls_24 x y.1 y.2.1 y.2.2.1 y.2.2.2) (0, 0, 1, t)) (fun r => ∃ W C, r = (Int32.ofNat W, Int32.ofNat C, t) ∧ C ≤ 10 ∧ (∃ p, okS a b p n ∧ W = wS v p n ∧ C = wS one1 p n) ∧ ∀ m, m < 2 ^ n → okS a b m.testBit n → 16 * wS v m.testBit n + C ≤ 16 * W + wS one1 m.testBit n) := by
  have h' := h
  obtain ⟨hn, h0, hi⟩ := h'
  have hv : ∀ i, i < n → v i ≤ 99 := fun i q => (hB i q).2.2.2
  have h2n : 2 ^ n ≤ 2 ^ 10 := Nat.pow_le_pow_right (by decide) hn
  refine it_ok1 1023 (by omega) (fun q y => ∃ W C, y = (Int32.ofNat W, Int32.ofNat C, Int32.ofNat (q + 1), t) ∧ q + 1 ≤ 2 ^ n ∧ C ≤ 10 ∧ (∃ p, okS a b p n ∧ W = wS v p n ∧ C = wS one1 p n) ∧ ∀ m, m < q + 1 → okS a b m.testBit n → 16 * wS v m.testBit n + C ≤ 16 * W + wS one1 m.testBit n)
    ⟨0, 0, rfl, Nat.pow_pos (by decide), by omega, ⟨fun _ => false, fun i j _ _ q => absurd q Bool.false_ne_true, (wS_0 n (fun _ _ => rfl)).symm, (wS_0 n (fun _ _ => rfl)).symm⟩, fun m hm _ => by
      have : m = 0 := by omega
      subst this
      rw [wS_0 (v := v) n (fun i _ => Nat.zero_testBit i)]
      omega⟩ (fun q y w => by obtain ⟨_, _, _, w, _⟩ := w; omega) ?_
  rintro q y ⟨W, C, rfl, hq, hC, hA, hall⟩
  dsimp only
  have hW : W ≤ 990 := by
    obtain ⟨p, -, w, -⟩ := hA
    have h1 := wS_le (p := p) n hv
    have h2 : 99 * n ≤ 99 * 10 := Nat.mul_le_mul_left _ hn
    omega
  unfold st_X12_calls_24 jn_X12_calls_73
  rw [h0, L_shl (by omega)]
  by_cases hend : 2 ^ n ≤ q + 1
  · rw [if_pos (by rw [N_le (by omega) (by omega)]; exact hend)]
    refine Or.inr ⟨_, rfl, W, C, rfl, hC, hA, fun m hm => hall m (by omega)⟩
  · rw [if_neg (by rw [N_le (by omega) (by omega)]; exact hend), if_neg hx]
    obtain ⟨r, e, hr⟩ := m_worth (m := q + 1) h hB (by omega)
    rw [e, Option.bind_some]
    dsimp only
    have hone := pop_N (m := q + 1) hn (by omega)
    have hol := wS_le (v := one1) (m := 1) (p := (q + 1).testBit) n (fun _ _ => Nat.le_refl _)
    rw [m_onesOf (by omega), Option.bind_some, hone, N_addL]
    have nx : ∀ W' C', (16 * W + C' ≤ 16 * W' + C) → (okS a b (q + 1).testBit n → 16 * wS v (q + 1).testBit n + C' ≤ 16 * W' + wS one1 (q + 1).testBit n) → ∀ m, m < q + 1 + 1 → okS a b m.testBit n → 16 * wS v m.testBit n + C' ≤ 16 * W' + wS one1 m.testBit n := by
      intro W' C' w1 w2 m hm hok
      by_cases hmq : m = q + 1
      · subst hmq
        exact w2 hok
      · have := hall m (by omega) hok
        omega
    rcases hr with ⟨rfl, hok⟩ | ⟨rfl, hno⟩
    · have hwl : wS v (q + 1).testBit n ≤ 990 := by
        have h1 := wS_le (p := (q + 1).testBit) n hv
        have h2 : 99 * n ≤ 99 * 10 := Nat.mul_le_mul_left _ hn
        omega
      rcases Nat.lt_trichotomy (wS v (q + 1).testBit n) W with c | c | c
      · rw [if_pos (by rw [N_lt (by omega) (by omega)]; exact c)]
        exact Or.inl ⟨_, rfl, W, C, rfl, by omega, hC, hA, nx W C (by omega) (fun _ => by omega)⟩
      · rw [if_neg (by rw [N_lt (by omega) (by omega)]; omega), if_pos (by rw [c])]
        by_cases c2 : wS one1 (q + 1).testBit n < C
        · rw [if_pos (by rw [N_lt (by omega) (by omega)]; exact c2)]
          dsimp only
          rw [m_onesOf (by omega), Option.bind_some, hone]
          exact Or.inl ⟨_, rfl, _, _, rfl, by omega, by omega, ⟨_, hok, rfl, rfl⟩, nx _ _ (by omega) (fun _ => by omega)⟩
        · rw [if_neg (by rw [N_lt (by omega) (by omega)]; exact c2)]
          exact Or.inl ⟨_, rfl, W, C, rfl, by omega, hC, hA, nx W C (by omega) (fun _ => by omega)⟩
      · rw [if_neg (by rw [N_lt (by omega) (by omega)]; omega), if_neg (by rw [N_eq (by omega) (by omega)]; omega)]
        exact Or.inl ⟨_, rfl, _, _, rfl, by omega, by omega, ⟨_, hok, rfl, rfl⟩, nx _ _ (by omega) (fun _ => by omega)⟩
    · rw [if_pos (show (-1 : Int32) < Int32.ofNat W by
        have h0 : (0 : Int32) ≤ Int32.ofNat W := by rw [N_0le (by omega)]; trivial
        grind)]
      exact Or.inl ⟨_, rfl, W, C, rfl, by omega, hC, hA, nx W C (by omega) (fun w => absurd w hno)⟩
theorem best_two {n W C d : Nat} {a b v : Nat → Nat} (hn : n ≤ 10) (hB : clB n a b v) (hC : C ≤ 10) (hA : ∃ p, okS a b p n ∧ W = wS v p n ∧ C = wS one1 p n) (hall : ∀ m, m < 2 ^ n → okS a b m.testBit n → 16 * wS v m.testBit n + C ≤ 16 * W + wS one1 m.testBit n) (hd : bestA a b v n 99 d) : d + C = 16 * W := by
  have up : ∀ p, upS b p n 99 := fun p i hi _ => (hB i hi).2.1
  obtain ⟨p, p1, p2, p3⟩ := hA
  have h1 := hd.1 p p1 (up p)
  obtain ⟨q, q1, -, q3⟩ := hd.2
  have eq : ∀ i, i < n → (mk q n).testBit i = q i := fun i hi => by
    rw [mk_bit, decide_eq_true hi, Bool.true_and]
  have h2 := hall (mk q n) (mk_lt n) (fun i j hi hj pi pj => by
    rw [eq i hi] at pi
    rw [eq j (by omega)] at pj
    exact q1 i j hi hj pi pj)
  rw [wS_congr n eq, wS_congr n eq] at h2
  omega
def cP (a b : Nat → Nat) (m : Nat) : Nat → Bool := fun i => decide (a i ≤ m ∧ m < b i)
theorem x_callsIn {n m : Nat} {a b v : Nat → Nat} {s : Mem} (h : clX s n a b v) (hB : clB n a b v) (hm : m < 1000) : f_X9_callsIn 32 (Int32.ofNat m) s = some (Int32.ofNat (wS one1 (cP a b m) n), s) := by
  obtain ⟨hn, ⟨c1, c2, c3⟩, hi⟩ := h
  obtain ⟨-, g36, g38, g40, -⟩ := gl_rows
  have e := it_go (f := fun y => st_X9_callsIn_5 32 (Int32.ofNat m) y.1 y.2.1 y.2.2) (fun k => (Int32.ofNat (wS one1 (cP a b m) k), Int32.ofNat k, s)) n (Int32.ofNat (wS one1 (cP a b m) n), s) (by omega) (fun k hk => by
    dsimp only
    unfold st_X9_callsIn_5
    simp only [show (32 + 5 : Nat) = 37 from rfl, show (37 + 1 : Nat) = 38 from rfl, show (32 + 3 : Nat) = 35 from rfl, show (35 + 1 : Nat) = 36 from rfl, g36, g38]
    obtain ⟨i1, i2, i3⟩ := hi k hk
    obtain ⟨b1, b2, b3, b4⟩ := hB k hk
    rw [c1, if_neg (by rw [N_le (by omega) (by omega)]; omega)]
    simp (disch := omega) only [x_at c1 rfl g36 hn, x_at c2 rfl g38 hn, rd_N, Option.bind_some, i1, i2, N_lt, N_le, N_addL]
    have hw : wS one1 (cP a b m) (k + 1) = wS one1 (cP a b m) k + if cP a b m k = true then one1 k else 0 := rfl
    have hc : (cP a b m k = true) = (a k ≤ m ∧ m < b k) := by
      unfold cP
      rw [decide_eq_true_eq]
    simp only [hc] at hw
    rw [hw]
    by_cases q1 : m < a k
    · rw [if_pos q1, if_neg (by omega)]
      rfl
    · rw [if_neg q1]
      by_cases q2 : b k ≤ m
      · rw [if_pos q2, if_neg (by omega)]
        rfl
      · rw [if_neg q2, if_pos (by omega)]
        rfl) (by
    dsimp only
    unfold st_X9_callsIn_5
    rw [show (32 + 3 : Nat) = 35 from rfl, c1, if_pos (by rw [N_le (by omega) (by omega)]; omega)])
  unfold f_X9_callsIn
  have e' : it FUEL (fun y => st_X9_callsIn_5 32 (Int32.ofNat m) y.1 y.2.1 y.2.2) (0, 0, s) = some (Int32.ofNat (wS one1 (cP a b m) n), s) := e
  rw [e', Option.bind_some]
theorem m_callsAt {n m : Nat} {a b v : Nat → Nat} {t : Mem} (h : clM t n a b v) (hB : clB n a b v) (hm : m < 1000) : f_X12_callsAt (Int32.ofNat m) t = some (Int32.ofNat (wS one1 (cP a b m) n), t) := by
  obtain ⟨hn, h0, hi⟩ := h
  have e := it_go (f := fun y => st_X12_callsAt_4 (Int32.ofNat m) y.1 y.2.1 y.2.2) (fun k => (Int32.ofNat (wS one1 (cP a b m) k), Int32.ofNat k, t)) n (Int32.ofNat (wS one1 (cP a b m) n), t) (by omega) (fun k hk => by
    dsimp only
    unfold st_X12_callsAt_4
    obtain ⟨i1, i2, i3⟩ := hi k hk
    obtain ⟨b1, b2, b3, b4⟩ := hB k hk
    rw [h0, if_neg (by rw [N_le (by omega) (by omega)]; omega)]
    simp (disch := omega) only [rd_N, Option.bind_some, i1, i2, m_isIn, N_addL, N_subL, N_le]
    have hw : wS one1 (cP a b m) (k + 1) = wS one1 (cP a b m) k + if cP a b m k = true then one1 k else 0 := rfl
    have hc : (cP a b m k = true) = (a k ≤ m ∧ m < b k) := by
      unfold cP
      rw [decide_eq_true_eq]
    simp only [hc] at hw
    rw [hw]
    by_cases q1 : a k ≤ m ∧ m < b k
    · rw [if_pos q1, if_pos (show a k ≤ m ∧ m ≤ b k - 1 by omega), if_neg (by decide)]
      rfl
    · rw [if_neg q1, if_neg (show ¬ (a k ≤ m ∧ m ≤ b k - 1) by omega), if_pos rfl]
      rfl) (by
    dsimp only
    unfold st_X12_callsAt_4
    rw [h0, if_pos (by rw [N_le (by omega) (by omega)]; omega)])
  unfold f_X12_callsAt
  have e' : it FUEL (fun y => st_X12_callsAt_4 (Int32.ofNat m) y.1 y.2.1 y.2.2) (0, 0, t) = some (Int32.ofNat (wS one1 (cP a b m) n), t) := e
  rw [e', Option.bind_some]
def nMn (a b : Nat → Nat) (n : Nat) : Nat → Nat
  | 0 => 0
  | m + 1 => nMn a b n m + if wS one1 (cP a b m) n ≤ 0 then 0 else 1
def xMn (a b : Nat → Nat) (n : Nat) : Nat → Nat
  | 0 => 0
  | m + 1 => max (xMn a b n m) (wS one1 (cP a b m) n)
theorem c_le {a b : Nat → Nat} {n m : Nat} : wS one1 (cP a b m) n ≤ n := by
  have := wS_le (v := one1) (m := 1) (p := cP a b m) n (fun _ _ => Nat.le_refl _)
  omega
theorem xMn_le {a b : Nat → Nat} {n : Nat} : ∀ m, xMn a b n m ≤ n
  | 0 => Nat.zero_le _
  | m + 1 => by
    have h1 := xMn_le (a := a) (b := b) (n := n) m
    have h2 := c_le (a := a) (b := b) (n := n) (m := m)
    unfold xMn
    omega
theorem x_minutes {n : Nat} {a b v : Nat → Nat} {s : Mem} (h : clX s n a b v) (hB : clB n a b v) : f_X9_minutesInCalls 32 s = some (Int32.ofNat (nMn a b n 100), s) := by
  have hn := h.1
  have e := it_go (f := fun y => st_X9_minutesInCalls_4 32 y.1 y.2.1 y.2.2) (fun k => (Int32.ofNat (nMn a b n k), Int32.ofNat k, s)) 100 (Int32.ofNat (nMn a b n 100), s) (by omega) (fun k hk => by
    dsimp only
    unfold st_X9_minutesInCalls_4
    have hc := c_le (a := a) (b := b) (n := n) (m := k)
    rw [if_neg (by rw [L_leN (by omega) (by omega)]; omega), x_callsIn h hB (by omega), Option.bind_some]
    dsimp only
    have hw : nMn a b n (k + 1) = nMn a b n k + if wS one1 (cP a b k) n ≤ 0 then 0 else 1 := rfl
    have he : (Int32.ofNat (wS one1 (cP a b k) n) ≤ 0) = (wS one1 (cP a b k) n ≤ 0) := N_leL (by omega) (by omega)
    simp only [he]
    rw [hw, N_addL, N_addL]
    by_cases q : wS one1 (cP a b k) n ≤ 0
    · rw [if_pos q, if_pos q]
      rfl
    · rw [if_neg q, if_neg q]) (by
    dsimp only
    unfold st_X9_minutesInCalls_4
    rw [if_pos (by decide)])
  unfold f_X9_minutesInCalls
  have e' : it FUEL (fun y => st_X9_minutesInCalls_4 32 y.1 y.2.1 y.2.2) (0, 0, s) = some (Int32.ofNat (nMn a b n 100), s) := e
  rw [e', Option.bind_some]
theorem x_atOnce {n : Nat} {a b v : Nat → Nat} {s : Mem} (h : clX s n a b v) (hB : clB n a b v) : f_X9_callsAtOnce 32 s = some (Int32.ofNat (xMn a b n 100), s) := by
  have hn := h.1
  have e := it_go (f := fun y => st_X9_callsAtOnce_4 32 y.1 y.2.1 y.2.2) (fun k => (Int32.ofNat (xMn a b n k), Int32.ofNat k, s)) 100 (Int32.ofNat (xMn a b n 100), s) (by omega) (fun k hk => by
    dsimp only
    unfold st_X9_callsAtOnce_4
    have hc := c_le (a := a) (b := b) (n := n) (m := k)
    have hx := xMn_le (a := a) (b := b) (n := n) k
    rw [if_neg (by rw [L_leN (by omega) (by omega)]; omega), x_callsIn h hB (by omega), Option.bind_some]
    dsimp only
    rw [jmax_N (by omega) (by omega), N_addL]
    rfl) (by
    dsimp only
    unfold st_X9_callsAtOnce_4
    rw [if_pos (by decide)])
  unfold f_X9_callsAtOnce
  have e' : it FUEL (fun y => st_X9_callsAtOnce_4 32 y.1 y.2.1 y.2.2) (0, 0, s) = some (Int32.ofNat (xMn a b n 100), s) := e
  rw [e', Option.bind_some]
theorem m_minutes {n : Nat} {a b v : Nat → Nat} {t : Mem} {x : Int32} (h : clM t n a b v) (hB : clB n a b v) : it FUEL (fun y => st_X12_calls_113 x y.1 y.2.1 y.2.2.1 y.2.2.2) (0, 0, 0, t) = some (Int32.ofNat (nMn a b n 100), Int32.ofNat (xMn a b n 100), t) := by
  have hn := h.1
  have e := it_go (f := fun y => st_X12_calls_113 x y.1 y.2.1 y.2.2.1 y.2.2.2) (fun k => (Int32.ofNat (nMn a b n k), Int32.ofNat (xMn a b n k), Int32.ofNat k, t)) 100 (Int32.ofNat (nMn a b n 100), Int32.ofNat (xMn a b n 100), t) (by omega) (fun k hk => by
    dsimp only
    unfold st_X12_calls_113 jn_X12_calls_135
    have hc := c_le (a := a) (b := b) (n := n) (m := k)
    have hx := xMn_le (a := a) (b := b) (n := n) k
    rw [if_neg (by rw [L_leN (by omega) (by omega)]; omega), m_callsAt h hB (by omega), Option.bind_some]
    dsimp only
    rw [m_callsAt h hB (by omega)]
    simp only [Option.bind_some, m_greater]
    have hw : nMn a b n (k + 1) = nMn a b n k + if wS one1 (cP a b k) n ≤ 0 then 0 else 1 := rfl
    have hw2 : xMn a b n (k + 1) = max (xMn a b n k) (wS one1 (cP a b k) n) := rfl
    have he : (Int32.ofNat (wS one1 (cP a b k) n) ≤ 0) = (wS one1 (cP a b k) n ≤ 0) := N_leL (by omega) (by omega)
    simp only [he]
    rw [hw, hw2, N_addL, N_addL, jmax_N (by omega) (by omega)]
    by_cases q : wS one1 (cP a b k) n ≤ 0
    · rw [if_pos q, if_pos q]
      rfl
    · rw [if_neg q, if_neg q]) (by
    dsimp only
    unfold st_X12_calls_113
    rw [if_pos (by decide)])
  exact e
theorem o_calls {x : Int32} {s t : Mem} (h : GR s t) : opR (f_X11_calls x s) (f_X12_calls x t) := by
  have h1 := GR_told (v := 0) h
  unfold f_X11_calls f_X12_calls
  generalize mset t 0 0 0 = t1 at *
  clear h
  have hG := h1
  obtain ⟨nn, hL, hX⟩ := h1
  obtain ⟨z1, z2, z3, z4⟩ := hX.1.2.2.2.1
  clear hL hX
  obtain ⟨n, a, hn, e1, e2, ha⟩ := row_N (hi := 99) z1 (by decide) (by omega)
  obtain ⟨b, e3, hb⟩ := row_M (hi := 99) z2 (by decide) (by omega) (by omega) (show n < 1000 by omega) e2
  obtain ⟨v, e4, hv⟩ := row_M (hi := 99) z3 (by decide) (by omega) (by omega) (show n < 1000 by omega) e2
  clear z1 z2 z3
  simp only [show (32 + 3 : Nat) = 35 from rfl, show (35 + 1 : Nat) = 36 from rfl, show (32 + 5 : Nat) = 37 from rfl, show (37 + 1 : Nat) = 38 from rfl, show (32 + 7 : Nat) = 39 from rfl, show (39 + 1 : Nat) = 40 from rfl] at e1 e3 e4 ha hb hv
  have cX : clX s n a b v := ⟨hn, ⟨e1, e3, e4⟩, fun i hi => ⟨(ha i hi).1, (hb i hi).1, (hv i hi).1⟩⟩
  have cM : clM t1 n a b v := ⟨hn, e2, fun i hi => ⟨(ha i hi).2.1, (hb i hi).2.1, (hv i hi).2.1⟩⟩
  have cB : clB n a b v := fun i hi => by
    obtain ⟨-, a1, -, a3⟩ := ha i hi
    obtain ⟨-, b1, -, b3⟩ := hb i hi
    obtain ⟨-, v1, v2, v3⟩ := hv i hi
    refine ⟨?_, b3, ?_, v3⟩
    · have := z4 i (by rw [e2, N_lt (by omega) (by omega)]; exact hi) (by omega)
      rw [a1, b1, N_lt (by omega) (by omega)] at this
      exact this
    · rw [L_leN (by omega) (by omega)] at v2
      exact v2
  simp only [m_isIn, Option.bind_some]
  by_cases hx : 0 ≤ x ∧ x ≤ 3
  · rw [if_pos hx, if_neg (show ¬ (1 : Int32) = 0 by decide)]
    unfold jn_X12_calls_89
    simp only [show (1 + 31 : Nat) = 32 from rfl]
    by_cases h2 : 2 ≤ x
    · have eL : it FUEL (fun y => st_X12_calls_24 x y.1 y.2.1 y.2.2.1 y.2.2.2) (0, 0, 1, t1) = some (0, 0, t1) := it_go (f := fun y => st_X12_calls_24 x y.1 y.2.1 y.2.2.1 y.2.2.2) (fun _ => (0, 0, 1, t1)) 0 (0, 0, t1) (by omega) (fun p hp => by omega) (by
        dsimp only
        unfold st_X12_calls_24
        rw [if_pos h2]
        simp only [ite_self])
      rw [eL, Option.bind_some]
      dsimp only
      rw [if_pos h2, m_minutes cM cB, Option.bind_some, if_neg (show ¬ x = 0 by grind), if_neg (show ¬ x = 1 by grind)]
      dsimp only
      by_cases hx2 : x = 2
      · rw [if_pos hx2, if_pos hx2, x_minutes cX cB]
        exact opR.ret hG
      · rw [if_neg hx2, if_neg hx2, if_pos (show x = 3 by grind), x_atOnce cX cB]
        exact opR.ret hG
    · obtain ⟨r, eL, W, C, rfl, q1, q2, q3⟩ := m_tries (x := x) cM cB h2
      obtain ⟨⟨vv, s2⟩, e5, d, k1, k2, k3, k4⟩ := x_best cX cB
      dsimp only at k1 k4
      subst k1
      have hdC := best_two hn cB q1 q2 q3 k3
      rw [eL, Option.bind_some]
      dsimp only
      rw [if_neg h2]
      have gr : GR s2 t1 := GR_q hG (fun c w1 w2 w3 => k4 c (by omega)) (by rw [k4 115 (by omega)]) (fun j _ _ _ => rfl) (fun c _ _ _ _ _ _ _ => rfl)
      have hW1 : (d + 16 - 1) / 16 = W := by omega
      by_cases hx0 : x = 0
      · rw [if_pos hx0, if_pos hx0]
        unfold f_X9_greatestWorth
        rw [e5, Option.bind_some, Option.bind_some]
        dsimp only
        rw [N_addL, N_subL (by omega), N_divL (by omega) (by omega), hW1]
        exact opR.ret gr
      · rw [if_neg hx0, if_neg hx0, if_pos (show x = 1 by grind)]
        unfold f_X9_fewestCalls
        rw [e5, Option.bind_some, Option.bind_some]
        dsimp only
        rw [N_addL, N_subL (by omega), N_divL (by omega) (by omega), hW1, N_mulL, N_sub (by omega), show W * 16 - d = C by omega]
        exact opR.ret gr
  · rw [if_neg hx, if_pos rfl, if_neg (show ¬ x = 0 by grind), if_neg (show ¬ x = 1 by grind), if_neg (show ¬ x = 2 by grind), if_neg (show ¬ x = 3 by grind)]
    exact opR.ret hG
