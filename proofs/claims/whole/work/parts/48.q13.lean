/-! ===== the calls: chosen without a clash ===== -/
def wS (v : Nat → Nat) (p : Nat → Bool) : Nat → Nat
  | 0 => 0
  | n + 1 => wS v p n + if p n = true then v n else 0
theorem wS_congr {v : Nat → Nat} {p q : Nat → Bool} : ∀ n, (∀ i, i < n → p i = q i) → wS v p n = wS v q n
  | 0, _ => rfl
  | n + 1, h => by
    unfold wS
    rw [wS_congr n (fun i hi => h i (by omega)), h n (by omega)]
theorem wS_0 {v : Nat → Nat} {p : Nat → Bool} : ∀ n, (∀ i, i < n → p i = false) → wS v p n = 0
  | 0, _ => rfl
  | n + 1, h => by
    unfold wS
    rw [wS_0 n (fun i hi => h i (by omega)), h n (by omega)]
    rfl
theorem wS_le {v : Nat → Nat} {p : Nat → Bool} {m : Nat} : ∀ n, (∀ i, i < n → v i ≤ m) → wS v p n ≤ m * n
  | 0, _ => Nat.zero_le _
  | n + 1, h => by
    have h1 := wS_le (p := p) n (fun i hi => h i (by omega))
    have h2 := h n (by omega)
    unfold wS
    rw [Nat.mul_succ]
    split <;> omega
def dl (p : Nat → Bool) (i : Nat) : Nat → Bool := fun j => p j && !Nat.beq j i
def ad (p : Nat → Bool) (i : Nat) : Nat → Bool := fun j => p j || Nat.beq j i
theorem beq_t {a b : Nat} (h : a = b) : Nat.beq a b = true := by
  subst h
  simp
theorem beq_f {a b : Nat} (h : a ≠ b) : Nat.beq a b = false := by
  cases hb : Nat.beq a b with
  | false => rfl
  | true => exact absurd (Nat.eq_of_beq_eq_true hb) h
theorem wS_del {v : Nat → Nat} {p : Nat → Bool} {i : Nat} (hp : p i = true) : ∀ n, i < n → wS v p n = wS v (dl p i) n + v i
  | 0, h => absurd h (by omega)
  | n + 1, h => by
    unfold wS
    by_cases hi : i = n
    · subst hi
      have e1 : dl p i i = false := by
        unfold dl
        rw [beq_t rfl]
        simp
      rw [hp, e1, wS_congr (q := dl p i) i (fun j hj => by
        unfold dl
        rw [beq_f (show j ≠ i by omega)]
        simp)]
      simp
    · have e1 : dl p i n = p n := by
        unfold dl
        rw [beq_f (show n ≠ i by omega)]
        simp
      rw [wS_del hp n (by omega), e1]
      omega
theorem wS_add {v : Nat → Nat} {p : Nat → Bool} {i n : Nat} (hp : p i = false) (hi : i < n) : wS v (ad p i) n = wS v p n + v i := by
  have h1 : ad p i i = true := by
    unfold ad
    rw [beq_t rfl, Bool.or_true]
  rw [wS_del h1 n hi]
  congr 1
  refine wS_congr n (fun j _ => ?_)
  unfold dl ad
  by_cases hj : j = i
  · subst hj
    rw [beq_t rfl, hp]
    rfl
  · rw [beq_f hj]
    simp
def okS (a b : Nat → Nat) (p : Nat → Bool) (n : Nat) : Prop := ∀ i j, i < n → j < i → p i = true → p j = true → b j ≤ a i ∨ b i ≤ a j
def upS (b : Nat → Nat) (p : Nat → Bool) (n e : Nat) : Prop := ∀ i, i < n → p i = true → b i ≤ e
def one1 : Nat → Nat := fun _ => 1
/-- the best of the calls that end by e -/
def bestA (a b v : Nat → Nat) (n e d : Nat) : Prop :=
  (∀ p, okS a b p n → upS b p n e → 16 * wS v p n ≤ d + wS one1 p n) ∧ ∃ p, okS a b p n ∧ upS b p n e ∧ 16 * wS v p n = d + wS one1 p n
theorem okS_in {a b : Nat → Nat} {p : Nat → Bool} {n i j : Nat} (h : okS a b p n) (hi : i < n) (hj : j < n) (hij : i ≠ j) (pi : p i = true) (pj : p j = true) : b j ≤ a i ∨ b i ≤ a j := by
  rcases Nat.lt_trichotomy i j with q | q | q
  · exact (h j i hj q pj pi).symm
  · exact absurd q hij
  · exact h i j hi q pi pj
theorem okS_dl {a b : Nat → Nat} {p : Nat → Bool} {n k : Nat} (h : okS a b p n) : okS a b (dl p k) n := by
  intro i j hi hj pi pj
  unfold dl at pi pj
  simp only [Bool.and_eq_true] at pi pj
  exact h i j hi hj pi.1 pj.1
theorem best_step {a b v : Nat → Nat} {n e k d dk : Nat} (hab : ∀ i, i < n → a i < b i) (hv : ∀ i, i < n → 1 ≤ v i) (hk : k < n) (hbk : b k = e) (hdk : bestA a b v n (a k) dk)
    (h1 : ∀ p, okS a b p n → upS b p n e → (∀ i, i < n → p i = true → b i = e → i < k) → 16 * wS v p n ≤ d + wS one1 p n) (h2 : ∃ p, okS a b p n ∧ upS b p n e ∧ 16 * wS v p n = d + wS one1 p n) :
    (∀ p, okS a b p n → upS b p n e → (∀ i, i < n → p i = true → b i = e → i < k + 1) → 16 * wS v p n ≤ max d (dk + v k * 16 - 1) + wS one1 p n) ∧ ∃ p, okS a b p n ∧ upS b p n e ∧ 16 * wS v p n = max d (dk + v k * 16 - 1) + wS one1 p n := by
  have hvk := hv k hk
  have hak := hab k hk
  constructor
  · intro p p1 p2 p3
    by_cases hpk : p k = true
    · have e1 := wS_del (v := v) hpk n hk
      have e2 := wS_del (v := one1) hpk n hk
      have e3 : one1 k = 1 := rfl
      have := hdk.1 (dl p k) (okS_dl p1) (fun j hj pj => by
        unfold dl at pj
        simp only [Bool.and_eq_true] at pj
        have hjk : k ≠ j := by
          rintro rfl
          have := pj.2
          rw [beq_t rfl] at this
          exact absurd this (by decide)
        rcases okS_in p1 hk hj hjk hpk pj.1 with q | q
        · exact q
        · have := hab j hj
          have := p2 j hj pj.1
          omega)
      omega
    · have := h1 p p1 p2 (fun i hi pi hb => by
        have := p3 i hi pi hb
        have : i ≠ k := by
          rintro rfl
          exact hpk pi
        omega)
      omega
  · by_cases hd : dk + v k * 16 - 1 ≤ d
    · rw [Nat.max_eq_left hd]
      exact h2
    · rw [Nat.max_eq_right (by omega)]
      obtain ⟨p, p1, p2, p3⟩ := hdk.2
      have hpk : p k = false := by
        cases h : p k with
        | false => rfl
        | true =>
          have := p2 k hk h
          omega
      have inA : ∀ j, ad p k j = true → j = k ∨ p j = true := by
        intro j hj
        unfold ad at hj
        by_cases h : j = k
        · exact Or.inl h
        · rw [beq_f h, Bool.or_false] at hj
          exact Or.inr hj
      refine ⟨ad p k, fun i j hi hj pi pj => ?_, fun i hi pi => ?_, ?_⟩
      · rcases inA i pi with rfl | qi
        · rcases inA j pj with rfl | qj
          · omega
          · exact Or.inl (p2 j (by omega) qj)
        · rcases inA j pj with rfl | qj
          · exact Or.inr (p2 i hi qi)
          · exact p1 i j hi hj qi qj
      · rcases inA i pi with rfl | qi
        · omega
        · have := p2 i hi qi
          omega
      · rw [wS_add hpk hk, wS_add hpk hk]
        have e3 : one1 k = 1 := rfl
        omega
theorem best_b {a b v : Nat → Nat} {n e d : Nat} (hn : n ≤ 10) (hv : ∀ i, i < n → v i ≤ 99) (h : bestA a b v n e d) : d ≤ 16000 := by
  obtain ⟨-, p, -, -, q⟩ := h
  have h1 := wS_le (p := p) n hv
  have h2 : 99 * n ≤ 99 * 10 := Nat.mul_le_mul_left _ hn
  omega
/-- what both sides hold of the calls -/
def clX (s : Mem) (n : Nat) (a b v : Nat → Nat) : Prop := n ≤ 10 ∧ (s 35 1 = Int32.ofNat n ∧ s 37 1 = Int32.ofNat n ∧ s 39 1 = Int32.ofNat n) ∧ ∀ i, i < n → s 36 i = Int32.ofNat (a i) ∧ s 38 i = Int32.ofNat (b i) ∧ s 40 i = Int32.ofNat (v i)
def clM (t : Mem) (n : Nat) (a b v : Nat → Nat) : Prop := n ≤ 10 ∧ t 0 42 = Int32.ofNat n ∧ ∀ i, i < n → t 22 i = Int32.ofNat (a i) ∧ t 23 i = Int32.ofNat (b i) ∧ t 24 i = Int32.ofNat (v i)
def clB (n : Nat) (a b v : Nat → Nat) : Prop := ∀ i, i < n → a i < b i ∧ b i ≤ 99 ∧ 1 ≤ v i ∧ v i ≤ 99
theorem x_best {n : Nat} {a b v : Nat → Nat} {s : Mem} (h : clX s n a b v) (hB : clB n a b v) : ok (f_X9_bestCalls 32 s) (fun r => ∃ d, r.1 = Int32.ofNat d ∧ d ≤ 16000 ∧ bestA a b v n 99 d ∧ ∀ c, c ≠ 196 → r.2 c = s c) := by
  obtain ⟨hn, ⟨c1, c2, c3⟩, hi⟩ := h
  obtain ⟨-, g36, g38, g40, -⟩ := gl_rows
  have hv : ∀ i, i < n → v i ≤ 99 := fun i q => (hB i q).2.2.2
  unfold f_X9_bestCalls
  rw [wr_L (by omega) (by omega), Option.bind_some]
  have key : ok (it FUEL (fun y => st_X9_bestCalls_9 32 y.1 y.2) (1, mset s 196 0 0)) (fun s' => (∀ c, c ≠ 196 → s' c = s c) ∧ ∀ e, e < 100 → ∃ d, s' 196 e = Int32.ofNat d ∧ bestA a b v n e d) := by
    refine it_ok1 99 (by omega) (fun q y => ∃ s', y = (Int32.ofNat (q + 1), s') ∧ q ≤ 99 ∧ (∀ c, c ≠ 196 → s' c = s c) ∧ ∀ e, e < q + 1 → ∃ d, s' 196 e = Int32.ofNat d ∧ bestA a b v n e d) ⟨_, rfl, by omega, fun c q => m_ne q, fun e he => ⟨0, by
      have : e = 0 := by omega
      subst this
      rw [m_eq, u_eq]
      rfl, by
      have : e = 0 := by omega
      subst this
      refine ⟨fun p p1 p2 => ?_, fun _ => false, fun i j _ _ q => absurd q Bool.false_ne_true, fun i _ q => absurd q Bool.false_ne_true, ?_⟩
      · rw [wS_0 (v := v) n (fun i hin => by
          cases hp : p i with
          | false => rfl
          | true =>
            have := p2 i hin hp
            have := (hB i hin).1
            omega)]
        omega
      · rw [wS_0 n (fun _ _ => rfl), wS_0 n (fun _ _ => rfl)]⟩⟩ (fun q y h => by obtain ⟨_, _, h, _⟩ := h; exact h) ?_
    rintro q y ⟨s', rfl, hq, hf, hD⟩
    dsimp only
    unfold st_X9_bestCalls_9
    by_cases hq99 : q = 99
    · subst hq99
      rw [if_pos (by decide)]
      exact Or.inr ⟨_, rfl, hf, hD⟩
    · rw [if_neg (by rw [L_leN (by omega) (by omega)]; omega), N_subL (by omega), rd_N (by omega) (by omega), Option.bind_some, show q + 1 - 1 = q by omega]
      obtain ⟨d0, e0, A0⟩ := hD q (by omega)
      have inner : ok (it FUEL (fun y => st_X9_bestCalls_30 32 (Int32.ofNat (q + 1)) y.1 y.2.1 y.2.2) (s' 196 q, 0, s')) (fun r => r.2 = s' ∧ ∃ d, r.1 = Int32.ofNat d ∧ bestA a b v n (q + 1) d) := by
        refine it_ok1 10 (by omega) (fun k y => ∃ d, y = (Int32.ofNat d, Int32.ofNat k, s') ∧ k ≤ n ∧ (∀ p, okS a b p n → upS b p n (q + 1) → (∀ i, i < n → p i = true → b i = q + 1 → i < k) → 16 * wS v p n ≤ d + wS one1 p n) ∧ ∃ p, okS a b p n ∧ upS b p n (q + 1) ∧ 16 * wS v p n = d + wS one1 p n)
          ⟨d0, by rw [e0]; rfl, by omega, fun p p1 p2 p3 => A0.1 p p1 (fun i hin pi => by
            have h1 := p2 i hin pi
            by_cases h2 : b i = q + 1
            · have := p3 i hin pi h2
              omega
            · omega), by
            obtain ⟨p, p1, p2, p3⟩ := A0.2
            exact ⟨p, p1, fun i hin pi => by have := p2 i hin pi; omega, p3⟩⟩ (fun k y h => by obtain ⟨_, _, h, _⟩ := h; omega) ?_
        rintro k y ⟨d, rfl, hk, k1, k2⟩
        dsimp only
        have hd : d ≤ 16000 := by
          obtain ⟨p, -, -, q⟩ := k2
          have h1 := wS_le (p := p) n hv
          have h2 : 99 * n ≤ 99 * 10 := Nat.mul_le_mul_left _ hn
          omega
        unfold st_X9_bestCalls_30
        simp only [show (32 + 5 : Nat) = 37 from rfl, show (37 + 1 : Nat) = 38 from rfl, show (32 + 3 : Nat) = 35 from rfl, show (35 + 1 : Nat) = 36 from rfl, show (32 + 7 : Nat) = 39 from rfl, show (39 + 1 : Nat) = 40 from rfl, g36, g38, g40]
        rw [hf 37 (by omega), c2]
        by_cases hkn : k = n
        · subst hkn
          rw [if_pos (by rw [N_le (by omega) (by omega)]; omega)]
          exact Or.inr ⟨_, rfl, rfl, d, rfl, fun p p1 p2 => k1 p p1 p2 (fun i hin _ _ => hin), k2⟩
        · obtain ⟨i1, i2, i3⟩ := hi k (by omega)
          obtain ⟨b1, b2, b3, b4⟩ := hB k (by omega)
          rw [if_neg (by rw [N_le (by omega) (by omega)]; omega)]
          simp (disch := omega) only [x_at ((congrFun (hf 35 (by omega)) 1).trans c1) rfl g36 hn, x_at ((congrFun (hf 37 (by omega)) 1).trans c2) rfl g38 hn, x_at ((congrFun (hf 39 (by omega)) 1).trans c3) rfl g40 hn, rd_N, Option.bind_some, hf, i1, i2, i3, N_addL, N_eq]
          by_cases hbk : b k = q + 1
          · rw [if_pos hbk, if_neg (by rw [N_nlt0 (by omega)]; exact id), if_neg (by rw [N_le (by omega) (by omega)]; omega)]
            obtain ⟨dk, ek, Ak⟩ := hD (a k) (by omega)
            have hdk := best_b hn hv Ak
            rw [ek, N_mulL, N_add, N_subL (by omega), jmax_N (by omega) (by omega)]
            obtain ⟨n1, n2⟩ := best_step (fun i hin => (hB i hin).1) (fun i hin => (hB i hin).2.2.1) (show k < n by omega) hbk Ak k1 k2
            exact Or.inl ⟨_, rfl, _, rfl, by omega, n1, n2⟩
          · rw [if_neg hbk]
            refine Or.inl ⟨_, rfl, _, rfl, by omega, fun p p1 p2 p3 => k1 p p1 p2 (fun i hin pi hb => ?_), k2⟩
            have := p3 i hin pi hb
            have : i ≠ k := by
              rintro rfl
              exact hbk hb
            omega
      obtain ⟨⟨x, s2⟩, e2, q1, d, q2, q3⟩ := inner
      dsimp only at q1 q2
      subst q1 q2
      rw [e2, Option.bind_some]
      dsimp only
      rw [wr_N (by omega) (by omega), Option.bind_some, N_addL]
      refine Or.inl ⟨_, rfl, _, rfl, by omega, fun c hc => ?_, fun e he => ?_⟩
      · rw [m_ne hc]
        exact hf c hc
      · rw [m_eq]
        by_cases heq : e = q + 1
        · subst heq
          rw [u_eq]
          exact ⟨d, rfl, q3⟩
        · rw [u_ne heq]
          exact hD e (by omega)
  obtain ⟨s2, e2, q1, q2⟩ := key
  obtain ⟨d, q3, q4⟩ := q2 99 (by omega)
  rw [e2, Option.bind_some, show (100 - 1 : Int32) = Int32.ofNat 99 from rfl, rd_N (by omega) (by omega), Option.bind_some]
  exact ⟨_, rfl, d, q3, best_b hn hv q4, q4, q1⟩
