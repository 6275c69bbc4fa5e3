/-! ===== ways in a tree ===== -/
def tT (p : Nat → Nat) (i j : Nat) : Nat :=
  if i = j then 0 else if j < i then (if h : p i < i then 1 + tT p (p i) j else 0) else (if h : p j < j then 1 + tT p i (p j) else 0)
termination_by i + j
decreasing_by
  · omega
  · omega
theorem T_self {p : Nat → Nat} {i : Nat} : tT p i i = 0 := by
  rw [tT, if_pos rfl]
theorem T_gt {p : Nat → Nat} {i j : Nat} (hp : ∀ k, 0 < k → p k < k) (h : j < i) : tT p i j = 1 + tT p (p i) j := by
  rw [tT, if_neg (by omega), if_pos h, dif_pos (hp i (by omega))]
theorem T_lt {p : Nat → Nat} {i j : Nat} (hp : ∀ k, 0 < k → p k < k) (h : i < j) : tT p i j = 1 + tT p i (p j) := by
  rw [tT, if_neg (by omega), if_neg (by omega), dif_pos (hp j (by omega))]
theorem T_sym {p : Nat → Nat} (hp : ∀ k, 0 < k → p k < k) : ∀ n i j, i + j ≤ n → tT p i j = tT p j i
  | 0, i, j, h => by
    have : i = j := by omega
    subst this
    rfl
  | n + 1, i, j, h => by
    rcases Nat.lt_trichotomy i j with q | q | q
    · have := hp j (by omega)
      rw [T_lt hp q, T_gt hp q, T_sym hp n i (p j) (by omega)]
    · subst q
      rfl
    · have := hp i (by omega)
      rw [T_gt hp q, T_lt hp q, T_sym hp n (p i) j (by omega)]
theorem T_pos {p : Nat → Nat} (hp : ∀ k, 0 < k → p k < k) {i j : Nat} (h : i ≠ j) : 1 ≤ tT p i j := by
  rcases Nat.lt_trichotomy i j with q | q | q
  · rw [T_lt hp q]
    omega
  · exact absurd q h
  · rw [T_gt hp q]
    omega
theorem T_tri {p : Nat → Nat} (hp : ∀ k, 0 < k → p k < k) : ∀ n i j k, i + j + k ≤ n → tT p i j ≤ tT p i k + tT p k j
  | 0, i, j, k, h => by
    have e1 : i = 0 := by omega
    have e2 : j = 0 := by omega
    subst e1 e2
    rw [T_self]
    omega
  | n + 1, i, j, k, h => by
    by_cases hij : i = j
    · subst hij
      rw [T_self]
      omega
    · by_cases hik : i = k
      · subst hik
        omega
      · by_cases hkj : k = j
        · subst hkj
          omega
        · by_cases h1 : j < i ∧ k < i
          · have := hp i (by omega)
            have ih := T_tri hp n (p i) j k (by omega)
            rw [T_gt hp h1.1, T_gt hp h1.2]
            omega
          · by_cases h2 : i < j ∧ k < j
            · have := hp j (by omega)
              have ih := T_tri hp n i (p j) k (by omega)
              rw [T_lt hp h2.1, T_lt hp h2.2]
              omega
            · have q1 : i < k := by omega
              have q2 : j < k := by omega
              have := hp k (by omega)
              have ih := T_tri hp n i j (p k) (by omega)
              rw [T_lt hp q1, T_gt hp q2]
              omega
theorem T_up {p : Nat → Nat} (hp : ∀ k, 0 < k → p k < k) {i : Nat} (h : 0 < i) : tT p i (p i) = 1 ∧ tT p (p i) i = 1 := by
  have := hp i h
  rw [T_gt hp this, T_lt hp this, T_self]
  exact ⟨rfl, rfl⟩
theorem T_btw {p : Nat → Nat} (hp : ∀ k, 0 < k → p k < k) {i j : Nat} (h : 2 ≤ tT p i j) : ∃ z, (z < i ∨ z < j) ∧ z ≠ i ∧ z ≠ j ∧ tT p i z + tT p z j = tT p i j := by
  rcases Nat.lt_trichotomy i j with q | q | q
  · have hj := hp j (by omega)
    have e := T_lt hp q
    refine ⟨p j, by omega, ?_, by omega, ?_⟩
    · intro w
      rw [w, T_self] at e
      omega
    · rw [(T_up hp (show 0 < j by omega)).2, e]
      omega
  · subst q
    rw [T_self] at h
    omega
  · have hi := hp i (by omega)
    have e := T_gt hp q
    refine ⟨p i, by omega, by omega, ?_, ?_⟩
    · intro w
      rw [w, T_self] at e
      omega
    · rw [(T_up hp (show 0 < i by omega)).1, e]
theorem T_le {p : Nat → Nat} (hp : ∀ k, 0 < k → p k < k) : ∀ n i j, i + j ≤ n → tT p i j ≤ i + j
  | 0, i, j, h => by
    have : i = j := by omega
    subst this
    rw [T_self]
    omega
  | n + 1, i, j, h => by
    rcases Nat.lt_trichotomy i j with q | q | q
    · have := hp j (by omega)
      have := T_le hp n i (p j) (by omega)
      rw [T_lt hp q]
      omega
    · subst q
      rw [T_self]
      omega
    · have := hp i (by omega)
      have := T_le hp n (p i) j (by omega)
      rw [T_gt hp q]
      omega
theorem T_one {p : Nat → Nat} (hp : ∀ k, 0 < k → p k < k) {i j : Nat} : tT p i j = 1 ↔ (j < i ∧ p i = j) ∨ (i < j ∧ p j = i) := by
  constructor
  · intro h
    rcases Nat.lt_trichotomy i j with q | q | q
    · rw [T_lt hp q] at h
      by_cases w : p j = i
      · exact Or.inr ⟨q, w⟩
      · have := T_pos hp (i := i) (j := p j) (fun x => w x.symm)
        omega
    · subst q
      rw [T_self] at h
      omega
    · rw [T_gt hp q] at h
      by_cases w : p i = j
      · exact Or.inl ⟨q, w⟩
      · have := T_pos hp (i := p i) (j := j) w
        omega
  · rintro (⟨q, rfl⟩ | ⟨q, rfl⟩)
    · exact (T_up hp (by omega)).1
    · exact (T_up hp (by omega)).2
/-! shortest ways, any measure -/
def mtr (N : Nat) (D : Nat → Nat → Nat) : Prop :=
  (∀ x, x < N → D x x = 0) ∧ (∀ x y, x < N → y < N → D x y = 0 → x = y) ∧ (∀ x y z, x < N → y < N → z < N → D x y ≤ D x z + D z y) ∧ (∀ x y, x < N → y < N → 2 ≤ D x y → ∃ z, z < N ∧ z ≠ x ∧ z ≠ y ∧ D x z + D z y = D x y) ∧ ∀ x y, x < N → y < N → D x y ≤ 14
def btw (D : Nat → Nat → Nat) (x y z : Nat) : Prop := z ≠ x ∧ z ≠ y ∧ D x z + D z y = D x y
def fwI (N : Nat) (D : Nat → Nat → Nat) (t : Mem) (k a b : Nat) : Prop :=
  ∀ x y, x < N → y < N → ∃ v, t 31 (8 * x + y) = Int32.ofNat v ∧ D x y ≤ v ∧ v ≤ 100000000 ∧ ((∀ z, z < N → btw D x y z → z < k) → v ≤ D x y) ∧ ((x < a ∨ (x = a ∧ y < b)) → (∀ z, z < N → btw D x y z → z < k + 1) → v ≤ D x y)
theorem fw_step {N k a b : Nat} {D : Nat → Nat → Nat} {t : Mem} (hN : N ≤ 8) (hD : mtr N D) (hk : k < N) (ha : a < N) (hb : b < N) (h : fwI N D t k a b) :
    ∃ va vb vc : Nat, t 31 (8 * a + b) = Int32.ofNat va ∧ t 31 (8 * a + k) = Int32.ofNat vb ∧ t 31 (8 * k + b) = Int32.ofNat vc ∧ va ≤ 100000000 ∧ vb ≤ 100000000 ∧ vc ≤ 100000000 ∧ fwI N D (mset t 31 (8 * a + b) (Int32.ofNat (min va (vb + vc)))) k a (b + 1) := by
  obtain ⟨d1, d2, d3, d4, d5⟩ := hD
  obtain ⟨va, ea, a1, a2, a3, a4⟩ := h a b ha hb
  obtain ⟨vb, eb, b1, b2, b3, b4⟩ := h a k ha hk
  obtain ⟨vc, ec, c1, c2, c3, c4⟩ := h k b hk hb
  refine ⟨va, vb, vc, ea, eb, ec, a2, b2, c2, fun x y hx hy => ?_⟩
  rw [m_eq]
  by_cases hxy : x = a ∧ y = b
  · obtain ⟨rfl, rfl⟩ := hxy
    rw [u_eq]
    have tri := d3 x y k hx hy hk
    have nice : (∀ z, z < N → btw D x y z → z < k + 1) → min va (vb + vc) ≤ D x y := by
      intro hz
      by_cases hbk : btw D x y k
      · obtain ⟨k1, k2, k3⟩ := hbk
        have h1 := b3 (fun z hzN hbz => by
          obtain ⟨z1, z2, z3⟩ := hbz
          have t1 := d3 z y k hzN hy hk
          have t2 := d3 x y z hx hy hzN
          have hzy : z ≠ y := by
            rintro rfl
            have := d3 x k z hx hk hzN
            have q0 : D k z = 0 ∨ 0 < D k z := by omega
            rcases q0 with q0 | q0
            · exact k2 (d2 k z hk hzN q0)
            · omega
          have := hz z hzN ⟨z1, hzy, by omega⟩
          omega)
        have h2 := c3 (fun z hzN hbz => by
          obtain ⟨z1, z2, z3⟩ := hbz
          have t1 := d3 x z k hx hzN hk
          have t2 := d3 x y z hx hy hzN
          have hzx : z ≠ x := by
            rintro rfl
            have q0 : D z k = 0 ∨ 0 < D z k := by omega
            rcases q0 with q0 | q0
            · exact k1 (d2 z k hzN hk q0).symm
            · omega
          have := hz z hzN ⟨hzx, z2, by omega⟩
          omega)
        omega
      · have := a3 (fun z hzN hbz => by
          have h1 := hz z hzN hbz
          have h2 : z ≠ k := by
            rintro rfl
            exact hbk hbz
          omega)
        omega
    exact ⟨_, rfl, by omega, by omega, fun hz => nice (fun z q1 q2 => by have := hz z q1 q2; omega), fun _ => nice⟩
  · rw [u_ne (by omega)]
    obtain ⟨v, e, v1, v2, v3, v4⟩ := h x y hx hy
    exact ⟨v, e, v1, v2, v3, fun q => v4 (by omega)⟩
theorem fw_in {N k a : Nat} {D : Nat → Nat → Nat} {t : Mem} (hN : N ≤ 8) (hD : mtr N D) (hk : k < N) (ha : a < N) (h : fwI N D t k a 0) : ok (it FUEL (fun y => st_X12_growsTree_214 (Int32.ofNat N) (Int32.ofNat k) (Int32.ofNat a) y.1 y.2) (0, t)) (fun t' => fwI N D t' k a N ∧ ∀ c, c ≠ 31 → t' c = t c) := by
  refine it_ok1 8 (by omega) (fun b y => ∃ t', y = (Int32.ofNat b, t') ∧ b ≤ N ∧ fwI N D t' k a b ∧ ∀ c, c ≠ 31 → t' c = t c) ⟨t, rfl, by omega, h, fun _ _ => rfl⟩ (fun b y q => by obtain ⟨_, _, q, _⟩ := q; omega) ?_
  rintro b y ⟨t', rfl, hb, hI, hf⟩
  dsimp only
  unfold st_X12_growsTree_214
  by_cases hbN : b = N
  · subst hbN
    rw [if_pos (by rw [N_le (by omega) (by omega)]; omega)]
    exact Or.inr ⟨_, rfl, hI, hf⟩
  · rw [if_neg (by rw [N_le (by omega) (by omega)]; omega)]
    obtain ⟨va, vb, vc, ea, eb, ec, a1, a2, a3, nI⟩ := fw_step hN hD hk ha (show b < N by omega) hI
    rw [L_mulN, L_mulN, N_add, N_add, N_add, rd_N (by omega) (by omega), Option.bind_some, rd_N (by omega) (by omega), Option.bind_some, rd_N (by omega) (by omega), Option.bind_some, ea, eb, ec, m_lesser, Option.bind_some, N_add, jmin_N (by omega) (by omega)]
    dsimp only
    rw [wr_N (by omega) (by omega), Option.bind_some, N_addL]
    exact Or.inl ⟨_, rfl, _, rfl, by omega, nI, fun c hc => by rw [m_ne hc]; exact hf c hc⟩
theorem fwI_row {N k a : Nat} {D : Nat → Nat → Nat} {t : Mem} (h : fwI N D t k a N) : fwI N D t k (a + 1) 0 := fun x y hx hy => by
  obtain ⟨v, e, v1, v2, v3, v4⟩ := h x y hx hy
  exact ⟨v, e, v1, v2, v3, fun q => v4 (by omega)⟩
theorem fwI_rnd {N k : Nat} {D : Nat → Nat → Nat} {t : Mem} (h : fwI N D t k N 0) : fwI N D t (k + 1) 0 0 := fun x y hx hy => by
  obtain ⟨v, e, v1, v2, v3, v4⟩ := h x y hx hy
  exact ⟨v, e, v1, v2, v4 (Or.inl hx), fun q => by omega⟩
theorem fw_mid {N k : Nat} {D : Nat → Nat → Nat} {t : Mem} (hN : N ≤ 8) (hD : mtr N D) (hk : k < N) (h : fwI N D t k 0 0) : ok (it FUEL (fun y => st_X12_growsTree_205 (Int32.ofNat N) (Int32.ofNat k) y.1 y.2) (0, t)) (fun t' => fwI N D t' (k + 1) 0 0 ∧ ∀ c, c ≠ 31 → t' c = t c) := by
  refine it_ok1 8 (by omega) (fun a y => ∃ t', y = (Int32.ofNat a, t') ∧ a ≤ N ∧ fwI N D t' k a 0 ∧ ∀ c, c ≠ 31 → t' c = t c) ⟨t, rfl, by omega, h, fun _ _ => rfl⟩ (fun b y q => by obtain ⟨_, _, q, _⟩ := q; omega) ?_
  rintro a y ⟨t', rfl, ha, hI, hf⟩
  dsimp only
  unfold st_X12_growsTree_205
  by_cases haN : a = N
  · subst haN
    rw [if_pos (by rw [N_le (by omega) (by omega)]; omega)]
    exact Or.inr ⟨_, rfl, fwI_rnd hI, hf⟩
  · rw [if_neg (by rw [N_le (by omega) (by omega)]; omega)]
    obtain ⟨t2, e, nI, nf⟩ := fw_in hN hD hk (show a < N by omega) hI
    rw [e, Option.bind_some, N_addL]
    exact Or.inl ⟨_, rfl, _, rfl, by omega, fwI_row nI, fun c hc => (nf c hc).trans (hf c hc)⟩
theorem fw_all {N : Nat} {D : Nat → Nat → Nat} {t : Mem} (hN : N ≤ 8) (hD : mtr N D) (h : fwI N D t 0 0 0) : ok (it FUEL (fun y => st_X12_growsTree_196 (Int32.ofNat N) y.1 y.2) (0, t)) (fun t' => (∀ x y, x < N → y < N → t' 31 (8 * x + y) = Int32.ofNat (D x y)) ∧ ∀ c, c ≠ 31 → t' c = t c) := by
  refine it_ok1 8 (by omega) (fun k y => ∃ t', y = (Int32.ofNat k, t') ∧ k ≤ N ∧ fwI N D t' k 0 0 ∧ ∀ c, c ≠ 31 → t' c = t c) ⟨t, rfl, by omega, h, fun _ _ => rfl⟩ (fun b y q => by obtain ⟨_, _, q, _⟩ := q; omega) ?_
  rintro k y ⟨t', rfl, hk, hI, hf⟩
  dsimp only
  unfold st_X12_growsTree_196
  by_cases hkN : k = N
  · subst hkN
    rw [if_pos (by rw [N_le (by omega) (by omega)]; omega)]
    refine Or.inr ⟨_, rfl, fun x y hx hy => ?_, hf⟩
    obtain ⟨v, e, v1, v2, v3, v4⟩ := hI x y hx hy
    have := v3 (fun z hz _ => hz)
    rw [e, show v = D x y by omega]
  · rw [if_neg (by rw [N_le (by omega) (by omega)]; omega)]
    obtain ⟨t2, e, nI, nf⟩ := fw_mid hN hD (show k < N by omega) hI
    rw [e, Option.bind_some, N_addL]
    exact Or.inl ⟨_, rfl, _, rfl, by omega, nI, fun c hc => (nf c hc).trans (hf c hc)⟩
