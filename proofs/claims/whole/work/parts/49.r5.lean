/-! ===== the measure of a grown tree ===== -/
def ix (g : Nat → Nat) : Nat → Nat → Nat
  | 0, _ => 0
  | k + 1, x => if g k = x then k else ix g k x
theorem ix_g {g : Nat → Nat} : ∀ N, (∀ q, q < N → ∀ q', q' < q → g q' ≠ g q) → ∀ q, q < N → ix g N (g q) = q
  | 0, _, q, hq => by omega
  | N + 1, h, q, hq => by
    unfold ix
    by_cases e : q = N
    · subst e
      rw [if_pos rfl]
    · rw [if_neg (fun w => h N (by omega) q (by omega) w.symm)]
      exact ix_g N (fun q hq => h q (by omega)) q (by omega)
/-- N places in their order g, and whom each but the last was joined to -/
def St (N : Nat) (g F : Nat → Nat) : Prop :=
  2 ≤ N ∧ N ≤ 8 ∧ (∀ q, q < N → g q < N ∧ ∀ q', q' < q → g q' ≠ g q) ∧ (∀ x, x < N → ∃ q, q < N ∧ g q = x) ∧ ∀ q, q + 1 < N → ∃ q', q < q' ∧ q' < N ∧ F q = g q'
def rk (N : Nat) (g : Nat → Nat) (x : Nat) : Nat := N - 1 - ix g N x
def pr (N : Nat) (g F : Nat → Nat) (k : Nat) : Nat := if k < N then rk N g (F (N - 1 - k)) else 0
def Dt (N : Nat) (g F : Nat → Nat) (x y : Nat) : Nat := tT (pr N g F) (rk N g x) (rk N g y)
theorem rk_g {N : Nat} {g F : Nat → Nat} (h : St N g F) {q : Nat} (hq : q < N) : rk N g (g q) = N - 1 - q := by
  unfold rk
  rw [ix_g N (fun q hq => (h.2.2.1 q hq).2) q hq]
theorem rk_lt {N : Nat} {g F : Nat → Nat} (h : St N g F) {x : Nat} (hx : x < N) : rk N g x < N := by
  obtain ⟨q, hq, rfl⟩ := h.2.2.2.1 x hx
  rw [rk_g h hq]
  omega
theorem rk_inj {N : Nat} {g F : Nat → Nat} (h : St N g F) {x y : Nat} (hx : x < N) (hy : y < N) (e : rk N g x = rk N g y) : x = y := by
  obtain ⟨q, hq, rfl⟩ := h.2.2.2.1 x hx
  obtain ⟨q', hq', rfl⟩ := h.2.2.2.1 y hy
  rw [rk_g h hq, rk_g h hq'] at e
  rw [show q = q' by omega]
theorem pr_lt {N : Nat} {g F : Nat → Nat} (h : St N g F) : ∀ k, 0 < k → pr N g F k < k := by
  intro k hk
  unfold pr
  by_cases hkN : k < N
  · rw [if_pos hkN]
    obtain ⟨q', h1, h2, h3⟩ := h.2.2.2.2 (N - 1 - k) (by omega)
    rw [h3, rk_g h h2]
    omega
  · rw [if_neg hkN]
    exact hk
theorem pr_F {N : Nat} {g F : Nat → Nat} (h : St N g F) {q : Nat} (hq : q + 1 < N) : pr N g F (rk N g (g q)) = rk N g (F q) ∧ rk N g (F q) < rk N g (g q) := by
  rw [rk_g h (by omega)]
  unfold pr
  rw [if_pos (by omega), show N - 1 - (N - 1 - q) = q by omega]
  obtain ⟨q', h1, h2, h3⟩ := h.2.2.2.2 q hq
  rw [h3, rk_g h h2]
  exact ⟨rfl, by omega⟩
theorem Dt_mtr {N : Nat} {g F : Nat → Nat} (h : St N g F) : mtr N (Dt N g F) := by
  have hp := pr_lt h
  refine ⟨fun x hx => T_self, fun x y hx hy e => ?_, fun x y z hx hy hz => T_tri hp _ _ _ _ (Nat.le_refl _), fun x y hx hy h2 => ?_, fun x y hx hy => ?_⟩
  · by_cases w : rk N g x = rk N g y
    · exact rk_inj h hx hy w
    · have := T_pos hp w
      unfold Dt at e
      omega
  · obtain ⟨z, z1, z2, z3, z4⟩ := T_btw hp h2
    have hx' := rk_lt h hx
    have hy' := rk_lt h hy
    have hz : z < N := by omega
    have e : rk N g (g (N - 1 - z)) = z := by
      rw [rk_g h (by omega)]
      omega
    refine ⟨g (N - 1 - z), (h.2.2.1 _ (by omega)).1, fun w => z2 (by rw [← e, w]), fun w => z3 (by rw [← e, w]), ?_⟩
    unfold Dt
    rw [e]
    exact z4
  · have := T_le hp _ _ _ (Nat.le_refl (rk N g x + rk N g y))
    have hx' := rk_lt h hx
    have hy' := rk_lt h hy
    have := h.2.1
    unfold Dt
    omega
theorem EB_iff {g F : Nat → Nat} {x y : Nat} : ∀ i, EB g F i x y = true ↔ ∃ q, q < i ∧ ((x = g q ∧ y = F q) ∨ (y = g q ∧ x = F q))
  | 0 => by
    unfold EB
    constructor
    · intro h
      cases h
    · rintro ⟨q, h, _⟩
      omega
  | i + 1 => by
    unfold EB
    rw [Bool.or_eq_true, Bool.or_eq_true, EB_iff i, Bool.and_eq_true, Bool.and_eq_true, Nat.beq_eq, Nat.beq_eq, Nat.beq_eq, Nat.beq_eq]
    constructor
    · rintro ((⟨q, h1, h2⟩ | h) | h)
      · exact ⟨q, by omega, h2⟩
      · exact ⟨i, by omega, Or.inl h⟩
      · exact ⟨i, by omega, Or.inr h⟩
    · rintro ⟨q, h1, h2⟩
      by_cases hq : q = i
      · subst hq
        rcases h2 with h2 | h2
        · exact Or.inl (Or.inr h2)
        · exact Or.inr h2
      · exact Or.inl (Or.inl ⟨q, by omega, h2⟩)
theorem Dt_one {N : Nat} {g F : Nat → Nat} (h : St N g F) {x y : Nat} (hx : x < N) (hy : y < N) : Dt N g F x y = 1 ↔ EB g F (N - 1) x y = true := by
  have hp := pr_lt h
  have hF : ∀ q, q + 1 < N → F q < N := fun q hq => by
    obtain ⟨q', h1, h2, h3⟩ := h.2.2.2.2 q hq
    rw [h3]
    exact (h.2.2.1 q' h2).1
  rw [EB_iff]
  unfold Dt
  rw [T_one hp]
  constructor
  · rintro (⟨h1, h2⟩ | ⟨h1, h2⟩)
    · obtain ⟨q, hq, rfl⟩ := h.2.2.2.1 x hx
      have hq1 : q + 1 < N := by
        rw [rk_g h hq] at h1
        omega
      refine ⟨q, by omega, Or.inl ⟨rfl, ?_⟩⟩
      rw [(pr_F h hq1).1] at h2
      exact (rk_inj h (hF q hq1) hy h2).symm
    · obtain ⟨q, hq, rfl⟩ := h.2.2.2.1 y hy
      have hq1 : q + 1 < N := by
        rw [rk_g h hq] at h1
        omega
      refine ⟨q, by omega, Or.inr ⟨rfl, ?_⟩⟩
      rw [(pr_F h hq1).1] at h2
      exact (rk_inj h (hF q hq1) hx h2).symm
  · rintro ⟨q, hq, ⟨rfl, rfl⟩ | ⟨rfl, rfl⟩⟩
    · obtain ⟨a, b⟩ := pr_F h (show q + 1 < N by omega)
      exact Or.inl ⟨b, a⟩
    · obtain ⟨a, b⟩ := pr_F h (show q + 1 < N by omega)
      exact Or.inr ⟨b, a⟩
theorem fw_start {N : Nat} {g F : Nat → Nat} {t : Mem} (h : St N g F) (hm : matI g F (N - 1) t) : fwI N (Dt N g F) t 0 0 0 := fun x y hx hy => by
  obtain ⟨d1, d2, d3, d4, d5⟩ := Dt_mtr h
  have hN := h.2.1
  refine ⟨_, hm x y (by omega) (by omega), ?_, ?_, fun hz => ?_, fun q => by omega⟩
  · have h14 := d5 x y hx hy
    by_cases e : x = y
    · subst e
      rw [if_pos rfl, d1 x hx]
      omega
    · rw [if_neg e]
      by_cases w : EB g F (N - 1) x y = true
      · rw [if_pos w, (Dt_one h hx hy).mpr w]
        omega
      · rw [if_neg w]
        omega
  · split
    · omega
    · split <;> omega
  · by_cases e : x = y
    · subst e
      rw [if_pos rfl]
      omega
    · rw [if_neg e]
      have h0 : Dt N g F x y ≠ 0 := fun w => e (d2 x y hx hy w)
      by_cases w : EB g F (N - 1) x y = true
      · rw [if_pos w]
        omega
      · have h1 : Dt N g F x y ≠ 1 := fun q => w ((Dt_one h hx hy).mp q)
        obtain ⟨z, z1, z2, z3, z4⟩ := d4 x y hx hy (by omega)
        have := hz z z1 ⟨z2, z3, z4⟩
        omega
