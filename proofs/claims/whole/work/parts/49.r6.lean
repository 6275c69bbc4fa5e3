/-! ===== the walk up both chains ===== -/
def up (N : Nat) (g F : Nat → Nat) (s : Mem) : Prop := (∀ q, q + 1 < N → s 199 (g q) = Int32.ofNat (F q)) ∧ s 199 (g (N - 1)) = -1
/-- the place at a rank -/
def lb (N : Nat) (g : Nat → Nat) (k : Nat) : Nat := g (N - 1 - k)
theorem lb_rk {N : Nat} {g F : Nat → Nat} (h : St N g F) {x : Nat} (hx : x < N) : lb N g (rk N g x) = x := by
  obtain ⟨q, hq, rfl⟩ := h.2.2.2.1 x hx
  unfold lb
  rw [rk_g h hq, show N - 1 - (N - 1 - q) = q by omega]
theorem lb_lt {N : Nat} {g F : Nat → Nat} (h : St N g F) {k : Nat} (hk : k < N) : lb N g k < N := (h.2.2.1 _ (by omega)).1
theorem lb_inj {N : Nat} {g F : Nat → Nat} (h : St N g F) {k l : Nat} (hk : k < N) (hl : l < N) (e : lb N g k = lb N g l) : k = l := by
  have h1 := rk_g h (show N - 1 - k < N by omega)
  have h2 := rk_g h (show N - 1 - l < N by omega)
  unfold lb at e
  rw [e, h2] at h1
  omega
theorem up_lb {N : Nat} {g F : Nat → Nat} {s : Mem} (h : St N g F) (hu : up N g F s) {k : Nat} (hk : k < N) : s 199 (lb N g k) = if k = 0 then -1 else Int32.ofNat (lb N g (pr N g F k)) := by
  unfold lb
  by_cases h0 : k = 0
  · subst h0
    rw [if_pos rfl]
    exact hu.2
  · rw [if_neg h0, hu.1 (N - 1 - k) (by omega)]
    obtain ⟨q', h1, h2, h3⟩ := h.2.2.2.2 (N - 1 - k) (by omega)
    unfold pr
    rw [if_pos hk, h3, rk_g h h2, show N - 1 - (N - 1 - q') = q' by omega]
/-- how far up from b the place a stands -/
def sJ (p : Nat → Nat) (a : Nat) : Nat → Nat → Option Nat
  | 0, b => if b = a then some 0 else none
  | f + 1, b => if b = a then some 0 else if b = 0 then none else (sJ p a f (p b)).map (fun j => j + 1)
theorem sJ_no {p : Nat → Nat} (hp : ∀ k, 0 < k → p k < k) {a : Nat} : ∀ f b, b < a → sJ p a f b = none
  | 0, b, h => by
    unfold sJ
    rw [if_neg (by omega)]
  | f + 1, b, h => by
    unfold sJ
    rw [if_neg (by omega)]
    by_cases h0 : b = 0
    · rw [if_pos h0]
    · rw [if_neg h0, sJ_no hp f (p b) (by have := hp b (by omega); omega)]
      rfl
theorem x_isKin {x : Nat} {s : Mem} (h : x < 8) : f_X9_isKin (Int32.ofNat x) s = some (1, s) := by
  unfold f_X9_isKin
  rw [if_neg (by rw [N_nlt0 (by omega)]; exact id), if_neg (by rw [L_leN (by omega) (by omega)]; omega)]
theorem x_inner {N a : Nat} {g F : Nat → Nat} {s : Mem} {z z' : Int32} (h : St N g F) (hu : up N g F s) (ha : a < N) {b : Nat} (hb : b < N) :
    it FUEL (fun y => st_X9_joiningsBetween_25 z (Int32.ofNat (lb N g a)) z' y.1 y.2.1 y.2.2) (Int32.ofNat (lb N g b), 0, s) = some (match sJ (pr N g F) a b b with
      | some j => (0, Int32.ofNat j, s)
      | none => (1, 0, s)) := by
  have hp := pr_lt h
  have hN := h.2.1
  have hla := lb_lt h ha
  have key : ok (it FUEL (fun y => st_X9_joiningsBetween_25 z (Int32.ofNat (lb N g a)) z' y.1 y.2.1 y.2.2) (Int32.ofNat (lb N g b), 0, s)) (fun r => r = (match sJ (pr N g F) a b b with
      | some j => (0, Int32.ofNat j, s)
      | none => (1, 0, s))) := by
    refine it_ok1 8 (by omega) (fun j y => (∃ c, y = (Int32.ofNat (lb N g c), Int32.ofNat j, s) ∧ c + j ≤ b ∧ ∃ f, c ≤ f ∧ sJ (pr N g F) a b b = (sJ (pr N g F) a f c).map (fun i => i + j)) ∨ (y = (-1, Int32.ofNat j, s) ∧ j ≤ 8 ∧ sJ (pr N g F) a b b = none)) (Or.inl ⟨b, rfl, by omega, b, Nat.le_refl _, by cases sJ (pr N g F) a b b <;> rfl⟩) (fun j y w => by
      rcases w with ⟨_, _, w, _⟩ | ⟨_, w, _⟩ <;> omega) ?_
    rintro j y (⟨c, rfl, hc, f, hf, e⟩ | ⟨rfl, hj, e⟩)
    · dsimp only
      have hlc := lb_lt h (show c < N by omega)
      unfold st_X9_joiningsBetween_25
      rw [if_neg (by rw [L_leN (by omega) (by omega)]; omega), x_isKin (show lb N g c < 8 by omega), Option.bind_some]
      dsimp only
      rw [if_neg (show ¬ ((1 : Int32) = 0) by decide)]
      by_cases hca : c = a
      · subst hca
        rw [if_pos rfl]
        have e0 : sJ (pr N g F) c f c = some 0 := by
          cases f <;> (unfold sJ; rw [if_pos rfl])
        rw [e0] at e
        rw [e]
        refine Or.inr ⟨_, rfl, ?_⟩
        show _ = (0, Int32.ofNat (0 + j), s)
        rw [Nat.zero_add]
      · rw [if_neg (show ¬ Int32.ofNat (lb N g c) = Int32.ofNat (lb N g a) by
          rw [N_eq (by omega) (by omega)]
          exact fun w => hca (lb_inj h (by omega) ha w)), rd_N (by omega) (by omega), Option.bind_some, up_lb h hu (by omega), N_addL]
        by_cases h0 : c = 0
        · rw [if_pos h0]
          have e0 : sJ (pr N g F) a f c = none := by
            cases f with
            | zero =>
              unfold sJ
              rw [if_neg hca]
            | succ f =>
              unfold sJ
              rw [if_neg hca, if_pos h0]
          rw [e0] at e
          exact Or.inl ⟨_, rfl, Or.inr ⟨rfl, by omega, e⟩⟩
        · rw [if_neg h0]
          have hpc := hp c (by omega)
          cases f with
          | zero => omega
          | succ f =>
            have e1 : sJ (pr N g F) a (f + 1) c = (sJ (pr N g F) a f (pr N g F c)).map (fun j => j + 1) := by
              show (if c = a then some 0 else if c = 0 then none else _) = _
              rw [if_neg hca, if_neg h0]
            refine Or.inl ⟨_, rfl, Or.inl ⟨_, rfl, by omega, f, by omega, ?_⟩⟩
            rw [e, e1, Option.map_map]
            congr 1
            funext i
            show i + 1 + j = i + (j + 1)
            omega
    · dsimp only
      unfold st_X9_joiningsBetween_25
      rw [e]
      by_cases h8 : j = 8
      · subst h8
        rw [if_pos (by decide)]
        exact Or.inr ⟨_, rfl, rfl⟩
      · rw [if_neg (by rw [L_leN (by omega) (by omega)]; omega), show f_X9_isKin (-1) s = some (0, s) from rfl, Option.bind_some]
        dsimp only
        rw [if_pos rfl]
        exact Or.inr ⟨_, rfl, rfl⟩
  obtain ⟨r, e, rfl⟩ := key
  exact e
