/-! ===== the walk up: it gives the measure ===== -/
theorem sJ_some {p : Nat → Nat} (hp : ∀ k, 0 < k → p k < k) {a : Nat} : ∀ f b j, sJ p a f b = some j → tT p a b = j
  | 0, b, j, h => by
    unfold sJ at h
    by_cases e : b = a
    · subst e
      rw [if_pos rfl] at h
      rw [T_self]
      exact Option.some.inj h
    · rw [if_neg e] at h
      cases h
  | f + 1, b, j, h => by
    by_cases hba : b < a
    · rw [sJ_no hp _ b hba] at h
      cases h
    · unfold sJ at h
      by_cases e : b = a
      · subst e
        rw [if_pos rfl] at h
        rw [T_self]
        exact Option.some.inj h
      · rw [if_neg e, if_neg (show ¬ b = 0 by omega)] at h
        cases hs : sJ p a f (p b) with
        | none =>
          rw [hs] at h
          cases h
        | some i =>
          rw [hs] at h
          have := sJ_some hp f (p b) i hs
          have h2 : i + 1 = j := Option.some.inj h
          rw [T_lt hp (show a < b by omega), this]
          omega
theorem sJ_none {p : Nat → Nat} (hp : ∀ k, 0 < k → p k < k) {a : Nat} : ∀ f b, b ≤ f → sJ p a f b = none → tT p a b = 1 + tT p (p a) b
  | 0, b, hb, h => by
    have : b = 0 := by omega
    subst this
    unfold sJ at h
    by_cases e : 0 = a
    · rw [if_pos e] at h
      cases h
    · exact T_gt hp (by omega)
  | f + 1, b, hb, h => by
    by_cases hba : b < a
    · exact T_gt hp hba
    · unfold sJ at h
      by_cases e : b = a
      · rw [if_pos e] at h
        cases h
      · rw [if_neg e] at h
        by_cases h0 : b = 0
        · omega
        · rw [if_neg h0] at h
          have hpb := hp b (by omega)
          have hs : sJ p a f (p b) = none := by
            cases hs : sJ p a f (p b) with
            | none => rfl
            | some i =>
              rw [hs] at h
              cases h
          have ih := sJ_none hp f (p b) (by omega) hs
          have ha0 : 0 < a := by
            by_cases w : 0 < a
            · exact w
            · have ha : a = 0 := by omega
              subst ha
              exfalso
              have root : ∀ f b, b ≤ f → sJ p 0 f b ≠ none := by
                intro f
                induction f with
                | zero =>
                  intro b hb w
                  unfold sJ at w
                  rw [if_pos (by omega)] at w
                  cases w
                | succ f ihf =>
                  intro b hb w
                  unfold sJ at w
                  by_cases hb0 : b = 0
                  · rw [if_pos hb0] at w
                    cases w
                  · rw [if_neg hb0, if_neg hb0] at w
                    have := hp b (by omega)
                    cases hs : sJ p 0 f (p b) with
                    | none => exact ihf (p b) (by omega) hs
                    | some i =>
                      rw [hs] at w
                      cases w
              exact root f (p b) (by omega) hs
          have hpa := hp a ha0
          rw [T_lt hp (show a < b by omega), ih, T_lt hp (show p a < b by omega)]
theorem sJ_root {p : Nat → Nat} (hp : ∀ k, 0 < k → p k < k) : ∀ f b, b ≤ f → sJ p 0 f b ≠ none
  | 0, b, hb, w => by
    unfold sJ at w
    rw [if_pos (by omega)] at w
    cases w
  | f + 1, b, hb, w => by
    unfold sJ at w
    by_cases hb0 : b = 0
    · rw [if_pos hb0] at w
      cases w
    · rw [if_neg hb0, if_neg hb0] at w
      have := hp b (by omega)
      cases hs : sJ p 0 f (p b) with
      | none => exact sJ_root hp f (p b) (by omega) hs
      | some i =>
        rw [hs] at w
        cases w
theorem x_between {N x y : Nat} {g F : Nat → Nat} {s : Mem} (h : St N g F) (hu : up N g F s) (hx : x < N) (hy : y < N) : f_X9_joiningsBetween (Int32.ofNat x) (Int32.ofNat y) s = some (Int32.ofNat (Dt N g F x y), s) := by
  have hp := pr_lt h
  have hN := h.2.1
  have hrx := rk_lt h hx
  have hry := rk_lt h hy
  have key : ok (it FUEL (fun w => st_X9_joiningsBetween_5 (Int32.ofNat y) w.1 w.2.1 w.2.2) (Int32.ofNat x, 0, s)) (fun r => ∃ i j, r = (0, Int32.ofNat i, Int32.ofNat j, s) ∧ i + j = Dt N g F x y) := by
    refine it_ok1 8 (by omega) (fun i w => ∃ c, w = (Int32.ofNat (lb N g c), Int32.ofNat i, s) ∧ c + i ≤ rk N g x ∧ tT (pr N g F) (rk N g x) (rk N g y) = i + tT (pr N g F) c (rk N g y)) ⟨rk N g x, by rw [lb_rk h hx]; rfl, by omega, by omega⟩ (fun i w q => by obtain ⟨_, _, q, _⟩ := q; omega) ?_
    rintro i w ⟨c, rfl, hc, hT⟩
    dsimp only
    have hlc := lb_lt h (show c < N by omega)
    have e := x_inner (z := Int32.ofNat y) (z' := Int32.ofNat i) h hu (show c < N by omega) hry
    rw [lb_rk h hy] at e
    unfold st_X9_joiningsBetween_5
    rw [if_neg (by rw [L_leN (by omega) (by omega)]; omega), x_isKin (show lb N g c < 8 by omega), Option.bind_some]
    dsimp only
    rw [if_neg (show ¬ ((1 : Int32) = 0) by decide), e, Option.bind_some]
    cases hs : sJ (pr N g F) c (rk N g y) (rk N g y) with
    | some j =>
      dsimp only
      rw [if_pos rfl]
      have := sJ_some hp _ _ _ hs
      refine Or.inr ⟨_, rfl, i, j, rfl, ?_⟩
      unfold Dt
      omega
    | none =>
      dsimp only
      rw [if_neg (by decide)]
      have h1 := sJ_none hp _ _ (Nat.le_refl _) hs
      have hc0 : c ≠ 0 := by
        rintro rfl
        exact sJ_root hp _ _ (Nat.le_refl _) hs
      have hpc := hp c (by omega)
      unfold jn_X9_joiningsBetween_67
      rw [rd_N (by omega) (by omega), Option.bind_some, up_lb h hu (by omega), if_neg hc0, N_addL]
      exact Or.inl ⟨_, rfl, _, rfl, by omega, by omega⟩
  obtain ⟨r, e, i, j, rfl, hij⟩ := key
  unfold f_X9_joiningsBetween
  rw [e, Option.bind_some]
  dsimp only
  rw [if_pos rfl, N_add, hij]
