/-! ===== how many a place is joined to ===== -/
def chP (N : Nat) (g F : Nat → Nat) (x : Nat) : Nat → Bool := fun y => decide (rk N g y ≠ 0 ∧ pr N g F (rk N g y) = rk N g x)
def nbP (N : Nat) (g F : Nat → Nat) (x : Nat) : Nat → Bool := fun y => decide (Dt N g F x y = 1)
theorem x_joinedTo {N x : Nat} {g F : Nat → Nat} {s : Mem} (h : St N g F) (hu : up N g F s) (hx : x < N) : f_X9_joinedTo (Int32.ofNat x) (Int32.ofNat N) s = some (Int32.ofNat (wS one1 (nbP N g F x) N), s) := by
  have hp := pr_lt h
  have hN := h.2.1
  have hrx := rk_lt h hx
  have par : ∀ y, y < N → s 199 y = if rk N g y = 0 then -1 else Int32.ofNat (lb N g (pr N g F (rk N g y))) := fun y hy => by
    have := up_lb h hu (rk_lt h hy)
    rw [lb_rk h hy] at this
    exact this
  have one : ∀ y, y < N → (nbP N g F x y = true ↔ (rk N g y < rk N g x ∧ pr N g F (rk N g x) = rk N g y) ∨ (rk N g x < rk N g y ∧ pr N g F (rk N g y) = rk N g x)) := fun y hy => by
    unfold nbP Dt
    rw [decide_eq_true_eq, T_one hp]
  have ch : ∀ y, (chP N g F x y = true ↔ rk N g y ≠ 0 ∧ pr N g F (rk N g y) = rk N g x) := fun y => by
    unfold chP
    rw [decide_eq_true_eq]
  have loop : ∀ c0, jn_X9_joinedTo_15 (Int32.ofNat x) (Int32.ofNat N) (Int32.ofNat c0) s = some (Int32.ofNat (c0 + wS one1 (chP N g F x) N), s) := by
    intro c0
    have e := it_go (f := fun y => st_X9_joinedTo_19 (Int32.ofNat x) (Int32.ofNat N) y.1 y.2.1 y.2.2) (fun k => (Int32.ofNat (c0 + wS one1 (chP N g F x) k), Int32.ofNat k, s)) N (Int32.ofNat (c0 + wS one1 (chP N g F x) N), s) (by omega) (fun k hk => by
      dsimp only
      unfold st_X9_joinedTo_19
      have hw : wS one1 (chP N g F x) (k + 1) = wS one1 (chP N g F x) k + if chP N g F x k = true then one1 k else 0 := rfl
      have h1 : one1 k = 1 := rfl
      rw [if_neg (by rw [N_le (by omega) (by omega)]; omega), rd_N (by omega) (by omega), Option.bind_some, par k hk, hw, h1, N_addL, N_addL]
      by_cases h0 : rk N g k = 0
      · rw [if_pos h0, if_neg (by rw [neg_N (by omega)]; exact fun w => w), if_neg (fun w => ((ch k).mp w).1 h0)]
        rfl
      · have hpk := hp (rk N g k) (by omega)
        have hrk := rk_lt h hk
        have hl := lb_lt h (show pr N g F (rk N g k) < N by omega)
        rw [if_neg h0]
        by_cases hc : pr N g F (rk N g k) = rk N g x
        · rw [if_pos (by rw [hc, lb_rk h hx]), if_pos ((ch k).mpr ⟨h0, hc⟩), Nat.add_assoc]
        · rw [if_neg (show ¬ Int32.ofNat (lb N g (pr N g F (rk N g k))) = Int32.ofNat x by
            rw [N_eq (by omega) (by omega)]
            intro w
            apply hc
            have e2 := lb_rk h hx
            exact lb_inj h (by omega) hrx (w.trans e2.symm)), if_neg (fun w => hc ((ch k).mp w).2)]
          rfl) (by
      dsimp only
      unfold st_X9_joinedTo_19
      rw [if_pos (by rw [N_le (by omega) (by omega)]; omega)])
    unfold jn_X9_joinedTo_15
    have e' : it FUEL (fun y => st_X9_joinedTo_19 (Int32.ofNat x) (Int32.ofNat N) y.1 y.2.1 y.2.2) (Int32.ofNat c0, 0, s) = some (Int32.ofNat (c0 + wS one1 (chP N g F x) N), s) := e
    rw [e', Option.bind_some]
  unfold f_X9_joinedTo
  rw [rd_N (by omega) (by omega), Option.bind_some, par x hx]
  by_cases h0 : rk N g x = 0
  · rw [if_pos h0, if_pos rfl]
    have e := loop 0
    have eq : wS one1 (chP N g F x) N = wS one1 (nbP N g F x) N := wS_congr N (fun y hy => by
      rw [Bool.eq_iff_iff, one y hy, ch y]
      omega)
    rw [Nat.zero_add, eq] at e
    exact e
  · have hpx := hp (rk N g x) (by omega)
    have hl := lb_lt h (show pr N g F (rk N g x) < N by omega)
    rw [if_neg h0, if_neg (by rw [N_neg (by omega)]; exact fun w => w)]
    have e := loop 1
    have rkl : rk N g (lb N g (pr N g F (rk N g x))) = pr N g F (rk N g x) := by
      unfold lb
      rw [rk_g h (by omega)]
      omega
    have no : chP N g F x (lb N g (pr N g F (rk N g x))) = false := by
      cases hb : chP N g F x (lb N g (pr N g F (rk N g x))) with
      | false => rfl
      | true =>
        have := (ch _).mp hb
        rw [rkl] at this
        have := hp (pr N g F (rk N g x)) (by omega)
        omega
    have eq := wS_add (v := one1) no hl
    have h1 : one1 (lb N g (pr N g F (rk N g x))) = 1 := rfl
    rw [h1] at eq
    have eq2 : wS one1 (ad (chP N g F x) (lb N g (pr N g F (rk N g x)))) N = wS one1 (nbP N g F x) N := wS_congr N (fun y hy => by
      rw [Bool.eq_iff_iff, one y hy]
      unfold ad
      rw [Bool.or_eq_true, ch y, Nat.beq_eq]
      have hry := rk_lt h hy
      constructor
      · rintro (⟨w1, w2⟩ | w)
        · have := hp (rk N g y) (by omega)
          exact Or.inr ⟨by omega, w2⟩
        · subst w
          rw [rkl]
          exact Or.inl ⟨hpx, rfl⟩
      · rintro (⟨w1, w2⟩ | ⟨w1, w2⟩)
        · refine Or.inr ?_
          rw [w2, lb_rk h hy]
        · exact Or.inl ⟨by omega, w2⟩)
    rw [show 1 + wS one1 (chP N g F x) N = wS one1 (nbP N g F x) N by omega] at e
    exact e
theorem m_joined {N x : Nat} {g F : Nat → Nat} {t : Mem} (h : St N g F) (hm : ∀ x y, x < N → y < N → t 31 (8 * x + y) = Int32.ofNat (Dt N g F x y)) (hx : x < N) : it FUEL (fun y => st_X12_tree_86 (Int32.ofNat x) (Int32.ofNat N) y.1 y.2.1 y.2.2) (0, 0, t) = some (Int32.ofNat (wS one1 (nbP N g F x) N), t) := by
  have hN := h.2.1
  have e := it_go (f := fun y => st_X12_tree_86 (Int32.ofNat x) (Int32.ofNat N) y.1 y.2.1 y.2.2) (fun k => (Int32.ofNat (wS one1 (nbP N g F x) k), Int32.ofNat k, t)) N (Int32.ofNat (wS one1 (nbP N g F x) N), t) (by omega) (fun k hk => by
    dsimp only
    unfold st_X12_tree_86
    have hd := (Dt_mtr h).2.2.2.2 x k hx hk
    have hw : wS one1 (nbP N g F x) (k + 1) = wS one1 (nbP N g F x) k + if nbP N g F x k = true then one1 k else 0 := rfl
    have hc : (nbP N g F x k = true) = (Dt N g F x k = 1) := by
      unfold nbP
      rw [decide_eq_true_eq]
    have h1 : one1 k = 1 := rfl
    simp only [hc] at hw
    rw [if_neg (by rw [N_le (by omega) (by omega)]; omega), L_mulN, N_add, rd_N (by omega) (by omega), Option.bind_some, hm x k hx hk, hw, h1, N_addL, N_addL]
    by_cases q : Dt N g F x k = 1
    · rw [if_pos (by rw [q]; rfl), if_pos q]
    · rw [if_neg (by rw [N_eqL (by omega) (by omega)]; exact q), if_neg q]
      rfl) (by
    dsimp only
    unfold st_X12_tree_86
    rw [if_pos (by rw [N_le (by omega) (by omega)]; omega)])
  exact e
