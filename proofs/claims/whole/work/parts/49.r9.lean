/-! ===== the tree asked ===== -/
def rwB (s t : Mem) (n : Nat) (f : Nat → Nat) : Prop := n ≤ 6 ∧ (s 51 1 = Int32.ofNat n ∧ t 0 52 = Int32.ofNat n) ∧ ∀ j, j < n → s 52 j = Int32.ofNat (f j) ∧ t 30 j = Int32.ofNat (f j) ∧ f j ≤ 7
theorem r_below {n : Nat} {f : Nat → Nat} {s t : Mem} (h : rwB s t n f) :
    ((∀ j, j < n → f j < n + 2) ∧ f_X9_areBelow 51 (Int32.ofNat (n + 2)) s = some (1, s) ∧ it FUEL (fun y => st_X12_growsTree_9 (Int32.ofNat (n + 2)) y.1 y.2) (0, t) = some (1, t)) ∨ (f_X9_areBelow 51 (Int32.ofNat (n + 2)) s = some (0, s) ∧ it FUEL (fun y => st_X12_growsTree_9 (Int32.ofNat (n + 2)) y.1 y.2) (0, t) = some (0, t)) := by
  obtain ⟨hn, ⟨h1, h2⟩, h3⟩ := h
  have key : ok2 (it FUEL (fun y => st_X9_areBelow_2 51 (Int32.ofNat (n + 2)) y.1 y.2) (0, s)) (it FUEL (fun y => st_X12_growsTree_9 (Int32.ofNat (n + 2)) y.1 y.2) (0, t)) (fun r r' => (r = (1, s) ∧ r' = (1, t) ∧ ∀ j, j < n → f j < n + 2) ∨ (r = (0, s) ∧ r' = (0, t))) := by
    refine it_ok2 6 (by omega) (fun k y y' => y = (Int32.ofNat k, s) ∧ y' = (Int32.ofNat k, t) ∧ k ≤ n ∧ ∀ j, j < k → f j < n + 2) ⟨rfl, rfl, by omega, fun j hj => by omega⟩ (fun k y y' w => by omega) ?_
    rintro k y y' ⟨rfl, rfl, hk, hall⟩
    dsimp only
    unfold st_X9_areBelow_2 st_X12_growsTree_9
    rw [h1, h2]
    by_cases hkn : k = n
    · subst hkn
      rw [if_pos (by rw [N_le (by omega) (by omega)]; omega), if_pos (by rw [N_le (by omega) (by omega)]; omega)]
      exact ok2.some (Or.inr ⟨_, _, rfl, rfl, Or.inl ⟨rfl, rfl, hall⟩⟩)
    · obtain ⟨q1, q2, q3⟩ := h3 k (by omega)
      rw [if_neg (by rw [N_le (by omega) (by omega)]; omega), if_neg (by rw [N_le (by omega) (by omega)]; omega), x_at (r := 52) h1 rfl gl_rows.2.2.2.2.2.2.2.2.2.1 hn (by omega) (by omega), Option.bind_some]
      dsimp only
      rw [rd_N (by omega) (by omega), Option.bind_some, q1, q2, N_addL]
      by_cases hlt : f k < n + 2
      · rw [if_pos (by rw [N_lt (by omega) (by omega)]; exact hlt), if_pos (by rw [N_lt (by omega) (by omega)]; exact hlt)]
        refine ok2.some (Or.inl ⟨_, _, rfl, rfl, rfl, rfl, by omega, fun j hj => ?_⟩)
        by_cases hjk : j = k
        · subst hjk
          exact hlt
        · exact hall j (by omega)
      · rw [if_neg (by rw [N_lt (by omega) (by omega)]; exact hlt), if_neg (by rw [N_lt (by omega) (by omega)]; exact hlt)]
        exact ok2.some (Or.inr ⟨_, _, rfl, rfl, Or.inr ⟨rfl, rfl⟩⟩)
  obtain ⟨r, r', e, e', ⟨rfl, rfl, q⟩ | ⟨rfl, rfl⟩⟩ := key
  · refine Or.inl ⟨q, ?_, e'⟩
    unfold f_X9_areBelow
    rw [e, Option.bind_some]
    dsimp only
    rw [if_neg (by decide)]
  · refine Or.inr ⟨?_, e'⟩
    unfold f_X9_areBelow
    rw [e, Option.bind_some]
    dsimp only
    rw [if_pos rfl]
theorem full_bits : ∀ n, n < 7 → 2 ^ (n + 2) - 1 < 256 ∧ wS one1 (2 ^ (n + 2) - 1).testBit 8 = n + 2 := by decide +kernel
theorem grI_0 {n : Nat} {f g : Nat → Nat} (hn : n ≤ 6) : grI n f g 0 (2 ^ (n + 2) - 1) := by
  obtain ⟨h1, h2⟩ := full_bits n (by omega)
  refine ⟨h1, fun x hx => ?_, by omega, fun q hq => by omega⟩
  rw [Nat.testBit_two_pow_sub_one, decide_eq_true_eq]
  exact ⟨fun w => ⟨w, fun q hq => by omega⟩, fun w => w.1⟩
theorem St_of {n m b : Nat} {f g : Nat → Nat} (hn : n ≤ 6) (hf : ∀ j, j < n → f j < n + 2) (hI : grI n f g (n + 2) m) (hb : g (n + 1) = b) : St (n + 2) g (xt f n b) := by
  obtain ⟨h1, h2, h3, h4⟩ := hI
  have sur : ∀ x, x < n + 2 → ∃ q, q < n + 2 ∧ g q = x := fun x hx => by
    have hno : ¬ m.testBit x = true := fun w => by
      have := wS_del (v := one1) (p := m.testBit) w 8 (by omega)
      have e : one1 x = 1 := rfl
      omega
    by_cases w : ∃ q, q < n + 2 ∧ g q = x
    · exact w
    · exact absurd ((h2 x (by omega)).mpr ⟨hx, fun q hq e => w ⟨q, hq, e⟩⟩) hno
  refine ⟨by omega, by omega, fun q hq => ⟨(h4 q hq).1, (h4 q hq).2.1⟩, sur, fun q hq => ?_⟩
  by_cases hqn : q = n
  · subst hqn
    rw [xt_eq]
    exact ⟨q + 1, by omega, by omega, hb.symm⟩
  · rw [xt_ne hqn]
    obtain ⟨q', w1, w2⟩ := sur (f q) (hf q (by omega))
    refine ⟨q', ?_, w1, w2.symm⟩
    by_cases w : q < q'
    · exact w
    · exact absurd w2.symm ((h4 q' w1).2.2 q (by omega) (by omega))
