/-! ===== the tree: its beginning and its last two places ===== -/
theorem m_blank {t : Mem} {z : Int32} {g f : Nat → Nat} : ok (it FUEL (fun y => st_X12_growsTree_37 z y.1 y.2) (0, t)) (fun t' => matI g f 0 t' ∧ ∀ c, c ≠ 31 → t' c = t c) := by
  refine it_ok1 64 (by omega) (fun k y => ∃ t', y = (Int32.ofNat k, t') ∧ k ≤ 64 ∧ (∀ x y, x < 8 → y < 8 → 8 * x + y < k → t' 31 (8 * x + y) = Int32.ofNat (if x = y then 0 else 100000000)) ∧ ∀ c, c ≠ 31 → t' c = t c) ⟨t, rfl, by omega, fun x y _ _ h => by omega, fun _ _ => rfl⟩ (fun k y w => by obtain ⟨_, _, w, _⟩ := w; omega) ?_
  rintro k y ⟨t', rfl, hk, h1, h2⟩
  dsimp only
  unfold st_X12_growsTree_37
  by_cases hk64 : k = 64
  · subst hk64
    rw [if_pos (by decide)]
    refine Or.inr ⟨_, rfl, fun x y hx hy => ?_, h2⟩
    rw [h1 x y hx hy (by omega)]
    by_cases hxy : x = y
    · rw [if_pos hxy, if_pos hxy]
    · rw [if_neg hxy, if_neg hxy, if_neg (show ¬ EB g f 0 x y = true from fun w => absurd w (by unfold EB; decide))]
  · rw [if_neg (by rw [L_leN (by omega) (by omega)]; omega), N_modL (by omega) (by omega), N_addL]
    by_cases h9 : k % 9 = 0
    · rw [if_pos (by rw [h9]; rfl), wr_N (by omega) (by omega), Option.bind_some]
      refine Or.inl ⟨_, rfl, _, rfl, by omega, fun x y hx hy hlt => ?_, fun c hc => by rw [m_ne hc]; exact h2 c hc⟩
      rw [m_eq]
      by_cases hkk : 8 * x + y = k
      · rw [hkk, u_eq, if_pos (show x = y by omega)]
        rfl
      · rw [u_ne hkk]
        exact h1 x y hx hy (by omega)
    · rw [if_neg (by rw [N_eqL (by omega) (by omega)]; exact h9), wr_N (by omega) (by omega), Option.bind_some]
      refine Or.inl ⟨_, rfl, _, rfl, by omega, fun x y hx hy hlt => ?_, fun c hc => by rw [m_ne hc]; exact h2 c hc⟩
      rw [m_eq]
      by_cases hkk : 8 * x + y = k
      · rw [hkk, u_eq, if_neg (show ¬ x = y by omega)]
        rfl
      · rw [u_ne hkk]
        exact h1 x y hx hy (by omega)
theorem m_first {m a : Nat} {t : Mem} {z : Int32} (hm : m < 256) (ha : a < 8) (h1 : m.testBit a = true) (h2 : ∀ x, x < a → ¬ m.testBit x = true) : it FUEL (fun y => st_X12_growsTree_146 z (Int32.ofNat m) y.1 y.2) (0, t) = some (Int32.ofNat a, t) := by
  refine it_go (f := fun y => st_X12_growsTree_146 z (Int32.ofNat m) y.1 y.2) (fun k => (Int32.ofNat k, t)) a _ (by omega) (fun k hk => ?_) ?_
  · dsimp only
    unfold st_X12_growsTree_146
    rw [m_has (by omega) (by omega), Option.bind_some]
    dsimp only
    rw [if_pos (by rw [if_neg (h2 k hk)]), N_addL]
  · dsimp only
    unfold st_X12_growsTree_146
    rw [m_has (by omega) (by omega), Option.bind_some]
    dsimp only
    rw [if_neg (by rw [if_pos h1]; decide)]
theorem m_second {m a b : Nat} {t : Mem} {z z' : Int32} (hm : m < 256) (hb : b < 8) (hab : a < b) (h1 : m.testBit b = true) (h2 : ∀ x, a < x → x < b → ¬ m.testBit x = true) : it FUEL (fun y => st_X12_growsTree_167 z (Int32.ofNat m) z' y.1 y.2) (Int32.ofNat (a + 1), t) = some (Int32.ofNat b, t) := by
  have e := it_go (f := fun y => st_X12_growsTree_167 z (Int32.ofNat m) z' y.1 y.2) (fun k => (Int32.ofNat (a + 1 + k), t)) (b - (a + 1)) (Int32.ofNat b, t) (by omega) (fun k hk => by
    dsimp only
    unfold st_X12_growsTree_167
    rw [m_has (by omega) (by omega), Option.bind_some]
    dsimp only
    rw [if_pos (by rw [if_neg (h2 (a + 1 + k) (by omega) (by omega))]), N_addL]
    rfl) (by
    dsimp only
    rw [show a + 1 + (b - (a + 1)) = b by omega]
    unfold st_X12_growsTree_167
    rw [m_has (by omega) (by omega), Option.bind_some]
    dsimp only
    rw [if_neg (by rw [if_pos h1]; decide)])
  exact e
theorem x_two {n m : Nat} {f g : Nat → Nat} {s : Mem} (hX : rwX s n f) (hI : grI n f g n m) : ∃ a b, a < b ∧ b < n + 2 ∧ m.testBit a = true ∧ m.testBit b = true ∧ (∀ x, x < a → ¬ m.testBit x = true) ∧ (∀ x, a < x → x < b → ¬ m.testBit x = true) ∧ grI n f (xt (xt g n a) (n + 1) b) (n + 2) (clr (clr m a) b) ∧
    f_X9_leastFree 51 (Int32.ofNat n) (Int32.ofNat m) s = some (Int32.ofNat a, s) ∧ f_X9_leastFree 51 (Int32.ofNat n) (Int32.ofNat (clr m a)) s = some (Int32.ofNat b, s) := by
  obtain ⟨hn, x1, x2⟩ := hX
  have hI' := hI
  obtain ⟨i1, i2, i3, i4⟩ := hI'
  have hf : ∀ j, j < n → s 52 j = Int32.ofNat (f j) ∧ f j < 8 := fun j hj => ⟨(x2 j hj).1, by have := (x2 j hj).2; omega⟩
  obtain ⟨a, ha, fa, la, ea⟩ := x_free (rc := 51) (i := n) (m := m) (s := s) hn (by omega) x1 gl_rows.2.2.2.2.2.2.2.2.2.1 hf i1 (by omega)
  have nI := grI_step hI ha fa.1 fa.2
  have nI' := nI
  obtain ⟨j1, j2, j3, j4⟩ := nI'
  obtain ⟨b, hb, fb, lb, eb⟩ := x_free (rc := 51) (i := n) (m := clr m a) (s := s) hn (by omega) x1 gl_rows.2.2.2.2.2.2.2.2.2.1 hf j1 (by omega)
  have nJ := grI_step nI hb fb.1 (fun q q1 q2 => by omega)
  obtain ⟨-, -, c3⟩ := clr_N i1 ha
  have hbm := fb.1
  rw [c3 b hb, Bool.and_eq_true] at hbm
  have hne : b ≠ a := by
    intro w
    rw [w, beq_t rfl] at hbm
    exact absurd hbm.2 (by decide)
  have hab : a < b := by
    by_cases w : a < b
    · exact w
    · exact absurd ⟨hbm.1, fun q q1 q2 => by omega⟩ (la b (by omega))
  refine ⟨a, b, hab, ((i2 b hb).mp hbm.1).1, fa.1, hbm.1, fun x hx w => la x hx ⟨w, fun q q1 q2 => by omega⟩, fun x q1 q2 w => lb x q2 ⟨?_, fun q q1 q2 => by omega⟩, nJ, ea, eb⟩
  rw [c3 x (by omega), w, beq_f (by omega)]
  rfl
