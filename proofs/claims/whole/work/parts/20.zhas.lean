/-! ===== who is in the lane is looked at where one is used ===== -/
theorem one_ne0 : ((1 : Int32) = 0) = False := eq_false (by decide)
theorem x_hasN {s : Mem} {a n p : Nat} (h : s a 1 = Int32.ofNat n) (hn : n ≤ 14) (hp : p < n) : f_X0_has a (Int32.ofNat p) s = some (1, s) := by
  rw [x_has h, if_pos]
  exact ⟨by rw [N_0le (by omega)]; trivial, by rw [N_lt (by omega) (by omega)]; exact hp⟩
