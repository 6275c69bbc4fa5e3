/-! ===== a row's numbers, looked at where they are used ===== -/
theorem x_at {s : Mem} {a r c cap : Nat} (h : s a 1 = Int32.ofNat c) (hr : a + 1 = r) (hg : gL 0 r = cap) (hc : c ≤ cap) (hcap : cap ≤ 2000) {i : Nat} (hi : i < c) : f_X7_at a (Int32.ofNat i) s = some (s r i, s) := by
  subst hr
  unfold f_X7_at
  simp (disch := omega) only [rd_N, wr_N, rd_L, wr_L, Option.bind_some, N_le, N_lt, N_eq, N_leL, L_leN, N_ltL, L_ltN, N_eqL, L_eqN, N_neg, neg_N, N_nlt0, N_0le, N_add, N_addL, L_addN, N_mul, N_mulL, L_mulN, N_sub, N_subL, m_eq, m_ne, u_eq, u_ne, if_true, if_false, ite_true, ite_false, if_pos, if_neg, h, hg]
theorem x_at0 {s : Mem} {a r c cap : Nat} (h : s a 1 = Int32.ofNat c) (hr : a + 1 = r) (hg : gL 0 r = cap) (hc : c ≤ cap) (hcap : cap ≤ 2000) (hi : 0 < c) : f_X7_at a 0 s = some (s r 0, s) := x_at h hr hg hc hcap hi
