/-! ===== queries: fault, end, feed, terms, product ===== -/
theorem o_fault {x : Int32} {s t : Mem} (h : GR s t) : opR (f_X11_fault x s) (f_X12_fault x t) := by
  have h1 := GR_told (v := 0) h
  unfold f_X11_fault f_X12_fault
  generalize mset t 0 0 0 = t1 at *
  clear h
  have hG := h1
  obtain ⟨n, hL, hX⟩ := h1
  obtain ⟨-, q1, q2⟩ := hX.2.2.2.1
  by_cases x0 : x = 0
  · rw [if_pos x0, if_pos x0]
    exact opR.rets q1 hG
  rw [if_neg x0, if_neg x0]
  by_cases x1 : x = 1
  · rw [if_pos x1, if_pos x1]
    exact opR.rets q2 hG
  rw [if_neg x1, if_neg x1]
  exact opR.ret hG
/-- the tape alone changes -/
theorem GR_tape {s t s' t' : Mem} (h : GR s t) (hs : ∀ c, (c < 172 ∨ 175 ≤ c) → s' c = s c) (h0 : ∀ j, j ≠ 0 → j ≠ 9 → t' 0 j = t 0 j) (ht : ∀ c, c ≠ 0 → c ≠ 5 → t' c = t c) (hr : txtR s' t') : GR s' t' := by
  obtain ⟨n, ⟨g1, g2, g3, g4⟩, ⟨h1, ⟨w1, w2, w3, w4⟩, h3⟩, h4, h5, h6, h7⟩ := h
  have hn := g1.1.2.1
  have e1 : t' 1 = t 1 := ht 1 (by omega) (by omega)
  refine ⟨n, ⟨nS_t g1 (fun c q1 q2 => hs _ (by omega)) (hs _ (by omega)) e1 (ht _ (by omega) (by omega)) (h0 _ (by omega) (by omega)) (h0 _ (by omega) (by omega)), by rw [e1]; exact g2, by rw [e1]; exact g3, by rw [h0 _ (by omega) (by omega)]; exact g4⟩,
    ⟨by rw [hs 115 (by omega)]; exact h1, ⟨lawR_eq w1 (fun j hj => hs _ (by omega)) (fun c q1 q2 => ht c (by omega) (by omega)), ordR_eq w2 (fun j hj => hs _ (by omega)) (h0 _ (by omega) (by omega)) (ht _ (by omega) (by omega)) (ht _ (by omega) (by omega)), planT_eq w3 (fun j hj => hs _ (by omega)) (h0 _ (by omega) (by omega)) (ht _ (by omega) (by omega)), planC_eq w4 (fun j hj => hs _ (by omega)) (h0 _ (by omega) (by omega)) (ht _ (by omega) (by omega))⟩, rowsR_t h3 (fun j q1 q2 => hs _ (by omega)) (fun j q1 q2 => h0 _ (by omega) (by omega)) (fun c q1 q2 q3 q4 q5 => ht _ (by omega) (by omega))⟩,
    pastR_eq h4 hn (fun c q1 q2 => hs _ (by omega)) (by rw [hs 0 (by omega)]) (by rw [hs 0 (by omega)]) (ht _ (by omega) (by omega)) (h0 _ (by omega) (by omega)), imgR_eq h5 (fun c q1 q2 => hs _ (by omega)) (by rw [hs 0 (by omega)]) (h0 _ (by omega) (by omega)) (ht _ (by omega) (by omega)), hr, ?_⟩
  unfold wrdR
  rw [ht 6 (by omega) (by omega)]
  exact h7
theorem o_end {x : Int32} {s t : Mem} (h : GR s t) : opR (f_X11_end x s) (f_X12_end x t) := by
  have h1 := GR_told (v := 0) h
  unfold f_X11_end f_X12_end f_X6_cut
  generalize mset t 0 0 0 = t1 at *
  clear h
  have hG := h1
  obtain ⟨n, hL, hX⟩ := h1
  obtain ⟨⟨L, hL4, q1, q2, q3⟩, q4, q5⟩ := hX.2.2.2.1
  simp only [m_isIn, Option.bind_some, q1, q2]
  by_cases hx : 0 ≤ x ∧ x ≤ Int32.ofNat L
  · simp only [if_pos hx, show (x < 0) = False from by simp; grind, if_pos hx.2, if_false, Option.bind_some, show ((1 : Int32) = 0) = False from by decide]
    rw [if_neg (show ¬ ¬ (False ∨ True) from by simp)]
    obtain ⟨k, ek, hk⟩ := N_of hx.1 hx.2 (by omega)
    subst ek
    have hT : txtR (mset s 173 0 (Int32.ofNat k)) (mset t1 0 9 (Int32.ofNat k)) := by
      refine ⟨⟨k, by omega, by simp (disch := omega) only [rd_N, wr_N, rd_L, wr_L, Option.bind_some, N_le, N_lt, N_eq, N_leL, L_leN, N_ltL, L_ltN, N_eqL, L_eqN, N_neg, neg_N, N_nlt0, N_0le, N_add, N_addL, L_addN, N_mul, N_mulL, L_mulN, N_sub, N_subL, m_eq, m_ne, u_eq, u_ne, if_true, if_false, ite_true, ite_false, if_pos, if_neg], by simp (disch := omega) only [rd_N, wr_N, rd_L, wr_L, Option.bind_some, N_le, N_lt, N_eq, N_leL, L_leN, N_ltL, L_ltN, N_eqL, L_eqN, N_neg, neg_N, N_nlt0, N_0le, N_add, N_addL, L_addN, N_mul, N_mulL, L_mulN, N_sub, N_subL, m_eq, m_ne, u_eq, u_ne, if_true, if_false, ite_true, ite_false, if_pos, if_neg], fun i hi => ?_⟩, ?_, ?_⟩
      · simp (disch := omega) only [rd_N, wr_N, rd_L, wr_L, Option.bind_some, N_le, N_lt, N_eq, N_leL, L_leN, N_ltL, L_ltN, N_eqL, L_eqN, N_neg, neg_N, N_nlt0, N_0le, N_add, N_addL, L_addN, N_mul, N_mulL, L_mulN, N_sub, N_subL, m_eq, m_ne, u_eq, u_ne, if_true, if_false, ite_true, ite_false, if_pos, if_neg]
        exact q3 i (by omega)
      · simp (disch := omega) only [rd_N, wr_N, rd_L, wr_L, Option.bind_some, N_le, N_lt, N_eq, N_leL, L_leN, N_ltL, L_ltN, N_eqL, L_eqN, N_neg, neg_N, N_nlt0, N_0le, N_add, N_addL, L_addN, N_mul, N_mulL, L_mulN, N_sub, N_subL, m_eq, m_ne, u_eq, u_ne, if_true, if_false, ite_true, ite_false, if_pos, if_neg]
        exact q4
      · simp (disch := omega) only [rd_N, wr_N, rd_L, wr_L, Option.bind_some, N_le, N_lt, N_eq, N_leL, L_leN, N_ltL, L_ltN, N_eqL, L_eqN, N_neg, neg_N, N_nlt0, N_0le, N_add, N_addL, L_addN, N_mul, N_mulL, L_mulN, N_sub, N_subL, m_eq, m_ne, u_eq, u_ne, if_true, if_false, ite_true, ite_false, if_pos, if_neg]
        exact q5
    have hG2 : GR (mset s 173 0 (Int32.ofNat k)) (mset t1 0 9 (Int32.ofNat k)) := GR_tape hG (fun c hc => by simp (disch := omega) only [rd_N, wr_N, rd_L, wr_L, Option.bind_some, N_le, N_lt, N_eq, N_leL, L_leN, N_ltL, L_ltN, N_eqL, L_eqN, N_neg, neg_N, N_nlt0, N_0le, N_add, N_addL, L_addN, N_mul, N_mulL, L_mulN, N_sub, N_subL, m_eq, m_ne, u_eq, u_ne, if_true, if_false, ite_true, ite_false, if_pos, if_neg]) (fun j q6 q7 => by simp (disch := omega) only [rd_N, wr_N, rd_L, wr_L, Option.bind_some, N_le, N_lt, N_eq, N_leL, L_leN, N_ltL, L_ltN, N_eqL, L_eqN, N_neg, neg_N, N_nlt0, N_0le, N_add, N_addL, L_addN, N_mul, N_mulL, L_mulN, N_sub, N_subL, m_eq, m_ne, u_eq, u_ne, if_true, if_false, ite_true, ite_false, if_pos, if_neg]) (fun c q6 q7 => by simp (disch := omega) only [rd_N, wr_N, rd_L, wr_L, Option.bind_some, N_le, N_lt, N_eq, N_leL, L_leN, N_ltL, L_ltN, N_eqL, L_eqN, N_neg, neg_N, N_nlt0, N_0le, N_add, N_addL, L_addN, N_mul, N_mulL, L_mulN, N_sub, N_subL, m_eq, m_ne, u_eq, u_ne, if_true, if_false, ite_true, ite_false, if_pos, if_neg]) hT
    exact opR.ret hG2
  · simp only [if_neg hx, if_true]
    by_cases h0 : x < 0
    · simp only [if_pos h0, Option.bind_some, if_true, show ¬ ¬ ((0 : Int32) = 0 ∨ (0 : Int32) = 1) from by decide, if_false]
      exact opR.ret hG
    · simp only [if_neg h0, if_neg (show ¬ x ≤ Int32.ofNat L by grind), Option.bind_some, if_true, show ¬ ¬ ((0 : Int32) = 0 ∨ (0 : Int32) = 1) from by decide, if_false]
      exact opR.ret hG
theorem by255 : ∀ k, k < 4 → ∀ x : Int32, (x >>> (Int32.ofNat (8 * k) &&& 31)) &&& 255 = (ush x (Int32.ofNat (8 * k))) &&& 255 := by
  intro k hk x
  unfold ush
  apply Int32.toBitVec_inj.mp
  have h1 := sh31 (8 * k) (by omega)
  have h2 := us31 (8 * k) (by omega)
  show (x.toBitVec.sshiftRight ((Int32.ofNat (8 * k) &&& 31).toBitVec.smod 32).toNat) &&& 255#32 = (x.toBitVec >>> (((Int32.ofNat (8 * k)).toUInt32 &&& Int32.toUInt32 31).toBitVec % 32#32)) &&& 255#32
  rw [h1, BitVec.ushiftRight_eq', h2]
  apply BitVec.eq_of_getLsbD_eq
  intro i hi
  rw [BitVec.getLsbD_and, BitVec.getLsbD_and, BitVec.getLsbD_ushiftRight, BitVec.getLsbD_sshiftRight]
  by_cases h8 : i < 8
  · have h3 : 8 * k + i < 32 := by omega
    simp [h3, show ¬ 32 ≤ i by omega]
  · have h9 : (255#32).getLsbD i = false := by
      have : ∀ i, i < 32 → 8 ≤ i → (255#32).getLsbD i = false := by decide
      exact this i hi (by omega)
    rw [h9]
    simp
theorem and255 (x : Int32) : 0 ≤ x &&& 255 ∧ x &&& 255 ≤ 255 := by
  have e : (x &&& 255).toBitVec = x.toBitVec &&& 255#32 := rfl
  have h : (x.toBitVec &&& 255#32).toNat ≤ 255 := by
    rw [BitVec.toNat_and]
    exact Nat.and_le_right
  have h2 : x &&& 255 = Int32.ofNat (x.toBitVec &&& 255#32).toNat := by
    apply Int32.toBitVec_inj.mp
    rw [e]
    show _ = BitVec.ofNat 32 _
    rw [BitVec.ofNat_toNat]
    simp
  rw [h2]
  exact N_le0 (m := 255) h (by omega)
theorem r_put {x : Int32} {s t : Mem} {L : Nat} (hL : L + 4 ≤ 400) (q1 : s 173 0 = Int32.ofNat L) (q2 : t 0 9 = Int32.ofNat L) (q3 : ∀ i, i < L → s 174 i = t 5 i ∧ 0 ≤ t 5 i ∧ t 5 i ≤ 255) :
    ok2 (f_X6_put x s) (f_X12_types x t) (fun s' t' => s' 173 0 = Int32.ofNat (L + 4) ∧ t' 0 9 = Int32.ofNat (L + 4) ∧ (∀ i, i < L + 4 → s' 174 i = t' 5 i ∧ 0 ≤ t' 5 i ∧ t' 5 i ≤ 255) ∧ (∀ c, c ≠ 173 → c ≠ 174 → s' c = s c) ∧ (∀ j, j ≠ 0 → s' 173 j = s 173 j) ∧ (∀ c, c ≠ 0 → c ≠ 5 → t' c = t c) ∧ ∀ j, j ≠ 9 → t' 0 j = t 0 j) := by
  have key : ok2 (it FUEL (fun y => st_X6_put_3 x y.1 y.2) (24, s)) (it FUEL (fun y => st_X12_types_3 x y.1 y.2) (24, t)) (fun s' t' => s' 173 0 = Int32.ofNat (L + 4) ∧ t' 0 9 = Int32.ofNat (L + 4) ∧ (∀ i, i < L + 4 → s' 174 i = t' 5 i ∧ 0 ≤ t' 5 i ∧ t' 5 i ≤ 255) ∧ (∀ c, c ≠ 173 → c ≠ 174 → s' c = s c) ∧ (∀ j, j ≠ 0 → s' 173 j = s 173 j) ∧ (∀ c, c ≠ 0 → c ≠ 5 → t' c = t c) ∧ ∀ j, j ≠ 9 → t' 0 j = t 0 j) := by
    refine it_ok2 4 (by omega) (fun k y y' => k ≤ 4 ∧ y.1 = y'.1 ∧ y.1 = (if k = 4 then -8 else Int32.ofNat (8 * (3 - k))) ∧ y.2 173 0 = Int32.ofNat (L + k) ∧ y'.2 0 9 = Int32.ofNat (L + k) ∧ (∀ i, i < L + k → y.2 174 i = y'.2 5 i ∧ 0 ≤ y'.2 5 i ∧ y'.2 5 i ≤ 255) ∧ (∀ c, c ≠ 173 → c ≠ 174 → y.2 c = s c) ∧ (∀ j, j ≠ 0 → y.2 173 j = s 173 j) ∧ (∀ c, c ≠ 0 → c ≠ 5 → y'.2 c = t c) ∧ ∀ j, j ≠ 9 → y'.2 0 j = t 0 j)
      ⟨by omega, rfl, rfl, q1, q2, q3, fun _ _ _ => rfl, fun _ _ => rfl, fun _ _ _ => rfl, fun _ _ => rfl⟩ (fun k y y' q => q.1) ?_
    rintro k ⟨v, s'⟩ ⟨v', t'⟩ ⟨hk, rfl, hv, p1, p2, p3, p4, p5, p6, p7⟩
    dsimp only at hv p1 p2 p3 p4 p5 p6 p7 ⊢
    unfold st_X6_put_3 st_X12_types_3
    by_cases h4 : k = 4
    · subst h4
      rw [if_pos rfl] at hv
      subst hv
      rw [if_pos (by decide), if_pos (by decide)]
      exact ok2.some (Or.inr ⟨_, _, rfl, rfl, p1, p2, p3, p4, p5, p6, p7⟩)
    · rw [if_neg h4] at hv
      subst hv
      simp only [N_nlt0 (show 8 * (3 - k) < 2147483648 by omega), if_false]
      rw [by255 (3 - k) (by omega) x]
      have hb := and255 (ush x (Int32.ofNat (8 * (3 - k))))
      generalize ush x (Int32.ofNat (8 * (3 - k))) &&& 255 = b at *
      simp (disch := omega) only [rd_N, wr_N, rd_L, wr_L, Option.bind_some, N_le, N_lt, N_eq, N_leL, L_leN, N_ltL, L_ltN, N_eqL, L_eqN, N_neg, neg_N, N_nlt0, N_0le, N_add, N_addL, L_addN, N_mul, N_mulL, L_mulN, N_sub, N_subL, m_eq, m_ne, u_eq, u_ne, if_true, if_false, ite_true, ite_false, if_pos, if_neg, p1, p2]
      refine ok2.some (Or.inl ⟨_, _, rfl, rfl, by omega, rfl, ?_, by simp (disch := omega) only [rd_N, wr_N, rd_L, wr_L, Option.bind_some, N_le, N_lt, N_eq, N_leL, L_leN, N_ltL, L_ltN, N_eqL, L_eqN, N_neg, neg_N, N_nlt0, N_0le, N_add, N_addL, L_addN, N_mul, N_mulL, L_mulN, N_sub, N_subL, m_eq, m_ne, u_eq, u_ne, if_true, if_false, ite_true, ite_false, if_pos, if_neg]; rfl, by simp (disch := omega) only [rd_N, wr_N, rd_L, wr_L, Option.bind_some, N_le, N_lt, N_eq, N_leL, L_leN, N_ltL, L_ltN, N_eqL, L_eqN, N_neg, neg_N, N_nlt0, N_0le, N_add, N_addL, L_addN, N_mul, N_mulL, L_mulN, N_sub, N_subL, m_eq, m_ne, u_eq, u_ne, if_true, if_false, ite_true, ite_false, if_pos, if_neg]; rfl, fun i hi => ?_, fun c c1 c2 => ?_, fun j hj => ?_, fun c c1 c2 => ?_, fun j hj => ?_⟩)
      · have : k = 0 ∨ k = 1 ∨ k = 2 ∨ k = 3 := by omega
        rcases this with rfl | rfl | rfl | rfl <;> (dsimp only; decide)
      · by_cases hik : i = L + k
        · subst hik
          simp (disch := omega) only [rd_N, wr_N, rd_L, wr_L, Option.bind_some, N_le, N_lt, N_eq, N_leL, L_leN, N_ltL, L_ltN, N_eqL, L_eqN, N_neg, neg_N, N_nlt0, N_0le, N_add, N_addL, L_addN, N_mul, N_mulL, L_mulN, N_sub, N_subL, m_eq, m_ne, u_eq, u_ne, if_true, if_false, ite_true, ite_false, if_pos, if_neg]
          exact ⟨trivial, hb⟩
        · simp (disch := omega) only [rd_N, wr_N, rd_L, wr_L, Option.bind_some, N_le, N_lt, N_eq, N_leL, L_leN, N_ltL, L_ltN, N_eqL, L_eqN, N_neg, neg_N, N_nlt0, N_0le, N_add, N_addL, L_addN, N_mul, N_mulL, L_mulN, N_sub, N_subL, m_eq, m_ne, u_eq, u_ne, if_true, if_false, ite_true, ite_false, if_pos, if_neg]
          exact p3 i (by omega)
      · simp (disch := omega) only [rd_N, wr_N, rd_L, wr_L, Option.bind_some, N_le, N_lt, N_eq, N_leL, L_leN, N_ltL, L_ltN, N_eqL, L_eqN, N_neg, neg_N, N_nlt0, N_0le, N_add, N_addL, L_addN, N_mul, N_mulL, L_mulN, N_sub, N_subL, m_eq, m_ne, u_eq, u_ne, if_true, if_false, ite_true, ite_false, if_pos, if_neg]
        exact p4 c c1 c2
      · simp (disch := omega) only [rd_N, wr_N, rd_L, wr_L, Option.bind_some, N_le, N_lt, N_eq, N_leL, L_leN, N_ltL, L_ltN, N_eqL, L_eqN, N_neg, neg_N, N_nlt0, N_0le, N_add, N_addL, L_addN, N_mul, N_mulL, L_mulN, N_sub, N_subL, m_eq, m_ne, u_eq, u_ne, if_true, if_false, ite_true, ite_false, if_pos, if_neg]
        exact p5 j hj
      · simp (disch := omega) only [rd_N, wr_N, rd_L, wr_L, Option.bind_some, N_le, N_lt, N_eq, N_leL, L_leN, N_ltL, L_ltN, N_eqL, L_eqN, N_neg, neg_N, N_nlt0, N_0le, N_add, N_addL, L_addN, N_mul, N_mulL, L_mulN, N_sub, N_subL, m_eq, m_ne, u_eq, u_ne, if_true, if_false, ite_true, ite_false, if_pos, if_neg]
        exact p6 c c1 c2
      · simp (disch := omega) only [rd_N, wr_N, rd_L, wr_L, Option.bind_some, N_le, N_lt, N_eq, N_leL, L_leN, N_ltL, L_ltN, N_eqL, L_eqN, N_neg, neg_N, N_nlt0, N_0le, N_add, N_addL, L_addN, N_mul, N_mulL, L_mulN, N_sub, N_subL, m_eq, m_ne, u_eq, u_ne, if_true, if_false, ite_true, ite_false, if_pos, if_neg]
        exact p7 j hj
  unfold f_X6_put f_X12_types
  refine key.bind ?_
  intro s' t' h
  exact ok2.some h
theorem o_feed {x1 x2 x3 x4 x5 : Int32} {s t : Mem} (h : GR s t) : opR (f_X11_feed x1 x2 x3 x4 x5 s) (f_X12_feed x1 x2 x3 x4 x5 t) := by
  have h1 := GR_told (v := 0) h
  unfold f_X11_feed f_X12_feed f_X6_hasSpace
  generalize mset t 0 0 0 = t1 at *
  clear h
  have hG := h1
  obtain ⟨n, hL, hX⟩ := h1
  obtain ⟨⟨L, hL4, q1, q2, q3⟩, q4, q5⟩ := hX.2.2.2.1
  rw [q1, q2, N_addL]
  by_cases hs : L ≤ 380
  · rw [if_neg (show ¬ (400 : Int32) < Int32.ofNat (L + 20) by rw [L_ltN (by omega) (by omega)]; omega), if_pos (show Int32.ofNat L ≤ 380 by rw [N_leL (by omega) (by omega)]; exact hs)]
    dsimp only [Option.bind_some]
    rw [if_neg (by decide)]
    refine (r_put (x := x1) (by omega) q1 q2 q3).bind ?_
    intro s1 t2 ⟨a1, a2, a3, a4, a5, a6, a7⟩
    refine (r_put (x := x2) (by omega) a1 a2 a3).bind ?_
    intro s2 t3 ⟨b1, b2, b3, b4, b5, b6, b7⟩
    refine (r_put (x := x3) (by omega) b1 b2 b3).bind ?_
    intro s3 t4 ⟨c1, c2, c3, c4, c5, c6, c7⟩
    refine (r_put (x := x4) (by omega) c1 c2 c3).bind ?_
    intro s4 t5 ⟨d1, d2, d3, d4, d5, d6, d7⟩
    refine (r_put (x := x5) (by omega) d1 d2 d3).bind ?_
    intro s5 t6 ⟨e1, e2, e3, e4, e5, e6, e7⟩
    refine ok2.some ⟨e1.trans e2.symm, GR_tape hG (fun c hc => ?_) (fun j p1 p2 => ?_) (fun c p1 p2 => ?_) ⟨⟨L + 4 + 4 + 4 + 4 + 4, by omega, e1, e2, e3⟩, ?_, ?_⟩⟩
    · exact (e4 c (by omega) (by omega)).trans ((d4 c (by omega) (by omega)).trans ((c4 c (by omega) (by omega)).trans ((b4 c (by omega) (by omega)).trans (a4 c (by omega) (by omega)))))
    · exact (e7 j p2).trans ((d7 j p2).trans ((c7 j p2).trans ((b7 j p2).trans (a7 j p2))))
    · exact (e6 c p1 p2).trans ((d6 c p1 p2).trans ((c6 c p1 p2).trans ((b6 c p1 p2).trans (a6 c p1 p2))))
    · dsimp only
      rw [e4 172 (by omega) (by omega), d4 172 (by omega) (by omega), c4 172 (by omega) (by omega), b4 172 (by omega) (by omega), a4 172 (by omega) (by omega), e7 _ (by omega), d7 _ (by omega), c7 _ (by omega), b7 _ (by omega), a7 _ (by omega)]
      exact q4
    · dsimp only
      rw [e4 172 (by omega) (by omega), d4 172 (by omega) (by omega), c4 172 (by omega) (by omega), b4 172 (by omega) (by omega), a4 172 (by omega) (by omega), e7 _ (by omega), d7 _ (by omega), c7 _ (by omega), b7 _ (by omega), a7 _ (by omega)]
      exact q5
  · rw [if_pos (show (400 : Int32) < Int32.ofNat (L + 20) by rw [L_ltN (by omega) (by omega)]; omega), if_neg (show ¬ Int32.ofNat L ≤ 380 by rw [N_leL (by omega) (by omega)]; exact hs)]
    dsimp only [Option.bind_some]
    rw [if_pos rfl]
    exact opR.ret hG
theorem r_value {w n rc : Nat} {x : Int32} {s t : Mem} (hw : w < 2) (hn : n ≤ 6) (h : s rc 1 = Int32.ofNat n) (hg : gL 0 (rc + 1) = 6) (ht : t 28 w = Int32.ofNat n) (he : ∀ i, i < n → s (rc + 1) i = t 29 (6 * w + i)) :
    ∃ v, f_X9_valueAt rc x s = some (v, s) ∧ f_X12_termsAt (Int32.ofNat w) x t = some (v, t) := by
  have key : ok2 (it FUEL (fun y => st_X9_valueAt_10 rc x y.1 y.2.1 y.2.2) (0, Int32.ofNat n - 1, s)) (it FUEL (fun y => st_X12_termsAt_12 (Int32.ofNat w) x y.1 y.2.1 y.2.2) (0, Int32.ofNat n - 1, t)) (fun r r' => r.1 = r'.1 ∧ r.2 = s ∧ r'.2 = t) := by
    refine it_ok2 6 (by omega) (fun k y y' => k ≤ n ∧ y.1 = y'.1 ∧ y.2 = (Int32.ofNat (n - k) - 1, s) ∧ y'.2 = (Int32.ofNat (n - k) - 1, t)) ⟨by omega, rfl, rfl, rfl⟩ (fun k y y' q => by omega) ?_
    rintro k ⟨v, y⟩ ⟨v', y'⟩ ⟨hk, rfl, rfl, rfl⟩
    dsimp only
    unfold st_X9_valueAt_10 st_X12_termsAt_12
    by_cases hkn : k = n
    · subst hkn
      rw [show k - k = 0 by omega, if_pos (by decide), if_pos (by decide)]
      exact ok2.some (Or.inr ⟨_, _, rfl, rfl, rfl, rfl, rfl⟩)
    · rw [N_pred (by omega)]
      simp (disch := omega) only [rd_N, wr_N, rd_L, wr_L, Option.bind_some, N_le, N_lt, N_eq, N_leL, L_leN, N_ltL, L_ltN, N_eqL, L_eqN, N_neg, neg_N, N_nlt0, N_0le, N_add, N_addL, L_addN, N_mul, N_mulL, L_mulN, N_sub, N_subL, m_eq, m_ne, u_eq, u_ne, if_true, if_false, ite_true, ite_false, if_pos, if_neg, x_at h rfl hg hn (by omega), he (n - k - 1) (by omega)]
      have e : Int32.ofNat (n - k - 1) + (-1) = Int32.ofNat (n - (k + 1)) - 1 := by
        rw [show n - k - 1 = n - (k + 1) by omega]
        grind
      rw [e]
      exact ok2.some (Or.inl ⟨_, _, rfl, rfl, by omega, rfl, rfl, rfl⟩)
  obtain ⟨⟨v, s1⟩, ⟨v', t1⟩, e1, e2, q1, q2, q3⟩ := key
  dsimp only at q1 q2 q3
  subst q1 q2 q3
  refine ⟨v, ?_, ?_⟩
  · unfold f_X9_valueAt
    rw [h, e1]
    rfl
  · unfold f_X12_termsAt
    simp (disch := omega) only [rd_N, wr_N, rd_L, wr_L, Option.bind_some, N_le, N_lt, N_eq, N_leL, L_leN, N_ltL, L_ltN, N_eqL, L_eqN, N_neg, neg_N, N_nlt0, N_0le, N_add, N_addL, L_addN, N_mul, N_mulL, L_mulN, N_sub, N_subL, m_eq, m_ne, u_eq, u_ne, if_true, if_false, ite_true, ite_false, if_pos, if_neg, ht]
    rw [e2]
    rfl
theorem term_row {s t : Mem} (hr : rowsR s 32 t) {w : Nat} (hw : w < 2) : ∃ n, n ≤ 6 ∧ f_X8_termRow 32 (Int32.ofNat w) s = some (47 + 2 * w, s) ∧ s (47 + 2 * w) 1 = Int32.ofNat n ∧ gL 0 (47 + 2 * w + 1) = 6 ∧ t 28 w = Int32.ofNat n ∧ ∀ i, i < n → s (47 + 2 * w + 1) i = t 29 (6 * w + i) := by
  obtain ⟨a1, -, -, ⟨⟨n1, h1, h2, h3, h4⟩, ⟨n2, k1, k2, k3, k4⟩⟩, -⟩ := hr
  have : w = 0 ∨ w = 1 := by omega
  unfold f_X8_termRow
  rcases this with rfl | rfl
  · exact ⟨n1, h1, rfl, h2, by decide +kernel, h3, fun i hi => by rw [Nat.mul_zero, Nat.zero_add]; exact (h4 i hi).1⟩
  · exact ⟨n2, k1, rfl, k2, by decide +kernel, k3, fun i hi => (k4 i hi).1⟩
theorem o_terms {w x : Int32} {s t : Mem} (h : GR s t) : opR (f_X11_terms w x s) (f_X12_terms w x t) := by
  have h1 := GR_told (v := 0) h
  unfold f_X11_terms f_X12_terms
  generalize mset t 0 0 0 = t1 at *
  clear h
  have hG := h1
  obtain ⟨nn, hL, hX⟩ := h1
  have hr := hX.1.2.2
  clear hL hX
  simp only [m_isIn, Option.bind_some]
  by_cases hw : 0 ≤ w ∧ w ≤ 1
  · simp only [if_pos hw, show ((1 : Int32) = 0) = False from by decide, if_false, show (w < 0) = False from by simp; grind, show (1 < w) = False from by simp; grind]
    by_cases hx : -9 ≤ x ∧ x ≤ 9
    · simp only [if_pos hx, show ((1 : Int32) = 0) = False from by decide, if_false, show (x < -9) = False from by simp; grind]
      rw [if_pos (show x ≤ 9 from hx.2)]
      obtain ⟨k, ek, hk⟩ := N_of (m := 1) hw.1 hw.2 (by omega)
      subst ek
      obtain ⟨n, hn, e1, e2, e3, e4, e5⟩ := term_row hr (w := k) (by omega)
      rw [show (1 + 31 : Nat) = 32 from rfl, e1]
      dsimp only [Option.bind_some]
      obtain ⟨v, g1, g2⟩ := r_value (x := x) (by omega) hn e2 e3 e4 e5
      rw [g1, g2]
      exact opR.ret hG
    · simp only [if_neg hx, if_true]
      by_cases h0 : x < -9
      · rw [if_pos h0]; exact opR.ret hG
      · rw [if_neg h0, if_neg (show ¬ x ≤ 9 by grind)]; exact opR.ret hG
  · simp only [if_neg hw, if_true]
    by_cases h0 : w < 0
    · rw [if_pos h0]; exact opR.ret hG
    · rw [if_neg h0, if_pos (show 1 < w by grind)]; exact opR.ret hG
theorem sm19 {k : Nat} (hk : k ≤ 18) : ¬ (9 < Int32.ofNat k - 9) ∧ ¬ (10 ≤ Int32.ofNat k - 9) ∧ Int32.ofNat k - 9 + 1 = Int32.ofNat (k + 1) - 9 := by
  have h1 := N_le0 (m := 18) hk (by omega)
  have e : Int32.ofNat 18 = 18 := rfl
  have e2 : Int32.ofNat (k + 1) = Int32.ofNat k + 1 := by rw [N_addL]
  rw [e2]
  rw [e] at h1
  refine ⟨by grind, by grind, by grind⟩
theorem r_zeros {w n rc : Nat} {s t : Mem} (hw : w < 2) (hn : n ≤ 6) (h : s rc 1 = Int32.ofNat n) (hg : gL 0 (rc + 1) = 6) (ht : t 28 w = Int32.ofNat n) (he : ∀ i, i < n → s (rc + 1) i = t 29 (6 * w + i)) :
    ok2 (f_X9_zeros rc s) ((it FUEL (fun y => st_X12_product_20 (Int32.ofNat w) y.1 y.2.1 y.2.2) (0, (-9), t)).bind fun r16 => some (r16.1, r16.2)) (fun r r' => r.1 = r'.1 ∧ r.2 = s ∧ r'.2 = t) := by
  unfold f_X9_zeros
  have key : ok2 (it FUEL (fun y => st_X9_zeros_5 rc y.1 y.2.1 y.2.2) (0, (-9), s)) (it FUEL (fun y => st_X12_product_20 (Int32.ofNat w) y.1 y.2.1 y.2.2) (0, (-9), t)) (fun r r' => r.1 = r'.1 ∧ r.2 = s ∧ r'.2 = t) := by
    refine it_ok2 19 (by omega) (fun k y y' => k ≤ 19 ∧ y.1 = y'.1 ∧ y.2 = (Int32.ofNat k - 9, s) ∧ y'.2 = (Int32.ofNat k - 9, t)) ⟨by omega, rfl, rfl, rfl⟩ (fun k y y' q => by omega) ?_
    rintro k ⟨v, y⟩ ⟨v', y'⟩ ⟨hk, rfl, rfl, rfl⟩
    dsimp only
    unfold st_X9_zeros_5 st_X12_product_20
    by_cases hk9 : k = 19
    · subst hk9
      rw [if_pos (by decide), if_pos (by decide)]
      exact ok2.some (Or.inr ⟨_, _, rfl, rfl, rfl, rfl, rfl⟩)
    · obtain ⟨h9, h10, e1⟩ := sm19 (k := k) (by omega)
      rw [if_neg h9, if_neg h10, e1]
      obtain ⟨v2, g1, g2⟩ := r_value (x := Int32.ofNat k - 9) hw hn h hg ht he
      rw [g1, g2]
      dsimp only [Option.bind_some]
      by_cases hv : v2 = 0
      · rw [if_pos hv, if_pos hv]
        exact ok2.some (Or.inl ⟨_, _, rfl, rfl, by omega, rfl, rfl, rfl⟩)
      · rw [if_neg hv, if_neg hv]
        exact ok2.some (Or.inl ⟨_, _, rfl, rfl, by omega, rfl, rfl, rfl⟩)
  refine key.bind ?_
  rintro ⟨v, s1⟩ ⟨v', t1⟩ q
  exact ok2.some q
theorem o_product {x : Int32} {s t : Mem} (h : GR s t) : opR (f_X11_product x s) (f_X12_product x t) := by
  have h1 := GR_told (v := 0) h
  unfold f_X11_product f_X12_product jn_X11_product_9
  generalize mset t 0 0 0 = t1 at *
  clear h
  have hG := h1
  obtain ⟨nn, hL, hX⟩ := h1
  have hr := hX.1.2.2
  clear hL hX
  simp only [m_isIn, Option.bind_some, show (1 + 31 : Nat) = 32 from rfl]
  have half : ∀ w, w < 2 → opR ((f_X8_termRow 32 (Int32.ofNat w) s).bind fun r2 => (f_X9_zeros r2.1 r2.2).bind fun r3 => some (r3.1, r3.2)) ((it FUEL (fun y => st_X12_product_20 (Int32.ofNat w) y.1 y.2.1 y.2.2) (0, (-9), t1)).bind fun r16 => some (r16.1, r16.2)) := by
    intro w hw
    obtain ⟨n, hn, e1, e2, e3, e4, e5⟩ := term_row hr hw
    rw [e1]
    dsimp only [Option.bind_some]
    obtain ⟨⟨v, s2⟩, ⟨v', t2⟩, g1, g2, q1, q2, q3⟩ := r_zeros hw hn e2 e3 e4 e5
    dsimp only at q1 q2 q3
    subst q1 q2 q3
    rw [g1, g2]
    exact opR.ret hG
  by_cases x0 : x = 0
  · subst x0
    exact half 0 (by omega)
  by_cases x1 : x = 1
  · subst x1
    exact half 1 (by omega)
  rw [if_neg x0, if_neg x1]
  have hn01 : ¬ (0 ≤ x ∧ x ≤ 1) := by grind
  simp only [if_neg hn01, if_true]
  by_cases hx : 10 ≤ x ∧ x ≤ 20
  · simp only [if_pos hx, show (x < 10) = False from by simp; grind, if_false, show ((1 : Int32) = 0) = False from by decide]
    rw [if_pos (show x ≤ 20 from hx.2)]
    obtain ⟨p, ep, hp⟩ := N_of (m := 10) (x := x - 10) (by grind) (by
      have : Int32.ofNat 10 = 10 := rfl
      grind) (by omega)
    have ex : x = Int32.ofNat (10 + p) := by
      have : Int32.ofNat (10 + p) = 10 + Int32.ofNat p := by rw [L_addN]
      rw [this, ← ep]
      grind
    obtain ⟨n1, hn1, -, e2, e3, e4, e5⟩ := term_row hr (w := 0) (by omega)
    obtain ⟨n2, hn2, -, k2, k3, k4, k5⟩ := term_row hr (w := 1) (by omega)
    simp only [show (47 + 2 * 0 : Nat) = 47 from rfl, show (47 + 2 * 1 : Nat) = 49 from rfl, show (47 + 2 * 0 + 1 : Nat) = 48 from rfl, show (47 + 2 * 1 + 1 : Nat) = 50 from rfl, Nat.mul_zero, Nat.zero_add, Nat.mul_one] at e2 e3 e4 e5 k2 k3 k4 k5
    unfold f_X9_productTerm
    rw [ep]
    have key : ok2 (it FUEL (fun y => st_X9_productTerm_6 (32 + 15) (32 + 17) (Int32.ofNat p) y.1 y.2.1 y.2.2) (0, 0, s)) (it FUEL (fun y => st_X12_product_65 x y.1 y.2.1 y.2.2) (0, 0, t1)) (fun r r' => r.1 = r'.1 ∧ r.2 = s ∧ r'.2 = t1) := by
      refine it_ok2 6 (by omega) (fun k y y' => k ≤ n1 ∧ y.1 = y'.1 ∧ y.2 = (Int32.ofNat k, s) ∧ y'.2 = (Int32.ofNat k, t1)) ⟨by omega, rfl, rfl, rfl⟩ (fun k y y' q => by omega) ?_
      rintro k ⟨v, y⟩ ⟨v', y'⟩ ⟨hk, rfl, rfl, rfl⟩
      dsimp only
      unfold st_X9_productTerm_6 st_X12_product_65
      rw [show x - 10 - Int32.ofNat k = Int32.ofNat p - Int32.ofNat k by rw [← ep]]
      simp (disch := omega) only [rd_N, wr_N, rd_L, wr_L, Option.bind_some, N_le, N_lt, N_eq, N_leL, L_leN, N_ltL, L_ltN, N_eqL, L_eqN, N_neg, neg_N, N_nlt0, N_0le, N_add, N_addL, L_addN, N_mul, N_mulL, L_mulN, N_sub, N_subL, m_eq, m_ne, u_eq, u_ne, if_true, if_false, ite_true, ite_false, if_pos, if_neg, e2, e4, k4, show (32 + 15 : Nat) = 47 from rfl, show (32 + 17 : Nat) = 49 from rfl]
      by_cases hkn : k = n1
      · subst hkn
        simp (disch := omega) only [rd_N, wr_N, rd_L, wr_L, Option.bind_some, N_le, N_lt, N_eq, N_leL, L_leN, N_ltL, L_ltN, N_eqL, L_eqN, N_neg, neg_N, N_nlt0, N_0le, N_add, N_addL, L_addN, N_mul, N_mulL, L_mulN, N_sub, N_subL, m_eq, m_ne, u_eq, u_ne, if_true, if_false, ite_true, ite_false, if_pos, if_neg]
        exact ok2.some (Or.inr ⟨_, _, rfl, rfl, rfl, rfl, rfl⟩)
      · simp (disch := omega) only [rd_N, wr_N, rd_L, wr_L, Option.bind_some, N_le, N_lt, N_eq, N_leL, L_leN, N_ltL, L_ltN, N_eqL, L_eqN, N_neg, neg_N, N_nlt0, N_0le, N_add, N_addL, L_addN, N_mul, N_mulL, L_mulN, N_sub, N_subL, m_eq, m_ne, u_eq, u_ne, if_true, if_false, ite_true, ite_false, if_pos, if_neg]
        by_cases hkp : k ≤ p
        · have ed : Int32.ofNat p - Int32.ofNat k = Int32.ofNat (p - k) := N_sub hkp
          rw [ed]
          simp (disch := omega) only [rd_N, wr_N, rd_L, wr_L, Option.bind_some, N_le, N_lt, N_eq, N_leL, L_leN, N_ltL, L_ltN, N_eqL, L_eqN, N_neg, neg_N, N_nlt0, N_0le, N_add, N_addL, L_addN, N_mul, N_mulL, L_mulN, N_sub, N_subL, m_eq, m_ne, u_eq, u_ne, if_true, if_false, ite_true, ite_false, if_pos, if_neg, k2]
          by_cases hpk : p - k < n2
          · have hc : 0 ≤ Int32.ofNat (p - k) ∧ Int32.ofNat (p - k) ≤ Int32.ofNat n2 - 1 := by
              rw [N_pred (by omega)]
              exact N_le0 (by omega) (by omega)
            rw [m_isIn, if_pos hc]
            dsimp only [Option.bind_some]
            rw [if_neg (show ¬ ((1 : Int32) = 0) by decide)]
            have ei : 6 + x - 10 - Int32.ofNat k = Int32.ofNat (6 + (p - k)) := by
              rw [← L_addN, ← ed, ← ep]
              grind
            rw [ei]
            simp (disch := omega) only [rd_N, wr_N, rd_L, wr_L, Option.bind_some, N_le, N_lt, N_eq, N_leL, L_leN, N_ltL, L_ltN, N_eqL, L_eqN, N_neg, neg_N, N_nlt0, N_0le, N_add, N_addL, L_addN, N_mul, N_mulL, L_mulN, N_sub, N_subL, m_eq, m_ne, u_eq, u_ne, if_true, if_false, ite_true, ite_false, if_pos, if_neg, x_at e2 rfl e3 hn1 (by omega), x_at k2 rfl k3 hn2 (by omega), e5 k (by omega), k5 (p - k) hpk]
            exact ok2.some (Or.inl ⟨_, _, rfl, rfl, by omega, rfl, rfl, rfl⟩)
          · have hc : ¬ (0 ≤ Int32.ofNat (p - k) ∧ Int32.ofNat (p - k) ≤ Int32.ofNat n2 - 1) := by
              have h1 := N_le0 (k := n2) (m := 6) hn2 (by omega)
              have h2 : Int32.ofNat n2 ≤ Int32.ofNat (p - k) := by rw [N_le (by omega) (by omega)]; omega
              have e : Int32.ofNat 6 = 6 := rfl
              grind
            rw [m_isIn, if_neg hc]
            dsimp only [Option.bind_some]
            rw [if_pos (rfl : (0 : Int32) = 0)]
            simp (disch := omega) only [rd_N, wr_N, rd_L, wr_L, Option.bind_some, N_le, N_lt, N_eq, N_leL, L_leN, N_ltL, L_ltN, N_eqL, L_eqN, N_neg, neg_N, N_nlt0, N_0le, N_add, N_addL, L_addN, N_mul, N_mulL, L_mulN, N_sub, N_subL, m_eq, m_ne, u_eq, u_ne, if_true, if_false, ite_true, ite_false, if_pos, if_neg]
            exact ok2.some (Or.inl ⟨_, _, rfl, rfl, by omega, rfl, rfl, rfl⟩)
        · have hneg : Int32.ofNat p - Int32.ofNat k < 0 := by
            have h1 := N_le0 (k := p) (m := 10) hp (by omega)
            have h2 := N_le0 (k := k) (m := 6) (by omega) (by omega)
            have h3 : Int32.ofNat p < Int32.ofNat k := by rw [N_lt (by omega) (by omega)]; omega
            have e : Int32.ofNat 6 = 6 := rfl
            have e' : Int32.ofNat 10 = 10 := rfl
            grind
          have hc : ¬ (0 ≤ Int32.ofNat p - Int32.ofNat k ∧ Int32.ofNat p - Int32.ofNat k ≤ Int32.ofNat n2 - 1) := by grind
          rw [if_pos hneg, m_isIn, if_neg hc]
          dsimp only [Option.bind_some]
          rw [if_pos (rfl : (0 : Int32) = 0)]
          exact ok2.some (Or.inl ⟨_, _, rfl, rfl, by omega, rfl, rfl, rfl⟩)
    obtain ⟨⟨v, s2⟩, ⟨v', t2⟩, g1, g2, q1, q2, q3⟩ := key
    dsimp only at q1 q2 q3
    subst q1 q2 q3
    rw [g1, g2]
    exact opR.ret hG
  · simp only [if_neg hx, if_true]
    by_cases h0 : x < 10
    · rw [if_pos h0]; exact opR.ret hG
    · rw [if_neg h0, if_neg (show ¬ x ≤ 20 by grind)]; exact opR.ret hG
