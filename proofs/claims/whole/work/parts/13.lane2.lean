/-! ===== small methods of a lane ===== -/
theorem N_of {x : Int32} {m : Nat} (h0 : 0 ≤ x) (h1 : x ≤ Int32.ofNat m) (hm : m < 2147483648) : ∃ k, x = Int32.ofNat k ∧ k ≤ m := by
  rw [Int32.le_iff_toInt_le] at h0 h1
  rw [N_toInt hm] at h1
  obtain ⟨k, e, hk⟩ := I2N (m := m + 1) h0 (by omega)
  exact ⟨k, e, by omega⟩
theorem N_le0 {k m : Nat} (h : k ≤ m) (hm : m < 2147483648) : 0 ≤ Int32.ofNat k ∧ Int32.ofNat k ≤ Int32.ofNat m := by
  constructor
  · rw [N_0le (by omega)]; trivial
  · rw [N_le (by omega) hm]; exact h
def cl (x : Int32) : Int32 := jmmax 0 (jmmin 99 x)
theorem cl_b (x : Int32) : 0 ≤ cl x ∧ cl x ≤ 99 := by unfold cl jmmax jmmin; grind
theorem cl_id {x : Int32} (h : 0 ≤ x) (h' : x ≤ 99) : cl x = x := by unfold cl jmmax jmmin; grind
theorem cl_hi {x : Int32} (h : 0 ≤ x) : cl x = if x ≤ 99 then x else 99 := by unfold cl jmmax jmmin; grind
def hX (a p : Nat) (v : Int32) (s : Mem) : Mem := if v = 0 then mset (mset (mset s (a + 2) p v) (a + 3) p (-1)) (a + 4) p 0 else mset s (a + 2) p v
def hM (p : Nat) (v : Int32) (t : Mem) : Mem := if v = 0 then mset (mset (mset t 1 (18 + p) v) 1 (32 + p) 0) 1 (46 + p) 0 else mset t 1 (18 + p) v
theorem x_hiccup {s : Mem} {a p : Nat} {x : Int32} (hp : p < 14) : f_X0_hiccup a (Int32.ofNat p) x s = some (hX a p (cl x) s) := by
  unfold f_X0_hiccup hX
  simp (disch := omega) only [rd_N, wr_N, rd_L, wr_L, Option.bind_some, N_le, N_lt, N_eq, N_leL, L_leN, N_ltL, L_ltN, N_eqL, L_eqN, N_neg, neg_N, N_nlt0, N_0le, N_add, N_addL, L_addN, N_mul, N_mulL, L_mulN, N_sub, N_subL, m_eq, m_ne, u_eq, u_ne, if_true, if_false, ite_true, ite_false, if_pos, if_neg]
  unfold cl
  split <;> rfl
theorem m_hasThen {t : Mem} {p : Nat} {x : Int32} (hp : p < 14) (hx : 0 ≤ x) : f_X12_hasThen (Int32.ofNat p) x t = some (hM p x t) := by
  unfold f_X12_hasThen hM
  simp (disch := omega) only [rd_N, wr_N, rd_L, wr_L, Option.bind_some, N_le, N_lt, N_eq, N_leL, L_leN, N_ltL, L_ltN, N_eqL, L_eqN, N_neg, neg_N, N_nlt0, N_0le, N_add, N_addL, L_addN, N_mul, N_mulL, L_mulN, N_sub, N_subL, m_eq, m_ne, u_eq, u_ne, if_true, if_false, ite_true, ite_false, if_pos, if_neg]
  have e : (x ≤ 0) = (x = 0) := by grind
  simp only [e]
  split <;> rfl
theorem nS_h {n a : Nat} {s t : Mem} {p : Nat} {v : Int32} (h : nS n a s t) (hp : p < n) (hv : 0 ≤ v ∧ v ≤ 99) : nS n a (hX a p v s) (hM p v t) := by
  unfold hX hM
  have hn := h.1.2.1
  split
  · refine nS_tried (nS_by (v := 0) (nS_hic h hp hv) hp ⟨by decide, ?_⟩) hp (by decide)
    exact (N_le0 (k := 0) (by omega) (by omega)).2
  · exact nS_hic h hp hv
theorem hX_f {a p : Nat} {v : Int32} {s : Mem} : nXF a s (hX a p v s) := by
  unfold hX
  split
  · exact (nXF.put (f := 1) (by omega)).trans ((nXF.put (f := 2) (by omega)).trans (nXF.put (f := 3) (by omega)))
  · exact nXF.put (f := 1) (by omega)
theorem hM_f {p : Nat} {v : Int32} {t : Mem} : nTF t (hM p v t) := by
  unfold hM
  split
  · exact nTF.put.trans (nTF.put.trans nTF.put)
  · exact nTF.put
theorem hM_C {n p : Nat} {v : Int32} {t : Mem} (hn : n ≤ 14) (hp : p < n) (h : nC n (t 1)) : nC n (hM p v t 1) := by
  intro i hi
  have := h i hi
  unfold hM
  split
  · next hv =>
    by_cases hip : i = p
    · subst hip
      simp (disch := omega) only [rd_N, wr_N, rd_L, wr_L, Option.bind_some, N_le, N_lt, N_eq, N_leL, L_leN, N_ltL, L_ltN, N_eqL, L_eqN, N_neg, neg_N, N_nlt0, N_0le, N_add, N_addL, L_addN, N_mul, N_mulL, L_mulN, N_sub, N_subL, m_eq, m_ne, u_eq, u_ne, if_true, if_false, ite_true, ite_false, if_pos, if_neg]
      exact fun _ => ⟨trivial, trivial⟩
    · simp (disch := omega) only [rd_N, wr_N, rd_L, wr_L, Option.bind_some, N_le, N_lt, N_eq, N_leL, L_leN, N_ltL, L_ltN, N_eqL, L_eqN, N_neg, neg_N, N_nlt0, N_0le, N_add, N_addL, L_addN, N_mul, N_mulL, L_mulN, N_sub, N_subL, m_eq, m_ne, u_eq, u_ne, if_true, if_false, ite_true, ite_false, if_pos, if_neg]
      exact this
  · next hv =>
    by_cases hip : i = p
    · subst hip
      simp (disch := omega) only [rd_N, wr_N, rd_L, wr_L, Option.bind_some, N_le, N_lt, N_eq, N_leL, L_leN, N_ltL, L_ltN, N_eqL, L_eqN, N_neg, neg_N, N_nlt0, N_0le, N_add, N_addL, L_addN, N_mul, N_mulL, L_mulN, N_sub, N_subL, m_eq, m_ne, u_eq, u_ne, if_true, if_false, ite_true, ite_false, if_pos, if_neg]
      exact fun q => absurd q hv
    · simp (disch := omega) only [rd_N, wr_N, rd_L, wr_L, Option.bind_some, N_le, N_lt, N_eq, N_leL, L_leN, N_ltL, L_ltN, N_eqL, L_eqN, N_neg, neg_N, N_nlt0, N_0le, N_add, N_addL, L_addN, N_mul, N_mulL, L_mulN, N_sub, N_subL, m_eq, m_ne, u_eq, u_ne, if_true, if_false, ite_true, ite_false, if_pos, if_neg]
      exact this
theorem x_blame {s : Mem} {a p : Nat} {x : Int32} (hp : p < 14) : f_X0_blame a (Int32.ofNat p) x s = some (mset (mset s (a + 3) p x) (a + 4) p 0) := by
  unfold f_X0_blame
  simp (disch := omega) only [rd_N, wr_N, rd_L, wr_L, Option.bind_some, N_le, N_lt, N_eq, N_leL, L_leN, N_ltL, L_ltN, N_eqL, L_eqN, N_neg, neg_N, N_nlt0, N_0le, N_add, N_addL, L_addN, N_mul, N_mulL, L_mulN, N_sub, N_subL, m_eq, m_ne, u_eq, u_ne, if_true, if_false, ite_true, ite_false, if_pos, if_neg]
theorem x_has {s : Mem} {a n : Nat} {x : Int32} (h : s a 1 = Int32.ofNat n) : f_X0_has a x s = some (if 0 ≤ x ∧ x < Int32.ofNat n then 1 else 0, s) := by
  unfold f_X0_has
  rw [h]
  by_cases h1 : x < 0
  · rw [if_pos h1, if_neg (by grind)]
  · rw [if_neg h1]
    by_cases h2 : Int32.ofNat n ≤ x
    · rw [if_pos h2, if_neg (by grind)]
    · rw [if_neg h2, if_pos (by grind)]
theorem m_isPerson {t : Mem} {n : Nat} {x : Int32} (h : t 0 6 = Int32.ofNat n) : f_X12_isPerson x t = some (if 0 ≤ x ∧ x < Int32.ofNat n then 1 else 0, t) := by
  unfold f_X12_isPerson
  rw [h]
  by_cases h1 : x < 0
  · rw [if_pos h1, if_neg (by grind)]
  · rw [if_neg h1]
    by_cases h2 : Int32.ofNat n ≤ x
    · rw [if_pos h2, if_neg (by grind)]
    · rw [if_neg h2, if_pos (by grind)]
theorem m_isIn {t : Mem} {x y z : Int32} : f_X12_isIn x y z t = some (if y ≤ x ∧ x ≤ z then 1 else 0, t) := by
  unfold f_X12_isIn
  by_cases h1 : x < y
  · rw [if_pos h1, if_neg (by grind)]
  · rw [if_neg h1]
    by_cases h2 : z < x
    · rw [if_pos h2, if_neg (by grind)]
    · rw [if_neg h2, if_pos (by grind)]
theorem m_hasAny {t : Mem} {p : Nat} (hp : p < 14) : f_X12_hasAny (Int32.ofNat p) t = some (if t 1 (18 + p) ≤ 0 then 0 else 1, t) := by
  unfold f_X12_hasAny
  simp (disch := omega) only [rd_N, wr_N, rd_L, wr_L, Option.bind_some, N_le, N_lt, N_eq, N_leL, L_leN, N_ltL, L_ltN, N_eqL, L_eqN, N_neg, neg_N, N_nlt0, N_0le, N_add, N_addL, L_addN, N_mul, N_mulL, L_mulN, N_sub, N_subL, m_eq, m_ne, u_eq, u_ne, if_true, if_false, ite_true, ite_false, if_pos, if_neg]
  split <;> rfl
theorem m_byOf {t : Mem} {p : Nat} (hp : p < 14) : f_X12_byOf (Int32.ofNat p) t = some (t 1 (32 + p) - 1, t) := by
  unfold f_X12_byOf
  simp (disch := omega) only [rd_N, wr_N, rd_L, wr_L, Option.bind_some, N_le, N_lt, N_eq, N_leL, L_leN, N_ltL, L_ltN, N_eqL, L_eqN, N_neg, neg_N, N_nlt0, N_0le, N_add, N_addL, L_addN, N_mul, N_mulL, L_mulN, N_sub, N_subL, m_eq, m_ne, u_eq, u_ne, if_true, if_false, ite_true, ite_false, if_pos, if_neg]
theorem m_lesser {t : Mem} {x y : Int32} : f_X12_lesser x y t = some (jmmin x y, t) := by
  unfold f_X12_lesser jmmin
  by_cases h : y ≤ x
  · rw [if_pos h]
    congr 2
    split <;> grind
  · rw [if_neg h, if_neg (by grind)]
theorem m_greater {t : Mem} {x y : Int32} : f_X12_greater x y t = some (jmmax x y, t) := by
  unfold f_X12_greater jmmax
  by_cases h : x ≤ y
  · rw [if_pos h]
    congr 2
    split <;> grind
  · rw [if_neg h, if_neg (by grind)]
theorem r_write {n a : Nat} {s t : Mem} {x y z : Int32} (h : nS n a s t) : ok2 (f_X10_write 1 a x y z s) (f_X12_notes x y z t) (fun s' t' => nS n a s' t' ∧ nXF a s s' ∧ nTF t t' ∧ ∀ j, j ≠ 2 → t' 1 j = t 1 j) := by
  have hh := h
  obtain ⟨⟨ha, hn, h1, h2, h3⟩, ⟨⟨g1, g2, g3, g4, g5⟩, h5⟩, ⟨⟨b1, b2, b3, b4⟩, h7⟩, h8⟩ := h
  obtain ⟨k, ek, hk⟩ := N_of (m := 150) b1 b2 (by omega)
  unfold f_X10_write f_X12_notes
  rw [h2, g5, ek]
  by_cases hf : t 0 5 = 0
  · rw [if_pos hf, if_pos hf]
    by_cases hk1 : k = 150
    · subst hk1
      simp (disch := omega) only [rd_N, wr_N, rd_L, wr_L, Option.bind_some, N_le, N_lt, N_eq, N_leL, L_leN, N_ltL, L_ltN, N_eqL, L_eqN, N_neg, neg_N, N_nlt0, N_0le, N_add, N_addL, L_addN, N_mul, N_mulL, L_mulN, N_sub, N_subL, m_eq, m_ne, u_eq, u_ne, if_true, if_false, ite_true, ite_false, if_pos, if_neg, ek]
      exact ok2.some ⟨hh, nXF.refl, nTF.refl, fun _ _ => rfl⟩
    · simp (disch := omega) only [rd_N, wr_N, rd_L, wr_L, Option.bind_some, N_le, N_lt, N_eq, N_leL, L_leN, N_ltL, L_ltN, N_eqL, L_eqN, N_neg, neg_N, N_nlt0, N_0le, N_add, N_addL, L_addN, N_mul, N_mulL, L_mulN, N_sub, N_subL, m_eq, m_ne, u_eq, u_ne, if_true, if_false, ite_true, ite_false, if_pos, if_neg, ek, g3]
      refine ok2.some ⟨?_, ?_, ?_, fun j hj => ?_⟩
      · rw [g5, ek]
        rw [show k * 4 = 4 * k by omega, show Int32.ofNat k + 1 = Int32.ofNat (k + 1) by rw [N_addL]]
        refine nS_lines (nS_book (nS_book (nS_book (nS_book hh)))) ?_
        exact N_le0 (m := 150) (by omega) (by omega)
      · exact (nXF.bk ha).trans ((nXF.bk ha).trans ((nXF.bk ha).trans ((nXF.bk ha).trans (nXF.fld (by omega)))))
      · exact (nTF.bk hf).trans ((nTF.bk (by rw [m_ne (by omega)]; exact hf)).trans ((nTF.bk (by rw [m_ne (by omega), m_ne (by omega)]; exact hf)).trans ((nTF.bk (by rw [m_ne (by omega), m_ne (by omega), m_ne (by omega)]; exact hf)).trans nTF.put)))
      · simp (disch := omega) only [rd_N, wr_N, rd_L, wr_L, Option.bind_some, N_le, N_lt, N_eq, N_leL, L_leN, N_ltL, L_ltN, N_eqL, L_eqN, N_neg, neg_N, N_nlt0, N_0le, N_add, N_addL, L_addN, N_mul, N_mulL, L_mulN, N_sub, N_subL, m_eq, m_ne, u_eq, u_ne, if_true, if_false, ite_true, ite_false, if_pos, if_neg]
  · rw [if_neg hf, if_neg hf]
    exact ok2.some ⟨hh, nXF.refl, nTF.refl, fun _ _ => rfl⟩
theorem r_draw {n a : Nat} {s t : Mem} (h : nS n a s t) : ok2 (f_X0_draw a 1000 s) (f_X12_draw 1000 t) (fun r r' => r.1 = r'.1 ∧ nS n a r.2 r'.2 ∧ nXF a s r.2 ∧ nTF t r'.2 ∧ ∀ j, j ≠ 1 → r'.2 1 j = t 1 j) := by
  have hh := h
  obtain ⟨⟨ha, hn, h1, h2, h3⟩, ⟨⟨g1, g2, g3, g4, g5⟩, h5⟩, ⟨⟨b1, b2, b3, b4⟩, h7⟩, h8⟩ := h
  unfold f_X0_draw f_X12_draw
  rw [if_neg (by decide), if_neg (by decide)]
  simp (disch := omega) only [rd_N, wr_N, rd_L, wr_L, Option.bind_some, N_le, N_lt, N_eq, N_leL, L_leN, N_ltL, L_ltN, N_eqL, L_eqN, N_neg, neg_N, N_nlt0, N_0le, N_add, N_addL, L_addN, N_mul, N_mulL, L_mulN, N_sub, N_subL, m_eq, m_ne, u_eq, u_ne, if_true, if_false, ite_true, ite_false, if_pos, if_neg, g4]
  rw [if_neg (by decide), Int32.mul_comm]
  refine ok2.some ⟨rfl, nS_draws hh trivial, nXF.fld (by omega), nTF.put, fun j hj => ?_⟩
  simp (disch := omega) only [rd_N, wr_N, rd_L, wr_L, Option.bind_some, N_le, N_lt, N_eq, N_leL, L_leN, N_ltL, L_ltN, N_eqL, L_eqN, N_neg, neg_N, N_nlt0, N_0le, N_add, N_addL, L_addN, N_mul, N_mulL, L_mulN, N_sub, N_subL, m_eq, m_ne, u_eq, u_ne, if_true, if_false, ite_true, ite_false, if_pos, if_neg]
theorem r_havers {n a : Nat} {s t : Mem} (h : nS n a s t) : ∃ v, f_X0_havers a s = some (v, s) ∧ f_X12_whoHas t = some (v, t) := by
  obtain ⟨⟨ha, hn, h1, h2, h3⟩, ⟨⟨g1, g2, g3, g4, g5⟩, h5⟩, hb, h8⟩ := h
  have key : ok2 (it FUEL (fun y => st_X0_havers_4 a y.1 y.2.1 y.2.2) (0, 0, s)) (it FUEL (fun y => st_X12_whoHas_4 y.1 y.2.1 y.2.2) (0, 0, t)) (fun r r' => r.1 = r'.1 ∧ r.2 = s ∧ r'.2 = t) := by
    refine it_ok2 14 (by omega) (fun k y y' => k ≤ n ∧ y.1 = y'.1 ∧ y.2 = (Int32.ofNat k, s) ∧ y'.2 = (Int32.ofNat k, t)) ⟨by omega, rfl, rfl, rfl⟩ (fun k y y' q => by omega) ?_
    rintro k ⟨v, y⟩ ⟨v', y'⟩ ⟨hk, rfl, rfl, rfl⟩
    unfold st_X0_havers_4 st_X12_whoHas_4
    dsimp only
    simp only [g1, h1]
    by_cases hkn : k = n
    · subst hkn
      simp (disch := omega) only [rd_N, wr_N, rd_L, wr_L, Option.bind_some, N_le, N_lt, N_eq, N_leL, L_leN, N_ltL, L_ltN, N_eqL, L_eqN, N_neg, neg_N, N_nlt0, N_0le, N_add, N_addL, L_addN, N_mul, N_mulL, L_mulN, N_sub, N_subL, m_eq, m_ne, u_eq, u_ne, if_true, if_false, ite_true, ite_false, if_pos, if_neg]
      exact ok2.some (Or.inr ⟨_, _, rfl, rfl, rfl, rfl, rfl⟩)
    · simp (disch := omega) only [rd_N, wr_N, rd_L, wr_L, Option.bind_some, N_le, N_lt, N_eq, N_leL, L_leN, N_ltL, L_ltN, N_eqL, L_eqN, N_neg, neg_N, N_nlt0, N_0le, N_add, N_addL, L_addN, N_mul, N_mulL, L_mulN, N_sub, N_subL, m_eq, m_ne, u_eq, u_ne, if_true, if_false, ite_true, ite_false, if_pos, if_neg, m_hasAny, (h5 k (by omega)).2.1]
      by_cases hc : t 1 (18 + k) ≤ 0
      · simp only [if_pos hc]
        exact ok2.some (Or.inl ⟨_, _, rfl, rfl, by omega, rfl, rfl, rfl⟩)
      · simp only [if_neg hc]
        rw [if_neg (by decide)]
        exact ok2.some (Or.inl ⟨_, _, rfl, rfl, by omega, rfl, rfl, rfl⟩)
  obtain ⟨⟨v, s1⟩, ⟨v', t1⟩, e1, e2, q1, q2, q3⟩ := key
  dsimp only at q1 q2 q3
  subst q1 q2 q3
  refine ⟨v, ?_, ?_⟩
  · unfold f_X0_havers
    rw [e1]
    rfl
  · unfold f_X12_whoHas
    rw [e2]
    rfl
