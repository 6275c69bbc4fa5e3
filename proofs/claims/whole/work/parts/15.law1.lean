/-! ===== what THE LAW tells: facts, counting out ===== -/
theorem N_ushL {a k : Nat} (ha : a < 4294967296) (hk : (OfNat.ofNat k : Nat) < 32) : ush (Int32.ofNat a) (no_index (OfNat.ofNat k)) = Int32.ofNat (a >>> (OfNat.ofNat k : Nat)) := N_ush ha hk
theorem x_bitCount {v : Nat} {s : Mem} (hv : v < 16384) : f_J6_bitCount_0f7a4 (Int32.ofNat v) s = some (Int32.ofNat (popN 15 v), s) := by
  have h := allN_of bc_all v hv
  unfold bcok at h
  simp only [Bool.and_eq_true, decide_eq_true_eq, beq_iff_eq] at h
  obtain ⟨⟨⟨⟨⟨⟨h1, h2⟩, h3⟩, h4⟩, h5⟩, h6⟩, h7⟩ := h
  unfold f_J6_bitCount_0f7a4
  have e1 : Int32.ofNat v - (ush (Int32.ofNat v) 1 &&& (1431655765 : Int32)) = Int32.ofNat (v - ((v >>> 1) &&& 1431655765)) := by
    rw [N_ushL (by omega) (by omega), N_andL, N_sub h1]
  rw [e1]
  generalize hA : v - ((v >>> 1) &&& 1431655765) = A at *
  have e2 : (Int32.ofNat A &&& (858993459 : Int32)) + (ush (Int32.ofNat A) 2 &&& (858993459 : Int32)) = Int32.ofNat ((A &&& 858993459) + ((A >>> 2) &&& 858993459)) := by
    rw [N_ushL (by omega) (by omega), N_andL, N_andL, N_add]
  rw [e2]
  generalize hB : (A &&& 858993459) + ((A >>> 2) &&& 858993459) = B at *
  have hB4 : B >>> 4 ≤ B := by rw [Nat.shiftRight_eq_div_pow]; exact Nat.div_le_self _ _
  have e3 : (Int32.ofNat B + ush (Int32.ofNat B) 4) &&& (252645135 : Int32) = Int32.ofNat ((B + (B >>> 4)) &&& 252645135) := by
    rw [N_ushL (by omega) (by omega), N_add, N_andL]
  rw [e3]
  generalize hC : (B + (B >>> 4)) &&& 252645135 = C at *
  have e4 : Int32.ofNat C + ush (Int32.ofNat C) 8 = Int32.ofNat (C + (C >>> 8)) := by
    rw [N_ushL (by omega) (by omega), N_add]
  rw [e4]
  generalize hD : C + (C >>> 8) = E at *
  have e5 : (Int32.ofNat E + ush (Int32.ofNat E) 16) &&& (63 : Int32) = Int32.ofNat ((E + (E >>> 16)) &&& 63) := by
    rw [N_ushL (by omega) (by omega), N_add, N_andL]
  rw [e5, h6]
  unfold bcN
  dsimp only
  rw [hA, hB, hC, hD]
theorem m_onesOf {v : Nat} {t : Mem} (hv : v < 16384) : f_X12_onesOf (Int32.ofNat v) t = some (Int32.ofNat (popN 15 v), t) := by
  have h := allN_of bc_all v hv
  unfold bcok at h
  simp only [Bool.and_eq_true, decide_eq_true_eq, beq_iff_eq] at h
  have h7 := h.2
  have key : ok (it FUEL (fun y => st_X12_onesOf_4 y.1 y.2.1 y.2.2) (0, Int32.ofNat v, t)) (fun r => r = (Int32.ofNat (popN 15 v), t)) := by
    refine it_ok1 14 (by omega) (fun k y => ∃ u, y = (Int32.ofNat k, Int32.ofNat u, t) ∧ popN (15 - k) u + k = popN 15 v ∧ u ≤ v ∧ k ≤ 14) ⟨v, rfl, rfl, by omega, by omega⟩ (fun k y q => by obtain ⟨_, _, _, _, q⟩ := q; exact q) ?_
    rintro k y ⟨u, rfl, h1, h2, h3⟩
    unfold st_X12_onesOf_4
    dsimp only
    by_cases hu : u = 0
    · subst hu
      refine Or.inr ⟨_, ?_, rfl⟩
      have e : popN (15 - k) 0 = 0 := by
        rw [show 15 - k = (14 - k) + 1 by omega]
        rfl
      simp (disch := omega) only [rd_N, wr_N, rd_L, wr_L, Option.bind_some, N_le, N_lt, N_eq, N_leL, L_leN, N_ltL, L_ltN, N_eqL, L_eqN, N_neg, neg_N, N_nlt0, N_0le, N_add, N_addL, L_addN, N_mul, N_mulL, L_mulN, N_sub, N_subL, m_eq, m_ne, u_eq, u_ne, if_true, if_false, ite_true, ite_false, if_pos, if_neg]
      rw [← h1, e, Nat.zero_add]
    · refine Or.inl ⟨_, by simp (disch := omega) only [rd_N, wr_N, rd_L, wr_L, Option.bind_some, N_le, N_lt, N_eq, N_leL, L_leN, N_ltL, L_ltN, N_eqL, L_eqN, N_neg, neg_N, N_nlt0, N_0le, N_add, N_addL, L_addN, N_mul, N_mulL, L_mulN, N_sub, N_subL, m_eq, m_ne, u_eq, u_ne, if_true, if_false, ite_true, ite_false, if_pos, if_neg]; rfl, u &&& (u - 1), ?_, ?_, ?_, ?_⟩
      · simp (disch := omega) only [rd_N, wr_N, rd_L, wr_L, Option.bind_some, N_le, N_lt, N_eq, N_leL, L_leN, N_ltL, L_ltN, N_eqL, L_eqN, N_neg, neg_N, N_nlt0, N_0le, N_add, N_addL, L_addN, N_mul, N_mulL, L_mulN, N_sub, N_subL, m_eq, m_ne, u_eq, u_ne, if_true, if_false, ite_true, ite_false, if_pos, if_neg, N_and]
      · have e : popN (15 - k) u = popN (15 - (k + 1)) (u &&& (u - 1)) + 1 := by
          rw [show 15 - k = (15 - (k + 1)) + 1 by omega]
          show (if u = 0 then 0 else _) = _
          rw [if_neg hu]
        omega
      · have := Nat.and_le_left (n := u) (m := u - 1)
        omega
      · have e : popN (15 - k) u = popN (15 - (k + 1)) (u &&& (u - 1)) + 1 := by
          rw [show 15 - k = (15 - (k + 1)) + 1 by omega]
          show (if u = 0 then 0 else _) = _
          rw [if_neg hu]
        omega
  obtain ⟨r, e, rfl⟩ := key
  unfold f_X12_onesOf
  rw [e]
  rfl
def fct (w : Nat → Int32) (p j : Nat) : Int32 :=
  if j = 0 then w (4 + p) else if j = 1 then w (18 + p) else if j = 2 then Int32.ofNat (popN 15 (w (46 + p)).toNatClampNeg) else if j = 3 then w (60 + p) else if j = 4 then w (74 + p)
  else if j = 5 then w (88 + p) else if j = 6 then (if w (32 + p) - 1 = -1 then 0 else jabs (w (32 + p) - 1 - Int32.ofNat p)) else w 0
theorem tried_N {n a p : Nat} {s t : Mem} (h : nS n a s t) (hp : p < n) : ∃ u, t 1 (46 + p) = Int32.ofNat u ∧ u < 16384 := by
  obtain ⟨h1, h2⟩ := (h.2.2.1.2 p hp).2.2.2
  have h3 : t 1 (46 + p) ≤ Int32.ofNat 16383 := by
    have : (Int32.ofNat 16383) = 16383 := rfl
    grind
  obtain ⟨k, e, hk⟩ := N_of h1 h3 (by omega)
  exact ⟨k, e, by omega⟩
theorem x_fact {n a p j : Nat} {s t : Mem} (h : nS n a s t) (hp : p < n) (hj : j < 8) : f_X1_fact a (Int32.ofNat j) (Int32.ofNat p) s = some (fct (t 1) p j, s) := by
  have hh := h
  obtain ⟨⟨ha, hn, h1, h2, h3⟩, ⟨⟨g1, g2, g3, g4, g5⟩, h5⟩, hb, h8⟩ := h
  obtain ⟨q1, q2, q3, q4, q5, q6, q7⟩ := h5 p hp
  obtain ⟨u, eu, hu⟩ := tried_N hh hp
  unfold f_X1_fact fct
  have hj8 : j = 0 ∨ j = 1 ∨ j = 2 ∨ j = 3 ∨ j = 4 ∨ j = 5 ∨ j = 6 ∨ j = 7 := by omega
  rcases hj8 with rfl | rfl | rfl | rfl | rfl | rfl | rfl | rfl
  · simp (disch := omega) only [rd_N, wr_N, rd_L, wr_L, Option.bind_some, N_le, N_lt, N_eq, N_leL, L_leN, N_ltL, L_ltN, N_eqL, L_eqN, N_neg, neg_N, N_nlt0, N_0le, N_add, N_addL, L_addN, N_mul, N_mulL, L_mulN, N_sub, N_subL, m_eq, m_ne, u_eq, u_ne, if_true, if_false, ite_true, ite_false, if_pos, if_neg, q1]
  · simp (disch := omega) only [rd_N, wr_N, rd_L, wr_L, Option.bind_some, N_le, N_lt, N_eq, N_leL, L_leN, N_ltL, L_ltN, N_eqL, L_eqN, N_neg, neg_N, N_nlt0, N_0le, N_add, N_addL, L_addN, N_mul, N_mulL, L_mulN, N_sub, N_subL, m_eq, m_ne, u_eq, u_ne, if_true, if_false, ite_true, ite_false, if_pos, if_neg, q2]
  · simp (disch := omega) only [rd_N, wr_N, rd_L, wr_L, Option.bind_some, N_le, N_lt, N_eq, N_leL, L_leN, N_ltL, L_ltN, N_eqL, L_eqN, N_neg, neg_N, N_nlt0, N_0le, N_add, N_addL, L_addN, N_mul, N_mulL, L_mulN, N_sub, N_subL, m_eq, m_ne, u_eq, u_ne, if_true, if_false, ite_true, ite_false, if_pos, if_neg, q4, eu, x_bitCount, N_nat]
  · simp (disch := omega) only [rd_N, wr_N, rd_L, wr_L, Option.bind_some, N_le, N_lt, N_eq, N_leL, L_leN, N_ltL, L_ltN, N_eqL, L_eqN, N_neg, neg_N, N_nlt0, N_0le, N_add, N_addL, L_addN, N_mul, N_mulL, L_mulN, N_sub, N_subL, m_eq, m_ne, u_eq, u_ne, if_true, if_false, ite_true, ite_false, if_pos, if_neg, q5]
  · simp (disch := omega) only [rd_N, wr_N, rd_L, wr_L, Option.bind_some, N_le, N_lt, N_eq, N_leL, L_leN, N_ltL, L_ltN, N_eqL, L_eqN, N_neg, neg_N, N_nlt0, N_0le, N_add, N_addL, L_addN, N_mul, N_mulL, L_mulN, N_sub, N_subL, m_eq, m_ne, u_eq, u_ne, if_true, if_false, ite_true, ite_false, if_pos, if_neg, q6]
  · simp (disch := omega) only [rd_N, wr_N, rd_L, wr_L, Option.bind_some, N_le, N_lt, N_eq, N_leL, L_leN, N_ltL, L_ltN, N_eqL, L_eqN, N_neg, neg_N, N_nlt0, N_0le, N_add, N_addL, L_addN, N_mul, N_mulL, L_mulN, N_sub, N_subL, m_eq, m_ne, u_eq, u_ne, if_true, if_false, ite_true, ite_false, if_pos, if_neg, q7]
  · simp (disch := omega) only [rd_N, wr_N, rd_L, wr_L, Option.bind_some, N_le, N_lt, N_eq, N_leL, L_leN, N_ltL, L_ltN, N_eqL, L_eqN, N_neg, neg_N, N_nlt0, N_0le, N_add, N_addL, L_addN, N_mul, N_mulL, L_mulN, N_sub, N_subL, m_eq, m_ne, u_eq, u_ne, if_true, if_false, ite_true, ite_false, if_pos, if_neg, q3]
    split <;> rfl
  · simp (disch := omega) only [rd_N, wr_N, rd_L, wr_L, Option.bind_some, N_le, N_lt, N_eq, N_leL, L_leN, N_ltL, L_ltN, N_eqL, L_eqN, N_neg, neg_N, N_nlt0, N_0le, N_add, N_addL, L_addN, N_mul, N_mulL, L_mulN, N_sub, N_subL, m_eq, m_ne, u_eq, u_ne, if_true, if_false, ite_true, ite_false, if_pos, if_neg, g3]
theorem m_plain {x : Int32} {t : Mem} : f_X12_plain x t = some (jabs x, t) := by
  unfold f_X12_plain jabs
  split
  · rfl
  · congr 2
theorem m_asks {n a p : Nat} {s t : Mem} (h : nS n a s t) (hp : p < n) : ∃ t', f_X12_asks (Int32.ofNat p) t = some t' ∧ nST t t' ∧ ∀ j, j < 8 → t' 19 j = fct (t 1) p j := by
  obtain ⟨u, eu, hu⟩ := tried_N h hp
  have hn := h.1.2.1
  have key : ∀ v, v = fct (t 1) p 6 → ∃ t', jn_X12_asks_123 6 v (mset (mset (mset (mset (mset (mset t 19 0 (t 1 (4 + p))) 19 1 (t 1 (18 + p))) 19 2 (Int32.ofNat (popN 15 u))) 19 3 (t 1 (60 + p))) 19 4 (t 1 (74 + p))) 19 5 (t 1 (88 + p))) = some t' ∧ nST t t' ∧ ∀ j, j < 8 → t' 19 j = fct (t 1) p j := by
    intro v hv
    unfold jn_X12_asks_123
    simp (disch := omega) only [rd_N, wr_N, rd_L, wr_L, Option.bind_some, N_le, N_lt, N_eq, N_leL, L_leN, N_ltL, L_ltN, N_eqL, L_eqN, N_neg, neg_N, N_nlt0, N_0le, N_add, N_addL, L_addN, N_mul, N_mulL, L_mulN, N_sub, N_subL, m_eq, m_ne, u_eq, u_ne, if_true, if_false, ite_true, ite_false, if_pos, if_neg]
    refine ⟨_, rfl, fun c h1 h2 => ?_, fun j hj => ?_⟩
    · simp (disch := omega) only [rd_N, wr_N, rd_L, wr_L, Option.bind_some, N_le, N_lt, N_eq, N_leL, L_leN, N_ltL, L_ltN, N_eqL, L_eqN, N_neg, neg_N, N_nlt0, N_0le, N_add, N_addL, L_addN, N_mul, N_mulL, L_mulN, N_sub, N_subL, m_eq, m_ne, u_eq, u_ne, if_true, if_false, ite_true, ite_false, if_pos, if_neg]
    · have hj8 : j = 0 ∨ j = 1 ∨ j = 2 ∨ j = 3 ∨ j = 4 ∨ j = 5 ∨ j = 6 ∨ j = 7 := by omega
      rcases hj8 with rfl | rfl | rfl | rfl | rfl | rfl | rfl | rfl
      · simp (disch := omega) only [rd_N, wr_N, rd_L, wr_L, Option.bind_some, N_le, N_lt, N_eq, N_leL, L_leN, N_ltL, L_ltN, N_eqL, L_eqN, N_neg, neg_N, N_nlt0, N_0le, N_add, N_addL, L_addN, N_mul, N_mulL, L_mulN, N_sub, N_subL, m_eq, m_ne, u_eq, u_ne, if_true, if_false, ite_true, ite_false, if_pos, if_neg]; rfl
      · simp (disch := omega) only [rd_N, wr_N, rd_L, wr_L, Option.bind_some, N_le, N_lt, N_eq, N_leL, L_leN, N_ltL, L_ltN, N_eqL, L_eqN, N_neg, neg_N, N_nlt0, N_0le, N_add, N_addL, L_addN, N_mul, N_mulL, L_mulN, N_sub, N_subL, m_eq, m_ne, u_eq, u_ne, if_true, if_false, ite_true, ite_false, if_pos, if_neg]; rfl
      · simp (disch := omega) only [rd_N, wr_N, rd_L, wr_L, Option.bind_some, N_le, N_lt, N_eq, N_leL, L_leN, N_ltL, L_ltN, N_eqL, L_eqN, N_neg, neg_N, N_nlt0, N_0le, N_add, N_addL, L_addN, N_mul, N_mulL, L_mulN, N_sub, N_subL, m_eq, m_ne, u_eq, u_ne, if_true, if_false, ite_true, ite_false, if_pos, if_neg]
        show _ = Int32.ofNat (popN 15 (t 1 (46 + p)).toNatClampNeg)
        rw [eu, N_nat (by omega)]
      · simp (disch := omega) only [rd_N, wr_N, rd_L, wr_L, Option.bind_some, N_le, N_lt, N_eq, N_leL, L_leN, N_ltL, L_ltN, N_eqL, L_eqN, N_neg, neg_N, N_nlt0, N_0le, N_add, N_addL, L_addN, N_mul, N_mulL, L_mulN, N_sub, N_subL, m_eq, m_ne, u_eq, u_ne, if_true, if_false, ite_true, ite_false, if_pos, if_neg]; rfl
      · simp (disch := omega) only [rd_N, wr_N, rd_L, wr_L, Option.bind_some, N_le, N_lt, N_eq, N_leL, L_leN, N_ltL, L_ltN, N_eqL, L_eqN, N_neg, neg_N, N_nlt0, N_0le, N_add, N_addL, L_addN, N_mul, N_mulL, L_mulN, N_sub, N_subL, m_eq, m_ne, u_eq, u_ne, if_true, if_false, ite_true, ite_false, if_pos, if_neg]; rfl
      · simp (disch := omega) only [rd_N, wr_N, rd_L, wr_L, Option.bind_some, N_le, N_lt, N_eq, N_leL, L_leN, N_ltL, L_ltN, N_eqL, L_eqN, N_neg, neg_N, N_nlt0, N_0le, N_add, N_addL, L_addN, N_mul, N_mulL, L_mulN, N_sub, N_subL, m_eq, m_ne, u_eq, u_ne, if_true, if_false, ite_true, ite_false, if_pos, if_neg]; rfl
      · simp (disch := omega) only [rd_N, wr_N, rd_L, wr_L, Option.bind_some, N_le, N_lt, N_eq, N_leL, L_leN, N_ltL, L_ltN, N_eqL, L_eqN, N_neg, neg_N, N_nlt0, N_0le, N_add, N_addL, L_addN, N_mul, N_mulL, L_mulN, N_sub, N_subL, m_eq, m_ne, u_eq, u_ne, if_true, if_false, ite_true, ite_false, if_pos, if_neg]; exact hv
      · simp (disch := omega) only [rd_N, wr_N, rd_L, wr_L, Option.bind_some, N_le, N_lt, N_eq, N_leL, L_leN, N_ltL, L_ltN, N_eqL, L_eqN, N_neg, neg_N, N_nlt0, N_0le, N_add, N_addL, L_addN, N_mul, N_mulL, L_mulN, N_sub, N_subL, m_eq, m_ne, u_eq, u_ne, if_true, if_false, ite_true, ite_false, if_pos, if_neg]; rfl
  unfold f_X12_asks
  simp (disch := omega) only [rd_N, wr_N, rd_L, wr_L, Option.bind_some, N_le, N_lt, N_eq, N_leL, L_leN, N_ltL, L_ltN, N_eqL, L_eqN, N_neg, neg_N, N_nlt0, N_0le, N_add, N_addL, L_addN, N_mul, N_mulL, L_mulN, N_sub, N_subL, m_eq, m_ne, u_eq, u_ne, if_true, if_false, ite_true, ite_false, if_pos, if_neg, m_onesOf, m_byOf, m_plain, eu]
  by_cases hc : t 1 (32 + p) - 1 = -1
  · rw [if_pos hc]
    exact key 0 (by show _ = (if t 1 (32 + p) - 1 = -1 then 0 else _); rw [if_pos hc])
  · rw [if_neg hc]
    exact key _ (by show _ = (if t 1 (32 + p) - 1 = -1 then 0 else _); rw [if_neg hc])
/-- counting out: a code's stack, its top first -/
def stkR (arr : Nat → Int32) : List Int32 → Prop
  | [] => True
  | v :: r => arr r.length = v ∧ stkR arr r
theorem stkR_upd {arr : Nat → Int32} {k : Nat} {v : Int32} : ∀ {r : List Int32}, stkR arr r → r.length ≤ k → stkR (upd arr k v) r
  | [], _, _ => trivial
  | x :: r, h, hk => ⟨(u_ne (by simp at hk; omega)).trans h.1, stkR_upd h.2 (by simp at hk; omega)⟩
def isB (v : Int32) : Prop := v = 0 ∨ v = 1
theorem isB_ite {c : Prop} [Decidable c] : isB (if c then 1 else 0) := by
  split
  · exact Or.inr rfl
  · exact Or.inl rfl
def op2 (c x y : Int32) : Option Int32 :=
  if c = 20000 then some (x + y) else if c = 20001 then some (x - y) else if c = 20002 then some (x * y)
  else if c = 20003 then (if y = 0 then none else some (x / y)) else if c = 20004 then some (if x < y then 1 else 0) else if c = 20005 then some (if x = y then 1 else 0)
  else if c = 20006 then some (if y < x then 1 else 0) else if c = 20007 then (if (x = 0 ∨ x = 1) ∧ (y = 0 ∨ y = 1) then some (x &&& y) else none)
  else if c = 20008 then (if (x = 0 ∨ x = 1) ∧ (y = 0 ∨ y = 1) then some (x ||| y) else none) else none
def ev1 (F : Nat → Int32) (c : Int32) (st : List Int32) : Option (List Int32) :=
  if 0 ≤ c ∧ c < 10000 then (if st.length < 60 then some (c :: st) else none)
  else if 10000 ≤ c ∧ c < 10008 then (if st.length < 60 then some (F (c - 10000).toNatClampNeg :: st) else none)
  else if c = 20009 then (match st with
    | v :: r => if v = 0 ∨ v = 1 then some ((if v = 0 then 1 else 0) :: r) else none
    | [] => none)
  else match st with
    | y :: x :: r => (op2 c x y).map (fun v => v :: r)
    | _ => none
def evn (F : Nat → Int32) (f : Nat → Int32) : Nat → Nat → List Int32 → Option (List Int32)
  | _, 0, st => some st
  | a, n + 1, st => (ev1 F (f a) st).bind (evn F f (a + 1) n)
/-- a code here, and what it is in the reference -/
def cdR (c op arg : Int32) : Prop :=
  (0 ≤ c ∧ c < 10000 ∧ op = 0 ∧ arg = c) ∨ (10000 ≤ c ∧ c < 10008 ∧ op = 1 ∧ arg = c - 10000) ∨ (c = 20000 ∧ op = 2) ∨ (c = 20001 ∧ op = 3) ∨ (c = 20002 ∧ op = 4) ∨ (c = 20003 ∧ op = 5) ∨ (c = 20004 ∧ op = 6) ∨
  (c = 20005 ∧ op = 7) ∨ (c = 20006 ∧ op = 8) ∨ (c = 20007 ∧ op = 10) ∨ (c = 20008 ∧ op = 11) ∨ (c = 20009 ∧ op = 9)
