/-! ===== what is told: TALK, CURES, and all that a minute does ===== -/
def planT (n : Nat) (s : Mem) (P : Nat) (m : Mem) : Prop :=
  ∃ cnt, cnt ≤ 16 ∧ s P 0 = Int32.ofNat cnt ∧ m 0 31 = Int32.ofNat cnt ∧ ∀ l, l < cnt → s (P + 1) l = m 15 (3 * l) ∧ ∃ x y, x < n ∧ y < n ∧ x ≠ y ∧ s (P + 3) l = Int32.ofNat x ∧ m 15 (3 * l + 1) = Int32.ofNat x ∧ s (P + 4) l = Int32.ofNat y ∧ m 15 (3 * l + 2) = Int32.ofNat y
def planC (n : Nat) (s : Mem) (P : Nat) (m : Mem) : Prop :=
  ∃ cnt, cnt ≤ 16 ∧ s P 0 = Int32.ofNat cnt ∧ m 0 33 = Int32.ofNat cnt ∧ ∀ l, l < cnt → s (P + 1) l = m 16 (4 * l) ∧ ∃ kd x, kd < 4 ∧ x < n ∧ s (P + 2) l = Int32.ofNat (kd + 1) ∧ m 16 (4 * l + 1) = Int32.ofNat kd ∧ s (P + 3) l = Int32.ofNat x ∧ m 16 (4 * l + 2) = Int32.ofNat x ∧
    s (P + 4) l = m 16 (4 * l + 3) ∧ (kd = 1 → 0 ≤ m 16 (4 * l + 3) ∧ m 16 (4 * l + 3) ≤ 99) ∧ (kd = 2 → ∃ y, y < n ∧ y ≠ x ∧ m 16 (4 * l + 3) = Int32.ofNat y)
def WS (n : Nat) (s t : Mem) : Prop := lawR s 10 t ∧ ordR n s 27 t ∧ planT n s 17 t ∧ planC n s 22 t
theorem lawR_eq {s s' t t' : Mem} {L L' : Nat} (h : lawR s L t) (hs : ∀ j, j < 6 → s' (L' + j) = s (L + j)) (ht : ∀ c, 7 ≤ c → c ≤ 13 → t' c = t c) : lawR s' L' t' := by
  have e0 : s' L' = s L := hs 0 (by omega)
  unfold lawR
  rw [e0, hs 1 (by omega), hs 2 (by omega), hs 3 (by omega), hs 4 (by omega), hs 5 (by omega), ht 7 (by omega) (by omega), ht 8 (by omega) (by omega), ht 9 (by omega) (by omega), ht 10 (by omega) (by omega), ht 11 (by omega) (by omega), ht 12 (by omega) (by omega), ht 13 (by omega) (by omega)]
  exact h
theorem ordR_eq {n : Nat} {s s' t t' : Mem} {L L' : Nat} (h : ordR n s L t) (hs : ∀ j, j < 4 → s' (L' + j) = s (L + j)) (h0 : t' 0 35 = t 0 35) (h1 : t' 17 = t 17) (h2 : t' 18 = t 18) : ordR n s' L' t' := by
  have e0 : s' L' = s L := hs 0 (by omega)
  unfold ordR nmR
  rw [e0, hs 1 (by omega), hs 2 (by omega), hs 3 (by omega), h0, h1, h2]
  exact h
theorem planT_eq {n : Nat} {s s' t t' : Mem} {L L' : Nat} (h : planT n s L t) (hs : ∀ j, j < 5 → s' (L' + j) = s (L + j)) (h0 : t' 0 31 = t 0 31) (h1 : t' 15 = t 15) : planT n s' L' t' := by
  have e0 : s' L' = s L := hs 0 (by omega)
  unfold planT
  rw [e0, hs 1 (by omega), hs 3 (by omega), hs 4 (by omega), h0, h1]
  exact h
theorem planC_eq {n : Nat} {s s' t t' : Mem} {L L' : Nat} (h : planC n s L t) (hs : ∀ j, j < 5 → s' (L' + j) = s (L + j)) (h0 : t' 0 33 = t 0 33) (h1 : t' 16 = t 16) : planC n s' L' t' := by
  have e0 : s' L' = s L := hs 0 (by omega)
  unfold planC
  rw [e0, hs 1 (by omega), hs 2 (by omega), hs 3 (by omega), hs 4 (by omega), h0, h1]
  exact h
theorem WS_eq {n a : Nat} {s s' t t' : Mem} (ha : a = 2 ∨ a = 115) (h : WS n s t) (hs : nXF a s s') (ht : nTF t t') : WS n s' t' := by
  obtain ⟨h1, h2, h3, h4⟩ := h
  refine ⟨lawR_eq h1 (fun j hj => hs.1 _ (by omega) (by omega) (by omega) (by omega)) (fun c q1 q2 => ht.1 c (by omega) (by omega) (by omega) (by omega) (by omega)), ordR_eq h2 (fun j hj => hs.1 _ (by omega) (by omega) (by omega) (by omega)) (by rw [ht.2.1]) (ht.1 _ (by omega) (by omega) (by omega) (by omega) (by omega)) (ht.1 _ (by omega) (by omega) (by omega) (by omega) (by omega)),
    planT_eq h3 (fun j hj => hs.1 _ (by omega) (by omega) (by omega) (by omega)) (by rw [ht.2.1]) (ht.1 _ (by omega) (by omega) (by omega) (by omega) (by omega)), planC_eq h4 (fun j hj => hs.1 _ (by omega) (by omega) (by omega) (by omega)) (by rw [ht.2.1]) (ht.1 _ (by omega) (by omega) (by omega) (by omega) (by omega))⟩
/-- after a step: related still, and nothing else changed -/
def nP (n a : Nat) (s t s' t' : Mem) : Prop := nS n a s' t' ∧ nC n (t' 1) ∧ nXF a s s' ∧ nTF t t' ∧ t' 1 0 = t 1 0
theorem nP.refl {n a : Nat} {s t : Mem} (h : nS n a s t) (hC : nC n (t 1)) : nP n a s t s t := ⟨h, hC, nXF.refl, nTF.refl, rfl⟩
theorem nP.trans {n a : Nat} {s t s' t' s'' t'' : Mem} (h : nP n a s t s' t') (h' : nP n a s' t' s'' t'') : nP n a s t s'' t'' := ⟨h'.1, h'.2.1, h.2.2.1.trans h'.2.2.1, h.2.2.2.1.trans h'.2.2.2.1, h'.2.2.2.2.trans h.2.2.2.2⟩
theorem nP.ws {n a : Nat} {s t s' t' : Mem} (h : nP n a s t s' t') (hW : WS n s t) : WS n s' t' := WS_eq h.1.1.1 hW h.2.2.1 h.2.2.2.1
theorem nC_same {n : Nat} {w w' : Nat → Int32} (h : nC n w) (e : ∀ j, 18 ≤ j → j < 60 → w' j = w j) (hn : n ≤ 14) : nC n w' := by
  intro i hi
  rw [e (18 + i) (by omega) (by omega), e (32 + i) (by omega) (by omega), e (46 + i) (by omega) (by omega)]
  exact h i hi
theorem nC_pos {n p : Nat} {w : Nat → Int32} {u x y : Int32} (hn : n ≤ 14) (hp : p < n) (h : nC n w) (hu : u ≠ 0) : nC n (upd (upd (upd w (18 + p) u) (32 + p) x) (46 + p) y) := by
  intro i hi
  have hi' := h i hi
  by_cases hip : i = p
  · subst hip
    simp (disch := omega) only [rd_N, wr_N, rd_L, wr_L, Option.bind_some, N_le, N_lt, N_eq, N_leL, L_leN, N_ltL, L_ltN, N_eqL, L_eqN, N_neg, neg_N, N_nlt0, N_0le, N_add, N_addL, L_addN, N_mul, N_mulL, L_mulN, N_sub, N_subL, m_eq, m_ne, u_eq, u_ne, if_true, if_false, ite_true, ite_false, if_pos, if_neg]
    exact fun q => absurd q hu
  · simp (disch := omega) only [rd_N, wr_N, rd_L, wr_L, Option.bind_some, N_le, N_lt, N_eq, N_leL, L_leN, N_ltL, L_ltN, N_eqL, L_eqN, N_neg, neg_N, N_nlt0, N_0le, N_add, N_addL, L_addN, N_mul, N_mulL, L_mulN, N_sub, N_subL, m_eq, m_ne, u_eq, u_ne, if_true, if_false, ite_true, ite_false, if_pos, if_neg]
    exact hi'
theorem nC_tried {n p : Nat} {w : Nat → Int32} {x : Int32} (hn : n ≤ 14) (hp : p < n) (h : nC n w) (hu : w (18 + p) ≠ 0) : nC n (upd w (46 + p) x) := by
  intro i hi
  have hi' := h i hi
  by_cases hip : i = p
  · subst hip
    simp (disch := omega) only [rd_N, wr_N, rd_L, wr_L, Option.bind_some, N_le, N_lt, N_eq, N_leL, L_leN, N_ltL, L_ltN, N_eqL, L_eqN, N_neg, neg_N, N_nlt0, N_0le, N_add, N_addL, L_addN, N_mul, N_mulL, L_mulN, N_sub, N_subL, m_eq, m_ne, u_eq, u_ne, if_true, if_false, ite_true, ite_false, if_pos, if_neg]
    exact fun q => absurd q hu
  · simp (disch := omega) only [rd_N, wr_N, rd_L, wr_L, Option.bind_some, N_le, N_lt, N_eq, N_leL, L_leN, N_ltL, L_ltN, N_eqL, L_eqN, N_neg, neg_N, N_nlt0, N_0le, N_add, N_addL, L_addN, N_mul, N_mulL, L_mulN, N_sub, N_subL, m_eq, m_ne, u_eq, u_ne, if_true, if_false, ite_true, ite_false, if_pos, if_neg]
    exact hi'
theorem nC_up {n p : Nat} {w : Nat → Int32} {u : Int32} (hn : n ≤ 14) (hp : p < n) (h : nC n w) (hu : u ≠ 0 ∨ u = w (18 + p)) : nC n (upd w (18 + p) u) := by
  intro i hi
  have hi' := h i hi
  by_cases hip : i = p
  · subst hip
    simp (disch := omega) only [rd_N, wr_N, rd_L, wr_L, Option.bind_some, N_le, N_lt, N_eq, N_leL, L_leN, N_ltL, L_ltN, N_eqL, L_eqN, N_neg, neg_N, N_nlt0, N_0le, N_add, N_addL, L_addN, N_mul, N_mulL, L_mulN, N_sub, N_subL, m_eq, m_ne, u_eq, u_ne, if_true, if_false, ite_true, ite_false, if_pos, if_neg]
    rcases hu with hu | hu
    · exact fun q => absurd q hu
    · rw [hu]; exact hi'
  · simp (disch := omega) only [rd_N, wr_N, rd_L, wr_L, Option.bind_some, N_le, N_lt, N_eq, N_leL, L_leN, N_ltL, L_ltN, N_eqL, L_eqN, N_neg, neg_N, N_nlt0, N_0le, N_add, N_addL, L_addN, N_mul, N_mulL, L_mulN, N_sub, N_subL, m_eq, m_ne, u_eq, u_ne, if_true, if_false, ite_true, ite_false, if_pos, if_neg]
    exact hi'
theorem hic_N {n a p : Nat} {s t : Mem} (h : nS n a s t) (hp : p < n) : ∃ k, t 1 (18 + p) = Int32.ofNat k ∧ k ≤ 99 := by
  obtain ⟨h1, h2⟩ := (h.2.2.1.2 p hp).2.1
  exact N_of (m := 99) h1 h2 (by omega)
theorem by_put {n a p q : Nat} {s t : Mem} (h : nS n a s t) (hp : p < n) (hq : q < n) : nS n a (mset s (a + 3) p (Int32.ofNat q)) (mset t 1 (32 + p) (Int32.ofNat q + 1)) := by
  have hn := h.1.2.1
  have e : Int32.ofNat q = (Int32.ofNat q + 1) - 1 := by grind
  have h1 := nS_by (v := Int32.ofNat q + 1) h hp (by
    rw [N_addL]
    exact N_le0 (by omega) (by omega))
  rw [← e] at h1
  exact h1
theorem hM_0 {p : Nat} {v : Int32} {t : Mem} : hM p v t 1 0 = t 1 0 := by
  unfold hM
  split
  · simp (disch := omega) only [rd_N, wr_N, rd_L, wr_L, Option.bind_some, N_le, N_lt, N_eq, N_leL, L_leN, N_ltL, L_ltN, N_eqL, L_eqN, N_neg, neg_N, N_nlt0, N_0le, N_add, N_addL, L_addN, N_mul, N_mulL, L_mulN, N_sub, N_subL, m_eq, m_ne, u_eq, u_ne, if_true, if_false, ite_true, ite_false, if_pos, if_neg]
  · simp (disch := omega) only [rd_N, wr_N, rd_L, wr_L, Option.bind_some, N_le, N_lt, N_eq, N_leL, L_leN, N_ltL, L_ltN, N_eqL, L_eqN, N_neg, neg_N, N_nlt0, N_0le, N_add, N_addL, L_addN, N_mul, N_mulL, L_mulN, N_sub, N_subL, m_eq, m_ne, u_eq, u_ne, if_true, if_false, ite_true, ite_false, if_pos, if_neg]
theorem cl_N {k : Nat} (hk : k < 1000) : cl (Int32.ofNat k) = Int32.ofNat (min 99 k) := by
  unfold cl jmmax jmmin
  simp (disch := omega) only [rd_N, wr_N, rd_L, wr_L, Option.bind_some, N_le, N_lt, N_eq, N_leL, L_leN, N_ltL, L_ltN, N_eqL, L_eqN, N_neg, neg_N, N_nlt0, N_0le, N_add, N_addL, L_addN, N_mul, N_mulL, L_mulN, N_sub, N_subL, m_eq, m_ne, u_eq, u_ne, if_true, if_false, ite_true, ite_false, if_pos, if_neg]
  by_cases h : k < 99
  · simp (disch := omega) only [rd_N, wr_N, rd_L, wr_L, Option.bind_some, N_le, N_lt, N_eq, N_leL, L_leN, N_ltL, L_ltN, N_eqL, L_eqN, N_neg, neg_N, N_nlt0, N_0le, N_add, N_addL, L_addN, N_mul, N_mulL, L_mulN, N_sub, N_subL, m_eq, m_ne, u_eq, u_ne, if_true, if_false, ite_true, ite_false, if_pos, if_neg]
    by_cases h0 : 0 < k
    · simp (disch := omega) only [rd_N, wr_N, rd_L, wr_L, Option.bind_some, N_le, N_lt, N_eq, N_leL, L_leN, N_ltL, L_ltN, N_eqL, L_eqN, N_neg, neg_N, N_nlt0, N_0le, N_add, N_addL, L_addN, N_mul, N_mulL, L_mulN, N_sub, N_subL, m_eq, m_ne, u_eq, u_ne, if_true, if_false, ite_true, ite_false, if_pos, if_neg]
      rw [Nat.min_eq_right (by omega)]
    · have : k = 0 := by omega
      subst this
      rfl
  · simp only [if_neg h]
    rw [Nat.min_eq_left (by omega)]
    rfl
theorem jm_N {k : Nat} (hk : k < 1000) : jmmin 99 (Int32.ofNat k) = Int32.ofNat (min 99 k) := by
  unfold jmmin
  simp (disch := omega) only [rd_N, wr_N, rd_L, wr_L, Option.bind_some, N_le, N_lt, N_eq, N_leL, L_leN, N_ltL, L_ltN, N_eqL, L_eqN, N_neg, neg_N, N_nlt0, N_0le, N_add, N_addL, L_addN, N_mul, N_mulL, L_mulN, N_sub, N_subL, m_eq, m_ne, u_eq, u_ne, if_true, if_false, ite_true, ite_false, if_pos, if_neg]
  by_cases h : k < 99
  · rw [if_pos h, Nat.min_eq_right (by omega)]
  · rw [if_neg h, Nat.min_eq_left (by omega)]
    rfl
theorem N_ne0 {k : Nat} (h : 0 < k) (hk : k < 1000) : Int32.ofNat k ≠ 0 := by
  intro q
  rw [N_eqL (by omega) (by omega)] at q
  omega
theorem N_b {k m : Nat} (h : k ≤ m) (hm : m < 1000) : 0 ≤ Int32.ofNat k ∧ Int32.ofNat k ≤ Int32.ofNat m := N_le0 h (by omega)
theorem r_nameOne {n a p q : Nat} {s t : Mem} (h : nS n a s t) (hC : nC n (t 1)) (hW : WS n s t) (hp : p < n) (hq : q < n) :
    ok2 (f_X10_nameOne 1 a (Int32.ofNat q) (Int32.ofNat p) s) (f_X12_isNamed (Int32.ofNat p) (Int32.ofNat q) t) (nP n a s t) := by
  have hn := h.1.2.1
  have ha := h.1.1
  have x0 := h.2.1.2 p hp
  have s1 := nS_named (v := t 1 (60 + p) + 1) h hp trivial
  have fX : nXF a s (mset s (a + 5) p (t 1 (60 + p) + 1)) := nXF.put (f := 4) (by omega)
  have fM : nTF t (mset t 1 (60 + p) (t 1 (60 + p) + 1)) := nTF.put
  have W1 := WS_eq ha hW fX fM
  obtain ⟨k, ek, hk⟩ := hic_N h hp
  unfold f_X10_nameOne f_X12_isNamed
  simp (disch := omega) only [rd_N, wr_N, rd_L, wr_L, Option.bind_some, N_le, N_lt, N_eq, N_leL, L_leN, N_ltL, L_ltN, N_eqL, L_eqN, N_neg, neg_N, N_nlt0, N_0le, N_add, N_addL, L_addN, N_mul, N_mulL, L_mulN, N_sub, N_subL, m_eq, m_ne, u_eq, u_ne, if_true, if_false, ite_true, ite_false, if_pos, if_neg, x0.2.2.2.2.1, x0.2.1]
  refine (r_hics s1 W1.1 hp).bind ?_
  rintro ⟨v, s2⟩ ⟨v', t2⟩ ⟨e1, e2, f1, f2⟩
  dsimp only at e1 e2 f1 f2 ⊢
  subst e1
  have s2' := nS_scr s1 f1 f2
  have C2 : nC n (t2 1) := nC_same hC (fun j h1 h2 => by rw [f2 1 (by omega) (by omega), m_eq, u_ne (by omega)]) hn
  have e20 : t2 1 0 = t 1 0 := by rw [f2 1 (by omega) (by omega), m_eq, u_ne (by omega)]
  have gX := fX.trans (nXF.scr ha f1)
  have gM := fM.trans (nTF.scr f2)
  clear f1 f2 fX fM s1 W1 hW hC h x0
  obtain ⟨k2, ek2, hk2⟩ := N_of (m := 99) (x := v) (by grind) e2.2 (by omega)
  have hk21 : 1 ≤ k2 := by
    have h1 := e2.1
    rw [ek2, L_leN (by omega) (by omega)] at h1
    exact h1
  clear e2
  subst ek2
  rw [ek, N_add, x_hiccup (by omega), cl_N (by omega), m_lesser, jm_N (by omega)]
  unfold hX
  rw [if_neg (N_ne0 (by omega) (by omega))]
  dsimp only [Option.bind_some]
  rw [x_blame (by omega)]
  simp (disch := omega) only [rd_N, wr_N, rd_L, wr_L, Option.bind_some, N_le, N_lt, N_eq, N_leL, L_leN, N_ltL, L_ltN, N_eqL, L_eqN, N_neg, neg_N, N_nlt0, N_0le, N_add, N_addL, L_addN, N_mul, N_mulL, L_mulN, N_sub, N_subL, m_eq, m_ne, u_eq, u_ne, if_true, if_false, ite_true, ite_false, if_pos, if_neg]
  have s3 := nS_tried (v := 0) (by_put (q := q) (nS_hic (v := Int32.ofNat (min 99 (k + k2))) s2' hp (N_b (m := 99) (by omega) (by omega))) hp hq) hp (by decide)
  rw [N_addL] at s3
  refine (r_write s3).bind ?_
  rintro s4 t4 ⟨s4', fX4, fM4, C4⟩
  refine ok2.some ⟨s4', ?_, gX.trans ((nXF.put (f := 1) (by omega)).trans ((nXF.put (f := 2) (by omega)).trans ((nXF.put (f := 3) (by omega)).trans fX4))), gM.trans (nTF.put.trans (nTF.put.trans (nTF.put.trans fM4))), by rw [C4 0 (by omega)]; simp (disch := omega) only [rd_N, wr_N, rd_L, wr_L, Option.bind_some, N_le, N_lt, N_eq, N_leL, L_leN, N_ltL, L_ltN, N_eqL, L_eqN, N_neg, neg_N, N_nlt0, N_0le, N_add, N_addL, L_addN, N_mul, N_mulL, L_mulN, N_sub, N_subL, m_eq, m_ne, u_eq, u_ne, if_true, if_false, ite_true, ite_false, if_pos, if_neg]; exact e20⟩
  refine nC_same ?_ (fun j h1 h2 => C4 j (by omega)) hn
  have := nC_pos (x := Int32.ofNat (q + 1)) (y := 0) hn hp C2 (N_ne0 (k := min 99 (k + k2)) (by omega) (by omega))
  simp (disch := omega) only [rd_N, wr_N, rd_L, wr_L, Option.bind_some, N_le, N_lt, N_eq, N_leL, L_leN, N_ltL, L_ltN, N_eqL, L_eqN, N_neg, neg_N, N_nlt0, N_0le, N_add, N_addL, L_addN, N_mul, N_mulL, L_mulN, N_sub, N_subL, m_eq, m_ne, u_eq, u_ne, if_true, if_false, ite_true, ite_false, if_pos, if_neg]
  exact this
theorem r_frighten {n a p : Nat} {s t : Mem} (h : nS n a s t) (hC : nC n (t 1)) (hp : p < n) :
    ok2 (f_X10_frighten 1 a (Int32.ofNat p) s) (f_X12_isFrightened (Int32.ofNat p) t) (nP n a s t) := by
  have hn := h.1.2.1
  have ha := h.1.1
  have x0 := h.2.1.2 p hp
  obtain ⟨k, ek, hk⟩ := hic_N h hp
  unfold f_X10_frighten f_X12_isFrightened
  simp (disch := omega) only [rd_N, wr_N, rd_L, wr_L, Option.bind_some, N_le, N_lt, N_eq, N_leL, L_leN, N_ltL, L_ltN, N_eqL, L_eqN, N_neg, neg_N, N_nlt0, N_0le, N_add, N_addL, L_addN, N_mul, N_mulL, L_mulN, N_sub, N_subL, m_eq, m_ne, u_eq, u_ne, if_true, if_false, ite_true, ite_false, if_pos, if_neg, x0.2.1, ek, N_divL]
  rw [x_hiccup (by omega), cl_N (by omega), Nat.min_eq_right (show k / 2 ≤ 99 by omega), m_hasThen (by omega) (by rw [N_0le (by omega)]; trivial)]
  have s1 := nS_h (v := Int32.ofNat (k / 2)) h hp (N_b (m := 99) (by omega) (by omega))
  have C1 := hM_C (v := Int32.ofNat (k / 2)) hn hp hC
  have fX : nXF a s (hX a p (Int32.ofNat (k / 2)) s) := hX_f
  have fM : nTF t (hM p (Int32.ofNat (k / 2)) t) := hM_f
  have e20 : hM p (Int32.ofNat (k / 2)) t 1 0 = t 1 0 := hM_0
  generalize hX a p (Int32.ofNat (k / 2)) s = sa at *
  generalize hM p (Int32.ofNat (k / 2)) t = ta at *
  have x1 := s1.2.1.2 p hp
  simp (disch := omega) only [rd_N, wr_N, rd_L, wr_L, Option.bind_some, N_le, N_lt, N_eq, N_leL, L_leN, N_ltL, L_ltN, N_eqL, L_eqN, N_neg, neg_N, N_nlt0, N_0le, N_add, N_addL, L_addN, N_mul, N_mulL, L_mulN, N_sub, N_subL, m_eq, m_ne, u_eq, u_ne, if_true, if_false, ite_true, ite_false, if_pos, if_neg, x1.2.2.2.2.2.2, x1.2.1]
  have s3 := nS_frights (v := ta 1 (88 + p) + 1) s1 hp trivial
  refine (r_write s3).bind ?_
  rintro s4 t4 ⟨s4', fX4, fM4, C4⟩
  refine ok2.some ⟨s4', ?_, fX.trans ((nXF.put (f := 6) (by omega)).trans fX4), fM.trans (nTF.put.trans fM4), by rw [C4 0 (by omega), m_eq, u_ne (by omega)]; exact e20⟩
  refine nC_same C1 (fun j h1 h2 => ?_) hn
  rw [C4 j (by omega), m_eq, u_ne (by omega)]
theorem m_swap {t : Mem} {c j j' : Nat} {v v' : Int32} (h : j ≠ j') : mset (mset t c j v) c j' v' = mset (mset t c j' v') c j v := by
  funext c' i
  by_cases hc : c' = c
  · subst hc
    simp only [m_eq]
    by_cases h1 : i = j
    · subst h1
      simp (disch := omega) only [u_eq, u_ne]
    · by_cases h2 : i = j'
      · subst h2
        simp (disch := omega) only [u_eq, u_ne]
      · simp (disch := omega) only [u_ne]
  · simp (disch := omega) only [m_ne]
theorem r_handOn {n a p q : Nat} {s t : Mem} (h : nS n a s t) (hC : nC n (t 1)) (hp : p < n) (hq : q < n) (hpq : p ≠ q) :
    ok2 (f_X10_handOn 1 a (Int32.ofNat p) (Int32.ofNat q) s) (f_X12_handsOn (Int32.ofNat p) (Int32.ofNat q) t) (nP n a s t) := by
  have hn := h.1.2.1
  have ha := h.1.1
  have x0 := h.2.1.2 p hp
  have x1 := h.2.1.2 q hq
  obtain ⟨k, ek, hk⟩ := hic_N h hp
  obtain ⟨k2, ek2, hk2⟩ := hic_N h hq
  unfold f_X10_handOn f_X12_handsOn
  rw [m_hasAny (by omega)]
  simp (disch := omega) only [rd_N, wr_N, rd_L, wr_L, Option.bind_some, N_le, N_lt, N_eq, N_leL, L_leN, N_ltL, L_ltN, N_eqL, L_eqN, N_neg, neg_N, N_nlt0, N_0le, N_add, N_addL, L_addN, N_mul, N_mulL, L_mulN, N_sub, N_subL, m_eq, m_ne, u_eq, u_ne, if_true, if_false, ite_true, ite_false, if_pos, if_neg, x0.2.1, x1.2.1, ek, ek2]
  by_cases hk0 : k = 0
  · subst hk0
    simp (disch := omega) only [rd_N, wr_N, rd_L, wr_L, Option.bind_some, N_le, N_lt, N_eq, N_leL, L_leN, N_ltL, L_ltN, N_eqL, L_eqN, N_neg, neg_N, N_nlt0, N_0le, N_add, N_addL, L_addN, N_mul, N_mulL, L_mulN, N_sub, N_subL, m_eq, m_ne, u_eq, u_ne, if_true, if_false, ite_true, ite_false, if_pos, if_neg]
    exact ok2.some (nP.refl h hC)
  · simp (disch := omega) only [rd_N, wr_N, rd_L, wr_L, Option.bind_some, N_le, N_lt, N_eq, N_leL, L_leN, N_ltL, L_ltN, N_eqL, L_eqN, N_neg, neg_N, N_nlt0, N_0le, N_add, N_addL, L_addN, N_mul, N_mulL, L_mulN, N_sub, N_subL, m_eq, m_ne, u_eq, u_ne, if_true, if_false, ite_true, ite_false, if_pos, if_neg, x_hasN h.2.1.1.1 hn hq, one_ne0, x0.2.1, x1.2.1, ek, ek2]
    try rw [if_neg (show ¬ ((1 : Int32) = 0) by decide)]
    try simp (disch := omega) only [rd_N, wr_N, rd_L, wr_L, Option.bind_some, N_le, N_lt, N_eq, N_leL, L_leN, N_ltL, L_ltN, N_eqL, L_eqN, N_neg, neg_N, N_nlt0, N_0le, N_add, N_addL, L_addN, N_mul, N_mulL, L_mulN, N_sub, N_subL, m_eq, m_ne, u_eq, u_ne, if_true, if_false, ite_true, ite_false, if_pos, if_neg, ek, ek2]
    rw [x_hiccup (by omega), cl_N (by omega), m_hasThen (by omega) (by decide)]
    unfold hX
    rw [if_neg (N_ne0 (by omega) (by omega))]
    dsimp only [Option.bind_some]
    rw [x_blame (by omega)]
    dsimp only [Option.bind_some]
    rw [x_hiccup (by omega), show cl 0 = 0 from by decide]
    unfold hX hM
    rw [if_pos rfl, if_pos rfl]
    simp (disch := omega) only [rd_N, wr_N, rd_L, wr_L, Option.bind_some, N_le, N_lt, N_eq, N_leL, L_leN, N_ltL, L_ltN, N_eqL, L_eqN, N_neg, neg_N, N_nlt0, N_0le, N_add, N_addL, L_addN, N_mul, N_mulL, L_mulN, N_sub, N_subL, m_eq, m_ne, u_eq, u_ne, if_true, if_false, ite_true, ite_false, if_pos, if_neg, ek2, m_lesser, jm_N]
    have s3 := nS_h (v := 0) (nS_tried (v := 0) (by_put (q := p) (nS_hic (v := Int32.ofNat (min 99 (k2 + k))) h hq (N_b (m := 99) (by omega) (by omega))) hq hp) hq (by decide)) hp (by decide)
    unfold hX hM at s3
    rw [if_pos rfl, if_pos rfl, N_addL] at s3
    have C3 := hM_C (v := 0) (t := mset (mset (mset t 1 (18 + q) (Int32.ofNat (min 99 (k2 + k)))) 1 (32 + q) (Int32.ofNat (p + 1))) 1 (46 + q) 0) hn hp (by
      simp (disch := omega) only [rd_N, wr_N, rd_L, wr_L, Option.bind_some, N_le, N_lt, N_eq, N_leL, L_leN, N_ltL, L_ltN, N_eqL, L_eqN, N_neg, neg_N, N_nlt0, N_0le, N_add, N_addL, L_addN, N_mul, N_mulL, L_mulN, N_sub, N_subL, m_eq, m_ne, u_eq, u_ne, if_true, if_false, ite_true, ite_false, if_pos, if_neg]
      exact nC_pos hn hq hC (N_ne0 (k := min 99 (k2 + k)) (by omega) (by omega)))
    unfold hM at C3
    rw [if_pos rfl] at C3
    have e : mset (mset (mset (mset (mset (mset t 1 (18 + p) 0) 1 (32 + p) 0) 1 (46 + p) 0) 1 (18 + q) (Int32.ofNat (min 99 (k2 + k)))) 1 (32 + q) (Int32.ofNat (p + 1))) 1 (46 + q) 0 = mset (mset (mset (mset (mset (mset t 1 (18 + q) (Int32.ofNat (min 99 (k2 + k)))) 1 (32 + q) (Int32.ofNat (p + 1))) 1 (46 + q) 0) 1 (18 + p) 0) 1 (32 + p) 0) 1 (46 + p) 0 := by
      rw [m_swap (t := mset (mset t 1 (18 + p) 0) 1 (32 + p) 0) (by omega), m_swap (t := mset t 1 (18 + p) 0) (by omega), m_swap (t := t) (by omega)]
      rw [m_swap (j := 46 + p) (j' := 32 + q) (by omega), m_swap (j := 32 + p) (j' := 32 + q) (by omega), m_swap (j := 18 + p) (j' := 32 + q) (by omega)]
      rw [m_swap (j := 46 + p) (j' := 46 + q) (by omega), m_swap (j := 32 + p) (j' := 46 + q) (by omega), m_swap (j := 18 + p) (j' := 46 + q) (by omega)]
    rw [e]
    refine (r_write s3).bind ?_
    rintro s4 t4 ⟨s4', fX4, fM4, C4⟩
    refine ok2.some ⟨s4', nC_same C3 (fun j h1 h2 => C4 j (by omega)) hn, ?_, ?_, by rw [C4 0 (by omega)]; simp (disch := omega) only [rd_N, wr_N, rd_L, wr_L, Option.bind_some, N_le, N_lt, N_eq, N_leL, L_leN, N_ltL, L_ltN, N_eqL, L_eqN, N_neg, neg_N, N_nlt0, N_0le, N_add, N_addL, L_addN, N_mul, N_mulL, L_mulN, N_sub, N_subL, m_eq, m_ne, u_eq, u_ne, if_true, if_false, ite_true, ite_false, if_pos, if_neg]⟩
    · exact (nXF.put (f := 1) (by omega)).trans ((nXF.put (f := 2) (by omega)).trans ((nXF.put (f := 3) (by omega)).trans ((nXF.put (f := 1) (by omega)).trans ((nXF.put (f := 2) (by omega)).trans ((nXF.put (f := 3) (by omega)).trans fX4)))))
    · exact nTF.put.trans (nTF.put.trans (nTF.put.trans (nTF.put.trans (nTF.put.trans (nTF.put.trans fM4)))))
