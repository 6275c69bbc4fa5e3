/-! ===== saying a name; what stops; a minute ===== -/
theorem r_next {n a p : Nat} {s t : Mem} (h : nS n a s t) (hW : WS n s t) (hp : p < n) :
    ok2 (f_X10_nextName 1 a (Int32.ofNat p) s) (f_X12_nextName (Int32.ofNat p) t) (fun r r' => r.1 = r'.1 ∧ (r.1 = -1 ∨ ∃ q, q < 14 ∧ q ≠ p ∧ r.1 = Int32.ofNat q) ∧ nSX s r.2 ∧ r'.2 = t) := by
  have hn := h.1.2.1
  have x0 := h.2.1.2 p hp
  obtain ⟨u, eu, hu⟩ := tried_N h hp
  obtain ⟨cnt, hc, h0, h35, ho⟩ := hW.2.1
  obtain ⟨k, nm, hnm⟩ := ho p (by omega)
  have hX := x_firstUntried (n := n) (u := u) hn (by omega) hc h0 hnm hu
  have hM := m_nameBy (n := n) (u := u) (kk := none) (x2 := -1) (t := t) hn (by omega) h.1.2.2.1 hnm.1 hnm.2.1 (fun i hi => ⟨by have := (hnm.2.2.1 i hi).1; omega, (hnm.2.2.1 i hi).2⟩) hu (fun j q => by cases q) rfl
  have hm := fun q => cnd_mem (nm := nm) (p := p) hn (fun i hi => by have := (hnm.2.2.1 i hi).1; omega) (Nat.le_refl (k + n)) q
  unfold f_X10_nextName f_X12_nextName
  simp (disch := omega) only [rd_N, wr_N, rd_L, wr_L, Option.bind_some, N_le, N_lt, N_eq, N_leL, L_leN, N_ltL, L_ltN, N_eqL, L_eqN, N_neg, neg_N, N_nlt0, N_0le, N_add, N_addL, L_addN, N_mul, N_mulL, L_mulN, N_sub, N_subL, m_eq, m_ne, u_eq, u_ne, if_true, if_false, ite_true, ite_false, if_pos, if_neg, x0.2.2.2.1, eu, h.2.1.1.1]
  refine ok2.left hX ?_
  rintro ⟨v, s'⟩ ⟨e1, f1⟩
  refine ok2.right hM ?_
  rintro ⟨v', t'⟩ ⟨e2, e3⟩
  dsimp only at e1 e2 e3 f1 ⊢
  subst e3
  refine ok2.some ⟨e1.trans e2.symm, ?_, fun c _ h2 => f1 c h2, rfl⟩
  show v = -1 ∨ _
  rw [e1]
  unfold firstC
  generalize hfd : List.find? (fun q => !u.testBit q) (cnd nm k p (k + n)) = o
  cases o with
  | none => exact Or.inl rfl
  | some q =>
    have hq := hm q (List.mem_of_find?_eq_some hfd)
    exact Or.inr ⟨q, hq.1, hq.2, rfl⟩
theorem m_id {t : Mem} {c j : Nat} {v : Int32} (h : t c j = v) : mset t c j v = t := by
  funext c' i
  by_cases hc : c' = c
  · subst hc
    rw [m_eq]
    by_cases hi : i = j
    · subst hi
      rw [u_eq, h]
    · rw [u_ne hi]
  · rw [m_ne hc]
theorem hM_keep {n p k : Nat} {t : Mem} (hp : p < n) (hC : nC n (t 1)) (e : t 1 (18 + p) = Int32.ofNat k) : hM p (Int32.ofNat k) t = t := by
  unfold hM
  split
  · next h0 =>
    obtain ⟨c1, c2⟩ := hC p hp (by rw [e, h0])
    rw [m_id (t := t) e, m_id (t := t) c1, m_id (t := t) c2]
  · rw [m_id e]
theorem r_speak {n a p : Nat} {s t : Mem} (h : nS n a s t) (hC : nC n (t 1)) (hW : WS n s t) (hp : p < n) (hk0 : t 1 (18 + p) ≠ 0) :
    ok2 (f_X10_speak 1 a (Int32.ofNat p) s) (f_X12_says (Int32.ofNat p) t) (fun r r' => r.1 = r'.1 ∧ (r.1 = 0 ∨ r.1 = 1) ∧ nP n a s t r.2 r'.2) := by
  have hn := h.1.2.1
  have ha := h.1.1
  obtain ⟨k, ek, hk⟩ := hic_N h hp
  have hkp : 0 < k := by
    rcases Nat.eq_zero_or_pos k with h1 | h1
    · subst h1; exact absurd ek hk0
    · exact h1
  unfold f_X10_speak f_X12_says
  refine (r_next h hW hp).bind ?_
  rintro ⟨v, s1⟩ ⟨v', t1⟩ ⟨e1, e2, f1, e3⟩
  dsimp only at e1 e2 f1 e3 ⊢
  subst e1 e3
  have h1 := nS_scr h f1 nST.refl
  have W1 : WS n s1 t1 := WS_eq ha hW (nXF.scr ha f1) nTF.refl
  have gX := nXF.scr (a := a) ha f1
  clear h hW f1
  have x0 := h1.2.1.2 p hp
  rcases e2 with rfl | ⟨q, hq, hqp, rfl⟩
  · rw [if_pos rfl, if_pos rfl]
    simp (disch := omega) only [rd_N, wr_N, rd_L, wr_L, Option.bind_some, N_le, N_lt, N_eq, N_leL, L_leN, N_ltL, L_ltN, N_eqL, L_eqN, N_neg, neg_N, N_nlt0, N_0le, N_add, N_addL, L_addN, N_mul, N_mulL, L_mulN, N_sub, N_subL, m_eq, m_ne, u_eq, u_ne, if_true, if_false, ite_true, ite_false, if_pos, if_neg, x0.2.1, ek]
    rw [x_hiccup (by omega), cl_N (by omega), Nat.min_eq_right (show k - 1 ≤ 99 by omega), m_hasThen (by omega) (by rw [N_0le (by omega)]; trivial)]
    have s2 := nS_h (v := Int32.ofNat (k - 1)) h1 hp (N_b (m := 99) (by omega) (by omega))
    have C2 := hM_C (v := Int32.ofNat (k - 1)) hn hp hC
    have fX : nXF a s1 (hX a p (Int32.ofNat (k - 1)) s1) := hX_f
    have fM : nTF t1 (hM p (Int32.ofNat (k - 1)) t1) := hM_f
    have e20 : hM p (Int32.ofNat (k - 1)) t1 1 0 = t1 1 0 := hM_0
    generalize hX a p (Int32.ofNat (k - 1)) s1 = sa at *
    generalize hM p (Int32.ofNat (k - 1)) t1 = ta at *
    have x1 := s2.2.1.2 p hp
    simp (disch := omega) only [rd_N, wr_N, rd_L, wr_L, Option.bind_some, N_le, N_lt, N_eq, N_leL, L_leN, N_ltL, L_ltN, N_eqL, L_eqN, N_neg, neg_N, N_nlt0, N_0le, N_add, N_addL, L_addN, N_mul, N_mulL, L_mulN, N_sub, N_subL, m_eq, m_ne, u_eq, u_ne, if_true, if_false, ite_true, ite_false, if_pos, if_neg, x1.2.1]
    refine (r_write s2).bind ?_
    rintro s4 t4 ⟨s4', fX4, fM4, C4⟩
    exact ok2.some ⟨rfl, Or.inl rfl, s4', nC_same C2 (fun j h1 h2 => C4 j (by omega)) hn, gX.trans (fX.trans fX4), fM.trans fM4, by dsimp only; rw [C4 0 (by omega)]; exact e20⟩
  · rw [if_neg (by rw [N_neg (by omega)]; exact id), if_neg (by rw [N_neg (by omega)]; exact id), m_byOf (by omega)]
    simp (disch := omega) only [rd_N, wr_N, rd_L, wr_L, Option.bind_some, N_le, N_lt, N_eq, N_leL, L_leN, N_ltL, L_ltN, N_eqL, L_eqN, N_neg, neg_N, N_nlt0, N_0le, N_add, N_addL, L_addN, N_mul, N_mulL, L_mulN, N_sub, N_subL, m_eq, m_ne, u_eq, u_ne, if_true, if_false, ite_true, ite_false, if_pos, if_neg, x0.2.2.1]
    by_cases hby : Int32.ofNat q = t1 1 (32 + p) - 1
    · simp only [if_pos hby]
      have hqn : q < n := by
        have h3 := (h1.2.2.1.2 p hp).2.2.1.2
        have h4 : t1 1 (32 + p) = Int32.ofNat (q + 1) := by
          have : Int32.ofNat (q + 1) = Int32.ofNat q + 1 := by rw [N_addL]
          rw [this, hby]
          grind
        rw [h4, N_le (by omega) (by omega)] at h3
        omega
      clear hby
      have xq := h1.2.1.2 q hqn
      simp (disch := omega) only [rd_N, wr_N, rd_L, wr_L, Option.bind_some, N_le, N_lt, N_eq, N_leL, L_leN, N_ltL, L_ltN, N_eqL, L_eqN, N_neg, neg_N, N_nlt0, N_0le, N_add, N_addL, L_addN, N_mul, N_mulL, L_mulN, N_sub, N_subL, m_eq, m_ne, u_eq, u_ne, if_true, if_false, ite_true, ite_false, if_pos, if_neg, xq.2.2.2.2.2.1]
      have s2 := nS_found (v := t1 1 (74 + q) + 1) h1 hqn trivial
      have fX : nXF a s1 (mset s1 (a + 6) q (t1 1 (74 + q) + 1)) := nXF.put (f := 5) (by omega)
      have fM : nTF t1 (mset t1 1 (74 + q) (t1 1 (74 + q) + 1)) := nTF.put
      have W2 := WS_eq ha W1 fX fM
      refine (r_passes s2 W2.1 hp).bind ?_
      rintro ⟨v, s3⟩ ⟨v', t3⟩ ⟨e1, e2, f1, f2⟩
      dsimp only at e1 e2 f1 f2 ⊢
      subst e1
      have s3' := nS_scr s2 f1 f2
      have e31 : ∀ j, j < 74 → t3 1 j = t1 1 j := fun j hj => by rw [f2 1 (by omega) (by omega), m_eq, u_ne (by omega)]
      have C3 : nC n (t3 1) := nC_same hC (fun j h1 h2 => e31 j (by omega)) hn
      have gX3 := gX.trans (fX.trans (nXF.scr ha f1))
      have gM3 := fM.trans (nTF.scr f2)
      clear gX fX fM f1 f2 s2 W2 W1 h1 hC x0 xq
      have xq := s3'.2.1.2 q hqn
      obtain ⟨k2, ek2, hk2⟩ := N_of (m := 99) e2.1 e2.2 (by omega)
      obtain ⟨kq, ekq, hkq⟩ := hic_N s3' hqn
      clear e2
      subst ek2
      have e30 : t3 1 0 = t1 1 0 := e31 0 (by omega)
      clear e31 ek hk0
      -- the lane of the one found out, in both
      have mid : ∀ s5 t5, nS n a s5 t5 → nC n (t5 1) → nXF a s3 s5 → nTF t3 t5 → t5 1 0 = t3 1 0 →
          ok2 (jn_X10_speak_120 1 a (Int32.ofNat p) (Int32.ofNat q) s5) ((f_X12_notes 3 (Int32.ofNat p) (Int32.ofNat q) (hM p 0 t5)).bind fun r10 => some (1, r10)) (fun r r' => r.1 = r'.1 ∧ (r.1 = 0 ∨ r.1 = 1) ∧ nP n a s t1 r.2 r'.2) := by
        intro s5 t5 s5' C5 fX5 fM5 e50
        unfold jn_X10_speak_120
        rw [x_hiccup (by omega), show cl 0 = 0 from by decide]
        dsimp only [Option.bind_some]
        have s6 := nS_h (v := 0) s5' hp (by decide)
        have C6 := hM_C (v := 0) hn hp C5
        refine (r_write s6).bind ?_
        rintro s7 t7 ⟨s7', fX7, fM7, C7⟩
        exact ok2.some ⟨rfl, Or.inr rfl, s7', nC_same C6 (fun j h1 h2 => C7 j (by omega)) hn, gX3.trans (fX5.trans (hX_f.trans fX7)), gM3.trans (fM5.trans (hM_f.trans fM7)), by dsimp only; rw [C7 0 (by omega), hM_0, e50, e30]⟩
      rw [x_hiccup (by omega), m_hasThen (by omega) (by decide)]
      unfold f_X12_getsFrom
      have e4 : hM p 0 t3 1 (18 + q) = Int32.ofNat kq := by
        unfold hM
        rw [if_pos rfl]
        simp (disch := omega) only [rd_N, wr_N, rd_L, wr_L, Option.bind_some, N_le, N_lt, N_eq, N_leL, L_leN, N_ltL, L_ltN, N_eqL, L_eqN, N_neg, neg_N, N_nlt0, N_0le, N_add, N_addL, L_addN, N_mul, N_mulL, L_mulN, N_sub, N_subL, m_eq, m_ne, u_eq, u_ne, if_true, if_false, ite_true, ite_false, if_pos, if_neg, ekq]
      simp (disch := omega) only [rd_N, wr_N, rd_L, wr_L, Option.bind_some, N_le, N_lt, N_eq, N_leL, L_leN, N_ltL, L_ltN, N_eqL, L_eqN, N_neg, neg_N, N_nlt0, N_0le, N_add, N_addL, L_addN, N_mul, N_mulL, L_mulN, N_sub, N_subL, m_eq, m_ne, u_eq, u_ne, if_true, if_false, ite_true, ite_false, if_pos, if_neg, e4, m_lesser, jm_N, xq.2.1, ekq, cl_N]
      by_cases hk20 : k2 = 0
      · subst hk20
        simp (disch := omega) only [rd_N, wr_N, rd_L, wr_L, Option.bind_some, N_le, N_lt, N_eq, N_leL, L_leN, N_ltL, L_ltN, N_eqL, L_eqN, N_neg, neg_N, N_nlt0, N_0le, N_add, N_addL, L_addN, N_mul, N_mulL, L_mulN, N_sub, N_subL, m_eq, m_ne, u_eq, u_ne, if_true, if_false, ite_true, ite_false, if_pos, if_neg, Nat.add_zero]
        rw [Nat.min_eq_right (by omega), m_id e4]
        have s4 := nS_h (v := Int32.ofNat kq) s3' hqn (N_b (m := 99) (by omega) (by omega))
        rw [hM_keep hqn C3 ekq] at s4
        exact mid _ _ s4 C3 hX_f nTF.refl rfl
      · simp (disch := omega) only [rd_N, wr_N, rd_L, wr_L, Option.bind_some, N_le, N_lt, N_eq, N_leL, L_leN, N_ltL, L_ltN, N_eqL, L_eqN, N_neg, neg_N, N_nlt0, N_0le, N_add, N_addL, L_addN, N_mul, N_mulL, L_mulN, N_sub, N_subL, m_eq, m_ne, u_eq, u_ne, if_true, if_false, ite_true, ite_false, if_pos, if_neg]
        unfold hX
        rw [if_neg (N_ne0 (by omega) (by omega)), x_blame (by omega)]
        dsimp only [Option.bind_some]
        have s4 := nS_tried (v := 0) (by_put (q := p) (nS_hic (v := Int32.ofNat (min 99 (kq + k2))) s3' hqn (N_b (m := 99) (by omega) (by omega))) hqn hp) hqn (by decide)
        rw [N_addL] at s4
        have C4 : nC n ((mset (mset (mset t3 1 (18 + q) (Int32.ofNat (min 99 (kq + k2)))) 1 (32 + q) (Int32.ofNat (p + 1))) 1 (46 + q) 0) 1) := by
          simp (disch := omega) only [rd_N, wr_N, rd_L, wr_L, Option.bind_some, N_le, N_lt, N_eq, N_leL, L_leN, N_ltL, L_ltN, N_eqL, L_eqN, N_neg, neg_N, N_nlt0, N_0le, N_add, N_addL, L_addN, N_mul, N_mulL, L_mulN, N_sub, N_subL, m_eq, m_ne, u_eq, u_ne, if_true, if_false, ite_true, ite_false, if_pos, if_neg]
          exact nC_pos hn hqn C3 (N_ne0 (k := min 99 (kq + k2)) (by omega) (by omega))
        have g := mid _ _ s4 C4 ((nXF.put (f := 1) (by omega)).trans ((nXF.put (f := 2) (by omega)).trans (nXF.put (f := 3) (by omega)))) (nTF.put.trans (nTF.put.trans nTF.put)) (by simp (disch := omega) only [rd_N, wr_N, rd_L, wr_L, Option.bind_some, N_le, N_lt, N_eq, N_leL, L_leN, N_ltL, L_ltN, N_eqL, L_eqN, N_neg, neg_N, N_nlt0, N_0le, N_add, N_addL, L_addN, N_mul, N_mulL, L_mulN, N_sub, N_subL, m_eq, m_ne, u_eq, u_ne, if_true, if_false, ite_true, ite_false, if_pos, if_neg])
        have e : mset (mset (mset (hM p 0 t3) 1 (18 + q) (Int32.ofNat (min 99 (kq + k2)))) 1 (32 + q) (Int32.ofNat (p + 1))) 1 (46 + q) 0 = hM p 0 (mset (mset (mset t3 1 (18 + q) (Int32.ofNat (min 99 (kq + k2)))) 1 (32 + q) (Int32.ofNat (p + 1))) 1 (46 + q) 0) := by
          unfold hM
          rw [if_pos rfl, if_pos rfl]
          rw [m_swap (t := mset (mset t3 1 (18 + p) 0) 1 (32 + p) 0) (by omega), m_swap (t := mset t3 1 (18 + p) 0) (by omega), m_swap (t := t3) (by omega)]
          rw [m_swap (j := 46 + p) (j' := 32 + q) (by omega), m_swap (j := 32 + p) (j' := 32 + q) (by omega), m_swap (j := 18 + p) (j' := 32 + q) (by omega)]
          rw [m_swap (j := 46 + p) (j' := 46 + q) (by omega), m_swap (j := 32 + p) (j' := 46 + q) (by omega), m_swap (j := 18 + p) (j' := 46 + q) (by omega)]
        rw [e]
        exact g
    · simp only [if_neg hby]
      obtain ⟨u, eu, hu⟩ := tried_N h1 hp
      simp (disch := omega) only [rd_N, wr_N, rd_L, wr_L, Option.bind_some, N_le, N_lt, N_eq, N_leL, L_leN, N_ltL, L_ltN, N_eqL, L_eqN, N_neg, neg_N, N_nlt0, N_0le, N_add, N_addL, L_addN, N_mul, N_mulL, L_mulN, N_sub, N_subL, m_eq, m_ne, u_eq, u_ne, if_true, if_false, ite_true, ite_false, if_pos, if_neg, x0.2.2.2.1, eu, L_shl, N_or]
      have hu2 : u ||| 2 ^ q < 16384 := Nat.or_lt_two_pow (n := 14) hu (Nat.pow_lt_pow_right (by omega) hq)
      have s2 := nS_tried (v := Int32.ofNat (u ||| 2 ^ q)) h1 hp ⟨by rw [N_0le (by omega)]; trivial, by rw [N_ltL (by omega) (by omega)]; exact hu2⟩
      refine (r_write s2).bind ?_
      rintro s4 t4 ⟨s4', fX4, fM4, C4⟩
      refine ok2.some ⟨rfl, Or.inl rfl, s4', ?_, gX.trans ((nXF.put (f := 3) (by omega)).trans fX4), nTF.put.trans fM4, by dsimp only; rw [C4 0 (by omega)]; simp (disch := omega) only [rd_N, wr_N, rd_L, wr_L, Option.bind_some, N_le, N_lt, N_eq, N_leL, L_leN, N_ltL, L_ltN, N_eqL, L_eqN, N_neg, neg_N, N_nlt0, N_0le, N_add, N_addL, L_addN, N_mul, N_mulL, L_mulN, N_sub, N_subL, m_eq, m_ne, u_eq, u_ne, if_true, if_false, ite_true, ite_false, if_pos, if_neg]⟩
      refine nC_same ?_ (fun j h1 h2 => C4 j (by omega)) hn
      rw [m_eq]
      exact nC_tried hn hp hC hk0
