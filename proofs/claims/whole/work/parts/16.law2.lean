/-! ===== counting out, here and in the reference ===== -/
theorem op2_c {c x y v : Int32} (h : op2 c x y = some v) : 20000 ≤ c ∧ c < 20009 := by
  unfold op2 at h
  by_cases h0 : c = 20000
  · subst h0; decide
  · by_cases h1 : c = 20001
    · subst h1; decide
    · by_cases h2 : c = 20002
      · subst h2; decide
      · by_cases h3 : c = 20003
        · subst h3; decide
        · by_cases h4 : c = 20004
          · subst h4; decide
          · by_cases h5 : c = 20005
            · subst h5; decide
            · by_cases h6 : c = 20006
              · subst h6; decide
              · by_cases h7 : c = 20007
                · subst h7; decide
                · by_cases h8 : c = 20008
                  · subst h8; decide
                  · rw [if_neg h0, if_neg h1, if_neg h2, if_neg h3, if_neg h4, if_neg h5, if_neg h6, if_neg h7, if_neg h8] at h
                    cases h
theorem ev1_inv {F : Nat → Int32} {c : Int32} {st st' : List Int32} (h : ev1 F c st = some st') :
    (0 ≤ c ∧ c < 10000 ∧ st' = c :: st ∧ st.length < 60) ∨ (∃ j, j < 8 ∧ c = Int32.ofNat (10000 + j) ∧ st' = F j :: st ∧ st.length < 60) ∨
    (c = 20009 ∧ ∃ v r, st = v :: r ∧ (v = 0 ∨ v = 1) ∧ st' = (if v = 0 then 1 else 0) :: r) ∨ (20000 ≤ c ∧ c < 20009 ∧ ∃ x y r v, st = y :: x :: r ∧ op2 c x y = some v ∧ st' = v :: r) := by
  unfold ev1 at h
  by_cases h1 : 0 ≤ c ∧ c < 10000
  · rw [if_pos h1] at h
    split at h
    · cases h
      exact Or.inl ⟨h1.1, h1.2, rfl, by assumption⟩
    · cases h
  · rw [if_neg h1] at h
    by_cases h2 : 10000 ≤ c ∧ c < 10008
    · rw [if_pos h2] at h
      split at h
      · cases h
        refine Or.inr (Or.inl ?_)
        have h3 : 0 ≤ c - 10000 ∧ c - 10000 ≤ Int32.ofNat 7 := by
          have : Int32.ofNat 7 = 7 := rfl
          grind
        obtain ⟨j, ej, hj⟩ := N_of h3.1 h3.2 (by omega)
        refine ⟨j, by omega, ?_, ?_, by assumption⟩
        · have : Int32.ofNat (10000 + j) = 10000 + Int32.ofNat j := by rw [L_addN]
          rw [this, ← ej]
          grind
        · rw [ej, N_nat (by omega)]
      · cases h
    · rw [if_neg h2] at h
      by_cases h3 : c = 20009
      · rw [if_pos h3] at h
        split at h
        · split at h
          · cases h
            exact Or.inr (Or.inr (Or.inl ⟨h3, _, _, rfl, by assumption, rfl⟩))
          · cases h
        · cases h
      · rw [if_neg h3] at h
        split at h
        · obtain ⟨v, e, e'⟩ := Option.map_eq_some_iff.mp h
          have := op2_c e
          exact Or.inr (Or.inr (Or.inr ⟨this.1, this.2, _, _, _, v, rfl, e, e'.symm⟩))
        · cases h
theorem ev1_len {F : Nat → Int32} {c : Int32} {st st' : List Int32} (h : ev1 F c st = some st') (hl : st.length ≤ 60) : st'.length ≤ 60 := by
  rcases ev1_inv h with ⟨-, -, rfl, h1⟩ | ⟨j, -, -, rfl, h1⟩ | ⟨-, v, r, rfl, -, rfl⟩ | ⟨-, -, x, y, r, v, rfl, -, rfl⟩
  · simp only [List.length_cons]; omega
  · simp only [List.length_cons]; omega
  · simpa using hl
  · simp only [List.length_cons] at hl ⊢; omega
theorem x_joined {c x y v : Int32} {s : Mem} (h : op2 c x y = some v) : f_X1_joined c x y s = some (v, s) := by
  unfold op2 at h
  unfold f_X1_joined
  by_cases h0 : c = 20000
  · subst h0; rw [if_pos rfl] at h ⊢; cases h; rfl
  · rw [if_neg h0] at h ⊢
    by_cases h1 : c = 20001
    · subst h1; rw [if_pos rfl] at h ⊢; cases h; rfl
    · rw [if_neg h1] at h ⊢
      by_cases h2 : c = 20002
      · subst h2; rw [if_pos rfl] at h ⊢; cases h; rfl
      · rw [if_neg h2] at h ⊢
        by_cases h3 : c = 20003
        · subst h3; rw [if_pos rfl] at h ⊢
          split at h
          · cases h
          · next hy => cases h; rw [if_neg hy, if_neg hy]
        · rw [if_neg h3] at h ⊢
          by_cases h4 : c = 20004
          · subst h4; rw [if_pos rfl] at h ⊢; cases h
            by_cases hq : y ≤ x
            · rw [if_pos hq, if_neg (by grind)]
            · rw [if_neg hq, if_pos (by grind)]
          · rw [if_neg h4] at h ⊢
            by_cases h5 : c = 20005
            · subst h5; rw [if_pos rfl] at h ⊢; cases h
              split <;> rfl
            · rw [if_neg h5] at h ⊢
              by_cases h6 : c = 20006
              · subst h6; rw [if_pos rfl] at h ⊢; cases h
                by_cases hq : x ≤ y
                · rw [if_pos hq, if_neg (by grind)]
                · rw [if_neg hq, if_pos (by grind)]
              · rw [if_neg h6] at h ⊢
                by_cases h7 : c = 20007
                · subst h7; rw [if_pos rfl] at h ⊢
                  split at h
                  · cases h; rfl
                  · cases h
                · rw [if_neg h7] at h ⊢
                  by_cases h8 : c = 20008
                  · subst h8; rw [if_pos rfl] at h
                    split at h
                    · cases h; rfl
                    · cases h
                  · rw [if_neg h8] at h; cases h
theorem m_twoOf {c op arg x y v : Int32} {t : Mem} (hc : cdR c op arg) (h : op2 c x y = some v) : f_X12_twoOf op x y t = some (v, t) := by
  have hb := op2_c h
  unfold f_X12_twoOf
  unfold op2 at h
  rcases hc with ⟨h1, h2, -⟩ | ⟨h1, h2, -⟩ | ⟨rfl, rfl⟩ | ⟨rfl, rfl⟩ | ⟨rfl, rfl⟩ | ⟨rfl, rfl⟩ | ⟨rfl, rfl⟩ | ⟨rfl, rfl⟩ | ⟨rfl, rfl⟩ | ⟨rfl, rfl⟩ | ⟨rfl, rfl⟩ | ⟨rfl, rfl⟩
  · exfalso; grind
  · exfalso; grind
  · rw [if_pos rfl] at h ⊢; cases h; rfl
  · rw [if_neg (by decide), if_pos rfl] at h ⊢; cases h; rfl
  · rw [if_neg (by decide), if_neg (by decide), if_pos rfl] at h ⊢; cases h; rfl
  · rw [if_neg (by decide), if_neg (by decide), if_neg (by decide), if_pos rfl] at h ⊢
    split at h
    · cases h
    · next hy => cases h; rw [if_neg hy]
  · rw [if_neg (by decide), if_neg (by decide), if_neg (by decide), if_neg (by decide), if_pos rfl] at h ⊢; cases h
    by_cases hq : y ≤ x
    · rw [if_pos hq, if_neg (by grind)]
    · rw [if_neg hq, if_pos (by grind)]
  · rw [if_neg (by decide), if_neg (by decide), if_neg (by decide), if_neg (by decide), if_neg (by decide), if_pos rfl] at h ⊢; cases h
    split <;> rfl
  · rw [if_neg (by decide), if_neg (by decide), if_neg (by decide), if_neg (by decide), if_neg (by decide), if_neg (by decide), if_pos rfl] at h ⊢; cases h
    by_cases hq : x ≤ y
    · rw [if_pos hq, if_neg (by grind)]
    · rw [if_neg hq, if_pos (by grind)]
  · rw [if_neg (by decide), if_neg (by decide), if_neg (by decide), if_neg (by decide), if_neg (by decide), if_neg (by decide), if_neg (by decide), if_pos rfl] at h ⊢
    split at h
    · next hq =>
      cases h
      obtain ⟨rfl | rfl, rfl | rfl⟩ := hq <;> rfl
    · cases h
  · rw [if_neg (by decide), if_neg (by decide), if_neg (by decide), if_neg (by decide), if_neg (by decide), if_neg (by decide), if_neg (by decide), if_neg (by decide), if_pos rfl] at h
    rw [if_neg (by decide), if_neg (by decide), if_neg (by decide), if_neg (by decide), if_neg (by decide), if_neg (by decide), if_neg (by decide), if_neg (by decide)]
    split at h
    · next hq =>
      cases h
      obtain ⟨rfl | rfl, rfl | rfl⟩ := hq <;> rfl
    · cases h
  · exact absurd hb.2 (by decide)
theorem x_vstep {n a p i e sz : Nat} {s t : Mem} {st st' : List Int32} (h : nS n a s t) (hz : s 10 1 = Int32.ofNat sz) (hz2 : e ≤ sz) (hz4 : sz ≤ 400) (hp : p < n) (hs : stkR (s 16) st) (hl : st.length ≤ 60) (hi : i < e) (he : e ≤ 400) (hv : ev1 (fct (t 1) p) (s 15 i) st = some st') :
    ∃ s', st_X1_value_6 10 a (Int32.ofNat e) (Int32.ofNat p) (Int32.ofNat st.length) (Int32.ofNat i) s = some (.inl (Int32.ofNat st'.length, Int32.ofNat (i + 1), s')) ∧ nSX s s' ∧ (∀ c, c ≠ 16 → s' c = s c) ∧ stkR (s' 16) st' := by
  have frame : ∀ {k : Nat} {v : Int32}, nSX s (mset s 16 k v) ∧ (∀ c, c ≠ 16 → (mset s 16 k v) c = s c) := fun {k v} => ⟨fun c h1 _ => m_ne h1, fun c h1 => m_ne h1⟩
  unfold st_X1_value_6
  simp (disch := omega) only [rd_N, wr_N, rd_L, wr_L, Option.bind_some, N_le, N_lt, N_eq, N_leL, L_leN, N_ltL, L_ltN, N_eqL, L_eqN, N_neg, neg_N, N_nlt0, N_0le, N_add, N_addL, L_addN, N_mul, N_mulL, L_mulN, N_sub, N_subL, m_eq, m_ne, u_eq, u_ne, if_true, if_false, ite_true, ite_false, if_pos, if_neg, hz]
  rcases ev1_inv hv with ⟨h1, h2, rfl, h3⟩ | ⟨j, hj, ej, rfl, h3⟩ | ⟨ec, v, r, rfl, hb, rfl⟩ | ⟨h1, h2, x, y, r, v, rfl, hop, rfl⟩
  · rw [if_neg (by grind), if_neg (by grind)]
    unfold jn_X1_value_76
    simp (disch := omega) only [rd_N, wr_N, rd_L, wr_L, Option.bind_some, N_le, N_lt, N_eq, N_leL, L_leN, N_ltL, L_ltN, N_eqL, L_eqN, N_neg, neg_N, N_nlt0, N_0le, N_add, N_addL, L_addN, N_mul, N_mulL, L_mulN, N_sub, N_subL, m_eq, m_ne, u_eq, u_ne, if_true, if_false, ite_true, ite_false, if_pos, if_neg]
    refine ⟨_, rfl, frame.1, frame.2, ?_⟩
    rw [m_eq]
    exact ⟨u_eq, stkR_upd hs (Nat.le_refl _)⟩
  · rw [ej]
    simp (disch := omega) only [rd_N, wr_N, rd_L, wr_L, Option.bind_some, N_le, N_lt, N_eq, N_leL, L_leN, N_ltL, L_ltN, N_eqL, L_eqN, N_neg, neg_N, N_nlt0, N_0le, N_add, N_addL, L_addN, N_mul, N_mulL, L_mulN, N_sub, N_subL, m_eq, m_ne, u_eq, u_ne, if_true, if_false, ite_true, ite_false, if_pos, if_neg]
    rw [show 10000 + j - 10000 = j by omega, x_fact h hp hj]
    unfold jn_X1_value_76
    simp (disch := omega) only [rd_N, wr_N, rd_L, wr_L, Option.bind_some, N_le, N_lt, N_eq, N_leL, L_leN, N_ltL, L_ltN, N_eqL, L_eqN, N_neg, neg_N, N_nlt0, N_0le, N_add, N_addL, L_addN, N_mul, N_mulL, L_mulN, N_sub, N_subL, m_eq, m_ne, u_eq, u_ne, if_true, if_false, ite_true, ite_false, if_pos, if_neg]
    refine ⟨_, rfl, frame.1, frame.2, ?_⟩
    rw [m_eq]
    exact ⟨u_eq, stkR_upd hs (Nat.le_refl _)⟩
  · simp only [List.length_cons] at hl ⊢
    rw [ec, if_pos (by decide), if_pos rfl]
    simp (disch := omega) only [rd_N, wr_N, rd_L, wr_L, Option.bind_some, N_le, N_lt, N_eq, N_leL, L_leN, N_ltL, L_ltN, N_eqL, L_eqN, N_neg, neg_N, N_nlt0, N_0le, N_add, N_addL, L_addN, N_mul, N_mulL, L_mulN, N_sub, N_subL, m_eq, m_ne, u_eq, u_ne, if_true, if_false, ite_true, ite_false, if_pos, if_neg]
    rw [show r.length + 1 - 1 = r.length by omega, hs.1]
    unfold jn_X1_value_121
    simp (disch := omega) only [rd_N, wr_N, rd_L, wr_L, Option.bind_some, N_le, N_lt, N_eq, N_leL, L_leN, N_ltL, L_ltN, N_eqL, L_eqN, N_neg, neg_N, N_nlt0, N_0le, N_add, N_addL, L_addN, N_mul, N_mulL, L_mulN, N_sub, N_subL, m_eq, m_ne, u_eq, u_ne, if_true, if_false, ite_true, ite_false, if_pos, if_neg]
    by_cases hv0 : v = 0
    · rw [if_pos hv0, if_pos hv0]
      refine ⟨_, rfl, frame.1, frame.2, ?_⟩
      rw [m_eq]
      exact ⟨u_eq, stkR_upd hs.2 (Nat.le_refl _)⟩
    · rw [if_neg hv0, if_neg hv0]
      refine ⟨_, rfl, frame.1, frame.2, ?_⟩
      rw [m_eq]
      exact ⟨u_eq, stkR_upd hs.2 (Nat.le_refl _)⟩
  · simp only [List.length_cons] at hl ⊢
    rw [if_pos h1, if_neg (by grind)]
    have e1 : Int32.ofNat (r.length + 1 + 1) + (-1) = Int32.ofNat (r.length + 1) := by
      rw [show Int32.ofNat (r.length + 1 + 1) = Int32.ofNat (r.length + 1) + 1 by rw [N_addL]]
      grind
    rw [e1]
    have e2 : Int32.ofNat (r.length + 1) - 1 = Int32.ofNat r.length := by rw [N_subL (by omega)]; congr 1
    rw [e2]
    have q1 := hs.1
    have q2 := hs.2.1
    simp only [List.length_cons] at q1
    simp (disch := omega) only [rd_N, wr_N, rd_L, wr_L, Option.bind_some, N_le, N_lt, N_eq, N_leL, L_leN, N_ltL, L_ltN, N_eqL, L_eqN, N_neg, neg_N, N_nlt0, N_0le, N_add, N_addL, L_addN, N_mul, N_mulL, L_mulN, N_sub, N_subL, m_eq, m_ne, u_eq, u_ne, if_true, if_false, ite_true, ite_false, if_pos, if_neg, q1, q2, x_joined hop]
    refine ⟨_, rfl, frame.1, frame.2, ?_⟩
    rw [m_eq]
    exact ⟨u_eq, stkR_upd hs.2.2 (Nat.le_refl _)⟩
theorem m_vstep {F : Nat → Int32} {c : Int32} {i e : Nat} {t : Mem} {st st' : List Int32} (hF : ∀ j, j < 8 → t 19 j = F j) (hc : cdR c (t 12 i) (t 13 i)) (hs : stkR (t 20) st) (hl : st.length ≤ 60) (hi : i < e) (he : e ≤ 400) (hv : ev1 F c st = some st') :
    ∃ t', st_X12_runs_12 0 (Int32.ofNat e) (Int32.ofNat st.length) (Int32.ofNat i) t = some (.inl (Int32.ofNat st'.length, Int32.ofNat (i + 1), t')) ∧ (∀ c, c ≠ 20 → t' c = t c) ∧ stkR (t' 20) st' := by
  have frame : ∀ {k : Nat} {v : Int32}, (∀ c, c ≠ 20 → (mset t 20 k v) c = t c) := fun {k v} c h1 => m_ne h1
  unfold st_X12_runs_12
  have e0 : (400 * 0 + Int32.ofNat e ≤ Int32.ofNat i) = False := by
    rw [show (400 * 0 + Int32.ofNat e : Int32) = Int32.ofNat e by grind, N_le (by omega) (by omega)]
    simp; omega
  simp only [e0, if_false]
  simp (disch := omega) only [rd_N, wr_N, rd_L, wr_L, Option.bind_some, N_le, N_lt, N_eq, N_leL, L_leN, N_ltL, L_ltN, N_eqL, L_eqN, N_neg, neg_N, N_nlt0, N_0le, N_add, N_addL, L_addN, N_mul, N_mulL, L_mulN, N_sub, N_subL, m_eq, m_ne, u_eq, u_ne, if_true, if_false, ite_true, ite_false, if_pos, if_neg]
  rcases ev1_inv hv with ⟨h1, h2, rfl, h3⟩ | ⟨j, hj, ej, rfl, h3⟩ | ⟨ec, v, r, rfl, hb, rfl⟩ | ⟨h1, h2, x, y, r, v, rfl, hop, rfl⟩
  · have hop : t 12 i = 0 ∧ t 13 i = c := by
      rcases hc with ⟨-, -, q1, q2⟩ | ⟨q, -, -⟩ | ⟨rfl, -⟩ | ⟨rfl, -⟩ | ⟨rfl, -⟩ | ⟨rfl, -⟩ | ⟨rfl, -⟩ | ⟨rfl, -⟩ | ⟨rfl, -⟩ | ⟨rfl, -⟩ | ⟨rfl, -⟩ | ⟨rfl, -⟩
      · exact ⟨q1, q2⟩
      · exfalso; grind
      all_goals exact absurd h2 (by decide)
    rw [if_pos hop.1]
    unfold jn_X12_runs_45 jn_X12_runs_83
    simp (disch := omega) only [rd_N, wr_N, rd_L, wr_L, Option.bind_some, N_le, N_lt, N_eq, N_leL, L_leN, N_ltL, L_ltN, N_eqL, L_eqN, N_neg, neg_N, N_nlt0, N_0le, N_add, N_addL, L_addN, N_mul, N_mulL, L_mulN, N_sub, N_subL, m_eq, m_ne, u_eq, u_ne, if_true, if_false, ite_true, ite_false, if_pos, if_neg, hop.1, hop.2]
    refine ⟨_, rfl, frame, ?_⟩
    rw [m_eq]
    exact ⟨u_eq, stkR_upd hs (Nat.le_refl _)⟩
  · have hop : t 12 i = 1 ∧ t 13 i = Int32.ofNat j := by
      have hj2 : 10000 ≤ c ∧ c < 10008 := by
        rw [ej]
        exact ⟨by rw [L_leN (by omega) (by omega)]; omega, by rw [N_ltL (by omega) (by omega)]; omega⟩
      rcases hc with ⟨-, q, -⟩ | ⟨-, -, q1, q2⟩ | ⟨rfl, -⟩ | ⟨rfl, -⟩ | ⟨rfl, -⟩ | ⟨rfl, -⟩ | ⟨rfl, -⟩ | ⟨rfl, -⟩ | ⟨rfl, -⟩ | ⟨rfl, -⟩ | ⟨rfl, -⟩ | ⟨rfl, -⟩
      · exfalso; grind
      · refine ⟨q1, ?_⟩
        rw [q2, ej, N_subL (by omega), show 10000 + j - 10000 = j by omega]
      all_goals exact absurd hj2.2 (by decide)
    rw [if_neg (by rw [hop.1]; decide), if_pos hop.1]
    unfold jn_X12_runs_45 jn_X12_runs_83
    simp (disch := omega) only [rd_N, wr_N, rd_L, wr_L, Option.bind_some, N_le, N_lt, N_eq, N_leL, L_leN, N_ltL, L_ltN, N_eqL, L_eqN, N_neg, neg_N, N_nlt0, N_0le, N_add, N_addL, L_addN, N_mul, N_mulL, L_mulN, N_sub, N_subL, m_eq, m_ne, u_eq, u_ne, if_true, if_false, ite_true, ite_false, if_pos, if_neg, hop.1, hop.2]
    rw [if_neg (by decide)]
    refine ⟨_, rfl, frame, ?_⟩
    rw [m_eq]
    exact ⟨by rw [u_eq, hF j hj], stkR_upd hs (Nat.le_refl _)⟩
  · have hop : t 12 i = 9 := by
      subst ec
      rcases hc with ⟨-, q, -⟩ | ⟨-, q, -⟩ | ⟨q, -⟩ | ⟨q, -⟩ | ⟨q, -⟩ | ⟨q, -⟩ | ⟨q, -⟩ | ⟨q, -⟩ | ⟨q, -⟩ | ⟨q, -⟩ | ⟨q, -⟩ | ⟨-, q⟩
      · exact absurd q (by decide)
      · exact absurd q (by decide)
      all_goals first | exact q | exact absurd q (by decide)
    simp only [List.length_cons] at hl ⊢
    rw [if_neg (by rw [hop]; decide), if_neg (by rw [hop]; decide), if_pos hop]
    simp (disch := omega) only [rd_N, wr_N, rd_L, wr_L, Option.bind_some, N_le, N_lt, N_eq, N_leL, L_leN, N_ltL, L_ltN, N_eqL, L_eqN, N_neg, neg_N, N_nlt0, N_0le, N_add, N_addL, L_addN, N_mul, N_mulL, L_mulN, N_sub, N_subL, m_eq, m_ne, u_eq, u_ne, if_true, if_false, ite_true, ite_false, if_pos, if_neg]
    rw [show r.length + 1 - 1 = r.length by omega, hs.1]
    refine ⟨_, rfl, frame, ?_⟩
    rw [m_eq]
    refine ⟨?_, stkR_upd hs.2 (Nat.le_refl _)⟩
    rw [u_eq]
    rcases hb with rfl | rfl <;> rfl
  · have hop2 : t 12 i ≠ 0 ∧ t 12 i ≠ 1 ∧ t 12 i ≠ 9 := by
      rcases hc with ⟨-, q, -⟩ | ⟨-, q, -⟩ | ⟨-, q⟩ | ⟨-, q⟩ | ⟨-, q⟩ | ⟨-, q⟩ | ⟨-, q⟩ | ⟨-, q⟩ | ⟨-, q⟩ | ⟨-, q⟩ | ⟨-, q⟩ | ⟨q, -⟩
      · exfalso; grind
      · exfalso; grind
      all_goals first | (rw [q]; decide) | (subst q; exact absurd h2 (by decide))
    simp only [List.length_cons] at hl ⊢
    rw [if_neg hop2.1, if_neg hop2.2.1, if_neg hop2.2.2]
    have e1 : Int32.ofNat (r.length + 1 + 1) - 1 = Int32.ofNat (r.length + 1) := by rw [N_subL (by omega)]; congr 1
    have e2 : Int32.ofNat (r.length + 1) - 1 = Int32.ofNat r.length := by rw [N_subL (by omega)]; congr 1
    rw [e1, e2]
    have q1 := hs.1
    have q2 := hs.2.1
    simp only [List.length_cons] at q1
    simp (disch := omega) only [rd_N, wr_N, rd_L, wr_L, Option.bind_some, N_le, N_lt, N_eq, N_leL, L_leN, N_ltL, L_ltN, N_eqL, L_eqN, N_neg, neg_N, N_nlt0, N_0le, N_add, N_addL, L_addN, N_mul, N_mulL, L_mulN, N_sub, N_subL, m_eq, m_ne, u_eq, u_ne, if_true, if_false, ite_true, ite_false, if_pos, if_neg, q1, q2, m_twoOf hc hop]
    refine ⟨_, rfl, frame, ?_⟩
    rw [m_eq]
    exact ⟨u_eq, stkR_upd hs.2.2 (Nat.le_refl _)⟩
