/-! ===== whom one says ===== -/
def pickK (C : List Nat) (kk : Nat) : Int32 := match C[kk]? with
  | some q => Int32.ofNat q
  | none => -1
def firstC (C : List Nat) (u : Nat) : Int32 := match C.find? (fun q => !u.testBit q) with
  | some q => Int32.ofNat q
  | none => -1
theorem x_nameAt {s m : Mem} {n cnt p k kk : Nat} {nm : Nat → Nat} (hn : n ≤ 14) (hp : p < 14) (hc : cnt ≤ 16) (h0 : s 27 0 = Int32.ofNat cnt) (h : nmR n s 27 m cnt p k nm) (hk : kk < 14) :
    ok (f_X3_nameAt 27 (Int32.ofNat p) (Int32.ofNat kk) (Int32.ofNat n) s) (fun r => r.1 = pickK (cnd nm k p (k + n)) kk ∧ ∀ c, c ≠ 31 → r.2 c = s c) := by
  have hnm : ∀ i, i < k → nm i < 14 := fun i hi => by have := (h.2.2.1 i hi).1; omega
  have hl := cnd_len (k := k) (p := p) (m := k + n) hn hnm hp (by omega)
  unfold f_X3_nameAt
  refine (x_fill hn hp hc h0 h).bind ?_
  rintro ⟨l, s'⟩ ⟨e1, ha, hf⟩
  dsimp only at e1 ha hf ⊢
  subst e1
  clear h h0 hnm
  generalize hC : cnd nm k p (k + n) = C at *
  unfold pickK
  by_cases hkl : kk < C.length
  · simp (disch := omega) only [rd_N, wr_N, rd_L, wr_L, Option.bind_some, N_le, N_lt, N_eq, N_leL, L_leN, N_ltL, L_ltN, N_eqL, L_eqN, N_neg, neg_N, N_nlt0, N_0le, N_add, N_addL, L_addN, N_mul, N_mulL, L_mulN, N_sub, N_subL, m_eq, m_ne, u_eq, u_ne, if_true, if_false, ite_true, ite_false, if_pos, if_neg]
    rw [List.getElem?_eq_getElem hkl, ha kk _ (List.getElem?_eq_getElem hkl)]
    exact ok.some ⟨rfl, hf⟩
  · simp (disch := omega) only [rd_N, wr_N, rd_L, wr_L, Option.bind_some, N_le, N_lt, N_eq, N_leL, L_leN, N_ltL, L_ltN, N_eqL, L_eqN, N_neg, neg_N, N_nlt0, N_0le, N_add, N_addL, L_addN, N_mul, N_mulL, L_mulN, N_sub, N_subL, m_eq, m_ne, u_eq, u_ne, if_true, if_false, ite_true, ite_false, if_pos, if_neg]
    rw [List.getElem?_eq_none (by omega)]
    exact ok.some ⟨rfl, hf⟩
theorem x_firstUntried {s m : Mem} {n cnt p k u : Nat} {nm : Nat → Nat} (hn : n ≤ 14) (hp : p < 14) (hc : cnt ≤ 16) (h0 : s 27 0 = Int32.ofNat cnt) (h : nmR n s 27 m cnt p k nm) (hu : u < 16384) :
    ok (f_X3_firstUntried 27 (Int32.ofNat p) (Int32.ofNat n) (Int32.ofNat u) s) (fun r => r.1 = firstC (cnd nm k p (k + n)) u ∧ ∀ c, c ≠ 31 → r.2 c = s c) := by
  have hnm : ∀ i, i < k → nm i < 14 := fun i hi => by have := (h.2.2.1 i hi).1; omega
  have hl := cnd_len (k := k) (p := p) (m := k + n) hn hnm hp (by omega)
  have hm := fun q => cnd_mem (p := p) hn hnm (Nat.le_refl _) q
  unfold f_X3_firstUntried
  refine (x_fill hn hp hc h0 h).bind ?_
  rintro ⟨l, s'⟩ ⟨e1, ha, hf⟩
  dsimp only at e1 ha hf ⊢
  subst e1
  clear h h0 hnm
  generalize hC : cnd nm k p (k + n) = C at *
  have key : ok (it FUEL (fun y => st_X3_firstUntried_11 27 (Int32.ofNat u) (Int32.ofNat C.length) y.1 y.2) (0, s')) (fun r => r.2.2 = s' ∧ ((r.1 = 0 ∧ ∃ i q, C[i]? = some q ∧ r.2.1 = Int32.ofNat i ∧ C.find? (fun q => !u.testBit q) = some q) ∨ (r.1 = 1 ∧ C.find? (fun q => !u.testBit q) = none))) := by
    refine it_ok1 14 (by omega) (fun i y => y = (Int32.ofNat i, s') ∧ i ≤ C.length ∧ C.find? (fun q => !u.testBit q) = (C.drop i).find? (fun q => !u.testBit q)) ⟨rfl, by omega, by simp⟩ (fun i y q => by omega) ?_
    rintro i y ⟨rfl, hi, hfd⟩
    dsimp only
    unfold st_X3_firstUntried_11
    by_cases hil : i = C.length
    · subst hil
      simp (disch := omega) only [rd_N, wr_N, rd_L, wr_L, Option.bind_some, N_le, N_lt, N_eq, N_leL, L_leN, N_ltL, L_ltN, N_eqL, L_eqN, N_neg, neg_N, N_nlt0, N_0le, N_add, N_addL, L_addN, N_mul, N_mulL, L_mulN, N_sub, N_subL, m_eq, m_ne, u_eq, u_ne, if_true, if_false, ite_true, ite_false, if_pos, if_neg]
      refine Or.inr ⟨_, rfl, rfl, Or.inr ⟨rfl, ?_⟩⟩
      rw [hfd]
      simp
    · have hil2 : i < C.length := by omega
      have hq := ha i _ (List.getElem?_eq_getElem hil2)
      have hq14 := (hm _ (List.getElem_mem hil2)).1
      generalize hqq : C[i] = q at *
      have hd : C.drop i = q :: C.drop (i + 1) := by rw [List.drop_eq_getElem_cons hil2, hqq]
      simp (disch := omega) only [rd_N, wr_N, rd_L, wr_L, Option.bind_some, N_le, N_lt, N_eq, N_leL, L_leN, N_ltL, L_ltN, N_eqL, L_eqN, N_neg, neg_N, N_nlt0, N_0le, N_add, N_addL, L_addN, N_mul, N_mulL, L_mulN, N_sub, N_subL, m_eq, m_ne, u_eq, u_ne, if_true, if_false, ite_true, ite_false, if_pos, if_neg, hq, N_bit]
      by_cases hb : u.testBit q = true
      · simp only [hb, if_true, show ((1 : Int32) = 0) = False from by decide, if_false]
        refine Or.inl ⟨_, rfl, rfl, by omega, ?_⟩
        rw [hfd, hd, List.find?_cons]
        simp [hb]
      · simp only [hb, if_false, if_true]
        refine Or.inr ⟨_, rfl, rfl, Or.inl ⟨rfl, i, q, ?_, rfl, ?_⟩⟩
        · rw [List.getElem?_eq_getElem hil2, hqq]
        · rw [hfd, hd, List.find?_cons]
          simp [hb]
  refine key.bind ?_
  rintro ⟨b, i', s''⟩ ⟨e0, ⟨e1, i, q, h1, h2, h3⟩ | ⟨e1, h3⟩⟩
  · dsimp only at e0 e1 h2 ⊢
    subst e0 e1 h2
    have hi := (List.getElem?_eq_some_iff.mp h1).1
    rw [if_pos rfl]
    simp (disch := omega) only [rd_N, wr_N, rd_L, wr_L, Option.bind_some, N_le, N_lt, N_eq, N_leL, L_leN, N_ltL, L_ltN, N_eqL, L_eqN, N_neg, neg_N, N_nlt0, N_0le, N_add, N_addL, L_addN, N_mul, N_mulL, L_mulN, N_sub, N_subL, m_eq, m_ne, u_eq, u_ne, if_true, if_false, ite_true, ite_false, if_pos, if_neg, ha i q h1]
    unfold firstC
    rw [h3]
    exact ok.some ⟨rfl, hf⟩
  · dsimp only at e0 e1 ⊢
    subst e0 e1
    rw [if_neg (by decide)]
    unfold firstC
    rw [h3]
    exact ok.some ⟨rfl, hf⟩
theorem m_nameOf {t : Mem} {p i q : Nat} (hp : p < 14) (hi : i < 6) (h : t 18 (6 * p + i) = Int32.ofNat q) : f_X12_nameOf (Int32.ofNat p) (Int32.ofNat i) t = some (Int32.ofNat q, t) := by
  unfold f_X12_nameOf
  simp (disch := omega) only [rd_N, wr_N, rd_L, wr_L, Option.bind_some, N_le, N_lt, N_eq, N_leL, L_leN, N_ltL, L_ltN, N_eqL, L_eqN, N_neg, neg_N, N_nlt0, N_0le, N_add, N_addL, L_addN, N_mul, N_mulL, L_mulN, N_sub, N_subL, m_eq, m_ne, u_eq, u_ne, if_true, if_false, ite_true, ite_false, if_pos, if_neg, h]
theorem m_isToldAhead {t : Mem} {p q jj k : Nat} {nm : Nat → Nat} (hp : p < 14) (hq : q < 14) (hk : k ≤ 6) (hj : jj ≤ k) (h : ∀ i, i < k → nm i < 14 ∧ t 18 (6 * p + i) = Int32.ofNat (nm i)) :
    ok (f_X12_isToldAhead (Int32.ofNat p) (Int32.ofNat q) (Int32.ofNat jj) t) (fun r => r.2 = t ∧ ((r.1 = 1 ∧ ∃ j, j < jj ∧ nm j = q) ∨ (r.1 = 0 ∧ ∀ j, j < jj → nm j ≠ q))) := by
  have key : ok (it FUEL (fun y => st_X12_isToldAhead_3 (Int32.ofNat p) (Int32.ofNat q) (Int32.ofNat jj) y.1 y.2) (0, t)) (fun r => r.2 = t ∧ ((r.1 = 0 ∧ ∃ j, j < jj ∧ nm j = q) ∨ (r.1 = 1 ∧ ∀ j, j < jj → nm j ≠ q))) := by
    refine it_ok1 6 (by omega) (fun i y => y = (Int32.ofNat i, t) ∧ i ≤ jj ∧ ∀ j, j < i → nm j ≠ q) ⟨rfl, by omega, fun j hj => by omega⟩ (fun i y q => by omega) ?_
    rintro i y ⟨rfl, hi, hno⟩
    dsimp only
    unfold st_X12_isToldAhead_3
    by_cases hij : i = jj
    · subst hij
      simp (disch := omega) only [rd_N, wr_N, rd_L, wr_L, Option.bind_some, N_le, N_lt, N_eq, N_leL, L_leN, N_ltL, L_ltN, N_eqL, L_eqN, N_neg, neg_N, N_nlt0, N_0le, N_add, N_addL, L_addN, N_mul, N_mulL, L_mulN, N_sub, N_subL, m_eq, m_ne, u_eq, u_ne, if_true, if_false, ite_true, ite_false, if_pos, if_neg]
      exact Or.inr ⟨_, rfl, rfl, Or.inr ⟨rfl, hno⟩⟩
    · obtain ⟨g1, g2⟩ := h i (by omega)
      simp (disch := omega) only [rd_N, wr_N, rd_L, wr_L, Option.bind_some, N_le, N_lt, N_eq, N_leL, L_leN, N_ltL, L_ltN, N_eqL, L_eqN, N_neg, neg_N, N_nlt0, N_0le, N_add, N_addL, L_addN, N_mul, N_mulL, L_mulN, N_sub, N_subL, m_eq, m_ne, u_eq, u_ne, if_true, if_false, ite_true, ite_false, if_pos, if_neg, m_nameOf hp (by omega) g2]
      by_cases hqq : nm i = q
      · rw [if_pos hqq]
        exact Or.inr ⟨_, rfl, rfl, Or.inl ⟨rfl, i, by omega, hqq⟩⟩
      · rw [if_neg hqq]
        refine Or.inl ⟨_, rfl, rfl, by omega, fun j hj => ?_⟩
        by_cases e : j = i
        · rw [e]; exact hqq
        · exact hno j (by omega)
  unfold f_X12_isToldAhead
  refine key.bind ?_
  rintro ⟨b, t'⟩ ⟨e0, ⟨e1, h1⟩ | ⟨e1, h1⟩⟩
  · dsimp only at e0 e1 ⊢
    subst e0 e1
    exact ok.some ⟨rfl, Or.inl ⟨rfl, h1⟩⟩
  · dsimp only at e0 e1 ⊢
    subst e0 e1
    exact ok.some ⟨rfl, Or.inr ⟨rfl, h1⟩⟩
/-- the reference's walk over the order; what it looks for: the kk-th one, or the first one not in a set -/
def lookF (C : List Nat) (kk : Option Nat) (u : Nat) : Int32 := match kk with
  | some j => pickK C j
  | none => firstC C u
theorem firstC_hit {nm : Nat → Nat} {k p i m u : Nat} (h : ¬ skpO nm k p i) (hi : i < m) (hall : ∀ q, q ∈ cnd nm k p i → u.testBit q = true) (hq : u.testBit (srcO nm k i) ≠ true) : firstC (cnd nm k p m) u = Int32.ofNat (srcO nm k i) := by
  have h1 := cnd_pre (nm := nm) (k := k) (p := p) (i := i + 1) (m - (i + 1))
  rw [show i + 1 + (m - (i + 1)) = m by omega, cnd_put h] at h1
  obtain ⟨r, hr⟩ := h1
  unfold firstC
  rw [← hr, List.append_assoc, List.find?_append]
  have e : (cnd nm k p i).find? (fun q => !u.testBit q) = none := by
    rw [List.find?_eq_none]
    intro x hx
    simp [hall x hx]
  rw [e]
  simp [hq]
def stillO (C : List Nat) (kk : Option Nat) (u : Nat) : Prop := match kk with
  | some j => C.length ≤ j
  | none => ∀ q, q ∈ C → u.testBit q = true
def seekO (kk : Option Nat) : Int32 := match kk with
  | some j => Int32.ofNat j
  | none => -1
theorem m_nameBy {t : Mem} {n p k u : Nat} {kk : Option Nat} {nm : Nat → Nat} (hn : n ≤ 14) (hp : p < 14) (ht : t 0 6 = Int32.ofNat n) (hk : k ≤ 6) (h17 : t 17 p = Int32.ofNat k) (h : ∀ i, i < k → nm i < 14 ∧ t 18 (6 * p + i) = Int32.ofNat (nm i)) (hu : u < 16384) (hkk : ∀ j, kk = some j → j < 14) {x2 : Int32} (hx2 : x2 = seekO kk) :
    ok (f_X12_nameBy (Int32.ofNat p) x2 (Int32.ofNat u) t) (fun r => r.1 = lookF (cnd nm k p (k + n)) kk u ∧ r.2 = t) := by
  have hnm : ∀ i, i < k → nm i < 14 := fun i hi => (h i hi).1
  have key : ok (it FUEL (fun y => st_X12_nameBy_6 (Int32.ofNat p) x2 (Int32.ofNat u) y.1 y.2.1 y.2.2) (0, 0, t)) (fun r => r.2.2 = t ∧ (((r.1 = 0 ∨ r.1 = 1) ∧ r.2.1 = lookF (cnd nm k p (k + n)) kk u) ∨ (r.1 = 2 ∧ lookF (cnd nm k p (k + n)) kk u = -1))) := by
    refine it_ok1 20 (by omega) (fun i y => y = (Int32.ofNat (cnd nm k p i).length, Int32.ofNat i, t) ∧ i ≤ k + n ∧ stillO (cnd nm k p i) kk u) ⟨rfl, by omega, by cases kk <;> simp [cnd, stillO]⟩ (fun i y q => by omega) ?_
    rintro i y ⟨rfl, hi, hso⟩
    dsimp only
    unfold st_X12_nameBy_6
    have hl := cnd_len (k := k) (p := p) (m := i) hn hnm hp hi
    simp (disch := omega) only [rd_N, wr_N, rd_L, wr_L, Option.bind_some, N_le, N_lt, N_eq, N_leL, L_leN, N_ltL, L_ltN, N_eqL, L_eqN, N_neg, neg_N, N_nlt0, N_0le, N_add, N_addL, L_addN, N_mul, N_mulL, L_mulN, N_sub, N_subL, m_eq, m_ne, u_eq, u_ne, if_true, if_false, ite_true, ite_false, if_pos, if_neg, h17, ht]
    by_cases hin : i = k + n
    · subst hin
      simp (disch := omega) only [rd_N, wr_N, rd_L, wr_L, Option.bind_some, N_le, N_lt, N_eq, N_leL, L_leN, N_ltL, L_ltN, N_eqL, L_eqN, N_neg, neg_N, N_nlt0, N_0le, N_add, N_addL, L_addN, N_mul, N_mulL, L_mulN, N_sub, N_subL, m_eq, m_ne, u_eq, u_ne, if_true, if_false, ite_true, ite_false, if_pos, if_neg]
      refine Or.inr ⟨_, rfl, rfl, Or.inr ⟨rfl, ?_⟩⟩
      cases kk with
      | some j =>
        show pickK _ j = -1
        unfold pickK
        rw [List.getElem?_eq_none (show (cnd nm k p (k + n)).length ≤ j from hso)]
      | none =>
        show firstC _ u = -1
        unfold firstC
        have e : (cnd nm k p (k + n)).find? (fun q => !u.testBit q) = none := by
          rw [List.find?_eq_none]
          intro x hx
          simp [(show ∀ q, q ∈ cnd nm k p (k + n) → u.testBit q = true from hso) x hx]
        rw [e]
    · -- the name at i, and whether it is skipped
      have goal : ∀ q jj, q = srcO nm k i → q < 14 → jj = min i k → ok (if Int32.ofNat q = Int32.ofNat p then some (Sum.inl (Int32.ofNat (cnd nm k p i).length, Int32.ofNat i + 1, t)) else jn_X12_nameBy_92 (Int32.ofNat p) x2 (Int32.ofNat u) (Int32.ofNat (cnd nm k p i).length) (Int32.ofNat i) (Int32.ofNat q) (Int32.ofNat p) (Int32.ofNat q) (Int32.ofNat jj) t)
          (fun (r : (Int32 × Int32 × Mem) ⊕ (Nat × Int32 × Mem)) => (∃ s', r = Sum.inl s' ∧ s' = (Int32.ofNat (cnd nm k p (i + 1)).length, Int32.ofNat (i + 1), t) ∧ i + 1 ≤ k + n ∧ stillO (cnd nm k p (i + 1)) kk u) ∨ (∃ b, r = Sum.inr b ∧ b.2.2 = t ∧ (((b.1 = 0 ∨ b.1 = 1) ∧ b.2.1 = lookF (cnd nm k p (k + n)) kk u) ∨ (b.1 = 2 ∧ lookF (cnd nm k p (k + n)) kk u = -1)))) := by
        intro q jj hq hq14 hjj
        have hmem : ∀ j, (j < k ∧ j < i) ↔ j < jj := fun j => by omega
        by_cases hqp : q = p
        · have hsk : skpO nm k p i := Or.inl (by rw [← hq, hqp])
          rw [if_pos (by rw [hqp])]
          refine ok.some (Or.inl ⟨_, rfl, ?_, by omega, ?_⟩)
          · rw [cnd_skip hsk, N_addL]
          · rw [cnd_skip hsk]; exact hso
        · rw [if_neg (by rw [N_eq (by omega) (by omega)]; exact hqp)]
          unfold jn_X12_nameBy_92
          refine (m_isToldAhead (q := q) (jj := jj) hp hq14 hk (by omega) h).bind ?_
          rintro ⟨b, t'⟩ ⟨e0, hb⟩
          dsimp only at e0 hb ⊢
          subst e0
          rcases hb with ⟨rfl, j, hj, e⟩ | ⟨rfl, hno⟩
          · have hsk : skpO nm k p i := Or.inr ⟨j, ((hmem j).mpr hj).1, ((hmem j).mpr hj).2, by rw [e, hq]⟩
            rw [if_neg (by decide)]
            refine ok.some (Or.inl ⟨_, rfl, ?_, by omega, ?_⟩)
            · rw [cnd_skip hsk, N_addL]
            · rw [cnd_skip hsk]; exact hso
          · have hns : ¬ skpO nm k p i := by
              rintro (h1 | ⟨j, h1, h2, h3⟩)
              · exact hqp (by rw [hq, h1])
              · exact hno j ((hmem j).mp ⟨h1, h2⟩) (by rw [h3, hq])
            have hput : cnd nm k p (i + 1) = cnd nm k p i ++ [q] := by rw [cnd_put hns, ← hq]
            rw [if_pos rfl]
            unfold jn_X12_nameBy_128
            cases kk with
            | some j =>
              have hj14 := hkk j rfl
              replace hx2 : x2 = Int32.ofNat j := hx2
              replace hso : (cnd nm k p i).length ≤ j := hso
              subst hx2
              rw [if_neg (by rw [N_neg (by omega)]; exact id)]
              by_cases hjl : (cnd nm k p i).length = j
              · rw [if_pos (by rw [hjl])]
                refine ok.some (Or.inr ⟨_, rfl, rfl, Or.inl ⟨Or.inr rfl, ?_⟩⟩)
                show _ = pickK _ j
                unfold pickK
                rw [← hjl, cnd_get hns (by omega), ← hq]
              · rw [if_neg (by rw [N_eq (by omega) (by omega)]; exact hjl)]
                refine ok.some (Or.inl ⟨_, rfl, ?_, by omega, ?_⟩)
                · rw [hput, List.length_append, N_addL, N_addL]
                  rfl
                · rw [hput]
                  show (cnd nm k p i ++ [q]).length ≤ j
                  rw [List.length_append]
                  simp
                  omega
            | none =>
              replace hx2 : x2 = -1 := hx2
              replace hso : ∀ q, q ∈ cnd nm k p i → u.testBit q = true := hso
              subst hx2
              rw [if_pos rfl]
              unfold f_X12_has
              rw [N_bit (by omega) (by omega)]
              by_cases hbq : u.testBit q = true
              · rw [if_pos hbq, if_pos rfl]
                dsimp only [Option.bind_some]
                rw [if_neg (by decide)]
                refine ok.some (Or.inl ⟨_, rfl, ?_, by omega, ?_⟩)
                · rw [hput, List.length_append, N_addL, N_addL]
                  rfl
                · rw [hput]
                  show ∀ x, x ∈ cnd nm k p i ++ [q] → u.testBit x = true
                  intro x hx
                  rcases List.mem_append.mp hx with h1 | h1
                  · exact hso x h1
                  · simp at h1
                    rw [h1]; exact hbq
              · rw [if_neg hbq, if_neg (by decide)]
                dsimp only [Option.bind_some]
                rw [if_pos rfl]
                refine ok.some (Or.inr ⟨_, rfl, rfl, Or.inl ⟨Or.inl rfl, ?_⟩⟩)
                show _ = firstC _ u
                rw [firstC_hit hns (by omega) hso (by rw [← hq]; exact hbq), ← hq]
      have fin : ∀ o, ok o (fun (r : (Int32 × Int32 × Mem) ⊕ (Nat × Int32 × Mem)) => (∃ s', r = Sum.inl s' ∧ s' = (Int32.ofNat (cnd nm k p (i + 1)).length, Int32.ofNat (i + 1), t) ∧ i + 1 ≤ k + n ∧ stillO (cnd nm k p (i + 1)) kk u) ∨ (∃ b, r = Sum.inr b ∧ b.2.2 = t ∧ (((b.1 = 0 ∨ b.1 = 1) ∧ b.2.1 = lookF (cnd nm k p (k + n)) kk u) ∨ (b.1 = 2 ∧ lookF (cnd nm k p (k + n)) kk u = -1)))) →
          (∃ s', o = some (Sum.inl s') ∧ s' = (Int32.ofNat (cnd nm k p (i + 1)).length, Int32.ofNat (i + 1), t) ∧ i + 1 ≤ k + n ∧ stillO (cnd nm k p (i + 1)) kk u) ∨ (∃ b, o = some (Sum.inr b) ∧ b.2.2 = t ∧ (((b.1 = 0 ∨ b.1 = 1) ∧ b.2.1 = lookF (cnd nm k p (k + n)) kk u) ∨ (b.1 = 2 ∧ lookF (cnd nm k p (k + n)) kk u = -1))) := by
        rintro o ⟨r, e, ⟨s', rfl, q1⟩ | ⟨b, rfl, q1⟩⟩
        · exact Or.inl ⟨s', e, q1⟩
        · exact Or.inr ⟨b, e, q1⟩
      apply fin
      by_cases hik : i < k
      · simp (disch := omega) only [rd_N, wr_N, rd_L, wr_L, Option.bind_some, N_le, N_lt, N_eq, N_leL, L_leN, N_ltL, L_ltN, N_eqL, L_eqN, N_neg, neg_N, N_nlt0, N_0le, N_add, N_addL, L_addN, N_mul, N_mulL, L_mulN, N_sub, N_subL, m_eq, m_ne, u_eq, u_ne, if_true, if_false, ite_true, ite_false, if_pos, if_neg]
        unfold jn_X12_nameBy_38
        rw [if_neg (by decide), m_nameOf hp (by omega) (h i hik).2]
        dsimp only [Option.bind_some]
        unfold jn_X12_nameBy_64
        have g := goal (nm i) i (by unfold srcO; rw [if_pos hik]) (hnm i hik) (by omega)
        rw [if_neg (show ¬ ((1 : Int32) = 0) by decide)]
        exact g
      · simp (disch := omega) only [rd_N, wr_N, rd_L, wr_L, Option.bind_some, N_le, N_lt, N_eq, N_leL, L_leN, N_ltL, L_ltN, N_eqL, L_eqN, N_neg, neg_N, N_nlt0, N_0le, N_add, N_addL, L_addN, N_mul, N_mulL, L_mulN, N_sub, N_subL, m_eq, m_ne, u_eq, u_ne, if_true, if_false, ite_true, ite_false, if_pos, if_neg]
        unfold jn_X12_nameBy_38
        rw [if_pos rfl]
        simp (disch := omega) only [rd_N, wr_N, rd_L, wr_L, Option.bind_some, N_le, N_lt, N_eq, N_leL, L_leN, N_ltL, L_ltN, N_eqL, L_eqN, N_neg, neg_N, N_nlt0, N_0le, N_add, N_addL, L_addN, N_mul, N_mulL, L_mulN, N_sub, N_subL, m_eq, m_ne, u_eq, u_ne, if_true, if_false, ite_true, ite_false, if_pos, if_neg, h17]
        unfold jn_X12_nameBy_64
        have g := goal (i - k) k (by unfold srcO; rw [if_neg hik]) (by omega) (by omega)
        rw [if_pos (show ((0 : Int32) = 0) from rfl)]
        simp (disch := omega) only [rd_N, Option.bind_some, h17]
        exact g
  unfold f_X12_nameBy
  refine key.bind ?_
  rintro ⟨b, v, t'⟩ ⟨e0, ⟨e1 | e1, h1⟩ | ⟨e1, h1⟩⟩ <;> dsimp only at e0 e1 h1 ⊢ <;> subst e0 e1
  · exact ok.some ⟨h1, rfl⟩
  · exact ok.some ⟨h1, rfl⟩
  · exact ok.some ⟨h1.symm, rfl⟩
