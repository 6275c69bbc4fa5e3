/-! ===== the order, filled here and walked in the reference ===== -/
def nmR (n : Nat) (s : Mem) (O : Nat) (m : Mem) (cnt p k : Nat) (nm : Nat → Nat) : Prop :=
  k ≤ 6 ∧ m 17 p = Int32.ofNat k ∧ (∀ i, i < k → nm i < n ∧ m 18 (6 * p + i) = Int32.ofNat (nm i)) ∧
  ((k = 0 ∧ ∀ l, l < cnt → s (O + 1) l ≠ Int32.ofNat p) ∨ ∃ l, l < cnt ∧ s (O + 1) l = Int32.ofNat p ∧ (∀ l', l < l' → l' < cnt → s (O + 1) l' ≠ Int32.ofNat p) ∧ s (O + 2) l = Int32.ofNat k ∧ ∀ i, i < k → s (O + 3) (6 * l + i) = Int32.ofNat (nm i))
def ordR (n : Nat) (s : Mem) (O : Nat) (m : Mem) : Prop :=
  ∃ cnt, cnt ≤ 16 ∧ s O 0 = Int32.ofNat cnt ∧ m 0 35 = Int32.ofNat cnt ∧ ∀ p, p < 14 → ∃ (k : Nat) (nm : Nat → Nat), nmR n s O m cnt p k nm
theorem N_pred {m : Nat} (h : 0 < m) : Int32.ofNat m - 1 = Int32.ofNat (m - 1) := N_subL (b := 1) h
theorem x_lastLine {s : Mem} {cnt p : Nat} (hc : cnt ≤ 16) (h0 : s 27 0 = Int32.ofNat cnt) :
    ok (f_X3_lastLineOf 27 (Int32.ofNat p) s) (fun r => r.2 = s ∧ ((r.1 = -1 ∧ ∀ l, l < cnt → s 28 l ≠ Int32.ofNat p) ∨ ∃ l, l < cnt ∧ r.1 = Int32.ofNat l ∧ s 28 l = Int32.ofNat p ∧ ∀ l', l < l' → l' < cnt → s 28 l' ≠ Int32.ofNat p)) := by
  have key : ok (it FUEL (fun y => st_X3_lastLineOf_7 27 (Int32.ofNat p) y.1 y.2) ((s 27 0) - 1, s)) (fun r => r.2.2 = s ∧ ((r.1 = 1 ∧ ∀ l, l < cnt → s 28 l ≠ Int32.ofNat p) ∨ r.1 = 0 ∧ ∃ l, l < cnt ∧ r.2.1 = Int32.ofNat l ∧ s 28 l = Int32.ofNat p ∧ ∀ l', l < l' → l' < cnt → s 28 l' ≠ Int32.ofNat p)) := by
    refine it_ok1 16 (by omega) (fun k y => y = (Int32.ofNat (cnt - k) - 1, s) ∧ k ≤ cnt ∧ ∀ l', cnt - k ≤ l' → l' < cnt → s 28 l' ≠ Int32.ofNat p) ⟨by rw [h0]; rfl, by omega, fun l' h1 h2 => by omega⟩ (fun k y q => by omega) ?_
    rintro k y ⟨rfl, hk, hn⟩
    dsimp only
    unfold st_X3_lastLineOf_7
    by_cases hkc : k = cnt
    · subst hkc
      rw [show k - k = 0 by omega, if_pos (by decide)]
      exact Or.inr ⟨_, rfl, rfl, Or.inl ⟨rfl, fun l hl => hn l (by omega) hl⟩⟩
    · rw [N_pred (by omega)]
      simp (disch := omega) only [rd_N, wr_N, rd_L, wr_L, Option.bind_some, N_le, N_lt, N_eq, N_leL, L_leN, N_ltL, L_ltN, N_eqL, L_eqN, N_neg, neg_N, N_nlt0, N_0le, N_add, N_addL, L_addN, N_mul, N_mulL, L_mulN, N_sub, N_subL, m_eq, m_ne, u_eq, u_ne, if_true, if_false, ite_true, ite_false, if_pos, if_neg]
      by_cases hq : s 28 (cnt - k - 1) = Int32.ofNat p
      · rw [if_pos hq]
        exact Or.inr ⟨_, rfl, rfl, Or.inr ⟨rfl, cnt - k - 1, by omega, rfl, hq, fun l' h1 h2 => hn l' (by omega) h2⟩⟩
      · rw [if_neg hq]
        refine Or.inl ⟨_, rfl, ?_, by omega, fun l' h1 h2 => ?_⟩
        · rw [show cnt - k - 1 = cnt - (k + 1) by omega]
          have e9 : Int32.ofNat (cnt - (k + 1)) + (-1) = Int32.ofNat (cnt - (k + 1)) - 1 := by grind
          rw [e9]
        · by_cases e : l' = cnt - k - 1
          · rw [e]; exact hq
          · exact hn l' (by omega) h2
  unfold f_X3_lastLineOf
  refine key.bind ?_
  rintro ⟨b, l, s'⟩ ⟨e0, ⟨e1, h1⟩ | ⟨e1, h1⟩⟩
  · dsimp only at e0 e1 h1 ⊢
    subst e1
    rw [if_neg (by decide)]
    exact ok.some ⟨e0, Or.inl ⟨rfl, h1⟩⟩
  · dsimp only at e0 e1 h1 ⊢
    subst e1
    rw [if_pos rfl]
    exact ok.some ⟨e0, Or.inr h1⟩
def mskR (nm : Nat → Nat) (p i M : Nat) : Prop := M < 16384 ∧ ∀ q, q < 14 → (M.testBit q = true ↔ (q = p ∨ ∃ j, j < i ∧ nm j = q))
theorem mskR_0 {nm : Nat → Nat} {p : Nat} (hp : p < 14) : mskR nm p 0 (2 ^ p) := by
  refine ⟨Nat.lt_of_le_of_lt (Nat.pow_le_pow_right (by omega) (show p ≤ 13 by omega)) (by omega), fun q hq => ?_⟩
  rw [Nat.testBit_two_pow]
  simp
  omega
theorem mskR_1 {nm : Nat → Nat} {p i M : Nat} (h : mskR nm p i M) (hi : nm i < 14) : mskR nm p (i + 1) (M ||| 2 ^ nm i) := by
  refine ⟨Nat.or_lt_two_pow (n := 14) h.1 (Nat.pow_lt_pow_right (by omega) hi), fun q hq => ?_⟩
  rw [Nat.testBit_or, Nat.testBit_two_pow, Bool.or_eq_true, h.2 q hq]
  simp only [decide_eq_true_eq]
  constructor
  · rintro ((h1 | ⟨j, hj, e⟩) | h1)
    · exact Or.inl h1
    · exact Or.inr ⟨j, by omega, e⟩
    · exact Or.inr ⟨i, by omega, h1⟩
  · rintro (h1 | ⟨j, hj, e⟩)
    · exact Or.inl (Or.inl h1)
    · by_cases hji : j = i
      · subst hji; exact Or.inr e
      · exact Or.inl (Or.inr ⟨j, by omega, e⟩)
theorem mskR_2 {nm : Nat → Nat} {p i M : Nat} (h : mskR nm p i M) (hi : nm i < 14) (hb : M.testBit (nm i) = true) : mskR nm p (i + 1) M := by
  refine ⟨h.1, fun q hq => ?_⟩
  rw [h.2 q hq]
  constructor
  · rintro (h1 | ⟨j, hj, e⟩)
    · exact Or.inl h1
    · exact Or.inr ⟨j, by omega, e⟩
  · rintro (h1 | ⟨j, hj, e⟩)
    · exact Or.inl h1
    · by_cases hji : j = i
      · subst hji; rw [← e]; exact (h.2 _ hi).mp hb
      · exact Or.inr ⟨j, by omega, e⟩
def arrR (arr : Nat → Int32) (l : List Nat) : Prop := ∀ j q, l[j]? = some q → arr j = Int32.ofNat q
theorem arrR_put {arr : Nat → Int32} {l : List Nat} {q : Nat} (h : arrR arr l) : arrR (upd arr l.length (Int32.ofNat q)) (l ++ [q]) := by
  intro j r hj
  by_cases hjl : j < l.length
  · rw [List.getElem?_append_left hjl] at hj
    rw [u_ne (by omega)]
    exact h j r hj
  · rw [List.getElem?_append_right (by omega)] at hj
    have h1 := (List.getElem?_eq_some_iff.mp hj).1
    simp at h1
    have h2 : j = l.length := by omega
    subst h2
    simp at hj
    rw [u_eq, hj]
theorem x_fill2 {s0 s : Mem} {n p k M : Nat} {nm : Nat → Nat} (hn : n ≤ 14) (hp : p < 14) (hnm : ∀ i, i < k → nm i < 14) (hM : mskR nm p k M) (ha : arrR (s 31) (cnd nm k p k)) (hf : ∀ c, c ≠ 31 → s c = s0 c) :
    ok (jn_X3_fill_98 27 (Int32.ofNat n) (Int32.ofNat (cnd nm k p k).length) (Int32.ofNat M) s) (fun r => r.1 = Int32.ofNat (cnd nm k p (k + n)).length ∧ arrR (r.2 31) (cnd nm k p (k + n)) ∧ ∀ c, c ≠ 31 → r.2 c = s0 c) := by
  have key : ok (it FUEL (fun y => st_X3_fill_101 27 (Int32.ofNat n) (Int32.ofNat M) y.1 y.2.1 y.2.2) (Int32.ofNat (cnd nm k p k).length, 0, s)) (fun r => r.1 = Int32.ofNat (cnd nm k p (k + n)).length ∧ arrR (r.2 31) (cnd nm k p (k + n)) ∧ ∀ c, c ≠ 31 → r.2 c = s0 c) := by
    refine it_ok1 14 (by omega) (fun x y => ∃ s', y = (Int32.ofNat (cnd nm k p (k + x)).length, Int32.ofNat x, s') ∧ x ≤ n ∧ arrR (s' 31) (cnd nm k p (k + x)) ∧ ∀ c, c ≠ 31 → s' c = s0 c) ⟨s, rfl, by omega, ha, hf⟩ (fun x y q => by obtain ⟨_, _, q, _⟩ := q; omega) ?_
    rintro x y ⟨s', rfl, hx, ha', hf'⟩
    dsimp only
    unfold st_X3_fill_101
    by_cases hxn : x = n
    · subst hxn
      simp (disch := omega) only [rd_N, wr_N, rd_L, wr_L, Option.bind_some, N_le, N_lt, N_eq, N_leL, L_leN, N_ltL, L_ltN, N_eqL, L_eqN, N_neg, neg_N, N_nlt0, N_0le, N_add, N_addL, L_addN, N_mul, N_mulL, L_mulN, N_sub, N_subL, m_eq, m_ne, u_eq, u_ne, if_true, if_false, ite_true, ite_false, if_pos, if_neg]
      exact Or.inr ⟨_, rfl, rfl, ha', hf'⟩
    · have hM1 := hM.1
      have hl := cnd_len (k := k) (p := p) (m := k + x) hn hnm hp (by omega)
      have hs : skpO nm k p (k + x) ↔ M.testBit x = true := by
        rw [hM.2 x (by omega)]
        have e : srcO nm k (k + x) = x := by unfold srcO; rw [if_neg (by omega)]; omega
        unfold skpO
        rw [e]
        constructor
        · rintro (h | ⟨j, h1, h2, h3⟩)
          · exact Or.inl h
          · exact Or.inr ⟨j, h1, h3⟩
        · rintro (h | ⟨j, h1, h3⟩)
          · exact Or.inl h
          · exact Or.inr ⟨j, h1, by omega, h3⟩
      simp (disch := omega) only [rd_N, wr_N, rd_L, wr_L, Option.bind_some, N_le, N_lt, N_eq, N_leL, L_leN, N_ltL, L_ltN, N_eqL, L_eqN, N_neg, neg_N, N_nlt0, N_0le, N_add, N_addL, L_addN, N_mul, N_mulL, L_mulN, N_sub, N_subL, m_eq, m_ne, u_eq, u_ne, if_true, if_false, ite_true, ite_false, if_pos, if_neg, N_bit]
      by_cases hb : M.testBit x = true
      · simp only [hb, if_true, show ((1 : Int32) = 0) = False from by decide, if_false]
        refine Or.inl ⟨_, rfl, s', ?_, by omega, ?_, hf'⟩
        · rw [show k + (x + 1) = (k + x) + 1 by omega, cnd_skip (hs.mpr hb)]
        · rw [show k + (x + 1) = (k + x) + 1 by omega, cnd_skip (hs.mpr hb)]; exact ha'
      · have hb' : ¬ skpO nm k p (k + x) := fun q => hb (hs.mp q)
        have e : srcO nm k (k + x) = x := by unfold srcO; rw [if_neg (by omega)]; omega
        simp only [hb, if_false, if_true]
        try simp (disch := omega) only [rd_N, wr_N, rd_L, wr_L, Option.bind_some, N_le, N_lt, N_eq, N_leL, L_leN, N_ltL, L_ltN, N_eqL, L_eqN, N_neg, neg_N, N_nlt0, N_0le, N_add, N_addL, L_addN, N_mul, N_mulL, L_mulN, N_sub, N_subL, m_eq, m_ne, u_eq, u_ne, if_true, if_false, ite_true, ite_false, if_pos, if_neg]
        refine Or.inl ⟨_, rfl, mset s' 31 (cnd nm k p (k + x)).length (Int32.ofNat x), ?_, by omega, ?_, fun c hc => ?_⟩
        · rw [show k + (x + 1) = (k + x) + 1 by omega, cnd_put hb', List.length_append]
          rfl
        · rw [show k + (x + 1) = (k + x) + 1 by omega, cnd_put hb', m_eq, e]
          exact arrR_put ha'
        · rw [m_ne (by omega)]
          exact hf' c hc
  unfold jn_X3_fill_98
  refine key.bind ?_
  rintro ⟨l, s'⟩ h
  exact ok.some h
theorem x_fill {s m : Mem} {n cnt p k : Nat} {nm : Nat → Nat} (hn : n ≤ 14) (hp : p < 14) (hc : cnt ≤ 16) (h0 : s 27 0 = Int32.ofNat cnt) (h : nmR n s 27 m cnt p k nm) :
    ok (f_X3_fill 27 (Int32.ofNat p) (Int32.ofNat n) s) (fun r => r.1 = Int32.ofNat (cnd nm k p (k + n)).length ∧ arrR (r.2 31) (cnd nm k p (k + n)) ∧ ∀ c, c ≠ 31 → r.2 c = s c) := by
  obtain ⟨hk, h1, h2, h3⟩ := h
  have hnn : ∀ i, i < k → nm i < n := fun i hi => (h2 i hi).1
  have hnm : ∀ i, i < k → nm i < 14 := fun i hi => by have := hnn i hi; omega
  unfold f_X3_fill
  refine (x_lastLine (p := p) hc h0).bind ?_
  rintro ⟨l, s'⟩ ⟨e0, hq⟩
  dsimp only at e0 hq ⊢
  subst e0
  rw [L_shl (by omega)]
  rcases hq with ⟨rfl, hq⟩ | ⟨l', hl', rfl, q1, q2⟩
  · have hk0 : k = 0 := by
      rcases h3 with h3 | ⟨l, hl, e, -⟩
      · exact h3.1
      · exact absurd e (hq l hl)
    subst hk0
    rw [if_pos rfl]
    exact x_fill2 hn hp hnm (mskR_0 hp) (fun j q hj => by simp [cnd] at hj) (fun _ _ => rfl)
  · rcases h3 with h3 | ⟨l, hl, e, g1, g2, g3⟩
    · exact absurd q1 (h3.2 l' hl')
    have hll : l' = l := by
      rcases Nat.lt_trichotomy l' l with h | h | h
      · exact absurd e (q2 l h hl)
      · exact h
      · exact absurd q1 (g1 l' h hl')
    subst hll
    rw [if_neg (by rw [N_neg (by omega)]; exact id)]
    have key : ok (it FUEL (fun y => st_X3_fill_23 27 (Int32.ofNat n) (Int32.ofNat l') y.1 y.2.1 y.2.2.1 y.2.2.2) (0, Int32.ofNat (2 ^ p), 0, s')) (fun r => ∃ M, r.2.1 = Int32.ofNat M ∧ mskR nm p k M ∧ r.1 = Int32.ofNat (cnd nm k p k).length ∧ arrR (r.2.2 31) (cnd nm k p k) ∧ ∀ c, c ≠ 31 → r.2.2 c = s' c) := by
      refine it_ok1 6 (by omega) (fun i y => ∃ (M : Nat) (s1 : Mem), y = (Int32.ofNat (cnd nm k p i).length, Int32.ofNat M, Int32.ofNat i, s1) ∧ i ≤ k ∧ mskR nm p i M ∧ arrR (s1 31) (cnd nm k p i) ∧ ∀ c, c ≠ 31 → s1 c = s' c) ⟨2 ^ p, s', rfl, by omega, mskR_0 hp, fun j q hj => by simp [cnd] at hj, fun _ _ => rfl⟩ (fun i y q => by obtain ⟨_, _, _, q, _⟩ := q; omega) ?_
      rintro i y ⟨M, s1, rfl, hi, hM, ha', hf'⟩
      dsimp only
      unfold st_X3_fill_23
      have e29 : s1 29 l' = Int32.ofNat k := by rw [hf' 29 (by omega)]; exact g2
      simp (disch := omega) only [rd_N, wr_N, rd_L, wr_L, Option.bind_some, N_le, N_lt, N_eq, N_leL, L_leN, N_ltL, L_ltN, N_eqL, L_eqN, N_neg, neg_N, N_nlt0, N_0le, N_add, N_addL, L_addN, N_mul, N_mulL, L_mulN, N_sub, N_subL, m_eq, m_ne, u_eq, u_ne, if_true, if_false, ite_true, ite_false, if_pos, if_neg, e29]
      by_cases hik : i = k
      · subst hik
        simp (disch := omega) only [rd_N, wr_N, rd_L, wr_L, Option.bind_some, N_le, N_lt, N_eq, N_leL, L_leN, N_ltL, L_ltN, N_eqL, L_eqN, N_neg, neg_N, N_nlt0, N_0le, N_add, N_addL, L_addN, N_mul, N_mulL, L_mulN, N_sub, N_subL, m_eq, m_ne, u_eq, u_ne, if_true, if_false, ite_true, ite_false, if_pos, if_neg]
        exact Or.inr ⟨_, rfl, M, rfl, hM, rfl, ha', hf'⟩
      · have hM1 := hM.1
        have hnmi := hnm i (by omega)
        have hnni := hnn i (by omega)
        have hl := cnd_len (k := k) (p := p) (m := i) hn hnm hp (by omega)
        have e : srcO nm k i = nm i := by unfold srcO; rw [if_pos (by omega)]
        have e30 : s1 30 (l' * 6 + i) = Int32.ofNat (nm i) := by rw [hf' 30 (by omega), show l' * 6 + i = 6 * l' + i by omega]; exact g3 i (by omega)
        have hs : skpO nm k p i ↔ M.testBit (nm i) = true := by
          rw [hM.2 (nm i) hnmi]
          unfold skpO
          rw [e]
          constructor
          · rintro (h | ⟨j, h1, h2, h3⟩)
            · exact Or.inl h
            · exact Or.inr ⟨j, h2, h3⟩
          · rintro (h | ⟨j, h1, h3⟩)
            · exact Or.inl h
            · exact Or.inr ⟨j, by omega, h1, h3⟩
        simp (disch := omega) only [rd_N, wr_N, rd_L, wr_L, Option.bind_some, N_le, N_lt, N_eq, N_leL, L_leN, N_ltL, L_ltN, N_eqL, L_eqN, N_neg, neg_N, N_nlt0, N_0le, N_add, N_addL, L_addN, N_mul, N_mulL, L_mulN, N_sub, N_subL, m_eq, m_ne, u_eq, u_ne, if_true, if_false, ite_true, ite_false, if_pos, if_neg, e30, N_bit]
        by_cases hb : M.testBit (nm i) = true
        · simp only [hb, if_true, show ((1 : Int32) = 0) = False from by decide, if_false]
          refine Or.inl ⟨_, rfl, M, s1, ?_, by omega, mskR_2 hM hnmi hb, ?_, hf'⟩
          · rw [cnd_skip (hs.mpr hb)]
          · rw [cnd_skip (hs.mpr hb)]; exact ha'
        · have hb' : ¬ skpO nm k p i := fun q => hb (hs.mp q)
          simp only [hb, if_false, if_true]
          simp (disch := omega) only [rd_N, wr_N, rd_L, wr_L, Option.bind_some, N_le, N_lt, N_eq, N_leL, L_leN, N_ltL, L_ltN, N_eqL, L_eqN, N_neg, neg_N, N_nlt0, N_0le, N_add, N_addL, L_addN, N_mul, N_mulL, L_mulN, N_sub, N_subL, m_eq, m_ne, u_eq, u_ne, if_true, if_false, ite_true, ite_false, if_pos, if_neg, L_shl, N_or]
          refine Or.inl ⟨_, rfl, M ||| 2 ^ nm i, mset s1 31 (cnd nm k p i).length (Int32.ofNat (nm i)), ?_, by omega, mskR_1 hM hnmi, ?_, fun c hc => ?_⟩
          · rw [cnd_put hb', List.length_append]
            rfl
          · rw [cnd_put hb', m_eq, e]
            exact arrR_put ha'
          · rw [m_ne (by omega)]
            exact hf' c hc
    refine key.bind ?_
    rintro ⟨ln, mk, s1⟩ ⟨M, e1, hM, e2, ha', hf'⟩
    dsimp only at e1 e2 ha' hf' ⊢
    subst e1 e2
    exact x_fill2 hn hp hnm hM ha' hf'
