/-! ===== the call of text ===== -/
theorem lawR_lo {s s' t t' : Mem} {L : Nat} (h : lawR s L t) (hs : ∀ j, j < 6 → s' (L + j) = s (L + j)) (h7 : t' 7 = t 7) (h8 : ∀ i, i < 16 → t' 8 i = t 8 i ∧ t' 9 i = t 9 i ∧ t' 10 i = t 10 i ∧ t' 11 i = t 11 i) (h12 : ∀ i, i < 400 → t' 12 i = t 12 i ∧ t' 13 i = t 13 i) : lawR s' L t' := by
  have e0 : s' L = s L := hs 0 (by omega)
  unfold lawR at *
  rw [e0, hs 1 (by omega), hs 2 (by omega), hs 3 (by omega), hs 4 (by omega), hs 5 (by omega), h7]
  obtain ⟨cnt, sz, a1, a2, a3, a4, a5, a6, a7⟩ := h
  refine ⟨cnt, sz, a1, a2, a3, a4, a5, fun i hi => ?_, fun l hl => ?_⟩
  · rw [(h12 i (by omega)).1, (h12 i (by omega)).2]; exact a6 i hi
  · obtain ⟨q1, q2, q3, q4⟩ := h8 l (by omega)
    rw [q1, q2, q3, q4]
    exact a7 l hl
theorem ordR_lo {n : Nat} {s s' t t' : Mem} {L : Nat} (h : ordR n s L t) (hs : ∀ j, j < 4 → s' (L + j) = s (L + j)) (h0 : t' 0 35 = t 0 35) (h17 : ∀ i, i < 14 → t' 17 i = t 17 i) (h18 : ∀ i, i < 84 → t' 18 i = t 18 i) : ordR n s' L t' := by
  have e0 : s' L = s L := hs 0 (by omega)
  unfold ordR nmR at *
  rw [e0, hs 1 (by omega), hs 2 (by omega), hs 3 (by omega), h0]
  obtain ⟨cnt, a1, a2, a3, a4⟩ := h
  refine ⟨cnt, a1, a2, a3, fun p hp => ?_⟩
  obtain ⟨k, nm, b1, b2, b3, b4⟩ := a4 p hp
  refine ⟨k, nm, b1, by rw [h17 p hp]; exact b2, fun i hi => ⟨(b3 i hi).1, by rw [h18 _ (by omega)]; exact (b3 i hi).2⟩, b4⟩
theorem planT_lo {n : Nat} {s s' t t' : Mem} {L : Nat} (h : planT n s L t) (hs : ∀ j, j < 5 → s' (L + j) = s (L + j)) (h0 : t' 0 31 = t 0 31) (h15 : ∀ i, i < 48 → t' 15 i = t 15 i) : planT n s' L t' := by
  have e0 : s' L = s L := hs 0 (by omega)
  unfold planT at *
  rw [e0, hs 1 (by omega), hs 3 (by omega), hs 4 (by omega), h0]
  obtain ⟨cnt, a1, a2, a3, a4⟩ := h
  refine ⟨cnt, a1, a2, a3, fun l hl => ?_⟩
  rw [h15 _ (by omega), h15 (3 * l + 1) (by omega), h15 (3 * l + 2) (by omega)]
  exact a4 l hl
theorem planC_lo {n : Nat} {s s' t t' : Mem} {L : Nat} (h : planC n s L t) (hs : ∀ j, j < 5 → s' (L + j) = s (L + j)) (h0 : t' 0 33 = t 0 33) (h16 : ∀ i, i < 64 → t' 16 i = t 16 i) : planC n s' L t' := by
  have e0 : s' L = s L := hs 0 (by omega)
  unfold planC at *
  rw [e0, hs 1 (by omega), hs 2 (by omega), hs 3 (by omega), hs 4 (by omega), h0]
  obtain ⟨cnt, a1, a2, a3, a4⟩ := h
  refine ⟨cnt, a1, a2, a3, fun l hl => ?_⟩
  rw [h16 _ (by omega), h16 (4 * l + 1) (by omega), h16 (4 * l + 2) (by omega), h16 (4 * l + 3) (by omega)]
  exact a4 l hl
/-- what a text leaves as it was -/
def ofT (s t s' t' : Mem) : Prop := (∀ c, (1 ≤ c ∧ c < 10) ∨ (32 ≤ c ∧ c < 123) → s' c = s c) ∧ s' 0 2 = s 0 2 ∧ (∀ c, c ≠ 0 → c < 7 ∨ 18 < c → t' c = t c) ∧ ∀ j, (4 ≤ j ∧ j < 9) ∨ (35 < j) → t' 0 j = t 0 j
theorem GR_text {n : Nat} {s t s' t' : Mem} (hL : GL n s t) (hX : GX n s t) (hF : ofT s t s' t') (hW : WS n s' t') (hP : pastR n s' t') (hT : txtR s' t') : GR s' t' := by
  obtain ⟨g1, g2, g3, g4⟩ := hL
  obtain ⟨⟨h1, h2, h3⟩, h4, h5, h6, h7⟩ := hX
  obtain ⟨f1, f2, f3, f4⟩ := hF
  have e1 : t' 1 = t 1 := f3 1 (by omega) (by omega)
  refine ⟨n, ⟨nS_t g1 (fun c q1 q2 => f1 c (by omega)) (f1 57 (by omega)) e1 (f3 4 (by omega) (by omega)) (f4 5 (by omega)) (f4 6 (by omega)), by rw [e1]; exact g2, by rw [e1]; exact g3, by rw [f4 5 (by omega)]; exact g4⟩,
    ⟨by rw [f1 115 (by omega)]; exact h1, hW, rowsR_t h3 (fun j q1 q2 => f1 j (by omega)) (fun j q1 q2 => f4 j (by omega)) (fun c q1 q2 _ _ _ => f3 c (by omega) (by omega))⟩, hP, imgR_eq h5 (fun c q1 q2 => f1 c (by omega)) f2 (f4 62 (by omega)) (f3 36 (by omega) (by omega)), hT, ?_⟩
  unfold wrdR
  rw [f3 6 (by omega) (by omega)]
  exact h7
def txA (t : Mem) : Mem := mset (mset (mset (mset (mset (mset t 0 0 0) 0 29 0) 0 30 (-1)) 0 10 0) 0 23 0) 0 24 0
theorem txA_c {t : Mem} {c : Nat} (h : c ≠ 0) : mset (txA t) 0 22 0 c = t c := by
  unfold txA
  simp only [m_ne h]
theorem txA_j {t : Mem} {j : Nat} (h : j ≠ 0 ∧ j ≠ 29 ∧ j ≠ 30 ∧ j ≠ 10 ∧ j ≠ 23 ∧ j ≠ 24 ∧ j ≠ 22) : mset (txA t) 0 22 0 0 j = t 0 j := by
  unfold txA
  simp (disch := omega) only [m_eq, u_ne]
theorem r_begin {n L : Nat} {s t : Mem} (hn : n ≤ 14) (hw : wrdR t) (hL4 : L ≤ 400) (hs : s 173 0 = Int32.ofNat L) (ht : t 0 9 = Int32.ofNat L) (hb : ∀ i, i < L → s 174 i = t 5 i ∧ 0 ≤ t 5 i ∧ t 5 i ≤ 255) :
    ∃ s1 t1 K T, f_X4_begin (Int32.ofNat n) s = some s1 ∧ f_X12_reads (mset (txA t) 0 22 0) = some t1 ∧ cuC K T s1 0 ∧ cuR K T t1 0 ∧ s1 172 1 = 0 ∧ s1 172 2 = -1 ∧ s1 172 3 = Int32.ofNat n ∧ s1 173 0 = Int32.ofNat L ∧ (∀ c, c ≠ 172 → c ≠ 173 → c ≠ 175 → c ≠ 176 → c ≠ 177 → s1 c = s c) ∧
      (∀ c, c ≠ 0 → t1 c = t c) ∧ (∀ j, j < 10 ∨ 13 < j → t1 0 j = mset (txA t) 0 22 0 0 j) := by
  have h0 : mset (mset (mset (mset s 172 1 0) 172 2 (-1)) 172 3 (Int32.ofNat n)) 173 4 0 173 0 = Int32.ofNat L := by
    simp (disch := omega) only [m_eq, m_ne, u_ne]
    exact hs
  obtain ⟨s', e1, hG, K, T, hA, hT, hK2⟩ := x_tokens (s := mset (mset (mset (mset s 172 1 0) 172 2 (-1)) 172 3 (Int32.ofNat n)) 173 4 0) (t := mset (txA t) 0 22 0) (L := L)
    (by unfold wrdR; rw [txA_c (by omega)]; exact hw) hL4 h0 (by rw [txA_j (by omega)]; exact ht) (fun i hi => by
      rw [txA_c (by omega), m_ne (by omega), m_ne (by omega), m_ne (by omega), m_ne (by omega)]
      exact hb i hi) (by rw [m_eq, u_eq])
  have s0 : s' 173 0 = Int32.ofNat L := by rw [hG.2 0 (by omega)]; exact h0
  obtain ⟨s1, f1, f2, f3⟩ := x_adv (K := K) (s := mset s' 173 5 (-1)) (T := T) (j := 0) (by
    unfold tkA
    rw [m_eq, u_ne (by omega), m_ne (by omega), m_ne (by omega), m_ne (by omega)]
    exact hA) (by rw [m_eq, u_ne (by omega), s0, hK2]) (by rw [m_eq, u_eq]; rfl) (by
    rw [m_eq, u_ne (by omega), u_eq, hA.1]
    intro z
    have h9 : (0 : Int32) ≤ Int32.ofNat T := by rw [N_0le (by have := hT.1; omega)]; trivial
    grind) (by omega) hT.1 hT.2.2.1 hT.2.2.2.1 (by
    rw [m_ne (by omega), hG.1 172 (by omega) (by omega) (by omega) (by omega)]
    simp (disch := omega) only [m_eq, m_ne, u_ne, u_eq]
    exact ⟨trivial, trivial⟩)
  obtain ⟨t1, g1, g2, g3, g4, g5, g6, g7⟩ := hT.2.2.2.2.2.1 0 (by omega) (mset (txA t) 0 22 0) rfl rfl rfl (by
    rw [hT.2.1]
    unfold txA
    simp (disch := omega) only [m_eq, u_ne, u_eq])
  refine ⟨s1, t1, K, T, ?_, g1, f2, ⟨tkT_eq hT (g2 5 (by omega)) (g2 6 (by omega)) (g3 9 (by omega)), by omega, g4, g5, g6, g7⟩, ?_, ?_, ?_, f2.2.1.trans hK2, fun c h1 h2 h3 h4 h5 => ?_, fun c hc => by rw [g2 c hc, txA_c hc], g3⟩
  · unfold f_X4_begin f_X6_begin
    rw [e1]
    dsimp only [Option.bind_some]
    unfold jn_X6_begin_164
    rw [f1]
    rfl
  · rw [f3 172 (by omega), m_ne (by omega), hG.1 172 (by omega) (by omega) (by omega) (by omega)]
    simp (disch := omega) only [m_eq, m_ne, u_ne, u_eq]
  · rw [f3 172 (by omega), m_ne (by omega), hG.1 172 (by omega) (by omega) (by omega) (by omega)]
    simp (disch := omega) only [m_eq, m_ne, u_ne, u_eq]
  · rw [f3 172 (by omega), m_ne (by omega), hG.1 172 (by omega) (by omega) (by omega) (by omega)]
    simp (disch := omega) only [m_eq, m_ne, u_ne, u_eq]
  · rw [f3 c h2, m_ne h2, hG.1 c h2 h3 h4 h5, m_ne h2, m_ne h1, m_ne h1, m_ne h1]
theorem m_takesT {t : Mem} {k : Nat} (hk : k ≤ 16) : f_X12_takesOther 1 (Int32.ofNat k) t = some (mset (mset (cpM t 15 48 15 0 (3 * k)) 0 31 (Int32.ofNat k)) 0 3 0) := by
  unfold f_X12_takesOther
  rw [if_neg (by decide)]
  have e := it_go (f := fun y : Int32 × Mem => st_X12_takesOther_71 1 (Int32.ofNat k) y.1 y.2) (fun i => (Int32.ofNat i, cpM t 15 48 15 0 i)) (3 * k) (cpM t 15 48 15 0 (3 * k)) (by omega) (fun i hi => by
    try dsimp only
    unfold st_X12_takesOther_71
    rw [L_mulN, if_neg (by rw [N_le (by omega) (by omega)]; omega), if_pos rfl, L_addN, rd_N (by omega) (by omega), cpM_rd (Or.inr (by omega))]
    dsimp only [Option.bind_some]
    have e3 := cpM_succ (t := t) (A := 15) (oa := 48) (B := 15) (ob := 0) (k := i)
    rw [Nat.zero_add] at e3
    rw [wr_N (by omega) (by omega), e3]
    dsimp only [Option.bind_some]
    rw [N_addL]) (by
    try dsimp only
    unfold st_X12_takesOther_71
    rw [L_mulN, if_pos (by rw [N_le (by omega) (by omega)]; omega)])
  rw [cpM_0] at e
  have e' : it FUEL (fun y => st_X12_takesOther_71 1 (Int32.ofNat k) y.1 y.2) (0, t) = some (cpM t 15 48 15 0 (3 * k)) := e
  rw [e']
  dsimp only [Option.bind_some]
  unfold jn_X12_takesOther_104
  have e2 : ∀ u : Mem, it FUEL (fun y => st_X12_takesOther_106 1 (Int32.ofNat k) y.1 y.2) (0, u) = some u := by
    intro u
    refine it_go (f := fun y : Int32 × Mem => st_X12_takesOther_106 1 (Int32.ofNat k) y.1 y.2) (fun _ => (0, u)) 0 u (by omega) (fun i hi => by omega) ?_
    try dsimp only
    unfold st_X12_takesOther_106
    split
    · rfl
    · rw [if_neg (by decide)]
  rw [e2]
  rfl
theorem m_takesC {t : Mem} {k : Nat} (hk : k ≤ 16) : f_X12_takesOther 2 (Int32.ofNat k) t = some (mset (mset (cpM t 16 64 16 0 (4 * k)) 0 33 (Int32.ofNat k)) 0 3 0) := by
  unfold f_X12_takesOther
  rw [if_neg (by decide)]
  have e2 : ∀ u : Mem, it FUEL (fun y => st_X12_takesOther_71 2 (Int32.ofNat k) y.1 y.2) (0, u) = some u := by
    intro u
    refine it_go (f := fun y : Int32 × Mem => st_X12_takesOther_71 2 (Int32.ofNat k) y.1 y.2) (fun _ => (0, u)) 0 u (by omega) (fun i hi => by omega) ?_
    try dsimp only
    unfold st_X12_takesOther_71
    split
    · rfl
    · rw [if_neg (by decide)]
  rw [e2]
  dsimp only [Option.bind_some]
  unfold jn_X12_takesOther_104
  have e := it_go (f := fun y : Int32 × Mem => st_X12_takesOther_106 2 (Int32.ofNat k) y.1 y.2) (fun i => (Int32.ofNat i, cpM t 16 64 16 0 i)) (4 * k) (cpM t 16 64 16 0 (4 * k)) (by omega) (fun i hi => by
    try dsimp only
    unfold st_X12_takesOther_106
    rw [L_mulN, if_neg (by rw [N_le (by omega) (by omega)]; omega), if_pos rfl, L_addN, rd_N (by omega) (by omega), cpM_rd (Or.inr (by omega))]
    dsimp only [Option.bind_some]
    have e3 := cpM_succ (t := t) (A := 16) (oa := 64) (B := 16) (ob := 0) (k := i)
    rw [Nat.zero_add] at e3
    rw [wr_N (by omega) (by omega), e3]
    dsimp only [Option.bind_some]
    rw [N_addL]) (by
    try dsimp only
    unfold st_X12_takesOther_106
    rw [L_mulN, if_pos (by rw [N_le (by omega) (by omega)]; omega)])
  rw [cpM_0] at e
  have e' : it FUEL (fun y => st_X12_takesOther_106 2 (Int32.ofNat k) y.1 y.2) (0, t) = some (cpM t 16 64 16 0 (4 * k)) := e
  rw [e']
  rfl
theorem m_takesR {t : Mem} {k : Nat} : f_X12_takesOther 3 (Int32.ofNat k) t = some (mset (cpM (cpM t 17 14 17 0 14) 18 84 18 0 84) 0 35 (Int32.ofNat k)) := by
  unfold f_X12_takesOther
  rw [if_pos rfl]
  have e := it_go (f := fun y : Int32 × Mem => st_X12_takesOther_7 (Int32.ofNat k) y.1 y.2) (fun i => (Int32.ofNat i, cpM t 17 14 17 0 i)) 14 (cpM t 17 14 17 0 14) (by omega) (fun i hi => by
    try dsimp only
    unfold st_X12_takesOther_7
    rw [if_neg (by rw [L_leN (by omega) (by omega)]; omega), L_addN, rd_N (by omega) (by omega), cpM_rd (Or.inr (by omega))]
    dsimp only [Option.bind_some]
    have e3 := cpM_succ (t := t) (A := 17) (oa := 14) (B := 17) (ob := 0) (k := i)
    rw [Nat.zero_add] at e3
    rw [wr_N (by omega) (by omega), e3]
    dsimp only [Option.bind_some]
    rw [N_addL]) (by
    try dsimp only
    unfold st_X12_takesOther_7
    rw [if_pos (by decide)])
  rw [cpM_0] at e
  have e' : it FUEL (fun y => st_X12_takesOther_7 (Int32.ofNat k) y.1 y.2) (0, t) = some (cpM t 17 14 17 0 14) := e
  rw [e']
  dsimp only [Option.bind_some]
  generalize cpM t 17 14 17 0 14 = u
  have g := it_go (f := fun y : Int32 × Mem => st_X12_takesOther_36 (Int32.ofNat k) y.1 y.2) (fun i => (Int32.ofNat i, cpM u 18 84 18 0 i)) 84 (cpM u 18 84 18 0 84) (by omega) (fun i hi => by
    try dsimp only
    unfold st_X12_takesOther_36
    rw [if_neg (by rw [L_leN (by omega) (by omega)]; omega), L_addN, rd_N (by omega) (by omega), cpM_rd (Or.inr (by omega))]
    dsimp only [Option.bind_some]
    have e3 := cpM_succ (t := u) (A := 18) (oa := 84) (B := 18) (ob := 0) (k := i)
    rw [Nat.zero_add] at e3
    rw [wr_N (by omega) (by omega), e3]
    dsimp only [Option.bind_some]
    rw [N_addL]) (by
    try dsimp only
    unfold st_X12_takesOther_36
    rw [if_pos (by decide)])
  rw [cpM_0] at g
  have g' : it FUEL (fun y => st_X12_takesOther_36 (Int32.ofNat k) y.1 y.2) (0, u) = some (cpM u 18 84 18 0 84) := g
  rw [g']
  rfl
