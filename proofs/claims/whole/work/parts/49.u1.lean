/-! ===== THE LAW, line by line ===== -/
def tgX (s0 s : Mem) : Prop := (∀ c, c ≠ 172 → c ≠ 173 → c < 178 → s c = s0 c) ∧ s 172 3 = s0 172 3
def tgY (t0 t : Mem) : Prop := (∀ c, c ≠ 0 → (c < 8 ∨ 18 < c) → t c = t0 c) ∧ (∀ i, i < 10 ∨ (13 < i ∧ i < 23) ∨ 28 < i → t 0 i = t0 0 i) ∧ (∀ i, i < 16 → t 8 i = t0 8 i ∧ t 9 i = t0 9 i ∧ t 10 i = t0 10 i ∧ t 11 i = t0 11 i) ∧ (∀ i, i < 400 → t 12 i = t0 12 i ∧ t 13 i = t0 13 i) ∧
  (∀ i, i < 48 → t 15 i = t0 15 i) ∧ (∀ i, i < 64 → t 16 i = t0 16 i) ∧ (∀ i, i < 14 → t 17 i = t0 17 i) ∧ ∀ i, i < 84 → t 18 i = t0 18 i
def badR (s0 t0 s t : Mem) : Prop := tgX s0 s ∧ tgY t0 t ∧ s 172 1 = t 0 27 ∧ s 172 2 = t 0 28 ∧ 0 ≤ s 173 0
theorem tgX_r {s : Mem} : tgX s s := ⟨fun _ _ _ _ => rfl, rfl⟩
theorem tgY_r {t : Mem} : tgY t t := ⟨fun _ _ _ => rfl, fun _ _ => rfl, fun _ _ => ⟨rfl, rfl, rfl, rfl⟩, fun _ _ => ⟨rfl, rfl⟩, fun _ _ => rfl, fun _ _ => rfl, fun _ _ => rfl, fun _ _ => rfl⟩
theorem tgX_f {s0 s s' : Mem} (h : tgX s0 s) (h' : fX s s') : tgX s0 s' := ⟨fun c h1 h2 h3 => (h'.1 c h1 h2 (by omega) (by omega)).trans (h.1 c h1 h2 h3), h'.2.1.trans h.2⟩
theorem tgY_f {t0 t t' : Mem} (h : tgY t0 t) (h' : fY t t') : tgY t0 t' := by
  obtain ⟨a1, a2, a3, a4, a5, a6, a7, a8⟩ := h
  obtain ⟨b1, b2, b3⟩ := h'
  refine ⟨fun c h1 h2 => (b1 c h1 (by omega) (by omega) (by omega)).trans (a1 c h1 h2), fun i hi => (b2 i hi).trans (a2 i hi), ?_, fun i hi => ⟨(b3 i (by omega)).1.trans (a4 i hi).1, (b3 i (by omega)).2.trans (a4 i hi).2⟩, ?_, ?_, ?_, ?_⟩
  · rw [b1 8 (by omega) (by omega) (by omega) (by omega), b1 9 (by omega) (by omega) (by omega) (by omega), b1 10 (by omega) (by omega) (by omega) (by omega), b1 11 (by omega) (by omega) (by omega) (by omega)]; exact a3
  · rw [b1 15 (by omega) (by omega) (by omega) (by omega)]; exact a5
  · rw [b1 16 (by omega) (by omega) (by omega) (by omega)]; exact a6
  · rw [b1 17 (by omega) (by omega) (by omega) (by omega)]; exact a7
  · rw [b1 18 (by omega) (by omega) (by omega) (by omega)]; exact a8
theorem badR_f {s0 t0 s1 t1 s t : Mem} (h : tgX s0 s1) (h' : tgY t0 t1) (hf : flR s1 t1 s t) : badR s0 t0 s t := ⟨tgX_f h hf.1, tgY_f h' hf.2.1, hf.2.2.1, hf.2.2.2⟩
theorem tgX_m {s0 s : Mem} {c i : Nat} {v : Int32} (h : tgX s0 s) (hc : 178 ≤ c) : tgX s0 (mset s c i v) := ⟨fun d h1 h2 h3 => by rw [m_ne (by omega)]; exact h.1 d h1 h2 h3, by rw [m_ne (by omega)]; exact h.2⟩
theorem tgY_m {t0 t : Mem} {c i : Nat} {v : Int32} (h : tgY t0 t) (hc : (8 ≤ c ∧ c ≤ 11 ∧ 16 ≤ i) ∨ (c = 15 ∧ 48 ≤ i) ∨ (c = 16 ∧ 64 ≤ i) ∨ (c = 17 ∧ 14 ≤ i) ∨ (c = 18 ∧ 84 ≤ i)) : tgY t0 (mset t c i v) := by
  obtain ⟨a1, a2, a3, a4, a5, a6, a7, a8⟩ := h
  have e : ∀ d l, d ≠ c ∨ l ≠ i → mset t c i v d l = t d l := by
    intro d l q
    by_cases hd : d = c
    · subst hd
      rw [m_eq, u_ne (by omega)]
    · rw [m_ne hd]
  refine ⟨fun d h1 h2 => by rw [m_ne (by omega)]; exact a1 d h1 h2, fun l hl => by rw [e 0 l (by omega)]; exact a2 l hl, fun l hl => ?_, fun l hl => ?_, fun l hl => ?_, fun l hl => ?_, fun l hl => ?_, fun l hl => ?_⟩
  · rw [e 8 l (by omega), e 9 l (by omega), e 10 l (by omega), e 11 l (by omega)]; exact a3 l hl
  · rw [e 12 l (by omega), e 13 l (by omega)]; exact a4 l hl
  · rw [e 15 l (by omega)]; exact a5 l hl
  · rw [e 16 l (by omega)]; exact a6 l hl
  · rw [e 17 l (by omega)]; exact a7 l hl
  · rw [e 18 l (by omega)]; exact a8 l hl
theorem stX_re {K s0 s s' : Mem} {T j : Nat} {cs : List Int32} (h : stX K T s0 s j cs) (hs : ∀ c, 172 ≤ c → c ≤ 177 → s' c = s c) (h1 : s' 178 1 = s 178 1) (h2 : s' 183 = s 183) : stX K T s' s' j cs :=
  ⟨cuC_eq h.1 (hs _ (by omega) (by omega)) (hs _ (by omega) (by omega)) (hs _ (by omega) (by omega)) (hs _ (by omega) (by omega)) (hs _ (by omega) (by omega)), ⟨fun _ _ _ _ _ => rfl, rfl, rfl⟩, by rw [h1]; exact h.2.2.1, by rw [h2]; exact h.2.2.2⟩
theorem stY_re {K t0 t t' : Mem} {T op j : Nat} {cs : List Int32} {P : Option (List Int32)} (h : stY K T t0 P op t j cs) (h0 : t' 0 = t 0) (h5 : t' 5 = t 5) (h6 : t' 6 = t 6) (h12 : t' 12 = t 12) (h13 : t' 13 = t 13) : stY K T t' none op t' j cs := by
  refine ⟨cuR_eq h.1 h5 h6 (fun i _ _ => by rw [h0]), ⟨fun _ _ _ _ _ => rfl, fun _ _ => rfl, fun _ _ => ⟨rfl, rfl⟩⟩, ⟨by rw [h0]; exact h.2.2.1.1, fun L hL => by cases hL⟩, by rw [h0]; exact h.2.2.2.1, ?_⟩
  rw [h12, h13]
  exact h.2.2.2.2
/-- the lines told so far -/
def lnR (k : Nat) (s t : Mem) (cs : List Int32) : Prop := ∀ l, l < k → ∃ a d1 d2 r : List Int32, cs = a ++ (d1 ++ (d2 ++ r)) ∧ s 179 l = t 8 (32 + l) ∧ s 180 l = Int32.ofNat a.length ∧ t 9 (32 + l) = Int32.ofNat a.length ∧ s 181 l = Int32.ofNat (a.length + d1.length) ∧ t 10 (32 + l) = Int32.ofNat (a.length + d1.length) ∧
  s 182 l = Int32.ofNat (a.length + d1.length + d2.length) ∧ t 11 (32 + l) = Int32.ofNat (a.length + d1.length + d2.length) ∧ EV 0 d1 ∧ (d2 = [] ∨ EV 0 d2)
theorem lnR_eq {k : Nat} {s s' t t' : Mem} {cs ds : List Int32} (h : lnR k s t cs) (hs : ∀ c l, 179 ≤ c → c ≤ 182 → l < k → s' c l = s c l) (ht : ∀ c l, 8 ≤ c → c ≤ 11 → l < k → t' c (32 + l) = t c (32 + l)) : lnR k s' t' (cs ++ ds) := by
  intro l hl
  obtain ⟨a, d1, d2, r, e, h1⟩ := h l hl
  refine ⟨a, d1, d2, r ++ ds, by rw [e]; simp, ?_⟩
  rw [hs 179 l (by omega) (by omega) hl, hs 180 l (by omega) (by omega) hl, hs 181 l (by omega) (by omega) hl, hs 182 l (by omega) (by omega) hl, ht 8 l (by omega) (by omega) hl, ht 9 l (by omega) (by omega) hl, ht 10 l (by omega) (by omega) hl, ht 11 l (by omega) (by omega) hl]
  exact h1
def finL (r19 : Nat × Int32 × Mem) : Option (Int32 × Mem) :=
  if r19.1 = 0 then (f_X12_errs 3 r19.2.2).bind fun r20 =>
  some (r20.1, r20.2) else if r19.1 = 1 then some ((-1), r19.2.2) else if r19.1 = 2 then some ((-1), r19.2.2) else if r19.1 = 3 then (f_X12_errs 1 r19.2.2).bind fun r21 =>
  some (r21.1, r21.2) else if (r19.2.2 0 12) = 0 then
  some (r19.2.1, r19.2.2)
  else
  (f_X12_errs 1 r19.2.2).bind fun r23 =>
  some (r23.1, r23.2)
def lawI (K : Mem) (T : Nat) (s0 t0 : Mem) (k j : Nat) (cs : List Int32) (s t : Mem) : Prop := (stX K T s s j cs ∧ stY K T t none 0 t j cs) ∧ (tgX s0 s ∧ tgY t0 t) ∧ s 178 0 = Int32.ofNat k ∧ lnR k s t cs ∧ cs.length ≤ j
def linQ (K : Mem) (T : Nat) (s0 t0 : Mem) (k : Nat) (r : Int32 × Mem) (q : (Int32 × Mem) ⊕ (Nat × Int32 × Mem)) : Prop :=
  (r.1 = 0 ∧ ∃ b, q = .inr b ∧ ∃ t', finL b = some (-1, t') ∧ badR s0 t0 r.2 t') ∨ (r.1 = 1 ∧ ∃ t', q = .inl (Int32.ofNat (k + 1), t') ∧ ∃ j cs, lawI K T s0 t0 (k + 1) j cs r.2 t')
theorem EZ_V {b : Nat} {d : List Int32} (h : EZ b d) : EV b d := fun F st hs => by
  obtain ⟨v, -, e⟩ := h F st hs
  exact ⟨v, e⟩
section U1
variable {K s0 t0 : Mem} {T : Nat}
theorem r_lawEnd {s t : Mem} {k j : Nat} {cs a d1 d2 : List Int32} (hk : k < 16) (hX : stX K T s s j cs) (hY : stY K T t none 0 t j cs) (hgX : tgX s0 s) (hgY : tgY t0 t) (hc : s 178 0 = Int32.ofNat k) (hcs : cs = a ++ (d1 ++ d2)) (hln : lnR k s t cs) (h179 : s 179 k = t 8 (32 + k))
    (h180 : s 180 k = Int32.ofNat a.length ∧ t 9 (32 + k) = Int32.ofNat a.length) (h181 : s 181 k = Int32.ofNat (a.length + d1.length) ∧ t 10 (32 + k) = Int32.ofNat (a.length + d1.length)) (hE1 : EV 0 d1) (hE2 : d2 = [] ∨ EV 0 d2) (hj : cs.length ≤ j) :
    ok2 (jn_X4_readLawLine_66 s) (jn_X12_readLaw_92 (Int32.ofNat k) (Int32.ofNat (32 + k)) t) (linQ K T s0 t0 k) := by
  have hT4 := hY.1.1.1
  have hjT := hY.1.2.1
  have hlen : cs.length = a.length + d1.length + d2.length := by rw [hcs]; simp only [List.length_append]; omega
  unfold jn_X4_readLawLine_66 jn_X12_readLaw_92 f_X1_endLine
  rw [hc, if_neg (by rw [L_leN (by omega) (by omega)]; omega), wr_N hk (by omega), wr_N (by omega) (by omega), hX.2.2.1, hY.2.2.2.1]
  dsimp only [Option.bind_some]
  rw [m_ne (show (178 : Nat) ≠ 182 by omega), hc, N_addL]
  have hX1 : stX K T (mset (mset s 182 k (Int32.ofNat cs.length)) 178 0 (Int32.ofNat (k + 1))) (mset (mset s 182 k (Int32.ofNat cs.length)) 178 0 (Int32.ofNat (k + 1))) j cs := stX_re hX (fun c h1 h2 => by rw [m_ne (by omega), m_ne (by omega)]) (by rw [m_eq, u_ne (by omega), m_ne (by omega)]) (by rw [m_ne (by omega), m_ne (by omega)])
  have hY1 : stY K T (mset t 11 (32 + k) (Int32.ofNat cs.length)) none 0 (mset t 11 (32 + k) (Int32.ofNat cs.length)) j cs := stY_re hY (m_ne (by omega)) (m_ne (by omega)) (m_ne (by omega)) (m_ne (by omega)) (m_ne (by omega))
  have hgX1 : tgX s0 (mset (mset s 182 k (Int32.ofNat cs.length)) 178 0 (Int32.ofNat (k + 1))) := tgX_m (tgX_m hgX (by omega)) (by omega)
  have hgY1 : tgY t0 (mset t 11 (32 + k) (Int32.ofNat cs.length)) := tgY_m hgY (by omega)
  have hln1 : lnR (k + 1) (mset (mset s 182 k (Int32.ofNat cs.length)) 178 0 (Int32.ofNat (k + 1))) (mset t 11 (32 + k) (Int32.ofNat cs.length)) cs := by
    intro l hl
    by_cases q : l = k
    · subst q
      refine ⟨a, d1, d2, [], by rw [hcs]; simp, ?_⟩
      simp (disch := omega) only [m_ne, m_eq, u_eq]
      rw [hlen]
      exact ⟨h179, h180.1, h180.2, h181.1, h181.2, rfl, rfl, hE1, hE2⟩
    · obtain ⟨a', d1', d2', r', e, h1⟩ := hln l (by omega)
      refine ⟨a', d1', d2', r', e, ?_⟩
      simp (disch := omega) only [m_ne, m_eq, u_ne]
      exact h1
  have hc1 : (mset (mset s 182 k (Int32.ofNat cs.length)) 178 0 (Int32.ofNat (k + 1))) 178 0 = Int32.ofNat (k + 1) := by rw [m_eq, u_eq]
  generalize mset (mset s 182 k (Int32.ofNat cs.length)) 178 0 (Int32.ofNat (k + 1)) = s1 at *
  generalize mset t 11 (32 + k) (Int32.ofNat cs.length) = t1 at *
  unfold f_X4_takeSign
  rw [x_isS 59 hX1.1, m_isS 59 hY1.1]
  dsimp only [Option.bind_some]
  by_cases q : isS K j 59
  · rw [if_pos q, if_neg (by decide), if_neg (by decide)]
    obtain ⟨s2, t2, c1, c2, c3, c4⟩ := st_next hX1 hY1 (by rw [q.1]; decide)
    rw [c1, c2]
    dsimp only [Option.bind_some]
    rw [if_neg (by decide)]
    refine ok2.some (Or.inr ⟨rfl, t2, rfl, j + 1, cs, ⟨stX_re c3 (fun _ _ _ => rfl) rfl rfl, stY_re c4 rfl rfl rfl rfl rfl⟩, ⟨tgX_f hgX1 c3.2.1, tgY_f hgY1 c4.2.1⟩, c3.2.1.2.2.trans hc1, ?_, by omega⟩)
    have := lnR_eq (ds := []) hln1 (s' := s2) (t' := t2) (fun c l h1 h2 _ => by rw [c3.2.1.1 c (by omega) (by omega) (by omega) (by omega)]) (fun c l h1 h2 _ => by rw [c4.2.1.1 c (by omega) (by omega) (by omega) (by omega)])
    rw [List.append_nil] at this
    exact this
  · rw [if_neg q, if_pos rfl, if_pos rfl]
    obtain ⟨s2, t2, f1, f2, f3⟩ := st_fail hX1 hY1 1
    rw [f1]
    dsimp only [Option.bind_some]
    rw [if_neg (by decide)]
    dsimp only [Option.bind_some]
    rw [if_neg (by decide)]
    refine ok2.some (Or.inl ⟨rfl, _, rfl, t2, ?_, badR_f hgX1 hgY1 f3⟩)
    unfold finL
    dsimp only
    rw [if_neg (by decide), if_neg (by decide), if_neg (by decide), if_pos rfl, f2]
    rfl
def lawT (x1 : Int32) (r1 : Mem) : Option ((Int32 × Mem) ⊕ (Nat × Int32 × Mem)) :=
  (wr 48 r1 8 (32 + x1) (r1 0 13)).bind fun s4 =>
  (f_X12_reads s4).bind fun r5 =>
  (wr 48 r5 9 (32 + x1) (r5 0 23)).bind fun s6 =>
  (f_X12_readSum s6).bind fun r7 =>
  if r7.1 = (-1) then
  some (.inr (1, 0, r7.2))
  else
  (wr 48 r7.2 10 (32 + x1) (r7.2 0 23)).bind fun s9 =>
  (f_X12_isWord 3 s9).bind fun r10 =>
  if r10.1 = 0 then
  jn_X12_readLaw_92 x1 (32 + x1) r10.2
  else
  (f_X12_reads r10.2).bind fun r16 =>
  (f_X12_readAny r16).bind fun r17 =>
  if r17.1 = (-1) then
  some (.inr (2, 0, r17.2))
  else
  jn_X12_readLaw_92 x1 (32 + x1) r17.2
theorem r_lawLine {s t : Mem} {k j w : Nat} {cs : List Int32} (hk : k < 16) (hI : lawI K T s0 t0 k j cs s t) (h2 : K j 0 = 2) (hw : K j 1 = Int32.ofNat w ∧ K j 4 = Int32.ofNat w) :
    ok2 (f_X4_readLawLine s) (lawT (Int32.ofNat k) t) (linQ K T s0 t0 k) := by
  obtain ⟨⟨hX, hY⟩, ⟨hgX, hgY⟩, hc, hln, hj⟩ := hI
  have hT4 := hY.1.1.1
  have hk0 : K j 0 ≠ 0 := by rw [h2]; decide
  have hlt := cur_lt hY.1 hk0
  unfold f_X4_readLawLine lawT f_X1_beginLine
  rw [hc, if_neg (by rw [L_leN (by omega) (by omega)]; omega), wr_N hk (by omega), L_addN, wr_N (by omega) (by omega), hX.1.2.2.2.2.1, hY.1.2.2.2.2.2 hk0 (by rw [h2]; decide), hw.1, hw.2]
  dsimp only [Option.bind_some]
  rw [m_ne (show (178 : Nat) ≠ 178 + 1 by omega), hc, wr_N hk (by omega), hX.2.2.1]
  dsimp only [Option.bind_some]
  have hX1 : stX K T (mset (mset s (178 + 1) k (Int32.ofNat w)) (178 + 2) k (Int32.ofNat cs.length)) (mset (mset s (178 + 1) k (Int32.ofNat w)) (178 + 2) k (Int32.ofNat cs.length)) j cs := stX_re hX (fun c h1 h2 => by rw [m_ne (by omega), m_ne (by omega)]) (by rw [m_ne (by omega), m_ne (by omega)]) (by rw [m_ne (by omega), m_ne (by omega)])
  have hY1 : stY K T (mset t 8 (32 + k) (Int32.ofNat w)) none 0 (mset t 8 (32 + k) (Int32.ofNat w)) j cs := stY_re hY (m_ne (by omega)) (m_ne (by omega)) (m_ne (by omega)) (m_ne (by omega)) (m_ne (by omega))
  have hgX1 : tgX s0 (mset (mset s (178 + 1) k (Int32.ofNat w)) (178 + 2) k (Int32.ofNat cs.length)) := tgX_m (tgX_m hgX (by omega)) (by omega)
  have hgY1 : tgY t0 (mset t 8 (32 + k) (Int32.ofNat w)) := tgY_m hgY (by omega)
  have hln1 : lnR k (mset (mset s (178 + 1) k (Int32.ofNat w)) (178 + 2) k (Int32.ofNat cs.length)) (mset t 8 (32 + k) (Int32.ofNat w)) cs := by
    intro l hl
    obtain ⟨a', d1', d2', r', e, h1⟩ := hln l (by omega)
    refine ⟨a', d1', d2', r', e, ?_⟩
    simp (disch := omega) only [m_ne, m_eq, u_ne]
    exact h1
  have hc1 : (mset (mset s (178 + 1) k (Int32.ofNat w)) (178 + 2) k (Int32.ofNat cs.length)) 178 0 = Int32.ofNat k := by rw [m_ne (by omega), m_ne (by omega)]; exact hc
  have h179 : (mset (mset s (178 + 1) k (Int32.ofNat w)) (178 + 2) k (Int32.ofNat cs.length)) 179 k = (mset t 8 (32 + k) (Int32.ofNat w)) 8 (32 + k) := by rw [m_eq, u_eq, m_ne (by omega), m_eq, u_eq]
  have h180 : (mset (mset s (178 + 1) k (Int32.ofNat w)) (178 + 2) k (Int32.ofNat cs.length)) 180 k = Int32.ofNat cs.length := by rw [m_eq, u_eq]
  generalize mset (mset s (178 + 1) k (Int32.ofNat w)) (178 + 2) k (Int32.ofNat cs.length) = s1 at *
  generalize mset t 8 (32 + k) (Int32.ofNat w) = t1 at *
  obtain ⟨s2, t2, c1, c2, c3, c4⟩ := st_next hX1 hY1 hk0
  rw [c1, c2]
  dsimp only [Option.bind_some]
  rw [wr_N (by omega) (by omega), c4.2.2.2.1]
  dsimp only [Option.bind_some]
  have hX2 : stX K T s2 s2 (j + 1) cs := stX_re c3 (fun _ _ _ => rfl) rfl rfl
  have hgX2 : tgX s0 s2 := tgX_f hgX1 c3.2.1
  have hY2 : stY K T (mset t2 9 (32 + k) (Int32.ofNat cs.length)) none 0 (mset t2 9 (32 + k) (Int32.ofNat cs.length)) (j + 1) cs := stY_re c4 (m_ne (by omega)) (m_ne (by omega)) (m_ne (by omega)) (m_ne (by omega)) (m_ne (by omega))
  have hgY2 : tgY t0 (mset t2 9 (32 + k) (Int32.ofNat cs.length)) := tgY_m (tgY_f hgY1 c4.2.1) (by omega)
  have hln2 : lnR k s2 (mset t2 9 (32 + k) (Int32.ofNat cs.length)) cs := by
    have := lnR_eq (ds := []) hln1 (s' := s2) (t' := mset t2 9 (32 + k) (Int32.ofNat cs.length)) (fun c l h1 h2 _ => by rw [c3.2.1.1 c (by omega) (by omega) (by omega) (by omega)]) (fun c l h1 h2 h3 => by
      by_cases q : c = 9
      · subst q
        rw [m_eq, u_ne (by omega), c4.2.1.1 9 (by omega) (by omega) (by omega) (by omega)]
      · rw [m_ne q, c4.2.1.1 c (by omega) (by omega) (by omega) (by omega)])
    rw [List.append_nil] at this
    exact this
  have hc2 : s2 178 0 = Int32.ofNat k := by rw [c3.2.1.2.2]; exact hc1
  have h179b : s2 179 k = (mset t2 9 (32 + k) (Int32.ofNat cs.length)) 8 (32 + k) := by
    rw [m_ne (by omega), c3.2.1.1 179 (by omega) (by omega) (by omega) (by omega), c4.2.1.1 8 (by omega) (by omega) (by omega) (by omega)]
    exact h179
  have h180b : s2 180 k = Int32.ofNat cs.length ∧ (mset t2 9 (32 + k) (Int32.ofNat cs.length)) 9 (32 + k) = Int32.ofNat cs.length := by
    rw [c3.2.1.1 180 (by omega) (by omega) (by omega) (by omega), m_eq, u_eq]
    exact ⟨h180, rfl⟩
  generalize mset t2 9 (32 + k) (Int32.ofNat cs.length) = t3 at *
  obtain ⟨⟨v, s4⟩, ⟨v', t4⟩, b1, b2, b3⟩ := r_sum hX2 hY2 (by omega) (by omega)
  rw [b1, b2]
  dsimp only [Option.bind_some]
  rcases b3 with ⟨z1, z2, z3⟩ | ⟨z1, z2, j2, d1, g1, g2, g3, g4, g5⟩
  · dsimp only at z1 z2 z3 ⊢
    subst z1 z2
    rw [if_pos rfl, if_pos rfl]
    refine ok2.some (Or.inl ⟨rfl, _, rfl, t4, ?_, badR_f hgX2 hgY2 z3⟩)
    unfold finL
    dsimp only
    rw [if_neg (by decide), if_pos rfl]
  · dsimp only at z1 z2 g1 g2 ⊢
    subst z1 z2
    rw [if_neg (by decide), if_neg (by decide)]
    have hc4 : s4 178 0 = Int32.ofNat k := by rw [g1.2.1.2.2]; exact hc2
    unfold f_X1_beginWhen
    rw [hc4, if_neg (by rw [L_leN (by omega) (by omega)]; omega), wr_N hk (by omega), wr_N (by omega) (by omega), g1.2.2.1, g2.2.2.2.1]
    dsimp only [Option.bind_some]
    have lnf : ∀ {u : Mem} {s' t' : Mem}, fX s4 s' → fY (mset t4 10 (32 + k) (Int32.ofNat (cs ++ d1).length)) t' → True := fun _ _ => trivial
    have hX5 : stX K T (mset s4 (178 + 3) k (Int32.ofNat (cs ++ d1).length)) (mset s4 (178 + 3) k (Int32.ofNat (cs ++ d1).length)) j2 (cs ++ d1) := stX_re g1 (fun c h1 h2 => by rw [m_ne (by omega)]) (by rw [m_ne (by omega)]) (by rw [m_ne (by omega)])
    have hY5 : stY K T (mset t4 10 (32 + k) (Int32.ofNat (cs ++ d1).length)) none 0 (mset t4 10 (32 + k) (Int32.ofNat (cs ++ d1).length)) j2 (cs ++ d1) := stY_re g2 (m_ne (by omega)) (m_ne (by omega)) (m_ne (by omega)) (m_ne (by omega)) (m_ne (by omega))
    have hgX5 : tgX s0 (mset s4 (178 + 3) k (Int32.ofNat (cs ++ d1).length)) := tgX_m (tgX_f hgX2 g1.2.1) (by omega)
    have hgY5 : tgY t0 (mset t4 10 (32 + k) (Int32.ofNat (cs ++ d1).length)) := tgY_m (tgY_f hgY2 g2.2.1) (by omega)
    have hln5 : lnR k (mset s4 (178 + 3) k (Int32.ofNat (cs ++ d1).length)) (mset t4 10 (32 + k) (Int32.ofNat (cs ++ d1).length)) (cs ++ d1) := by
      refine lnR_eq hln2 (fun c l h1 h2 h3 => ?_) (fun c l h1 h2 h3 => ?_)
      · by_cases q : c = 181
        · subst q
          rw [m_eq, u_ne (by omega), g1.2.1.1 181 (by omega) (by omega) (by omega) (by omega)]
        · rw [m_ne (by omega), g1.2.1.1 c (by omega) (by omega) (by omega) (by omega)]
      · by_cases q : c = 10
        · subst q
          rw [m_eq, u_ne (by omega), g2.2.1.1 10 (by omega) (by omega) (by omega) (by omega)]
        · rw [m_ne q, g2.2.1.1 c (by omega) (by omega) (by omega) (by omega)]
    have hc5 : (mset s4 (178 + 3) k (Int32.ofNat (cs ++ d1).length)) 178 0 = Int32.ofNat k := by rw [m_ne (by omega)]; exact hc4
    have h179c : (mset s4 (178 + 3) k (Int32.ofNat (cs ++ d1).length)) 179 k = (mset t4 10 (32 + k) (Int32.ofNat (cs ++ d1).length)) 8 (32 + k) := by
      rw [m_ne (by omega), m_ne (by omega), g1.2.1.1 179 (by omega) (by omega) (by omega) (by omega), g2.2.1.1 8 (by omega) (by omega) (by omega) (by omega)]
      exact h179b
    have h180c : (mset s4 (178 + 3) k (Int32.ofNat (cs ++ d1).length)) 180 k = Int32.ofNat cs.length ∧ (mset t4 10 (32 + k) (Int32.ofNat (cs ++ d1).length)) 9 (32 + k) = Int32.ofNat cs.length := by
      rw [m_ne (by omega), m_ne (by omega), g1.2.1.1 180 (by omega) (by omega) (by omega) (by omega), g2.2.1.1 9 (by omega) (by omega) (by omega) (by omega)]
      exact h180b
    have h181c : (mset s4 (178 + 3) k (Int32.ofNat (cs ++ d1).length)) 181 k = Int32.ofNat (cs.length + d1.length) ∧ (mset t4 10 (32 + k) (Int32.ofNat (cs ++ d1).length)) 10 (32 + k) = Int32.ofNat (cs.length + d1.length) := by
      rw [m_eq, u_eq, m_eq, u_eq, List.length_append]
      exact ⟨rfl, rfl⟩
    generalize mset s4 (178 + 3) k (Int32.ofNat (cs ++ d1).length) = s5 at *
    generalize mset t4 10 (32 + k) (Int32.ofNat (cs ++ d1).length) = t5 at *
    rw [x_isW 11 3 (by omega) (by decide) hX5.1 hY5.1, m_isW 3 3 rfl hY5.1]
    dsimp only [Option.bind_some]
    have hl12 : (cs ++ d1).length ≤ j2 := by rw [List.length_append]; omega
    by_cases w3 : isW K j2 3
    · rw [if_pos w3, if_neg (by decide), if_neg (by decide)]
      obtain ⟨s6, t6, e1, e2, e3, e4⟩ := st_next hX5 hY5 (by rw [w3.1]; decide)
      rw [e1, e2]
      dsimp only [Option.bind_some]
      have hX6 : stX K T s6 s6 (j2 + 1) (cs ++ d1) := stX_re e3 (fun _ _ _ => rfl) rfl rfl
      have hY6 : stY K T t6 none 0 t6 (j2 + 1) (cs ++ d1) := stY_re e4 rfl rfl rfl rfl rfl
      obtain ⟨⟨v, s7⟩, ⟨v', t7⟩, f1, f2, f3⟩ := r_any hX6 hY6 (by omega) (by omega)
      rw [f1, f2]
      dsimp only [Option.bind_some]
      rcases f3 with ⟨z1, z2, z3⟩ | ⟨z1, z2, j3, d2, i1, i2, i3, i4, i5⟩
      · dsimp only at z1 z2 z3 ⊢
        subst z1 z2
        rw [if_pos rfl, if_pos rfl]
        refine ok2.some (Or.inl ⟨rfl, _, rfl, t7, ?_, badR_f (tgX_f hgX5 e3.2.1) (tgY_f hgY5 e4.2.1) z3⟩)
        unfold finL
        dsimp only
        rw [if_neg (by decide), if_neg (by decide), if_pos rfl]
      · dsimp only at z1 z2 i1 i2 ⊢
        subst z1 z2
        rw [if_neg (by decide), if_neg (by decide)]
        have ff : ∀ c, c ≠ 172 → c ≠ 173 → c ≠ 178 → c ≠ 183 → s7 c = s5 c := fun c q1 q2 q3 q4 => (i1.2.1.1 c q1 q2 q3 q4).trans (e3.2.1.1 c q1 q2 q3 q4)
        have fg : ∀ c, c ≠ 0 → c ≠ 12 → c ≠ 13 → c ≠ 14 → t7 c = t5 c := fun c q1 q2 q3 q4 => (i2.2.1.1 c q1 q2 q3 q4).trans (e4.2.1.1 c q1 q2 q3 q4)
        refine r_lawEnd (a := cs) (d1 := d1) (d2 := d2) hk (stX_re i1 (fun _ _ _ => rfl) rfl rfl) (stY_re i2 rfl rfl rfl rfl rfl) (tgX_f (tgX_f hgX5 e3.2.1) i1.2.1) (tgY_f (tgY_f hgY5 e4.2.1) i2.2.1) ?_ (by simp) ?_ ?_ ?_ ?_ (g3.mono (by omega)) (Or.inr ((EZ_V i3).mono (by omega))) (by simp only [List.length_append] at hl12 ⊢; omega)
        · rw [i1.2.1.2.2, e3.2.1.2.2]; exact hc5
        · exact lnR_eq hln5 (fun c l h1 h2 _ => by rw [ff c (by omega) (by omega) (by omega) (by omega)]) (fun c l h1 h2 _ => by rw [fg c (by omega) (by omega) (by omega) (by omega)])
        · rw [ff 179 (by omega) (by omega) (by omega) (by omega), fg 8 (by omega) (by omega) (by omega) (by omega)]; exact h179c
        · rw [ff 180 (by omega) (by omega) (by omega) (by omega), fg 9 (by omega) (by omega) (by omega) (by omega)]; exact h180c
        · rw [ff 181 (by omega) (by omega) (by omega) (by omega), fg 10 (by omega) (by omega) (by omega) (by omega)]; exact h181c
    · rw [if_neg w3, if_pos rfl, if_pos rfl]
      exact r_lawEnd (a := cs) (d1 := d1) (d2 := []) hk hX5 hY5 hgX5 hgY5 hc5 (by simp) hln5 h179c h180c h181c (g3.mono (by omega)) (Or.inl rfl) hl12
end U1
