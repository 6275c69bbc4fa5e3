/-! ===== all of the object and of the reference ===== -/
def rowR (cap : Nat) (s : Mem) (rc : Nat) (x : Int32) (m : Nat → Int32) (lo hi : Int32) : Prop := ∃ n, n ≤ cap ∧ s rc 1 = Int32.ofNat n ∧ x = Int32.ofNat n ∧ ∀ i, i < n → s (rc + 1) i = m i ∧ lo ≤ m i ∧ m i ≤ hi
def rowsR (s : Mem) (r : Nat) (m : Mem) : Prop :=
  rowR 16 s (r + 1) (m 0 40) (m 21) (-50) 50 ∧
  (rowR 10 s (r + 3) (m 0 42) (m 22) 0 99 ∧ rowR 10 s (r + 5) (m 0 42) (m 23) 0 99 ∧ rowR 10 s (r + 7) (m 0 42) (m 24) 1 99 ∧ ∀ i, Int32.ofNat i < m 0 42 → i < 10 → m 22 i < m 23 i) ∧
  (rowR 14 s (r + 9) (m 0 46) (m 25) 0 5 ∧ rowR 14 s (r + 11) (m 0 46) (m 26) 0 5 ∧ rowR 14 s (r + 13) (m 0 46) (m 27) 1 20) ∧
  (rowR 6 s (r + 15) (m 28 0) (m 29) (-9) 9 ∧ rowR 6 s (r + 17) (m 28 1) (fun j => m 29 (6 + j)) (-9) 9) ∧
  rowR 6 s (r + 19) (m 0 52) (m 30) 0 7 ∧ rowR 8 s (r + 21) (m 0 55) (m 32) 1 40 ∧ rowR 4 s (r + 23) (m 0 59) (m 35) 0 15
theorem rowR_eq {cap : Nat} {s s' : Mem} {rc rc' : Nat} {x x' : Int32} {m m' : Nat → Int32} {lo hi : Int32} (h : rowR cap s rc x m lo hi) (e0 : s' rc' = s rc) (e1 : s' (rc' + 1) = s (rc + 1)) (ex : x' = x) (em : ∀ j, j < cap → m' j = m j) : rowR cap s' rc' x' m' lo hi := by
  obtain ⟨n, h1, h2, h3, h4⟩ := h
  refine ⟨n, h1, by rw [e0]; exact h2, ex.trans h3, fun i hi => ?_⟩
  rw [e1, em i (by omega)]
  exact h4 i hi
theorem rowsR_eq {s s' : Mem} {r r' : Nat} {m m' : Mem} (h : rowsR s r m) (hs : ∀ j, 1 ≤ j → j < 25 → s' (r' + j) = s (r + j)) (h0 : m' 0 40 = m 0 40 ∧ m' 0 42 = m 0 42 ∧ m' 0 46 = m 0 46 ∧ m' 0 52 = m 0 52 ∧ m' 0 55 = m 0 55 ∧ m' 0 59 = m 0 59)
    (h21 : ∀ j, j < 16 → m' 21 j = m 21 j) (h22 : ∀ j, j < 10 → m' 22 j = m 22 j ∧ m' 23 j = m 23 j ∧ m' 24 j = m 24 j) (h25 : ∀ j, j < 14 → m' 25 j = m 25 j ∧ m' 26 j = m 26 j ∧ m' 27 j = m 27 j) (h28 : m' 28 0 = m 28 0 ∧ m' 28 1 = m 28 1) (h29 : ∀ j, j < 12 → m' 29 j = m 29 j) (h30 : ∀ j, j < 6 → m' 30 j = m 30 j) (h32 : ∀ j, j < 8 → m' 32 j = m 32 j) (h35 : ∀ j, j < 4 → m' 35 j = m 35 j) : rowsR s' r' m' := by
  obtain ⟨a1, ⟨a2, a3, a4, a5⟩, ⟨a6, a7, a8⟩, ⟨a9, a10⟩, a11, a12, a13⟩ := h
  obtain ⟨z1, z2, z3, z4, z5, z6⟩ := h0
  refine ⟨rowR_eq a1 (hs 1 (by omega) (by omega)) (hs 2 (by omega) (by omega)) z1 h21, ⟨rowR_eq a2 (hs 3 (by omega) (by omega)) (hs 4 (by omega) (by omega)) z2 (fun j hj => (h22 j hj).1), rowR_eq a3 (hs 5 (by omega) (by omega)) (hs 6 (by omega) (by omega)) z2 (fun j hj => (h22 j hj).2.1), rowR_eq a4 (hs 7 (by omega) (by omega)) (hs 8 (by omega) (by omega)) z2 (fun j hj => (h22 j hj).2.2), fun i hi hi2 => ?_⟩,
    ⟨rowR_eq a6 (hs 9 (by omega) (by omega)) (hs 10 (by omega) (by omega)) z3 (fun j hj => (h25 j hj).1), rowR_eq a7 (hs 11 (by omega) (by omega)) (hs 12 (by omega) (by omega)) z3 (fun j hj => (h25 j hj).2.1), rowR_eq a8 (hs 13 (by omega) (by omega)) (hs 14 (by omega) (by omega)) z3 (fun j hj => (h25 j hj).2.2)⟩,
    ⟨rowR_eq a9 (hs 15 (by omega) (by omega)) (hs 16 (by omega) (by omega)) h28.1 (fun j hj => h29 j (by omega)), rowR_eq a10 (hs 17 (by omega) (by omega)) (hs 18 (by omega) (by omega)) h28.2 (fun j hj => h29 _ (by omega))⟩,
    rowR_eq a11 (hs 19 (by omega) (by omega)) (hs 20 (by omega) (by omega)) z4 h30, rowR_eq a12 (hs 21 (by omega) (by omega)) (hs 22 (by omega) (by omega)) z5 h32, rowR_eq a13 (hs 23 (by omega) (by omega)) (hs 24 (by omega) (by omega)) z6 h35⟩
  rw [z2] at hi
  rw [(h22 i hi2).1, (h22 i hi2).2.1]
  exact a5 i hi hi2
/-- a world as the image keeps it, and the reference's numbers for it -/
def WR (n w : Nat) (s m : Mem) : Prop :=
  (n ≤ 14 ∧ kepR n s (w + 1) (m 1) ∧ m 0 6 = Int32.ofNat n) ∧ (lawR s (w + 9) m ∧ ordR n s (w + 26) m ∧ planT n s (w + 16) m ∧ planC n s (w + 21) m) ∧ rowsR s (w + 31) m ∧ ∀ i, i < 600 → s (w + 56) i = m 4 i
def imgV (u : Nat → Int32) : Mem := fun k j =>
  if k = 1 then u j else if k = 0 then (if j = 6 then u 102 else if j = 31 then u 103 else if j = 33 then u 104 else if j = 35 then u 105 else if j = 40 then u 106 else if j = 42 then u 107 else if j = 46 then u 108 else if j = 52 then u 111 else if j = 55 then u 112 else u 113)
  else if k = 28 then u (109 + j) else if k = 15 then u (114 + j) else if k = 16 then u (162 + j) else if k = 17 then u (226 + 4 * j) else if k = 25 then u (227 + 4 * j) else if k = 26 then u (228 + 4 * j) else if k = 27 then u (229 + 4 * j)
  else if k = 18 then u (282 + j) else if k = 21 then u (366 + j) else if k = 22 then u (382 + 3 * j) else if k = 23 then u (383 + 3 * j) else if k = 24 then u (384 + 3 * j) else if k = 29 then u (412 + j) else if k = 30 then u (424 + j)
  else if k = 32 then u (430 + j) else if k = 35 then u (438 + j) else if k = 4 then u (442 + j) else if k = 7 then u (1042 + j) else if k = 8 then u (1043 + 4 * j) else if k = 9 then u (1044 + 4 * j) else if k = 10 then u (1045 + 4 * j)
  else if k = 11 then u (1046 + 4 * j) else if k = 12 then u (1107 + 2 * j) else u (1108 + 2 * j)
def imgR (s t : Mem) : Prop := s 0 2 = t 0 62 ∧ (t 0 62 = 0 ∨ (t 0 62 = 1 ∧ ∃ n, WR n 58 s (imgV (t 36))))
def txtR (s t : Mem) : Prop :=
  (∃ L, L ≤ 400 ∧ s 173 0 = Int32.ofNat L ∧ t 0 9 = Int32.ofNat L ∧ ∀ i, i < L → s 174 i = t 5 i ∧ 0 ≤ t 5 i ∧ t 5 i ≤ 255) ∧ s 172 1 = t 0 29 ∧ s 172 2 = t 0 30
def wordM : List Int32 := [32, 104, 105, 99, 115, 32, 115, 116, 111, 112, 115, 32, 112, 97, 115, 115, 101, 115, 32, 119, 104, 101, 110, 32, 111, 114, 32, 97, 110, 100, 32, 110, 111, 116, 32, 110, 101, 114, 118, 101, 32, 115, 116, 114, 111, 110, 103, 32, 116, 114, 105, 101, 100, 32, 110, 97, 109, 101, 100, 32, 102, 111, 117, 110, 100, 32, 102, 114, 105, 103, 104, 116, 115, 32, 110, 101, 97, 114, 32, 109, 105, 110, 117, 116, 101, 32, 97, 116, 32, 112, 101, 114, 115, 111, 110, 32, 110, 97, 109, 101, 115, 32, 102, 114, 105, 103, 104, 116, 32, 98, 114, 101, 97, 116, 104, 32, 103, 108, 97, 115, 115, 32, 115, 117, 103, 97, 114, 32, 115, 97, 121, 115, 32]
def wrdR (t : Mem) : Prop := ∀ i, i < 133 → t 6 i = wordM.getD i 0
def GX (n : Nat) (s t : Mem) : Prop := (s 115 0 = 1 ∧ WS n s t ∧ rowsR s 32 t) ∧ pastR n s t ∧ imgR s t ∧ txtR s t ∧ wrdR t
def GL (n : Nat) (s t : Mem) : Prop := nS n 2 s t ∧ nC n (t 1) ∧ t 1 0 ≤ 9999 ∧ t 0 5 = 0
def GR (s t : Mem) : Prop := ∃ n, GL n s t ∧ GX n s t
theorem rowsR_t {s s' t t' : Mem} (h : rowsR s 32 t) (hs : ∀ j, 33 ≤ j → j < 57 → s' j = s j) (h0 : ∀ j, 40 ≤ j → j < 60 → t' 0 j = t 0 j) (ht : ∀ c, 21 ≤ c → c < 36 → c ≠ 31 → c ≠ 33 → c ≠ 34 → t' c = t c) : rowsR s' 32 t' := by
  refine rowsR_eq h (fun j h1 h2 => hs _ (by omega) (by omega)) ⟨h0 _ (by omega) (by omega), h0 _ (by omega) (by omega), h0 _ (by omega) (by omega), h0 _ (by omega) (by omega), h0 _ (by omega) (by omega), h0 _ (by omega) (by omega)⟩ (fun j _ => ?_) (fun j _ => ⟨?_, ?_, ?_⟩) (fun j _ => ⟨?_, ?_, ?_⟩) ⟨?_, ?_⟩ (fun j _ => ?_) (fun j _ => ?_) (fun j _ => ?_) (fun j _ => ?_)
  all_goals rw [ht _ (by omega) (by omega) (by omega) (by omega) (by omega)]
theorem WR_s {n w : Nat} {s s' m : Mem} (h : WR n w s m) (hs : ∀ c, w < c → c < w + 57 → s' c = s c) : WR n w s' m := by
  obtain ⟨⟨h1, h2, h3⟩, ⟨h4, h5, h6, h7⟩, h8, h9⟩ := h
  refine ⟨⟨h1, kepR_eq h2 (fun f hf => hs _ (by omega) (by omega)) (fun _ _ => rfl) h1, h3⟩, ⟨lawR_eq h4 (fun j hj => hs _ (by omega) (by omega)) (fun _ _ _ => rfl), ordR_eq h5 (fun j hj => hs _ (by omega) (by omega)) rfl rfl rfl, planT_eq h6 (fun j hj => hs _ (by omega) (by omega)) rfl rfl, planC_eq h7 (fun j hj => hs _ (by omega) (by omega)) rfl rfl⟩,
    rowsR_eq h8 (fun j q1 q2 => hs _ (by omega) (by omega)) ⟨rfl, rfl, rfl, rfl, rfl, rfl⟩ (fun _ _ => rfl) (fun _ _ => ⟨rfl, rfl, rfl⟩) (fun _ _ => ⟨rfl, rfl, rfl⟩) ⟨rfl, rfl⟩ (fun _ _ => rfl) (fun _ _ => rfl) (fun _ _ => rfl) (fun _ _ => rfl), fun i hi => by rw [hs _ (by omega) (by omega)]; exact h9 i hi⟩
theorem imgR_eq {s s' t t' : Mem} (h : imgR s t) (hs : ∀ c, 58 < c → c < 115 → s' c = s c) (e1 : s' 0 2 = s 0 2) (e2 : t' 0 62 = t 0 62) (e3 : t' 36 = t 36) : imgR s' t' := by
  obtain ⟨h1, h2⟩ := h
  refine ⟨by rw [e1, e2]; exact h1, ?_⟩
  rw [e2]
  rcases h2 with h2 | ⟨h2, n, h3⟩
  · exact Or.inl h2
  · exact Or.inr ⟨h2, n, by rw [e3]; exact WR_s h3 (fun c q1 q2 => hs c q1 (by omega))⟩
theorem txtR_eq {s s' t t' : Mem} (h : txtR s t) (hs : ∀ c, 172 ≤ c → c < 175 → s' c = s c) (e1 : t' 0 9 = t 0 9) (e2 : t' 0 29 = t 0 29) (e3 : t' 0 30 = t 0 30) (e4 : t' 5 = t 5) : txtR s' t' := by
  unfold txtR
  rw [hs 172 (by omega) (by omega), hs 173 (by omega) (by omega), hs 174 (by omega) (by omega), e1, e2, e3, e4]
  exact h
/-- what a lane's steps leave -/
theorem GX_lane {n : Nat} {s t s' t' : Mem} (h : GX n s t) (hn : n ≤ 14) (hs : nXF 2 s s') (ht : nTF t t') : GX n s' t' := by
  obtain ⟨⟨h1, h2, h3⟩, h4, h5, h6, h7⟩ := h
  have e0 : s' 0 = s 0 := hs.1 0 (by omega) (by omega) (by omega) (by omega)
  have et : t' 0 = t 0 := ht.2.1
  refine ⟨⟨by rw [hs.1 115 (by omega) (by omega) (by omega) (by omega)]; exact h1, WS_eq (Or.inl rfl) h2 hs ht, rowsR_t h3 (fun j q1 q2 => hs.1 _ (by omega) (by omega) (by omega) (by omega)) (fun j _ _ => by rw [et]) (fun c q1 q2 q3 q4 q5 => ht.1 _ (by omega) (by omega) (by omega) (by omega) (by omega))⟩,
    pastR_eq h4 hn (fun c q1 q2 => hs.1 _ (by omega) (by omega) (by omega) (by omega)) (by rw [e0]) (by rw [e0]) (ht.1 _ (by omega) (by omega) (by omega) (by omega) (by omega)) (by rw [et]),
    imgR_eq h5 (fun c q1 q2 => hs.1 _ (by omega) (by omega) (by omega) (by omega)) (by rw [e0]) (by rw [et]) (ht.1 _ (by omega) (by omega) (by omega) (by omega) (by omega)),
    txtR_eq h6 (fun c q1 q2 => hs.1 _ (by omega) (by omega) (by omega) (by omega)) (by rw [et]) (by rw [et]) (by rw [et]) (ht.1 _ (by omega) (by omega) (by omega) (by omega) (by omega)), ?_⟩
  unfold wrdR
  rw [ht.1 6 (by omega) (by omega) (by omega) (by omega) (by omega)]
  exact h7
/-- scratch and told: what queries may change -/
def qX (s s' : Mem) : Prop := ∀ c, c < 172 → (c < 115 ∨ 123 ≤ c) → c ≠ 16 → c ≠ 31 → s' c = s c
theorem nS_t {n a : Nat} {s t s' t' : Mem} (h : nS n a s t) (hs : ∀ c, a ≤ c → c ≤ a + 7 → s' c = s c) (h57 : s' 57 = s 57) (h1 : t' 1 = t 1) (h4 : t' 4 = t 4) (h5 : t' 0 5 = t 0 5) (h6 : t' 0 6 = t 0 6) : nS n a s' t' := by
  obtain ⟨⟨ha, hn, q1, q2, q3⟩, q4, q5, q6⟩ := h
  refine ⟨⟨ha, hn, by rw [h6]; exact q1, by rw [hs a (by omega) (by omega), h5]; exact q2, by rw [h5]; exact q3⟩, nR_eq q4 (fun f hf => hs _ (by omega) (by omega)) (fun j _ => by rw [h1]) hn, by rw [h1]; exact q5, fun i hi => by rw [h57, h4]; exact q6 i hi⟩
/-- queries: the class' scratch and thought, the reference's scratch -/
theorem GR_q {s t s' t' : Mem} (h : GR s t) (hs : ∀ c, (c < 115 ∨ (123 ≤ c ∧ c < 175)) → c ≠ 16 → c ≠ 31 → s' c = s c) (h115 : s' 115 0 = s 115 0)
    (h0 : ∀ j, j ≠ 0 → j ≠ 61 → j ≠ 63 → t' 0 j = t 0 j) (ht : ∀ c, c ≠ 0 → c ≠ 3 → c ≠ 19 → c ≠ 20 → c ≠ 31 → c ≠ 33 → c ≠ 34 → t' c = t c) : GR s' t' := by
  obtain ⟨n, ⟨g1, g2, g3, g4⟩, ⟨h1, h2, h3⟩, h4, h5, h6, h7⟩ := h
  have hn := g1.1.2.1
  have e1 : t' 1 = t 1 := ht 1 (by omega) (by omega) (by omega) (by omega) (by omega) (by omega) (by omega)
  refine ⟨n, ⟨nS_t g1 (fun c q1 q2 => hs _ (by omega) (by omega) (by omega)) (hs _ (by omega) (by omega) (by omega)) e1 (ht _ (by omega) (by omega) (by omega) (by omega) (by omega) (by omega) (by omega)) (h0 _ (by omega) (by omega) (by omega)) (h0 _ (by omega) (by omega) (by omega)), by rw [e1]; exact g2, by rw [e1]; exact g3, by rw [h0 _ (by omega) (by omega) (by omega)]; exact g4⟩,
    ⟨by rw [h115]; exact h1, ?_, rowsR_t h3 (fun j q1 q2 => hs _ (by omega) (by omega) (by omega)) (fun j q1 q2 => h0 _ (by omega) (by omega) (by omega)) (fun c q1 q2 q3 q4 q5 => ht _ (by omega) (by omega) (by omega) (by omega) (by omega) (by omega) (by omega))⟩,
    pastR_eq h4 hn (fun c q1 q2 => hs _ (by omega) (by omega) (by omega)) (by rw [hs 0 (by omega) (by omega) (by omega)]) (by rw [hs 0 (by omega) (by omega) (by omega)]) (ht _ (by omega) (by omega) (by omega) (by omega) (by omega) (by omega) (by omega)) (h0 _ (by omega) (by omega) (by omega)),
    imgR_eq h5 (fun c q1 q2 => hs _ (by omega) (by omega) (by omega)) (by rw [hs 0 (by omega) (by omega) (by omega)]) (h0 _ (by omega) (by omega) (by omega)) (ht _ (by omega) (by omega) (by omega) (by omega) (by omega) (by omega) (by omega)),
    txtR_eq h6 (fun c q1 q2 => hs _ (by omega) (by omega) (by omega)) (h0 _ (by omega) (by omega) (by omega)) (h0 _ (by omega) (by omega) (by omega)) (h0 _ (by omega) (by omega) (by omega)) (ht _ (by omega) (by omega) (by omega) (by omega) (by omega) (by omega) (by omega)), ?_⟩
  · obtain ⟨w1, w2, w3, w4⟩ := h2
    refine ⟨lawR_eq w1 (fun j hj => hs _ (by omega) (by omega) (by omega)) (fun c q1 q2 => ht _ (by omega) (by omega) (by omega) (by omega) (by omega) (by omega) (by omega)), ordR_eq w2 (fun j hj => hs _ (by omega) (by omega) (by omega)) (h0 _ (by omega) (by omega) (by omega)) (ht _ (by omega) (by omega) (by omega) (by omega) (by omega) (by omega) (by omega)) (ht _ (by omega) (by omega) (by omega) (by omega) (by omega) (by omega) (by omega)),
      planT_eq w3 (fun j hj => hs _ (by omega) (by omega) (by omega)) (h0 _ (by omega) (by omega) (by omega)) (ht _ (by omega) (by omega) (by omega) (by omega) (by omega) (by omega) (by omega)), planC_eq w4 (fun j hj => hs _ (by omega) (by omega) (by omega)) (h0 _ (by omega) (by omega) (by omega)) (ht _ (by omega) (by omega) (by omega) (by omega) (by omega) (by omega) (by omega))⟩
  · unfold wrdR
    rw [ht 6 (by omega) (by omega) (by omega) (by omega) (by omega) (by omega) (by omega)]
    exact h7
theorem GR_told {s t : Mem} {v : Int32} (h : GR s t) : GR s (mset t 0 0 v) :=
  GR_q h (fun _ _ _ _ => rfl) rfl (fun j q1 q2 q3 => by rw [m_eq, u_ne q1]) (fun c q1 _ _ _ _ _ _ => m_ne q1)
def opR (o o' : Option (Int32 × Mem)) : Prop := ok2 o o' (fun r r' => r.1 = r'.1 ∧ GR r.2 r'.2)
theorem opR.ret {s t : Mem} {v : Int32} (h : GR s t) : opR (some (v, s)) (some (v, t)) := ok2.some ⟨rfl, h⟩
theorem opR.rets {s t : Mem} {v v' : Int32} (e : v = v') (h : GR s t) : opR (some (v, s)) (some (v', t)) := ok2.some ⟨e, h⟩
