/-! ===== text ===== -/
theorem x_cut0 {s : Mem} (h : 0 ≤ s 173 0) : f_X6_cut 0 s = some (1, mset s 173 0 0) := by
  unfold f_X6_cut
  rw [if_neg (by decide), if_pos h]
/-- the empty TAPE, and what fault() tells -/
theorem txtR_0 {s t : Mem} {a b : Int32} (h1 : s 172 1 = a) (h2 : s 172 2 = b) (h3 : t 0 29 = a) (h4 : t 0 30 = b) (h5 : t 0 9 = 0) : txtR (mset s 173 0 0) t :=
  ⟨⟨0, by omega, by rw [m_eq, u_eq]; rfl, h5, fun i hi => by omega⟩, by rw [m_ne (by omega), h1, h3], by rw [m_ne (by omega), h2, h4]⟩
section U8
variable {n : Nat} {s t s1 t1 : Mem}
/-- the class' side of what is as it was -/
def baX (s s1 : Mem) : Prop := ∀ c, c < 172 → s1 c = s c
def baY (t t1 : Mem) : Prop := (∀ c, c ≠ 0 → t1 c = t c) ∧ (∀ j, j < 10 ∨ 13 < j → j ≠ 0 → j ≠ 29 → j ≠ 30 → j ≠ 23 → j ≠ 24 → j ≠ 22 → t1 0 j = t 0 j) ∧ t1 0 29 = 0 ∧ t1 0 30 = -1 ∧ t1 0 22 = 0 ∧ t1 0 23 = 0 ∧ t1 0 24 = 0
theorem WS_lo {s2 s3 t2 : Mem} (h : WS n s t) (hs : ∀ c, 10 ≤ c → c < 31 → c ≠ 16 → s3 c = s c) (hb : baY t t1) (hY : tgY t1 t2) (h7 : t2 7 = t 7) (h31 : t2 0 31 = t 0 31) (h33 : t2 0 33 = t 0 33) (h35 : t2 0 35 = t 0 35) : WS n s3 t2 := by
  obtain ⟨a1, a2, a3, a4, a5, a6, a7, a8⟩ := hY
  obtain ⟨w1, w2, w3, w4⟩ := h
  refine ⟨lawR_lo w1 (fun j hj => hs _ (by omega) (by omega) (by omega)) h7 (fun i hi => ?_) (fun i hi => ?_), ordR_lo w2 (fun j hj => hs _ (by omega) (by omega) (by omega)) h35 (fun i hi => ?_) (fun i hi => ?_), planT_lo w3 (fun j hj => hs _ (by omega) (by omega) (by omega)) h31 (fun i hi => ?_), planC_lo w4 (fun j hj => hs _ (by omega) (by omega) (by omega)) h33 (fun i hi => ?_)⟩
  · have := a3 i hi
    rw [hb.1 8 (by omega), hb.1 9 (by omega), hb.1 10 (by omega), hb.1 11 (by omega)] at this
    exact this
  · have := a4 i hi
    rw [hb.1 12 (by omega), hb.1 13 (by omega)] at this
    exact this
  · rw [a7 i hi, hb.1 17 (by omega)]
  · rw [a8 i hi, hb.1 18 (by omega)]
  · rw [a5 i hi, hb.1 15 (by omega)]
  · rw [a6 i hi, hb.1 16 (by omega)]
theorem ofT_of {s3 t2 t3 : Mem} (hs : ∀ c, (c < 10 ∧ c ≠ 0) ∨ (32 ≤ c ∧ c < 123) → s3 c = s c) (h0 : s3 0 2 = s 0 2) (hb : baY t t1) (hY : tgY t1 t2) (h3 : ∀ c, c ≠ 0 → c < 7 ∨ 18 < c → t3 c = t2 c) (h30 : ∀ j, (4 ≤ j ∧ j < 9) ∨ 35 < j → t3 0 j = t2 0 j) : ofT s t s3 t3 :=
  ⟨fun c hc => hs c (by omega), h0, fun c h1 h2 => by rw [h3 c h1 h2, hY.1 c h1 (by omega), hb.1 c h1], fun j hj => by rw [h30 j hj, hY.2.1 j (by omega), hb.2.1 j (by omega) (by omega) (by omega) (by omega) (by omega) (by omega) (by omega)]⟩
theorem text_bad {s2 t2 : Mem} {x : Int32} (hL : GL n s t) (hX : GX n s t) (hbX : baX s s1) (hbY : baY t t1) (h : badR s1 t1 s2 t2) : opR (jn_X11_text_126 x (-1) s2) (jn_X12_text_69 x (-1) (mset (mset t2 0 29 (t2 0 27)) 0 30 ((mset t2 0 29 (t2 0 27)) 0 28))) := by
  obtain ⟨h1, h2, h3, h4, h5⟩ := h
  unfold jn_X11_text_126 jn_X12_text_69
  rw [x_cut0 h5]
  dsimp only [Option.bind_some]
  rw [if_pos rfl, if_pos rfl, m_eq, u_ne (show (28 : Nat) ≠ 29 by omega)]
  have hs : ∀ c, c < 172 → (mset s2 173 0 0) c = s c := fun c hc => by rw [m_ne (by omega), h1.1 c (by omega) (by omega) (by omega)]; exact hbX c hc
  have hc : ∀ c, c ≠ 0 → mset (mset (mset t2 0 29 (t2 0 27)) 0 30 (t2 0 28)) 0 9 0 c = t2 c := fun c hc => by rw [m_ne hc, m_ne hc, m_ne hc]
  have hj : ∀ j, j ≠ 9 → j ≠ 29 → j ≠ 30 → mset (mset (mset t2 0 29 (t2 0 27)) 0 30 (t2 0 28)) 0 9 0 0 j = t2 0 j := fun j q1 q2 q3 => by simp (disch := omega) only [m_eq, u_ne]
  have t2j : ∀ j, (13 < j ∧ j < 22) ∨ 30 < j ∨ (j < 10 ∧ j ≠ 0) → t2 0 j = t 0 j := fun j q => by rw [h2.2.1 j (by omega), hbY.2.1 j (by omega) (by omega) (by omega) (by omega) (by omega) (by omega) (by omega)]
  have hW : WS n (mset s2 173 0 0) t2 := WS_lo (s2 := s2) hX.1.2.1 (fun c q1 q2 q3 => hs c (by omega)) hbY h2 (by rw [h2.1 7 (by omega) (by omega), hbY.1 7 (by omega)]) (t2j 31 (by omega)) (t2j 33 (by omega)) (t2j 35 (by omega))
  refine opR.ret (GR_text hL hX (ofT_of (t1 := t1) (t2 := t2) (fun c q => hs c (by omega)) (by rw [hs 0 (by omega)]) hbY h2 (fun c q1 q2 => hc c q1) (fun j q => hj j (by omega) (by omega) (by omega))) ?_ ?_ (txtR_0 h3 h4 ?_ ?_ ?_))
  · obtain ⟨w1, w2, w3, w4⟩ := hW
    exact ⟨lawR_eq w1 (fun _ _ => rfl) (fun c q1 q2 => hc c (by omega)), ordR_eq w2 (fun _ _ => rfl) (hj _ (by omega) (by omega) (by omega)) (hc _ (by omega)) (hc _ (by omega)), planT_eq w3 (fun _ _ => rfl) (hj _ (by omega) (by omega) (by omega)) (hc _ (by omega)), planC_eq w4 (fun _ _ => rfl) (hj _ (by omega) (by omega) (by omega)) (hc _ (by omega))⟩
  · refine pastR_eq hX.2.1 hL.1.1.2.1 (fun c q1 q2 => hs c (by omega)) (by rw [hs 0 (by omega)]) (by rw [hs 0 (by omega)]) ?_ ?_
    · rw [hc 2 (by omega), h2.1 2 (by omega) (by omega), hbY.1 2 (by omega)]
    · rw [hj 3 (by omega) (by omega) (by omega), t2j 3 (by omega)]
  · simp (disch := omega) only [m_eq, u_ne, u_eq]
  · simp (disch := omega) only [m_eq, u_ne, u_eq]
  · simp (disch := omega) only [m_eq, u_ne, u_eq]
end U8
theorem o_text {x : Int32} {s t : Mem} (h : GR s t) : opR (f_X11_text x s) (f_X12_text x t) := by
  obtain ⟨n, hL, hX⟩ := h
  have hn : n ≤ 14 := hL.1.1.2.1
  have e1 : s (1 + 1) 1 = Int32.ofNat n := hL.1.2.1.1.1
  have t6 : t 0 6 = Int32.ofNat n := hL.1.1.2.2.1
  obtain ⟨⟨L, hL4, l1, l2, l3⟩, l4, l5⟩ := hX.2.2.2.1
  obtain ⟨s1, t1, K, T, b1, b2, b3, b4, b5, b6, b7, b8, b9, b10, b11⟩ := r_begin hn hX.2.2.2.2 hL4 l1 l2 l3
  have hbX : baX s s1 := fun c hc => b9 c (by omega) (by omega) (by omega) (by omega) (by omega)
  have hbY : baY t t1 := by
    refine ⟨b10, fun j q1 q2 q3 q4 q5 q6 q7 => ?_, ?_, ?_, ?_, ?_, ?_⟩
    · rw [b11 j q1, txA_j (by omega)]
    all_goals (rw [b11 _ (by omega)]; unfold txA; simp (disch := omega) only [m_eq, u_ne, u_eq])
  have hS : pS K T s1 t1 0 s1 t1 := ⟨b3, b4, tgX_r, tgY_r⟩
  have n0 : 0 ≤ s1 173 0 := by rw [b8, N_0le (by omega)]; trivial
  have t16 : t1 0 6 = Int32.ofNat n := by rw [hbY.2.1 6 (by omega) (by omega) (by omega) (by omega) (by omega) (by omega) (by omega)]; exact t6
  unfold f_X11_text
  rw [e1, b1]
  dsimp only [Option.bind_some]
  have hM : f_X12_text x t = if 0 ≤ x ∧ x ≤ 3 then (f_X12_readsText x (txA t)).bind (fun r7 => if r7.1 = (-1) then jn_X12_text_69 x r7.1 (mset (mset r7.2 0 29 (r7.2 0 27)) 0 30 ((mset r7.2 0 29 (r7.2 0 27)) 0 28)) else jn_X12_text_69 x r7.1 r7.2) else jn_X12_text_69 x (-1) (txA t) := by
    show (f_X12_isIn x 0 3 (txA t)).bind _ = _
    rw [m_isIn]
    dsimp only [Option.bind_some]
    by_cases q : 0 ≤ x ∧ x ≤ 3
    · rw [if_pos q, if_pos q, if_neg (by decide)]
    · rw [if_neg q, if_neg q, if_pos rfl]
  rw [hM]
  have hj22 : ∀ {t2 : Mem}, tgY t1 t2 → ∀ j, (13 < j ∧ j < 22) ∨ 30 < j ∨ (j < 10 ∧ j ≠ 0) → t2 0 j = t 0 j := fun {t2} hY j q => by
    rw [hY.2.1 j (by omega), hbY.2.1 j (by omega) (by omega) (by omega) (by omega) (by omega) (by omega) (by omega)]
  by_cases x0 : x = 0
  · subst x0
    rw [if_pos rfl, if_pos (by decide)]
    unfold f_X12_readsText
    rw [b2]
    dsimp only [Option.bind_some]
    rw [if_neg (by decide), if_neg (by decide), if_neg (by decide)]
    have hI : lawI K T s1 t1 0 0 [] (mset (mset s1 178 0 0) 178 1 0) t1 := by
      refine ⟨⟨⟨cuC_eq b3 ?_ ?_ ?_ ?_ (by rw [m_ne (by omega), m_ne (by omega)]), ⟨fun _ _ _ _ _ => rfl, rfl, rfl⟩, ?_, fun i hi => absurd hi (by simp)⟩, b4, ⟨fun _ _ _ _ _ => rfl, fun _ _ => rfl, fun _ _ => ⟨rfl, rfl⟩⟩, ⟨?_, fun L hL => by cases hL⟩, ?_, fun i hi => absurd hi (by simp)⟩, ⟨tgX_m (tgX_m tgX_r (by omega)) (by omega), tgY_r⟩, ?_, fun l hl => by omega, by simp⟩
      · rw [m_ne (by omega), m_ne (by omega)]
      · rw [m_ne (by omega), m_ne (by omega)]
      · rw [m_ne (by omega), m_ne (by omega)]
      · rw [m_ne (by omega), m_ne (by omega)]
      · rw [m_eq, u_eq]; rfl
      · exact hbY.2.2.2.2.2.2
      · exact hbY.2.2.2.2.2.1
      · rw [m_eq, u_ne (by omega), m_eq, u_eq]; rfl
    obtain ⟨b, b', c1, c2, c3⟩ := r_lawLoop (a1 := 1 + 9) hI
    unfold f_X4_readLaw f_X1_clear
    dsimp only [Option.bind_some]
    have c4 : f_X12_readLaw t1 = finL b' := by
      unfold f_X12_readLaw
      rw [c2]
      rfl
    rw [c1, c4]
    dsimp only [Option.bind_some]
    rcases c3 with ⟨z1, t2, z2, z3⟩ | ⟨z1, k, j, cs, t2, hk, z2, z3⟩
    · rw [if_pos z1, z2]
      dsimp only [Option.bind_some]
      rw [if_pos rfl]
      exact text_bad hL hX hbX hbY z3
    · rw [if_neg (by rw [z1]; decide), z2]
      dsimp only [Option.bind_some]
      rw [if_neg (N_nn (show k < 10000 by omega))]
      have hgY := z3.2.1.2
      have hgX := z3.2.1.1
      have h178 := z3.2.2.1
      have h23 := z3.1.2.2.2.2.1
      have hcs : cs.length ≤ 400 := by
        have := z3.2.2.2.2
        have := z3.1.2.1.2.1
        have := z3.1.2.1.1.1
        omega
      have s172 : b.2 172 1 = 0 ∧ b.2 172 2 = -1 := z3.1.1.1.2.2.2.2.2.2
      have s173 : 0 ≤ b.2 173 0 := by rw [z3.1.1.1.2.1]; exact z3.1.2.1.1.2.2.2.2.2.2
      obtain ⟨t3, d1, d2, d3, d4, d5⟩ := m_takesLaw (t := mset t2 0 9 0) (k := k) (sz := cs.length) (by rw [m_eq, u_ne (by omega), hgY.2.1 22 (by omega)]; exact hbY.2.2.2.2.1) (by rw [m_eq, u_ne (by omega)]; exact h23) hk hcs
      have hlaw : lawR b.2 178 t3 := lawR_of z3 hk d2 (fun c l h1 h2 h3 => by rw [d4 c l h1 h2 h3, m_ne (by omega)]) (fun i hi => by
        have := d5 i hi
        rw [m_ne (by omega), m_ne (by omega)] at this
        exact this)
      obtain ⟨s3, f1, f2, f3⟩ := x_copyLaw (d := 1 + 9) (e := 178) (Or.inl (by omega)) hlaw
      unfold jn_X4_readLaw_77
      rw [f1]
      dsimp only [Option.bind_some]
      have e178 : s3 178 0 = Int32.ofNat k := by rw [f3 178 (by omega)]; exact h178
      rw [e178]
      unfold jn_X11_text_126 jn_X12_text_69
      rw [x_cut0 (by rw [f3 173 (by omega)]; exact s173)]
      dsimp only [Option.bind_some]
      rw [if_neg (N_nn (show k < 10000 by omega)), if_neg (show ¬ (0 : Int32) = 1 by decide), if_neg (show ¬ (0 : Int32) = 2 by decide), if_neg (N_nn (show k < 10000 by omega)), if_pos rfl, d1]
      dsimp only [Option.bind_some]
      have hs : ∀ c, c < 172 → (c < 10 ∨ 15 < c) → (mset s3 173 0 0) c = s c := fun c hc hc2 => by
        rw [m_ne (by omega), f3 c (by omega), hgX.1 c (by omega) (by omega) (by omega)]
        exact hbX c hc
      have hc0 : ∀ c, c ≠ 0 → c < 7 ∨ 13 < c → t3 c = t2 c := fun c q1 q2 => by rw [d3 c q2, m_ne q1]
      have h00 : ∀ j, j ≠ 9 → t3 0 j = t2 0 j := fun j q => by rw [d3 0 (by omega), m_eq, u_ne q]
      refine opR.ret (GR_text hL hX (ofT_of (t1 := t1) (t2 := t2) (fun c q => hs c (by omega) (by omega)) (by rw [hs 0 (by omega) (by omega)]) hbY hgY (fun c q1 q2 => hc0 c q1 (by omega)) (fun j q => h00 j (by omega))) ?_ ?_ (txtR_0 (a := 0) (b := -1) ?_ ?_ ?_ ?_ ?_))
      · obtain ⟨w1, w2, w3, w4⟩ := hX.1.2.1
        refine ⟨lawR_eq f2 (fun j hj => by rw [m_ne (by omega)]) (fun c q1 q2 => rfl), ordR_lo w2 (fun j hj => hs _ (by omega) (by omega)) ?_ (fun i hi => ?_) (fun i hi => ?_), planT_lo w3 (fun j hj => hs _ (by omega) (by omega)) ?_ (fun i hi => ?_), planC_lo w4 (fun j hj => hs _ (by omega) (by omega)) ?_ (fun i hi => ?_)⟩
        · rw [h00 35 (by omega), hj22 hgY 35 (by omega)]
        · rw [hc0 17 (by omega) (by omega), hgY.2.2.2.2.2.2.1 i hi, b10 17 (by omega)]
        · rw [hc0 18 (by omega) (by omega), hgY.2.2.2.2.2.2.2 i hi, b10 18 (by omega)]
        · rw [h00 31 (by omega), hj22 hgY 31 (by omega)]
        · rw [hc0 15 (by omega) (by omega), hgY.2.2.2.2.1 i hi, b10 15 (by omega)]
        · rw [h00 33 (by omega), hj22 hgY 33 (by omega)]
        · rw [hc0 16 (by omega) (by omega), hgY.2.2.2.2.2.1 i hi, b10 16 (by omega)]
      · refine pastR_eq hX.2.1 hn (fun c q1 q2 => hs c (by omega) (by omega)) (by rw [hs 0 (by omega) (by omega)]) (by rw [hs 0 (by omega) (by omega)]) ?_ ?_
        · rw [hc0 2 (by omega) (by omega), hgY.1 2 (by omega) (by omega), b10 2 (by omega)]
        · rw [h00 3 (by omega), hj22 hgY 3 (by omega)]
      · rw [f3 172 (by omega)]; exact s172.1
      · rw [f3 172 (by omega)]; exact s172.2
      · rw [h00 29 (by omega), hgY.2.1 29 (by omega)]; exact hbY.2.2.1
      · rw [h00 30 (by omega), hgY.2.1 30 (by omega)]; exact hbY.2.2.2.1
      · rw [d3 0 (by omega), m_eq, u_eq]
  · rw [if_neg x0]
    -- after a plan has been taken over
    have plan : ∀ {y : Int32} {d k : Nat} {s2 s3 t2 t3 : Mem} {Pl : Nat → Mem → Mem → Prop}, (y = 1 ∧ d = 17 ∨ y = 2 ∧ d = 22) → k ≤ 16 → tgY t1 t2 → (tgX s1 s2 ∧ 0 ≤ s2 173 0 ∧ s2 172 1 = 0 ∧ s2 172 2 = -1) → (∀ c, c < d ∨ d + 4 < c → s3 c = s2 c) →
        f_X12_takesOther y (Int32.ofNat k) (mset t2 0 9 0) = some t3 → (∀ c, c ≠ 0 → c < 15 ∨ 16 < c → t3 c = t2 c) → (∀ j, j ≠ 31 → j ≠ 33 → j ≠ 3 → j ≠ 9 → t3 0 j = t2 0 j) → t3 0 9 = 0 → t3 0 3 = 0 →
        (planT n (mset (mset s3 173 0 0) 0 5 0) 17 t3 ∧ planC n (mset (mset s3 173 0 0) 0 5 0) 22 t3) → opR (jn_X11_text_126 y (Int32.ofNat k) s3) (jn_X12_text_69 y (Int32.ofNat k) t2) := by
      intro y d k s2 s3 t2 t3 Pl hy hk hgY hgX hs3 hto h3c h3j h39 h33 hpl
      have hd : d = 17 ∨ d = 22 := by rcases hy with q | q; exact Or.inl q.2; exact Or.inr q.2
      unfold jn_X11_text_126 jn_X12_text_69 jn_X11_text_153 f_X11_forget
      rw [x_cut0 (by rw [hs3 173 (by omega)]; exact hgX.2.1)]
      have y0 : y ≠ 0 := by rcases hy with q | q <;> (rw [q.1]; decide)
      dsimp only [Option.bind_some]
      rw [if_neg (N_nn (show k < 10000 by omega)), if_neg (N_nn (show k < 10000 by omega)), if_neg y0, hto]
      dsimp only [Option.bind_some]
      have eC : (if y = 1 then some (Int32.ofNat k, mset (mset s3 173 0 0) 0 5 0) else if y = 2 then some (Int32.ofNat k, mset (mset s3 173 0 0) 0 5 0) else some (Int32.ofNat k, mset s3 173 0 0)) = some (Int32.ofNat k, mset (mset s3 173 0 0) 0 5 0) := by
        rcases hy with q | q
        · rw [if_pos q.1]
        · rw [if_neg (by rw [q.1]; decide), if_pos q.1]
      rw [eC]
      have hs : ∀ c, c ≠ 0 → c < 172 → (c < d ∨ d + 4 < c) → (mset (mset s3 173 0 0) 0 5 0) c = s c := fun c q0 hc hc2 => by
        rw [m_ne q0, m_ne (by omega), hs3 c hc2, hgX.1.1 c (by omega) (by omega) (by omega)]
        exact hbX c hc
      have hs0 : ∀ j, j ≠ 5 → (mset (mset s3 173 0 0) 0 5 0) 0 j = s 0 j := fun j q => by
        rw [m_eq, u_ne q, m_ne (by omega), hs3 0 (by omega), hgX.1.1 0 (by omega) (by omega) (by omega)]
        rw [hbX 0 (by omega)]
      have ht : mset (mset s3 173 0 0) 0 5 0 = mset (mset s3 0 5 0) 173 0 0 := by
        funext c j
        unfold mset upd
        by_cases q : c = 0
        · subst q; simp
        · by_cases q2 : c = 173
          · subst q2; simp
          · simp [q, q2]
      refine opR.ret (GR_text hL hX (ofT_of (t1 := t1) (t2 := t2) (fun c q => hs c (by omega) (by omega) (by omega)) (hs0 2 (by omega)) hbY hgY (fun c q1 q2 => h3c c q1 (by omega)) (fun j q => h3j j (by omega) (by omega) (by omega) (by omega))) ?_ ?_ ?_)
      · obtain ⟨w1, w2, w3, w4⟩ := hX.1.2.1
        refine ⟨lawR_lo w1 (fun j hj => hs _ (by omega) (by omega) (by omega)) ?_ (fun i hi => ?_) (fun i hi => ?_), ordR_lo w2 (fun j hj => hs _ (by omega) (by omega) (by omega)) ?_ (fun i hi => ?_) (fun i hi => ?_), hpl.1, hpl.2⟩
        · rw [h3c 7 (by omega) (by omega), hgY.1 7 (by omega) (by omega), b10 7 (by omega)]
        · have := hgY.2.2.1 i hi
          rw [b10 8 (by omega), b10 9 (by omega), b10 10 (by omega), b10 11 (by omega)] at this
          rw [h3c 8 (by omega) (by omega), h3c 9 (by omega) (by omega), h3c 10 (by omega) (by omega), h3c 11 (by omega) (by omega)]
          exact this
        · have := hgY.2.2.2.1 i hi
          rw [b10 12 (by omega), b10 13 (by omega)] at this
          rw [h3c 12 (by omega) (by omega), h3c 13 (by omega) (by omega)]
          exact this
        · rw [h3j 35 (by omega) (by omega) (by omega) (by omega), hj22 hgY 35 (by omega)]
        · rw [h3c 17 (by omega) (by omega), hgY.2.2.2.2.2.2.1 i hi, b10 17 (by omega)]
        · rw [h3c 18 (by omega) (by omega), hgY.2.2.2.2.2.2.2 i hi, b10 18 (by omega)]
      · obtain ⟨c, nx, p1, p2, p3, p4, p5, p6⟩ := hX.2.1
        exact ⟨0, nx, by omega, p2, by rw [m_eq, u_eq]; rfl, (hs0 6 (by omega)).trans p4, h33, fun u hu => by omega⟩
      · rw [ht]
        refine txtR_0 (a := 0) (b := -1) ?_ ?_ ?_ ?_ h39
        · rw [m_ne (by omega), hs3 172 (by omega)]; exact hgX.2.2.1
        · rw [m_ne (by omega), hs3 172 (by omega)]; exact hgX.2.2.2
        · rw [h3j 29 (by omega) (by omega) (by omega) (by omega), hgY.2.1 29 (by omega)]; exact hbY.2.2.1
        · rw [h3j 30 (by omega) (by omega) (by omega) (by omega), hgY.2.1 30 (by omega)]; exact hbY.2.2.2.1
    by_cases x1 : x = 1
    · subst x1
      rw [if_pos rfl, if_pos (by decide)]
      unfold f_X12_readsText
      rw [b2]
      dsimp only [Option.bind_some]
      rw [if_pos rfl]
      obtain ⟨⟨v, s2⟩, ⟨v', t2⟩, c1, c2, c3⟩ := r_readTalk (n := n) (a := 1 + 16) (by omega) hS hn b7 t16
      rw [c1, c2]
      dsimp only [Option.bind_some]
      rcases c3 with ⟨z1, z2, z3⟩ | ⟨k, hk, z1, z2, z3, s', z4, z5, z6, z7, z8⟩
      · dsimp only at z1 z2 z3
        subst z1 z2
        rw [if_pos rfl]
        exact text_bad hL hX hbX hbY z3
      · dsimp only at z1 z2 z3 z4 z6 z7 z8
        subst z1 z2
        rw [if_neg (N_nn (show k < 10000 by omega))]
        refine plan (Pl := plT n) (Or.inl ⟨rfl, rfl⟩) hk z3 z5 z6 (m_takesT hk) (fun c q1 q2 => ?_) (fun j q1 q2 q3 q4 => ?_) ?_ ?_ ⟨?_, ?_⟩
        · rw [m_ne q1, m_ne q1, cpM_ne (by omega), m_ne q1]
        · rw [m_eq, u_ne q3, m_eq, u_ne q1, cpM_ne (by omega), m_eq, u_ne q4]
        · rw [m_eq, u_ne (by omega), m_eq, u_ne (by omega), cpM_ne (by omega), m_eq, u_eq]
        · rw [m_eq, u_eq]
        · refine ⟨k, hk, ?_, ?_, fun l hl => ?_⟩
          · rw [m_ne (by omega), m_ne (by omega), z7]; exact z4.1
          · rw [m_eq, u_ne (by omega), m_eq, u_eq]
          · obtain ⟨y1, x, y, hx, hy, hxy, y2, y3, y4, y5⟩ := z4.2 l hl
            have cp : ∀ i, i < 3 * k → mset (mset (cpM (mset t2 0 9 0) 15 48 15 0 (3 * k)) 0 31 (Int32.ofNat k)) 0 3 0 15 i = t2 15 (48 + i) := fun i hi => by
              have := cpM_in (t := mset t2 0 9 0) (A := 15) (oa := 48) (B := 15) (ob := 0) (m := 3 * k) (j := i) hi
              rw [Nat.zero_add] at this
              rw [m_ne (by omega), m_ne (by omega), this, m_ne (by omega)]
            have sp : ∀ f, 1 ≤ f → f < 5 → (mset (mset s2 173 0 0) 0 5 0) (17 + f) l = s' (185 + f) l := fun f q1 q2 => by
              rw [m_ne (by omega), m_ne (by omega)]
              exact z8 f l q1 q2 (by omega)
            rw [cp _ (by omega), cp _ (by omega), cp _ (by omega), sp 1 (by omega) (by omega)]
            refine ⟨y1, x, y, hx, hy, hxy, ?_, y3, ?_, y5⟩
            · rw [sp 3 (by omega) (by omega)]; exact y2
            · rw [sp 4 (by omega) (by omega)]; exact y4
        · refine planC_lo hX.1.2.1.2.2.2 (fun j hj => ?_) ?_ (fun i hi => ?_)
          · rw [m_ne (by omega), m_ne (by omega), z6 _ (by omega), z5.1.1 _ (by omega) (by omega) (by omega), hbX _ (by omega)]
          · rw [m_eq, u_ne (by omega), m_eq, u_ne (by omega), cpM_ne (by omega), m_eq, u_ne (by omega), hj22 z3 33 (by omega)]
          · rw [m_ne (by omega), m_ne (by omega), cpM_ne (by omega), m_ne (by omega), z3.2.2.2.2.2.1 i hi, b10 16 (by omega)]
    · rw [if_neg x1]
      by_cases x2 : x = 2
      · subst x2
        rw [if_pos rfl, if_pos (by decide)]
        unfold f_X12_readsText
        rw [b2]
        dsimp only [Option.bind_some]
        rw [if_neg (by decide), if_pos rfl]
        obtain ⟨⟨v, s2⟩, ⟨v', t2⟩, c1, c2, c3⟩ := r_readCures (n := n) (a := 1 + 21) (by omega) hS hn b7 t16
        rw [c1, c2]
        dsimp only [Option.bind_some]
        rcases c3 with ⟨z1, z2, z3⟩ | ⟨k, hk, z1, z2, z3, s', z4, z5, z6, z7, z8⟩
        · dsimp only at z1 z2 z3
          subst z1 z2
          rw [if_pos rfl]
          exact text_bad hL hX hbX hbY z3
        · dsimp only at z1 z2 z3 z4 z6 z7 z8
          subst z1 z2
          rw [if_neg (N_nn (show k < 10000 by omega))]
          refine plan (Pl := plC n) (Or.inr ⟨rfl, rfl⟩) hk z3 z5 z6 (m_takesC hk) (fun c q1 q2 => ?_) (fun j q1 q2 q3 q4 => ?_) ?_ ?_ ⟨?_, ?_⟩
          · rw [m_ne q1, m_ne q1, cpM_ne (by omega), m_ne q1]
          · rw [m_eq, u_ne q3, m_eq, u_ne q2, cpM_ne (by omega), m_eq, u_ne q4]
          · rw [m_eq, u_ne (by omega), m_eq, u_ne (by omega), cpM_ne (by omega), m_eq, u_eq]
          · rw [m_eq, u_eq]
          · refine planT_lo hX.1.2.1.2.2.1 (fun j hj => ?_) ?_ (fun i hi => ?_)
            · rw [m_ne (by omega), m_ne (by omega), z6 _ (by omega), z5.1.1 _ (by omega) (by omega) (by omega), hbX _ (by omega)]
            · rw [m_eq, u_ne (by omega), m_eq, u_ne (by omega), cpM_ne (by omega), m_eq, u_ne (by omega), hj22 z3 31 (by omega)]
            · rw [m_ne (by omega), m_ne (by omega), cpM_ne (by omega), m_ne (by omega), z3.2.2.2.2.1 i hi, b10 15 (by omega)]
          · refine ⟨k, hk, ?_, ?_, fun l hl => ?_⟩
            · rw [m_ne (by omega), m_ne (by omega), z7]; exact z4.1
            · rw [m_eq, u_ne (by omega), m_eq, u_eq]
            · obtain ⟨y1, kd, x, hkd, hx, y2, y3, y4, y5, y6, y7, y8⟩ := z4.2 l hl
              have cp : ∀ i, i < 4 * k → mset (mset (cpM (mset t2 0 9 0) 16 64 16 0 (4 * k)) 0 33 (Int32.ofNat k)) 0 3 0 16 i = t2 16 (64 + i) := fun i hi => by
                have := cpM_in (t := mset t2 0 9 0) (A := 16) (oa := 64) (B := 16) (ob := 0) (m := 4 * k) (j := i) hi
                rw [Nat.zero_add] at this
                rw [m_ne (by omega), m_ne (by omega), this, m_ne (by omega)]
              have sp : ∀ f, 1 ≤ f → f < 5 → (mset (mset s2 173 0 0) 0 5 0) (22 + f) l = s' (185 + f) l := fun f q1 q2 => by
                rw [m_ne (by omega), m_ne (by omega)]
                exact z8 f l q1 q2 (by omega)
              rw [cp _ (by omega), cp _ (by omega), cp _ (by omega), cp _ (by omega), sp 1 (by omega) (by omega)]
              refine ⟨y1, kd, x, hkd, hx, ?_, y3, ?_, y5, ?_, y7, y8⟩
              · rw [sp 2 (by omega) (by omega)]; exact y2
              · rw [sp 3 (by omega) (by omega)]; exact y4
              · rw [sp 4 (by omega) (by omega)]; exact y6
      · rw [if_neg x2]
        by_cases x3 : x = 3
        · subst x3
          rw [if_pos rfl, if_pos (by decide)]
          unfold f_X12_readsText
          rw [b2]
          dsimp only [Option.bind_some]
          rw [if_neg (by decide), if_neg (by decide), if_pos rfl]
          obtain ⟨⟨v, s2⟩, ⟨v', t2⟩, c1, c2, c3⟩ := r_readRows (n := n) hS hn b7 t16
          have c1' : f_X4_readOrders (1 + 26) s1 = some (v, s2) := c1
          rw [c1', c2]
          dsimp only [Option.bind_some]
          rcases c3 with ⟨z1, z2, z3⟩ | ⟨k, hk, z1, z2, z3, s', z4, z5, z6⟩
          · dsimp only at z1 z2 z3
            subst z1 z2
            rw [if_pos rfl]
            exact text_bad hL hX hbX hbY z3
          · dsimp only at z1 z2 z3 z4 z6
            subst z1 z2
            rw [if_neg (N_nn (show k < 10000 by omega))]
            unfold jn_X11_text_126 jn_X12_text_69
            have t17 : ∀ p, p < 14 → (mset (cpM (cpM (mset t2 0 9 0) 17 14 17 0 14) 18 84 18 0 84) 0 35 (Int32.ofNat k)) 17 p = t2 17 (14 + p) := fun p hp => by
              have := cpM_in (t := mset t2 0 9 0) (A := 17) (oa := 14) (B := 17) (ob := 0) (m := 14) (j := p) hp
              rw [Nat.zero_add] at this
              rw [m_ne (by omega), cpM_ne (by omega), this, m_ne (by omega)]
            have t18 : ∀ i, i < 84 → (mset (cpM (cpM (mset t2 0 9 0) 17 14 17 0 14) 18 84 18 0 84) 0 35 (Int32.ofNat k)) 18 i = t2 18 (84 + i) := fun i hi => by
              have := cpM_in (t := cpM (mset t2 0 9 0) 17 14 17 0 14) (A := 18) (oa := 84) (B := 18) (ob := 0) (m := 84) (j := i) hi
              rw [Nat.zero_add] at this
              rw [m_ne (by omega), this, cpM_ne (by omega), m_ne (by omega)]
            have hto : f_X12_takesOther 3 (Int32.ofNat k) (mset t2 0 9 0) = some (mset (cpM (cpM (mset t2 0 9 0) 17 14 17 0 14) 18 84 18 0 84) 0 35 (Int32.ofNat k)) := m_takesR
            have h3c : ∀ c, c ≠ 0 → c ≠ 17 → c ≠ 18 → (mset (cpM (cpM (mset t2 0 9 0) 17 14 17 0 14) 18 84 18 0 84) 0 35 (Int32.ofNat k)) c = t2 c := fun c q1 q2 q3 => by rw [m_ne q1, cpM_ne q3, cpM_ne q2, m_ne q1]
            have h3j : ∀ j, j ≠ 35 → j ≠ 9 → (mset (cpM (cpM (mset t2 0 9 0) 17 14 17 0 14) 18 84 18 0 84) 0 35 (Int32.ofNat k)) 0 j = t2 0 j := fun j q1 q2 => by rw [m_eq, u_ne q1, cpM_ne (by omega), cpM_ne (by omega), m_eq, u_ne q2]
            have h39 : (mset (cpM (cpM (mset t2 0 9 0) 17 14 17 0 14) 18 84 18 0 84) 0 35 (Int32.ofNat k)) 0 9 = 0 := by rw [m_eq, u_ne (by omega), cpM_ne (by omega), cpM_ne (by omega), m_eq, u_eq]
            have h35 : (mset (cpM (cpM (mset t2 0 9 0) 17 14 17 0 14) 18 84 18 0 84) 0 35 (Int32.ofNat k)) 0 35 = Int32.ofNat k := by rw [m_eq, u_eq]
            generalize mset (cpM (cpM (mset t2 0 9 0) 17 14 17 0 14) 18 84 18 0 84) 0 35 (Int32.ofNat k) = t3 at *
            have hO : ordR n s' 190 t3 := by
              refine ⟨k, hk, z4.1, h35, fun p hp => ?_⟩
              obtain ⟨kk, nm, a1, a2, a3, a4⟩ := z4.2 p hp
              refine ⟨kk, nm, a1, by rw [t17 p hp]; exact a2, fun i hi => ⟨(a3 i hi).1, ?_⟩, a4⟩
              rw [t18 _ (by omega)]
              exact (a3 i hi).2
            obtain ⟨s3, f1, f2, f3⟩ := x_copyOrd (d := 27) (e := 190) (Or.inl (by omega)) hO
            rw [z6] at f1
            cases f1
            rw [x_cut0 (by rw [f3 173 (by omega)]; exact z5.2.1)]
            dsimp only [Option.bind_some]
            rw [if_neg (N_nn (show k < 10000 by omega)), if_neg (show ¬ (3 : Int32) = 1 by decide), if_neg (show ¬ (3 : Int32) = 2 by decide), if_neg (N_nn (show k < 10000 by omega)), if_neg (show ¬ (3 : Int32) = 0 by decide), hto]
            dsimp only [Option.bind_some]
            have hs : ∀ c, c < 172 → (c < 27 ∨ 30 < c) → (mset s2 173 0 0) c = s c := fun c hc hc2 => by
              rw [m_ne (by omega), f3 c (by omega), z5.1.1 c (by omega) (by omega) (by omega)]
              exact hbX c hc
            refine opR.ret (GR_text hL hX (ofT_of (t1 := t1) (t2 := t2) (fun c q => hs c (by omega) (by omega)) (by rw [hs 0 (by omega) (by omega)]) hbY z3 (fun c q1 q2 => h3c c q1 (by omega) (by omega)) (fun j q => ?_)) ?_ ?_ (txtR_0 (a := 0) (b := -1) ?_ ?_ ?_ ?_ h39))
            · exact h3j j (by omega) (by omega)
            · obtain ⟨w1, w2, w3, w4⟩ := hX.1.2.1
              refine ⟨lawR_lo w1 (fun j hj => hs _ (by omega) (by omega)) ?_ (fun i hi => ?_) (fun i hi => ?_), ordR_eq f2 (fun j hj => by rw [m_ne (by omega)]) rfl rfl rfl, planT_lo w3 (fun j hj => hs _ (by omega) (by omega)) ?_ (fun i hi => ?_), planC_lo w4 (fun j hj => hs _ (by omega) (by omega)) ?_ (fun i hi => ?_)⟩
              · rw [h3c 7 (by omega) (by omega) (by omega), z3.1 7 (by omega) (by omega), b10 7 (by omega)]
              · have := z3.2.2.1 i hi
                rw [b10 8 (by omega), b10 9 (by omega), b10 10 (by omega), b10 11 (by omega)] at this
                rw [h3c 8 (by omega) (by omega) (by omega), h3c 9 (by omega) (by omega) (by omega), h3c 10 (by omega) (by omega) (by omega), h3c 11 (by omega) (by omega) (by omega)]
                exact this
              · have := z3.2.2.2.1 i hi
                rw [b10 12 (by omega), b10 13 (by omega)] at this
                rw [h3c 12 (by omega) (by omega) (by omega), h3c 13 (by omega) (by omega) (by omega)]
                exact this
              · rw [h3j 31 (by omega) (by omega), hj22 z3 31 (by omega)]
              · rw [h3c 15 (by omega) (by omega) (by omega), z3.2.2.2.2.1 i hi, b10 15 (by omega)]
              · rw [h3j 33 (by omega) (by omega), hj22 z3 33 (by omega)]
              · rw [h3c 16 (by omega) (by omega) (by omega), z3.2.2.2.2.2.1 i hi, b10 16 (by omega)]
            · refine pastR_eq hX.2.1 hn (fun c q1 q2 => hs c (by omega) (by omega)) (by rw [hs 0 (by omega) (by omega)]) (by rw [hs 0 (by omega) (by omega)]) ?_ ?_
              · rw [h3c 2 (by omega) (by omega) (by omega), z3.1 2 (by omega) (by omega), b10 2 (by omega)]
              · rw [h3j 3 (by omega) (by omega), hj22 z3 3 (by omega)]
            · rw [f3 172 (by omega)]; exact z5.2.2.1
            · rw [f3 172 (by omega)]; exact z5.2.2.2
            · rw [h3j 29 (by omega) (by omega), z3.2.1 29 (by omega)]; exact hbY.2.2.1
            · rw [h3j 30 (by omega) (by omega), z3.2.1 30 (by omega)]; exact hbY.2.2.2.1
        · rw [if_neg x3, if_neg (by intro q; have h1 := q.1; have h2 := q.2; grind)]
          unfold jn_X11_text_126 jn_X12_text_69
          rw [x_cut0 n0]
          dsimp only [Option.bind_some]
          rw [if_pos rfl, if_pos rfl]
          have hc : ∀ c, c ≠ 0 → mset (txA t) 0 9 0 c = t c := fun c q => by
            unfold txA
            simp only [m_ne q]
          have hj : ∀ j, j ≠ 9 → j ≠ 0 → j ≠ 29 → j ≠ 30 → j ≠ 10 → j ≠ 23 → j ≠ 24 → mset (txA t) 0 9 0 0 j = t 0 j := fun j q1 q2 q3 q4 q5 q6 q7 => by
            unfold txA
            simp (disch := omega) only [m_eq, u_ne]
          have hs : ∀ c, c < 172 → (mset s1 173 0 0) c = s c := fun c hc => by rw [m_ne (by omega)]; exact hbX c hc
          refine opR.ret (GR_text hL hX ⟨fun c q => hs c (by omega), by rw [hs 0 (by omega)], fun c q1 q2 => hc c q1, fun j q => hj j (by omega) (by omega) (by omega) (by omega) (by omega) (by omega) (by omega)⟩ ?_ ?_ (txtR_0 (a := 0) (b := -1) b5 b6 ?_ ?_ ?_))
          · obtain ⟨w1, w2, w3, w4⟩ := hX.1.2.1
            exact ⟨lawR_eq w1 (fun j _ => hs _ (by omega)) (fun c q1 q2 => hc c (by omega)), ordR_eq w2 (fun j _ => hs _ (by omega)) (hj _ (by omega) (by omega) (by omega) (by omega) (by omega) (by omega) (by omega)) (hc _ (by omega)) (hc _ (by omega)), planT_eq w3 (fun j _ => hs _ (by omega)) (hj _ (by omega) (by omega) (by omega) (by omega) (by omega) (by omega) (by omega)) (hc _ (by omega)), planC_eq w4 (fun j _ => hs _ (by omega)) (hj _ (by omega) (by omega) (by omega) (by omega) (by omega) (by omega) (by omega)) (hc _ (by omega))⟩
          · exact pastR_eq hX.2.1 hn (fun c q1 q2 => hs c (by omega)) (by rw [hs 0 (by omega)]) (by rw [hs 0 (by omega)]) (hc 2 (by omega)) (hj 3 (by omega) (by omega) (by omega) (by omega) (by omega) (by omega) (by omega))
          all_goals (unfold txA; simp (disch := omega) only [m_eq, u_ne, u_eq])
