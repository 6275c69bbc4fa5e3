/-! ===== calls of the lane ===== -/
theorem told_L {n : Nat} {s t : Mem} (h : GL n s t) : GL n s (mset t 0 0 0) := by
  obtain ⟨g1, g2, g3, g4⟩ := h
  have e1 : (mset t 0 0 0) 1 = t 1 := m_ne (by omega)
  refine ⟨nS_t g1 (fun _ _ _ => rfl) rfl e1 (m_ne (by omega)) (by rw [m_eq, u_ne (by omega)]) (by rw [m_eq, u_ne (by omega)]), by rw [e1]; exact g2, by rw [e1]; exact g3, by rw [m_eq, u_ne (by omega)]; exact g4⟩
theorem told_X {n : Nat} {s t : Mem} (hn : n ≤ 14) (h : GX n s t) : GX n s (mset t 0 0 0) := by
  obtain ⟨⟨h1, ⟨w1, w2, w3, w4⟩, h3⟩, h4, h5, h6, h7⟩ := h
  have e0 : ∀ j, j ≠ 0 → (mset t 0 0 0) 0 j = t 0 j := fun j hj => by rw [m_eq, u_ne hj]
  have et : ∀ c, c ≠ 0 → (mset t 0 0 0) c = t c := fun c hc => m_ne hc
  refine ⟨⟨h1, ⟨lawR_eq w1 (fun _ _ => rfl) (fun c q1 q2 => et c (by omega)), ordR_eq w2 (fun _ _ => rfl) (e0 _ (by omega)) (et _ (by omega)) (et _ (by omega)), planT_eq w3 (fun _ _ => rfl) (e0 _ (by omega)) (et _ (by omega)), planC_eq w4 (fun _ _ => rfl) (e0 _ (by omega)) (et _ (by omega))⟩, rowsR_t h3 (fun _ _ _ => rfl) (fun j q1 q2 => e0 _ (by omega)) (fun c q1 q2 q3 q4 q5 => et _ (by omega))⟩,
    pastR_eq h4 hn (fun _ _ _ => rfl) rfl rfl (et _ (by omega)) (e0 _ (by omega)), imgR_eq h5 (fun _ _ _ => rfl) rfl (e0 _ (by omega)) (et _ (by omega)), txtR_eq h6 (fun _ _ _ => rfl) (e0 _ (by omega)) (e0 _ (by omega)) (e0 _ (by omega)) (et _ (by omega)), ?_⟩
  unfold wrdR
  rw [et 6 (by omega)]
  exact h7
/-- forgetting what can be undone -/
theorem forget_L {n : Nat} {s t : Mem} (h : GL n s t) : GL n (mset s 0 5 0) (mset t 0 3 0) := by
  obtain ⟨g1, g2, g3, g4⟩ := h
  have e1 : (mset t 0 3 0) 1 = t 1 := m_ne (by omega)
  have ha := g1.1.1
  refine ⟨nS_t g1 (fun c q1 q2 => m_ne (by omega)) (m_ne (by omega)) e1 (m_ne (by omega)) (by rw [m_eq, u_ne (by omega)]) (by rw [m_eq, u_ne (by omega)]), by rw [e1]; exact g2, by rw [e1]; exact g3, by rw [m_eq, u_ne (by omega)]; exact g4⟩
theorem forget_X {n : Nat} {s t : Mem} (hn : n ≤ 14) (h : GX n s t) : GX n (mset s 0 5 0) (mset t 0 3 0) := by
  obtain ⟨⟨h1, ⟨w1, w2, w3, w4⟩, h3⟩, h4, h5, h6, h7⟩ := h
  have e0 : ∀ j, j ≠ 3 → (mset t 0 3 0) 0 j = t 0 j := fun j hj => by rw [m_eq, u_ne hj]
  have et : ∀ c, c ≠ 0 → (mset t 0 3 0) c = t c := fun c hc => m_ne hc
  have es : ∀ c, c ≠ 0 → (mset s 0 5 0) c = s c := fun c hc => m_ne hc
  have es0 : ∀ j, j ≠ 5 → (mset s 0 5 0) 0 j = s 0 j := fun j hj => by rw [m_eq, u_ne hj]
  refine ⟨⟨by rw [es 115 (by omega)]; exact h1, ⟨lawR_eq w1 (fun j hj => es _ (by omega)) (fun c q1 q2 => et c (by omega)), ordR_eq w2 (fun j hj => es _ (by omega)) (e0 _ (by omega)) (et _ (by omega)) (et _ (by omega)), planT_eq w3 (fun j hj => es _ (by omega)) (e0 _ (by omega)) (et _ (by omega)), planC_eq w4 (fun j hj => es _ (by omega)) (e0 _ (by omega)) (et _ (by omega))⟩, rowsR_t h3 (fun j q1 q2 => es _ (by omega)) (fun j q1 q2 => e0 _ (by omega)) (fun c q1 q2 q3 q4 q5 => et _ (by omega))⟩,
    pastR_0 h4, imgR_eq h5 (fun c q1 q2 => es _ (by omega)) (es0 _ (by omega)) (e0 _ (by omega)) (et _ (by omega)), txtR_eq h6 (fun c q1 q2 => es _ (by omega)) (e0 _ (by omega)) (e0 _ (by omega)) (e0 _ (by omega)) (et _ (by omega)), ?_⟩
  unfold wrdR
  rw [et 6 (by omega)]
  exact h7
theorem step_L {n : Nat} {s t s' t' : Mem} (hL : GL n s t) (hP : nP n 2 s t s' t') : GL n s' t' := ⟨hP.1, hP.2.1, by rw [hP.2.2.2.2]; exact hL.2.2.1, by rw [hP.2.2.2.1.2.1]; exact hL.2.2.2⟩
theorem step_X {n : Nat} {s t s' t' : Mem} (hn : n ≤ 14) (hX : GX n s t) (hP : nP n 2 s t s' t') : GX n s' t' := GX_lane hX hn hP.2.2.1 hP.2.2.2.1
theorem o_state {x : Int32} {s t : Mem} (h : GR s t) : opR (f_X11_state x s) (f_X12_state x t) := by
  obtain ⟨n, hL, hX⟩ := h
  have hn := hL.1.1.2.1
  have hL1 := told_L hL
  have hX1 := told_X hn hX
  unfold f_X11_state f_X12_state f_X11_forget
  generalize mset t 0 0 0 = t1 at *
  have e := hL1.1.2.1.1.2.2.2.1
  simp (disch := omega) only [rd_N, wr_N, rd_L, wr_L, Option.bind_some, N_le, N_lt, N_eq, N_leL, L_leN, N_ltL, L_ltN, N_eqL, L_eqN, N_neg, neg_N, N_nlt0, N_0le, N_add, N_addL, L_addN, N_mul, N_mulL, L_mulN, N_sub, N_subL, m_eq, m_ne, u_eq, u_ne, if_true, if_false, ite_true, ite_false, if_pos, if_neg, show (1 + 1 : Nat) = 2 from rfl, e]
  have hP : nP n 2 s t1 (mset s 2 11 x) (mset t1 1 1 x) := ⟨nS_draws hL1.1 trivial, nC_same hL1.2.1 (fun j q1 q2 => by simp (disch := omega) only [rd_N, wr_N, rd_L, wr_L, Option.bind_some, N_le, N_lt, N_eq, N_leL, L_leN, N_ltL, L_ltN, N_eqL, L_eqN, N_neg, neg_N, N_nlt0, N_0le, N_add, N_addL, L_addN, N_mul, N_mulL, L_mulN, N_sub, N_subL, m_eq, m_ne, u_eq, u_ne, if_true, if_false, ite_true, ite_false, if_pos, if_neg]) hn, nXF.fld (by omega), nTF.put, by simp (disch := omega) only [rd_N, wr_N, rd_L, wr_L, Option.bind_some, N_le, N_lt, N_eq, N_leL, L_leN, N_ltL, L_ltN, N_eqL, L_eqN, N_neg, neg_N, N_nlt0, N_0le, N_add, N_addL, L_addN, N_mul, N_mulL, L_mulN, N_sub, N_subL, m_eq, m_ne, u_eq, u_ne, if_true, if_false, ite_true, ite_false, if_pos, if_neg]⟩
  exact ok2.some ⟨rfl, n, forget_L (step_L hL1 hP), forget_X hn (step_X hn hX1 hP)⟩
def zerM (t : Mem) (n : Nat) : Nat → Mem
  | 0 => t
  | k + 1 => mset (zerM t n k) 1 (4 + 14 * k + n) 0
theorem zerM_0 {t : Mem} {n c : Nat} (hc : c ≠ 1) : ∀ k, zerM t n k c = t c
  | 0 => rfl
  | k + 1 => by
    show mset (zerM t n k) 1 _ 0 c = _
    rw [m_ne hc, zerM_0 hc k]
theorem o_person {x : Int32} {s t : Mem} (h : GR s t) : opR (f_X11_person x s) (f_X12_person x t) := by
  obtain ⟨n, hL, hX⟩ := h
  have hn := hL.1.1.2.1
  have hL1 := told_L hL
  have hX1 := told_X hn hX
  unfold f_X11_person f_X12_person f_X11_forget
  generalize mset t 0 0 0 = t1 at *
  clear hL hX
  have e1 := hL1.1.2.1.1.1
  have e6 := hL1.1.1.2.2.1
  rw [m_isIn]
  dsimp only [Option.bind_some]
  by_cases hx : 0 ≤ x ∧ x ≤ 9
  · rw [if_neg (show ¬ x < 0 by grind), if_neg (show ¬ 9 < x by grind), if_pos hx, if_neg (show ¬ ((1 : Int32) = 0) by decide)]
    simp only [show (1 + 1 : Nat) = 2 from rfl, e1, e6]
    by_cases h14 : n = 14
    · subst h14
      rw [if_neg (show ¬ (Int32.ofNat 14 < 14) by decide), if_pos (show Int32.ofNat 14 = 14 by decide)]
      exact opR.ret ⟨_, hL1, hX1⟩
    · have hlt : n < 14 := by omega
      rw [if_pos (show Int32.ofNat n < 14 by rw [N_ltL (by omega) (by omega)]; exact hlt), if_neg (show ¬ Int32.ofNat n = 14 by rw [N_eqL (by omega) (by omega)]; exact h14)]
      have hL2 := forget_L hL1
      have hX2 := forget_X hn hX1
      -- the reference's zeros
      have e := it_go (f := fun y => st_X12_person_29 x y.1 y.2) (fun k => (Int32.ofNat (4 + 14 * k), zerM t1 n k)) 7 (zerM t1 n 7) (by omega) (fun k hk => by
        dsimp only
        unfold st_X12_person_29
        have e2 : zerM t1 n k 0 6 = Int32.ofNat n := by rw [zerM_0 (by omega), e6]
        rw [if_neg (by rw [L_leN (by omega) (by omega)]; omega)]
        simp (disch := omega) only [e2, N_add, wr_N, Option.bind_some, N_addL]
        rfl) (by
        dsimp only
        unfold st_X12_person_29
        rw [if_pos (by decide)])
      have e' : it FUEL (fun y => st_X12_person_29 x y.1 y.2) ((4 : Int32), t1) = some (zerM t1 n 7) := e
      rw [e']
      unfold f_X0_welcome
      have e1' : (mset s 0 5 0) 2 1 = Int32.ofNat n := by rw [m_ne (by omega)]; exact e1
      have e2 : zerM t1 n 7 0 6 = Int32.ofNat n := by rw [zerM_0 (by omega), e6]
      simp (disch := omega) only [e1', e2, Option.bind_some, L_addN, wr_N, N_ltL, if_pos, m_ne, m_eq, u_eq, u_ne, N_addL, N_subL, show (2 + 1 : Nat) = 3 from rfl, show (2 + 2 : Nat) = 4 from rfl, show (2 + 3 : Nat) = 5 from rfl, show (2 + 4 : Nat) = 6 from rfl, show (2 + 5 : Nat) = 7 from rfl, show (2 + 6 : Nat) = 8 from rfl, show (2 + 7 : Nat) = 9 from rfl]
      have hn1 : n + 1 ≤ 14 := by omega
      refine ok2.some ⟨by dsimp only; congr 1, n + 1, ?_, ?_⟩
      · obtain ⟨⟨⟨ha, _, h1, h2, h3⟩, ⟨⟨g1, g2, g3, g4, g5⟩, hf⟩, ⟨b0, hb⟩, h8⟩, hC, hm, h05⟩ := hL1
        have z : ∀ k j, (∀ i, i < k → j ≠ 4 + 14 * i + n) → zerM t1 n k 1 j = t1 1 j := by
          intro k
          induction k with
          | zero => intro j _; rfl
          | succ k ih =>
            intro j hj
            show mset (zerM t1 n k) 1 _ 0 1 j = _
            rw [m_eq, u_ne (hj k (by omega)), ih j (fun i hi => hj i (by omega))]
        have z0 : ∀ j, j < 4 → zerM t1 n 7 1 j = t1 1 j := fun j hj => z 7 j (fun i _ => by omega)
        have z1 : ∀ f i, f < 7 → i < n → zerM t1 n 7 1 (4 + 14 * f + i) = t1 1 (4 + 14 * f + i) := fun f i hf hi => z 7 _ (fun i' _ => by omega)
        have z2 : ∀ f, f < 7 → zerM t1 n 7 1 (4 + 14 * f + n) = 0 := by
          intro f hf
          have : f = 0 ∨ f = 1 ∨ f = 2 ∨ f = 3 ∨ f = 4 ∨ f = 5 ∨ f = 6 := by omega
          simp only [zerM]
          rcases this with rfl | rfl | rfl | rfl | rfl | rfl | rfl <;> simp (disch := omega) only [m_eq, u_eq, u_ne]
        have zn : ∀ c, c ≠ 1 → zerM t1 n 7 c = t1 c := fun c hc => zerM_0 hc 7
        refine ⟨⟨⟨ha, hn1, ?_, ?_, ?_⟩, ⟨⟨?_, ?_, ?_, ?_, ?_⟩, fun i hi => ?_⟩, ⟨?_, fun i hi => ?_⟩, fun i hi => ?_⟩, fun i hi => ?_, ?_, ?_⟩
        · simp (disch := omega) only [m_eq, m_ne, u_eq, u_ne]
        · simp (disch := omega) only [m_eq, m_ne, u_eq, u_ne, zn]; exact h2
        · simp (disch := omega) only [m_eq, m_ne, u_eq, u_ne, zn]; exact h3
        · simp (disch := omega) only [m_eq, m_ne, u_eq, u_ne]
        · simp (disch := omega) only [m_eq, m_ne, u_eq, u_ne, z0]; exact g2
        · simp (disch := omega) only [m_eq, m_ne, u_eq, u_ne, z0]; exact g3
        · simp (disch := omega) only [m_eq, m_ne, u_eq, u_ne, z0]; exact g4
        · simp (disch := omega) only [m_eq, m_ne, u_eq, u_ne, z0]; exact g5
        · by_cases hin : i = n
          · subst hin
            have y1 := z2 1 (by omega)
            have y2 := z2 2 (by omega)
            have y3 := z2 3 (by omega)
            have y4 := z2 4 (by omega)
            have y5 := z2 5 (by omega)
            have y6 := z2 6 (by omega)
            simp (disch := omega) only [m_eq, m_ne, u_eq, u_ne]
            refine ⟨trivial, y1.symm, ?_, y3.symm, y4.symm, y5.symm, y6.symm⟩
            rw [show zerM t1 i 7 1 (32 + i) = 0 from y2]
            rfl
          · have hi' : i < n := by omega
            have y0 := z1 0 i (by omega) hi'
            have y1 := z1 1 i (by omega) hi'
            have y2 := z1 2 i (by omega) hi'
            have y3 := z1 3 i (by omega) hi'
            have y4 := z1 4 i (by omega) hi'
            have y5 := z1 5 i (by omega) hi'
            have y6 := z1 6 i (by omega) hi'
            have hfi := hf i hi'
            simp (disch := omega) only [m_eq, m_ne, u_eq, u_ne]
            rw [show zerM t1 n 7 1 (4 + i) = t1 1 (4 + i) from y0, show zerM t1 n 7 1 (18 + i) = t1 1 (18 + i) from y1, show zerM t1 n 7 1 (32 + i) = t1 1 (32 + i) from y2, show zerM t1 n 7 1 (46 + i) = t1 1 (46 + i) from y3, show zerM t1 n 7 1 (60 + i) = t1 1 (60 + i) from y4, show zerM t1 n 7 1 (74 + i) = t1 1 (74 + i) from y5, show zerM t1 n 7 1 (88 + i) = t1 1 (88 + i) from y6]
            exact hfi
        · simp (disch := omega) only [m_eq, m_ne, u_eq, u_ne, z0]; exact b0
        · by_cases hin : i = n
          · subst hin
            have y1 := z2 1 (by omega)
            have y2 := z2 2 (by omega)
            have y3 := z2 3 (by omega)
            simp (disch := omega) only [m_eq, m_ne, u_eq, u_ne]
            rw [show zerM t1 i 7 1 (18 + i) = 0 from y1, show zerM t1 i 7 1 (32 + i) = 0 from y2, show zerM t1 i 7 1 (46 + i) = 0 from y3]
            exact ⟨hx, by decide, ⟨by decide, by rw [L_leN (by omega) (by omega)]; omega⟩, by decide⟩
          · have hi' : i < n := by omega
            have y0 := z1 0 i (by omega) hi'
            have y1 := z1 1 i (by omega) hi'
            have y2 := z1 2 i (by omega) hi'
            have y3 := z1 3 i (by omega) hi'
            have hbi := hb i hi'
            simp (disch := omega) only [m_eq, m_ne, u_eq, u_ne]
            rw [show zerM t1 n 7 1 (4 + i) = t1 1 (4 + i) from y0, show zerM t1 n 7 1 (18 + i) = t1 1 (18 + i) from y1, show zerM t1 n 7 1 (32 + i) = t1 1 (32 + i) from y2, show zerM t1 n 7 1 (46 + i) = t1 1 (46 + i) from y3]
            refine ⟨hbi.1, hbi.2.1, ⟨hbi.2.2.1.1, ?_⟩, hbi.2.2.2⟩
            have q1 := hbi.2.2.1.2
            have q2 : Int32.ofNat n ≤ Int32.ofNat (n + 1) := by rw [N_le (by omega) (by omega)]; omega
            grind
        · simp (disch := omega) only [m_eq, m_ne, u_eq, u_ne, zn]; exact h8 i hi
        · by_cases hin : i = n
          · subst hin
            have y2 := z2 2 (by omega)
            have y3 := z2 3 (by omega)
            simp (disch := omega) only [m_eq, m_ne, u_eq, u_ne]
            intro _
            exact ⟨y2, y3⟩
          · have hi' : i < n := by omega
            have y1 := z1 1 i (by omega) hi'
            have y2 := z1 2 i (by omega) hi'
            have y3 := z1 3 i (by omega) hi'
            simp (disch := omega) only [m_eq, m_ne, u_eq, u_ne]
            rw [show zerM t1 n 7 1 (18 + i) = t1 1 (18 + i) from y1, show zerM t1 n 7 1 (32 + i) = t1 1 (32 + i) from y2, show zerM t1 n 7 1 (46 + i) = t1 1 (46 + i) from y3]
            exact hC i hi'
        · simp (disch := omega) only [m_eq, m_ne, u_eq, u_ne, z0]; exact hm
        · simp (disch := omega) only [m_eq, m_ne, u_eq, u_ne, zn]; exact h05
      · have zn : ∀ c, c ≠ 1 → zerM t1 n 7 c = t1 c := fun c hc => zerM_0 hc 7
        obtain ⟨⟨h1, ⟨w1, w2, w3, w4⟩, h3⟩, h4, h5, h6, h7⟩ := hX1
        have es : ∀ c, (c < 2 ∨ 9 < c) → c ≠ 0 → (mset (mset (mset (mset (mset (mset (mset (mset (mset s 0 5 0) 3 n x) 4 n 0) 5 n (-1)) 6 n 0) 7 n 0) 8 n 0) 9 n 0) 2 1 (Int32.ofNat (n + 1))) c = s c := fun c q1 q2 => by simp (disch := omega) only [m_ne]
        have es0 : ∀ j, j ≠ 5 → (mset (mset (mset (mset (mset (mset (mset (mset (mset s 0 5 0) 3 n x) 4 n 0) 5 n (-1)) 6 n 0) 7 n 0) 8 n 0) 9 n 0) 2 1 (Int32.ofNat (n + 1))) 0 j = s 0 j := fun j q1 => by simp (disch := omega) only [m_ne, m_eq, u_ne]
        have et : ∀ c, c ≠ 0 → c ≠ 1 → (mset (mset (mset (zerM t1 n 7) 1 (4 + n) x) 0 6 (Int32.ofNat (n + 1))) 0 3 0) c = t1 c := fun c q1 q2 => by simp (disch := omega) only [m_ne, zn]
        have e0 : ∀ j, j ≠ 6 → j ≠ 3 → (mset (mset (mset (zerM t1 n 7) 1 (4 + n) x) 0 6 (Int32.ofNat (n + 1))) 0 3 0) 0 j = t1 0 j := fun j q1 q2 => by simp (disch := omega) only [m_ne, m_eq, u_ne, zn]
        have ws2 : ordR (n + 1) s 27 t1 := by
          obtain ⟨cnt, q1, q2, q3, q4⟩ := w2
          refine ⟨cnt, q1, q2, q3, fun p hp => ?_⟩
          obtain ⟨k, nm, p1, p2, p3, p4⟩ := q4 p hp
          exact ⟨k, nm, p1, p2, fun i hi => ⟨by have := (p3 i hi).1; omega, (p3 i hi).2⟩, p4⟩
        have ws3 : planT (n + 1) s 17 t1 := by
          obtain ⟨cnt, q1, q2, q3, q4⟩ := w3
          refine ⟨cnt, q1, q2, q3, fun l hl => ?_⟩
          obtain ⟨p1, a, b, p2, p3, p4⟩ := q4 l hl
          exact ⟨p1, a, b, by omega, by omega, p4⟩
        have ws4 : planC (n + 1) s 22 t1 := by
          obtain ⟨cnt, q1, q2, q3, q4⟩ := w4
          refine ⟨cnt, q1, q2, q3, fun l hl => ?_⟩
          obtain ⟨p1, kd, a, p2, p3, p4, p5, p6, p7, p8, p9, p10⟩ := q4 l hl
          refine ⟨p1, kd, a, p2, by omega, p4, p5, p6, p7, p8, p9, fun q => ?_⟩
          obtain ⟨y, hy, p11⟩ := p10 q
          exact ⟨y, by omega, p11⟩
        dsimp only
        refine ⟨⟨by rw [es 115 (by omega) (by omega)]; exact h1, ⟨lawR_eq w1 (fun j hj => es _ (by omega) (by omega)) (fun c q1 q2 => et c (by omega) (by omega)), ordR_eq ws2 (fun j hj => es _ (by omega) (by omega)) (e0 _ (by omega) (by omega)) (et _ (by omega) (by omega)) (et _ (by omega) (by omega)), planT_eq ws3 (fun j hj => es _ (by omega) (by omega)) (e0 _ (by omega) (by omega)) (et _ (by omega) (by omega)), planC_eq ws4 (fun j hj => es _ (by omega) (by omega)) (e0 _ (by omega) (by omega)) (et _ (by omega) (by omega))⟩, rowsR_t h3 (fun j q1 q2 => es _ (by omega) (by omega)) (fun j q1 q2 => e0 _ (by omega) (by omega)) (fun c q1 q2 q3 q4 q5 => et _ (by omega) (by omega))⟩,
          ?_, imgR_eq h5 (fun c q1 q2 => es _ (by omega) (by omega)) (es0 _ (by omega)) (e0 _ (by omega) (by omega)) (et _ (by omega) (by omega)), txtR_eq h6 (fun c q1 q2 => es _ (by omega) (by omega)) (e0 _ (by omega) (by omega)) (e0 _ (by omega) (by omega)) (e0 _ (by omega) (by omega)) (et _ (by omega) (by omega)), ?_⟩
        · obtain ⟨c, nx, p1, p2, p3, p4, p5, p6⟩ := h4
          refine ⟨0, nx, by omega, p2, ?_, ?_, ?_, fun u hu => by omega⟩
          · simp (disch := omega) only [m_ne, m_eq, u_eq]; rfl
          · rw [es0 _ (by omega)]; exact p4
          · simp (disch := omega) only [m_ne, m_eq, u_eq]; rfl
        · unfold wrdR
          rw [et 6 (by omega) (by omega)]
          exact h7
  · rw [if_neg hx, if_pos rfl]
    by_cases hx0 : x < 0
    · rw [if_pos hx0]
      exact opR.ret ⟨_, hL1, hX1⟩
    · rw [if_neg hx0, if_pos (by grind)]
      exact opR.ret ⟨_, hL1, hX1⟩
