/-! ===== cures, stopping, a whole minute ===== -/
theorem cl_sub {k k2 : Nat} (hk : k ≤ 99) (hk2 : k2 ≤ 99) : cl (Int32.ofNat k - Int32.ofNat k2) = Int32.ofNat (k - k2) ∧ jmmax 0 (Int32.ofNat k - Int32.ofNat k2) = Int32.ofNat (k - k2) := by
  by_cases h : k2 ≤ k
  · rw [N_sub h, cl_N (by omega), Nat.min_eq_right (by omega)]
    refine ⟨rfl, ?_⟩
    unfold jmmax
    simp (disch := omega) only [rd_N, wr_N, rd_L, wr_L, Option.bind_some, N_le, N_lt, N_eq, N_leL, L_leN, N_ltL, L_ltN, N_eqL, L_eqN, N_neg, neg_N, N_nlt0, N_0le, N_add, N_addL, L_addN, N_mul, N_mulL, L_mulN, N_sub, N_subL, m_eq, m_ne, u_eq, u_ne, if_true, if_false, ite_true, ite_false, if_pos, if_neg]
    by_cases h0 : 0 < k - k2
    · rw [if_pos h0]
    · rw [if_neg h0, show k - k2 = 0 by omega]
      rfl
  · have h1 : (0 ≤ Int32.ofNat k ∧ Int32.ofNat k < Int32.ofNat k2) ∧ Int32.ofNat k2 ≤ 99 := ⟨⟨(N_b (m := 99) hk (by omega)).1, by rw [N_lt (by omega) (by omega)]; omega⟩, (N_b (m := 99) hk2 (by omega)).2⟩
    have h2 : Int32.ofNat k - Int32.ofNat k2 < 0 := by grind
    rw [show k - k2 = 0 by omega]
    constructor
    · unfold cl jmmax jmmin
      show _ = (0 : Int32)
      grind
    · unfold jmmax
      show _ = (0 : Int32)
      grind
theorem r_cure {n a l kd x : Nat} {v : Int32} {s t : Mem} (h : nS n a s t) (hC : nC n (t 1)) (hl : l < 16) (hkd : kd < 4) (hx : x < n) (e1 : t 16 (4 * l + 1) = Int32.ofNat kd) (e2 : t 16 (4 * l + 2) = Int32.ofNat x) (e3 : t 16 (4 * l + 3) = v) (h1 : kd = 1 → 0 ≤ v ∧ v ≤ 99) (h2 : kd = 2 → ∃ y, y < n ∧ y ≠ x ∧ v = Int32.ofNat y) :
    ok2 (f_X10_cure 1 a (Int32.ofNat (kd + 1)) (Int32.ofNat x) v s) (f_X12_takesCure (Int32.ofNat (4 * l)) t) (nP n a s t) := by
  have hn := h.1.2.1
  have x0 := h.2.1.2 x hx
  have hk4 : kd = 0 ∨ kd = 1 ∨ kd = 2 ∨ kd = 3 := by omega
  unfold f_X10_cure f_X12_takesCure
  simp (disch := omega) only [rd_N, wr_N, rd_L, wr_L, Option.bind_some, N_le, N_lt, N_eq, N_leL, L_leN, N_ltL, L_ltN, N_eqL, L_eqN, N_neg, neg_N, N_nlt0, N_0le, N_add, N_addL, L_addN, N_mul, N_mulL, L_mulN, N_sub, N_subL, m_eq, m_ne, u_eq, u_ne, if_true, if_false, ite_true, ite_false, if_pos, if_neg, e1, e2]
  rcases hk4 with rfl | rfl | rfl | rfl
  · simp (disch := omega) only [rd_N, wr_N, rd_L, wr_L, Option.bind_some, N_le, N_lt, N_eq, N_leL, L_leN, N_ltL, L_ltN, N_eqL, L_eqN, N_neg, neg_N, N_nlt0, N_0le, N_add, N_addL, L_addN, N_mul, N_mulL, L_mulN, N_sub, N_subL, m_eq, m_ne, u_eq, u_ne, if_true, if_false, ite_true, ite_false, if_pos, if_neg]
    refine (r_frighten h hC hx).bind ?_
    intro s' t' hP
    unfold jn_X12_takesCure_27 jn_X12_takesCure_60 jn_X12_takesCure_78
    simp (disch := omega) only [rd_N, wr_N, rd_L, wr_L, Option.bind_some, N_le, N_lt, N_eq, N_leL, L_leN, N_ltL, L_ltN, N_eqL, L_eqN, N_neg, neg_N, N_nlt0, N_0le, N_add, N_addL, L_addN, N_mul, N_mulL, L_mulN, N_sub, N_subL, m_eq, m_ne, u_eq, u_ne, if_true, if_false, ite_true, ite_false, if_pos, if_neg]
    exact ok2.some hP
  · obtain ⟨k, ek, hk⟩ := hic_N h hx
    obtain ⟨k2, ek2, hk2⟩ := N_of (m := 99) (h1 rfl).1 (h1 rfl).2 (by omega)
    subst ek2
    unfold jn_X12_takesCure_27 jn_X12_takesCure_60 jn_X12_takesCure_78
    simp (disch := omega) only [rd_N, wr_N, rd_L, wr_L, Option.bind_some, N_le, N_lt, N_eq, N_leL, L_leN, N_ltL, L_ltN, N_eqL, L_eqN, N_neg, neg_N, N_nlt0, N_0le, N_add, N_addL, L_addN, N_mul, N_mulL, L_mulN, N_sub, N_subL, m_eq, m_ne, u_eq, u_ne, if_true, if_false, ite_true, ite_false, if_pos, if_neg, e3, m_greater, x0.2.1, ek]
    rw [x_hiccup (by omega)]
    have c := cl_sub hk hk2
    rw [c.1, c.2, m_hasThen (by omega) (by rw [N_0le (by omega)]; trivial)]
    exact ok2.some ⟨nS_h h hx (N_b (m := 99) (by omega) (by omega)), hM_C hn hx hC, hX_f, hM_f, hM_0⟩
  · obtain ⟨y, hy, hyx, ey⟩ := h2 rfl
    subst ey
    unfold jn_X12_takesCure_27 jn_X12_takesCure_60 jn_X12_takesCure_78
    simp (disch := omega) only [rd_N, wr_N, rd_L, wr_L, Option.bind_some, N_le, N_lt, N_eq, N_leL, L_leN, N_ltL, L_ltN, N_eqL, L_eqN, N_neg, neg_N, N_nlt0, N_0le, N_add, N_addL, L_addN, N_mul, N_mulL, L_mulN, N_sub, N_subL, m_eq, m_ne, u_eq, u_ne, if_true, if_false, ite_true, ite_false, if_pos, if_neg, e3]
    refine (r_handOn h hC hx hy (fun q => hyx q.symm)).bind ?_
    intro s' t' hP
    exact ok2.some hP
  · unfold jn_X12_takesCure_27 jn_X12_takesCure_60 jn_X12_takesCure_78
    have hb := (h.2.2.1.2 x hx).1
    simp (disch := omega) only [rd_N, wr_N, rd_L, wr_L, Option.bind_some, N_le, N_lt, N_eq, N_leL, L_leN, N_ltL, L_ltN, N_eqL, L_eqN, N_neg, neg_N, N_nlt0, N_0le, N_add, N_addL, L_addN, N_mul, N_mulL, L_mulN, N_sub, N_subL, m_eq, m_ne, u_eq, u_ne, if_true, if_false, ite_true, ite_false, if_pos, if_neg, m_lesser, x0.1]
    have hb2 : 0 ≤ jmmin 9 (t 1 (4 + x) + 1) ∧ jmmin 9 (t 1 (4 + x) + 1) ≤ 9 := by unfold jmmin; grind
    refine ok2.some ⟨nS_nerve h hx hb2, ?_, nXF.put (f := 0) (by omega), nTF.put, by simp (disch := omega) only [rd_N, wr_N, rd_L, wr_L, Option.bind_some, N_le, N_lt, N_eq, N_leL, L_leN, N_ltL, L_ltN, N_eqL, L_eqN, N_neg, neg_N, N_nlt0, N_0le, N_add, N_addL, L_addN, N_mul, N_mulL, L_mulN, N_sub, N_subL, m_eq, m_ne, u_eq, u_ne, if_true, if_false, ite_true, ite_false, if_pos, if_neg]⟩
    exact nC_same hC (fun j h1 h2 => by simp (disch := omega) only [rd_N, wr_N, rd_L, wr_L, Option.bind_some, N_le, N_lt, N_eq, N_leL, L_leN, N_ltL, L_ltN, N_eqL, L_eqN, N_neg, neg_N, N_nlt0, N_0le, N_add, N_addL, L_addN, N_mul, N_mulL, L_mulN, N_sub, N_subL, m_eq, m_ne, u_eq, u_ne, if_true, if_false, ite_true, ite_false, if_pos, if_neg]) hn
theorem r_stopsB {n a p : Nat} {s t : Mem} (h : nS n a s t) (hC : nC n (t 1)) (hW : WS n s t) (hp : p < n) :
    ok2 (f_X10_stops 1 a (Int32.ofNat p) s) ((f_X12_stopsOf (Int32.ofNat p) t).bind fun r1 => f_X12_happens r1.1 r1.2) (fun r r' => r.1 = r'.1 ∧ ((r.1 = 0 ∧ nP n a s t r.2 r'.2 ∧ r'.2 1 (18 + p) = t 1 (18 + p)) ∨ (r.1 = 1 ∧ ∃ t'', ((rd 102 (r'.2 1) (18 + Int32.ofNat p)).bind fun v4 => (f_X12_notes 1 (Int32.ofNat p) v4 r'.2).bind fun r5 => f_X12_hasThen (Int32.ofNat p) 0 r5) = some t'' ∧ nP n a s t r.2 t''))) := by
  have hn := h.1.2.1
  have ha := h.1.1
  unfold f_X10_stops
  refine (r_stops h hW.1 hp).bind ?_
  rintro ⟨v, s1⟩ ⟨v', t1⟩ ⟨e1, e2, f1, f2⟩
  dsimp only at e1 e2 f1 f2 ⊢
  subst e1
  have h1 := nS_scr h f1 f2
  have gX := nXF.scr (a := a) ha f1
  have gM := nTF.scr f2
  have C1 : nC n (t1 1) := by rw [f2 1 (by omega) (by omega)]; exact hC
  have E1 : t1 1 = t 1 := f2 1 (by omega) (by omega)
  clear f1 f2 hC hW h
  have no : ∀ s2 t2, nS n a s2 t2 → nXF a s1 s2 → nTF t1 t2 → (∀ j, j ≠ 1 → t2 1 j = t1 1 j) → ok2 (jn_X10_stops_53 1 a (Int32.ofNat p) 0 s2) (some ((0 : Int32), t2)) (fun r r' => r.1 = r'.1 ∧ ((r.1 = 0 ∧ nP n a s t r.2 r'.2 ∧ r'.2 1 (18 + p) = t 1 (18 + p)) ∨ (r.1 = 1 ∧ ∃ t'', ((rd 102 (r'.2 1) (18 + Int32.ofNat p)).bind fun v4 => (f_X12_notes 1 (Int32.ofNat p) v4 r'.2).bind fun r5 => f_X12_hasThen (Int32.ofNat p) 0 r5) = some t'' ∧ nP n a s t r.2 t''))) := by
    intro s2 t2 h2 fX fM fJ
    unfold jn_X10_stops_53
    rw [if_pos rfl, if_neg (by decide)]
    refine ok2.some ⟨rfl, Or.inl ⟨rfl, ⟨h2, nC_same C1 (fun j q1 q2 => fJ j (by omega)) hn, gX.trans fX, gM.trans fM, ?_⟩, ?_⟩⟩
    · dsimp only
      rw [fJ 0 (by omega), E1]
    · dsimp only
      rw [fJ _ (by omega), E1]
  have yes : ∀ s2 t2, nS n a s2 t2 → nXF a s1 s2 → nTF t1 t2 → (∀ j, j ≠ 1 → t2 1 j = t1 1 j) → ok2 (jn_X10_stops_53 1 a (Int32.ofNat p) 1 s2) (some ((1 : Int32), t2)) (fun r r' => r.1 = r'.1 ∧ ((r.1 = 0 ∧ nP n a s t r.2 r'.2 ∧ r'.2 1 (18 + p) = t 1 (18 + p)) ∨ (r.1 = 1 ∧ ∃ t'', ((rd 102 (r'.2 1) (18 + Int32.ofNat p)).bind fun v4 => (f_X12_notes 1 (Int32.ofNat p) v4 r'.2).bind fun r5 => f_X12_hasThen (Int32.ofNat p) 0 r5) = some t'' ∧ nP n a s t r.2 t''))) := by
    intro s2 t2 h2 fX fM fJ
    have x2 := h2.2.1.2 p hp
    have C2 : nC n (t2 1) := nC_same C1 (fun j q1 q2 => fJ j (by omega)) hn
    unfold jn_X10_stops_53
    rw [if_neg (by decide)]
    simp (disch := omega) only [rd_N, wr_N, rd_L, wr_L, Option.bind_some, N_le, N_lt, N_eq, N_leL, L_leN, N_ltL, L_ltN, N_eqL, L_eqN, N_neg, neg_N, N_nlt0, N_0le, N_add, N_addL, L_addN, N_mul, N_mulL, L_mulN, N_sub, N_subL, m_eq, m_ne, u_eq, u_ne, if_true, if_false, ite_true, ite_false, if_pos, if_neg, x2.2.1]
    obtain ⟨s3, t3, g1, g2, s3', fX3, fM3, J3⟩ := r_write (x := 1) (y := Int32.ofNat p) (z := t2 1 (18 + p)) h2
    rw [g1]
    dsimp only [Option.bind_some]
    rw [x_hiccup (by omega), show cl 0 = 0 from by decide]
    dsimp only [Option.bind_some]
    rw [if_neg (by decide)]
    refine ok2.some ⟨rfl, Or.inr ⟨rfl, hM p 0 t3, ?_, nS_h s3' hp (by decide), hM_C hn hp (nC_same C2 (fun j q1 q2 => J3 j (by omega)) hn), gX.trans (fX.trans (fX3.trans (hX_f (a := a) (p := p) (v := 0) (s := s3)))), gM.trans (fM.trans (fM3.trans hM_f)), ?_⟩⟩
    · dsimp only
      simp (disch := omega) only [rd_N, wr_N, rd_L, wr_L, Option.bind_some, N_le, N_lt, N_eq, N_leL, L_leN, N_ltL, L_ltN, N_eqL, L_eqN, N_neg, neg_N, N_nlt0, N_0le, N_add, N_addL, L_addN, N_mul, N_mulL, L_mulN, N_sub, N_subL, m_eq, m_ne, u_eq, u_ne, if_true, if_false, ite_true, ite_false, if_pos, if_neg, g2]
      rw [m_hasThen (by omega) (by decide)]
    · rw [hM_0, J3 0 (by omega), fJ 0 (by omega), E1]
  unfold f_X12_happens
  simp only [h1.1.2.2.2.1]
  by_cases hf : t1 0 5 = 0
  · simp only [if_pos hf]
    by_cases hv : v ≤ 0
    · simp only [if_pos hv]
      unfold jn_X10_stops_52
      exact no _ _ h1 nXF.refl nTF.refl (fun _ _ => rfl)
    · simp only [if_neg hv]
      refine (r_draw h1).bind ?_
      rintro ⟨d, s2⟩ ⟨d', t2⟩ ⟨e1, s2', fX, fM, J⟩
      dsimp only at e1 s2' fX fM J ⊢
      subst e1
      by_cases hd : v ≤ d
      · simp only [if_pos hd]
        unfold jn_X10_stops_52
        exact no _ _ s2' fX fM J
      · simp only [if_neg hd]
        exact yes _ _ s2' fX fM J
  · simp only [if_neg hf]
    have e : (2 * v < 1000) = (v < 500) := by grind
    simp only [e]
    by_cases hv : v < 500
    · simp only [if_pos hv]
      exact no _ _ h1 nXF.refl nTF.refl (fun _ _ => rfl)
    · simp only [if_neg hv]
      exact yes _ _ h1 nXF.refl nTF.refl (fun _ _ => rfl)
theorem r_talk {n a : Nat} {s t : Mem} (h : nS n a s t) (hC : nC n (t 1)) (hW : WS n s t) :
    ok2 (it FUEL (fun y => st_X10_passMinute_2 1 a y.1 y.2) (0, s)) (it FUEL (fun y => st_X12_goesBy_2 y.1 y.2) (0, t)) (nP n a s t) := by
  refine it_ok2 16 (by omega) (fun k y y' => k ≤ 16 ∧ y.1 = Int32.ofNat k ∧ y'.1 = Int32.ofNat (3 * k) ∧ nP n a s t y.2 y'.2) ⟨by omega, rfl, rfl, nP.refl h hC⟩ (fun k y y' q => q.1) ?_
  rintro k ⟨i, s'⟩ ⟨i', t'⟩ ⟨hk, rfl, rfl, hP⟩
  dsimp only at hP ⊢
  have hW' := hP.ws hW
  have x0 := hP.1.2.1.1
  obtain ⟨cnt, hc, e1, e2, e3⟩ := hW'.2.2.1
  unfold st_X10_passMinute_2 st_X12_goesBy_2
  simp (disch := omega) only [rd_N, wr_N, rd_L, wr_L, Option.bind_some, N_le, N_lt, N_eq, N_leL, L_leN, N_ltL, L_ltN, N_eqL, L_eqN, N_neg, neg_N, N_nlt0, N_0le, N_add, N_addL, L_addN, N_mul, N_mulL, L_mulN, N_sub, N_subL, m_eq, m_ne, u_eq, u_ne, if_true, if_false, ite_true, ite_false, if_pos, if_neg, e1, e2]
  by_cases hkc : cnt ≤ k
  · simp (disch := omega) only [rd_N, wr_N, rd_L, wr_L, Option.bind_some, N_le, N_lt, N_eq, N_leL, L_leN, N_ltL, L_ltN, N_eqL, L_eqN, N_neg, neg_N, N_nlt0, N_0le, N_add, N_addL, L_addN, N_mul, N_mulL, L_mulN, N_sub, N_subL, m_eq, m_ne, u_eq, u_ne, if_true, if_false, ite_true, ite_false, if_pos, if_neg]
    exact ok2.some (Or.inr ⟨_, _, rfl, rfl, hP⟩)
  · obtain ⟨q1, x, y, hx, hy, hxy, q2, q3, q4, q5⟩ := e3 k (by omega)
    simp only [show (17 + 1 : Nat) = 18 from rfl, show (17 + 3 : Nat) = 20 from rfl, show (17 + 4 : Nat) = 21 from rfl] at q1 q2 q4
    simp (disch := omega) only [rd_N, wr_N, rd_L, wr_L, Option.bind_some, N_le, N_lt, N_eq, N_leL, L_leN, N_ltL, L_ltN, N_eqL, L_eqN, N_neg, neg_N, N_nlt0, N_0le, N_add, N_addL, L_addN, N_mul, N_mulL, L_mulN, N_sub, N_subL, m_eq, m_ne, u_eq, u_ne, if_true, if_false, ite_true, ite_false, if_pos, if_neg, q1, q2, q3, q4, q5, x0.2.2.1]
    by_cases hm : t' 15 (3 * k) = t' 1 0
    · simp only [if_pos hm]
      simp (disch := omega) only [rd_N, wr_N, rd_L, wr_L, Option.bind_some, N_le, N_lt, N_eq, N_leL, L_leN, N_ltL, L_ltN, N_eqL, L_eqN, N_neg, neg_N, N_nlt0, N_0le, N_add, N_addL, L_addN, N_mul, N_mulL, L_mulN, N_sub, N_subL, m_eq, m_ne, u_eq, u_ne, if_true, if_false, ite_true, ite_false, if_pos, if_neg, x_hasN hP.1.2.1.1.1 hP.1.1.2.1 hx, x_hasN hP.1.2.1.1.1 hP.1.1.2.1 hy, one_ne0, q2, q4]
      refine (r_nameOne hP.1 hP.2.1 hW' hy hx).bind ?_
      intro s2 t2 hP2
      exact ok2.some (Or.inl ⟨_, _, rfl, rfl, by omega, rfl, by rw [show 3 * (k + 1) = 3 * k + 3 by omega], hP.trans hP2⟩)
    · simp only [if_neg hm]
      exact ok2.some (Or.inl ⟨_, _, rfl, rfl, by omega, rfl, by rw [show 3 * (k + 1) = 3 * k + 3 by omega], hP⟩)
theorem r_cures {n a : Nat} {s t : Mem} (h : nS n a s t) (hC : nC n (t 1)) (hW : WS n s t) :
    ok2 (it FUEL (fun y => st_X10_passMinute_92 1 a y.1 y.2) (0, s)) (it FUEL (fun y => st_X12_goesBy_56 y.1 y.2) (0, t)) (nP n a s t) := by
  refine it_ok2 16 (by omega) (fun k y y' => k ≤ 16 ∧ y.1 = Int32.ofNat k ∧ y'.1 = Int32.ofNat (4 * k) ∧ nP n a s t y.2 y'.2) ⟨by omega, rfl, rfl, nP.refl h hC⟩ (fun k y y' q => q.1) ?_
  rintro k ⟨i, s'⟩ ⟨i', t'⟩ ⟨hk, rfl, rfl, hP⟩
  dsimp only at hP ⊢
  have hW' := hP.ws hW
  have x0 := hP.1.2.1.1
  obtain ⟨cnt, hc, e1, e2, e3⟩ := hW'.2.2.2
  unfold st_X10_passMinute_92 st_X12_goesBy_56
  simp (disch := omega) only [rd_N, wr_N, rd_L, wr_L, Option.bind_some, N_le, N_lt, N_eq, N_leL, L_leN, N_ltL, L_ltN, N_eqL, L_eqN, N_neg, neg_N, N_nlt0, N_0le, N_add, N_addL, L_addN, N_mul, N_mulL, L_mulN, N_sub, N_subL, m_eq, m_ne, u_eq, u_ne, if_true, if_false, ite_true, ite_false, if_pos, if_neg, e1, e2]
  by_cases hkc : cnt ≤ k
  · simp (disch := omega) only [rd_N, wr_N, rd_L, wr_L, Option.bind_some, N_le, N_lt, N_eq, N_leL, L_leN, N_ltL, L_ltN, N_eqL, L_eqN, N_neg, neg_N, N_nlt0, N_0le, N_add, N_addL, L_addN, N_mul, N_mulL, L_mulN, N_sub, N_subL, m_eq, m_ne, u_eq, u_ne, if_true, if_false, ite_true, ite_false, if_pos, if_neg]
    exact ok2.some (Or.inr ⟨_, _, rfl, rfl, hP⟩)
  · obtain ⟨q1, kd, x, hkd, hx, q2, q3, q4, q5, q6, q7, q8⟩ := e3 k (by omega)
    simp only [show (22 + 1 : Nat) = 23 from rfl, show (22 + 2 : Nat) = 24 from rfl, show (22 + 3 : Nat) = 25 from rfl, show (22 + 4 : Nat) = 26 from rfl] at q1 q2 q4 q6
    simp (disch := omega) only [rd_N, wr_N, rd_L, wr_L, Option.bind_some, N_le, N_lt, N_eq, N_leL, L_leN, N_ltL, L_ltN, N_eqL, L_eqN, N_neg, neg_N, N_nlt0, N_0le, N_add, N_addL, L_addN, N_mul, N_mulL, L_mulN, N_sub, N_subL, m_eq, m_ne, u_eq, u_ne, if_true, if_false, ite_true, ite_false, if_pos, if_neg, q1, q2, q4, q6, x0.2.2.1]
    by_cases hm : t' 16 (4 * k) = t' 1 0
    · simp only [if_pos hm]
      simp (disch := omega) only [rd_N, wr_N, rd_L, wr_L, Option.bind_some, N_le, N_lt, N_eq, N_leL, L_leN, N_ltL, L_ltN, N_eqL, L_eqN, N_neg, neg_N, N_nlt0, N_0le, N_add, N_addL, L_addN, N_mul, N_mulL, L_mulN, N_sub, N_subL, m_eq, m_ne, u_eq, u_ne, if_true, if_false, ite_true, ite_false, if_pos, if_neg, x_hasN hP.1.2.1.1.1 hP.1.1.2.1 hx, one_ne0, q2, q4, q6]
      refine (r_cure hP.1 hP.2.1 (by omega) hkd hx q3 q5 rfl q7 q8).bind ?_
      intro s2 t2 hP2
      exact ok2.some (Or.inl ⟨_, _, rfl, rfl, by omega, rfl, by rw [show 4 * (k + 1) = 4 * k + 4 by omega], hP.trans hP2⟩)
    · simp only [if_neg hm]
      exact ok2.some (Or.inl ⟨_, _, rfl, rfl, by omega, rfl, by rw [show 4 * (k + 1) = 4 * k + 4 by omega], hP⟩)
theorem r_each {n a : Nat} {s t : Mem} (h : nS n a s t) (hC : nC n (t 1)) (hW : WS n s t) :
    ok2 (it FUEL (fun y => st_X10_passMinute_177 1 a y.1 y.2.1 y.2.2) (0, 0, s)) (it FUEL (fun y => st_X12_goesBy_97 y.1 y.2.1 y.2.2) (0, 0, t)) (fun r r' => r.1 = r'.1 ∧ nP n a s t r.2 r'.2) := by
  refine it_ok2 14 (by omega) (fun k y y' => k ≤ n ∧ y.1 = y'.1 ∧ y.2.1 = Int32.ofNat k ∧ y'.2.1 = Int32.ofNat k ∧ nP n a s t y.2.2 y'.2.2) ⟨by omega, rfl, rfl, rfl, nP.refl h hC⟩ (fun k y y' q => Nat.le_trans q.1 h.1.2.1) ?_
  rintro k ⟨c, i, s'⟩ ⟨c', i', t'⟩ ⟨hk, rfl, rfl, rfl, hP⟩
  dsimp only at hP ⊢
  have hn := h.1.2.1
  have hW' := hP.ws hW
  have x0 := hP.1.2.1.1
  unfold st_X10_passMinute_177 st_X12_goesBy_97
  simp only [x0.1, hP.1.1.2.2.1]
  by_cases hkn : k = n
  · subst hkn
    simp (disch := omega) only [rd_N, wr_N, rd_L, wr_L, Option.bind_some, N_le, N_lt, N_eq, N_leL, L_leN, N_ltL, L_ltN, N_eqL, L_eqN, N_neg, neg_N, N_nlt0, N_0le, N_add, N_addL, L_addN, N_mul, N_mulL, L_mulN, N_sub, N_subL, m_eq, m_ne, u_eq, u_ne, if_true, if_false, ite_true, ite_false, if_pos, if_neg]
    exact ok2.some (Or.inr ⟨_, _, rfl, rfl, rfl, hP⟩)
  · have x1 := hP.1.2.1.2 k (by omega)
    obtain ⟨kh, ekh, hkh⟩ := hic_N (p := k) hP.1 (by omega)
    simp (disch := omega) only [rd_N, wr_N, rd_L, wr_L, Option.bind_some, N_le, N_lt, N_eq, N_leL, L_leN, N_ltL, L_ltN, N_eqL, L_eqN, N_neg, neg_N, N_nlt0, N_0le, N_add, N_addL, L_addN, N_mul, N_mulL, L_mulN, N_sub, N_subL, m_eq, m_ne, u_eq, u_ne, if_true, if_false, ite_true, ite_false, if_pos, if_neg, x1.2.1, m_hasAny, ekh]
    by_cases hk0 : kh = 0
    · subst hk0
      simp (disch := omega) only [rd_N, wr_N, rd_L, wr_L, Option.bind_some, N_le, N_lt, N_eq, N_leL, L_leN, N_ltL, L_ltN, N_eqL, L_eqN, N_neg, neg_N, N_nlt0, N_0le, N_add, N_addL, L_addN, N_mul, N_mulL, L_mulN, N_sub, N_subL, m_eq, m_ne, u_eq, u_ne, if_true, if_false, ite_true, ite_false, if_pos, if_neg]
      exact ok2.some (Or.inl ⟨_, _, rfl, rfl, by omega, rfl, rfl, rfl, hP⟩)
    · simp (disch := omega) only [rd_N, wr_N, rd_L, wr_L, Option.bind_some, N_le, N_lt, N_eq, N_leL, L_leN, N_ltL, L_ltN, N_eqL, L_eqN, N_neg, neg_N, N_nlt0, N_0le, N_add, N_addL, L_addN, N_mul, N_mulL, L_mulN, N_sub, N_subL, m_eq, m_ne, u_eq, u_ne, if_true, if_false, ite_true, ite_false, if_pos, if_neg]
      rw [if_neg (show ¬ ((1 : Int32) = 0) by decide)]
      unfold f_X12_hicsNow
      obtain ⟨⟨v, s2⟩, ⟨v', t2⟩, g1, g2, e1, hq⟩ := r_stopsB hP.1 hP.2.1 hW' (p := k) (by omega)
      obtain ⟨⟨w, t3⟩, g3, g4⟩ := bnd g2
      dsimp only at e1 hq g4
      subst e1
      rw [g1, g3]
      dsimp only [Option.bind_some]
      rw [g4]
      dsimp only [Option.bind_some]
      rcases hq with ⟨rfl, hP2, hh⟩ | ⟨rfl, t4, g5, hP2⟩
      · rw [if_pos rfl, if_pos rfl]
        have hkp : t2 1 (18 + k) ≠ 0 := by rw [hh, ekh]; exact N_ne0 (by omega) (by omega)
        obtain ⟨⟨v, s5⟩, ⟨v', t5⟩, g6, g7, e1, hb, hP3⟩ := r_speak hP2.1 hP2.2.1 (hP2.ws hW') (p := k) (by omega) hkp
        dsimp only at e1 hb hP3
        subst e1
        rw [g6, g7]
        dsimp only [Option.bind_some]
        rcases hb with rfl | rfl
        · rw [if_pos rfl, if_neg (by decide)]
          dsimp only [Option.bind_some]
          rw [if_pos rfl]
          exact ok2.some (Or.inl ⟨_, _, rfl, rfl, by omega, rfl, rfl, rfl, hP.trans (hP2.trans hP3)⟩)
        · rw [if_neg (by decide), if_neg (by decide)]
          dsimp only [Option.bind_some]
          rw [if_neg (by decide)]
          exact ok2.some (Or.inl ⟨_, _, rfl, rfl, by omega, rfl, rfl, rfl, hP.trans (hP2.trans hP3)⟩)
      · rw [if_neg (by decide), if_neg (by decide)]
        obtain ⟨v4, g6, g7⟩ := bnd g5
        obtain ⟨r5, g8, g9⟩ := bnd g7
        rw [g6]
        dsimp only [Option.bind_some]
        rw [g8]
        dsimp only [Option.bind_some]
        rw [g9]
        dsimp only [Option.bind_some]
        rw [if_pos rfl]
        exact ok2.some (Or.inl ⟨_, _, rfl, rfl, by omega, rfl, rfl, rfl, hP.trans hP2⟩)
/-- a minute: related still; the minute is one more -/
def nP1 (n a : Nat) (s t s' t' : Mem) : Prop := nS n a s' t' ∧ nC n (t' 1) ∧ nXF a s s' ∧ nTF t t' ∧ t' 1 0 = t 1 0 + 1
theorem r_minute {n a : Nat} {s t : Mem} (h : nS n a s t) (hC : nC n (t 1)) (hW : WS n s t) (hm : t 1 0 < 10100) :
    ok2 (f_X10_passMinute 1 a s) (f_X12_goesBy t) (fun r r' => r.1 = r'.1 ∧ nP1 n a s t r.2 r'.2) := by
  have hn := h.1.2.1
  unfold f_X10_passMinute f_X12_goesBy
  refine (r_talk h hC hW).bind ?_
  intro s1 t1 P1
  refine (r_cures P1.1 P1.2.1 (P1.ws hW)).bind ?_
  intro s2 t2 P2
  have P12 := P1.trans P2
  refine (r_each P12.1 P12.2.1 (P12.ws hW)).bind ?_
  rintro ⟨c, s3⟩ ⟨c', t3⟩ ⟨e1, P3⟩
  dsimp only at e1 P3 ⊢
  subst e1
  have P := P12.trans P3
  obtain ⟨v, g1, g2⟩ := r_havers P.1
  rw [g1, g2]
  dsimp only [Option.bind_some]
  have x0 := P.1.2.1.1
  have b0 := P.1.2.2.1.1
  have fin : ∀ s4 t4, nP n a s t s4 t4 → ok2 (jn_X10_passMinute_238 1 a c s4) (jn_X12_goesBy_152 c t4) (fun r r' => r.1 = r'.1 ∧ nP1 n a s t r.2 r'.2) := by
    intro s4 t4 P4
    have x4 := P4.1.2.1.1
    have b4 := P4.1.2.2.1.1
    unfold jn_X10_passMinute_238 jn_X12_goesBy_152
    simp (disch := omega) only [rd_N, wr_N, rd_L, wr_L, Option.bind_some, N_le, N_lt, N_eq, N_leL, L_leN, N_ltL, L_ltN, N_eqL, L_eqN, N_neg, neg_N, N_nlt0, N_0le, N_add, N_addL, L_addN, N_mul, N_mulL, L_mulN, N_sub, N_subL, m_eq, m_ne, u_eq, u_ne, if_true, if_false, ite_true, ite_false, if_pos, if_neg, x4.2.2.1]
    have h5 := nS_minute (v := t4 1 0 + 1) P4.1 (by
      have e := P4.2.2.2.2
      rw [e]
      have := h.2.2.1.1.2.2.1
      grind)
    refine ok2.some ⟨rfl, h5, nC_same P4.2.1 (fun j q1 q2 => by simp (disch := omega) only [rd_N, wr_N, rd_L, wr_L, Option.bind_some, N_le, N_lt, N_eq, N_leL, L_leN, N_ltL, L_ltN, N_eqL, L_eqN, N_neg, neg_N, N_nlt0, N_0le, N_add, N_addL, L_addN, N_mul, N_mulL, L_mulN, N_sub, N_subL, m_eq, m_ne, u_eq, u_ne, if_true, if_false, ite_true, ite_false, if_pos, if_neg]) hn, P4.2.2.1.trans (nXF.fld (by omega)), P4.2.2.2.1.trans nTF.put, ?_⟩
    dsimp only
    simp (disch := omega) only [rd_N, wr_N, rd_L, wr_L, Option.bind_some, N_le, N_lt, N_eq, N_leL, L_leN, N_ltL, L_ltN, N_eqL, L_eqN, N_neg, neg_N, N_nlt0, N_0le, N_add, N_addL, L_addN, N_mul, N_mulL, L_mulN, N_sub, N_subL, m_eq, m_ne, u_eq, u_ne, if_true, if_false, ite_true, ite_false, if_pos, if_neg, P4.2.2.2.2]
  by_cases hv : v = 0
  · simp only [if_pos hv]
    simp (disch := omega) only [rd_N, wr_N, rd_L, wr_L, Option.bind_some, N_le, N_lt, N_eq, N_leL, L_leN, N_ltL, L_ltN, N_eqL, L_eqN, N_neg, neg_N, N_nlt0, N_0le, N_add, N_addL, L_addN, N_mul, N_mulL, L_mulN, N_sub, N_subL, m_eq, m_ne, u_eq, u_ne, if_true, if_false, ite_true, ite_false, if_pos, if_neg, x0.2.1]
    have h5 := nS_calm (v := t3 1 3 + 1) P.1 trivial
    exact fin _ _ ⟨h5, nC_same P.2.1 (fun j q1 q2 => by simp (disch := omega) only [rd_N, wr_N, rd_L, wr_L, Option.bind_some, N_le, N_lt, N_eq, N_leL, L_leN, N_ltL, L_ltN, N_eqL, L_eqN, N_neg, neg_N, N_nlt0, N_0le, N_add, N_addL, L_addN, N_mul, N_mulL, L_mulN, N_sub, N_subL, m_eq, m_ne, u_eq, u_ne, if_true, if_false, ite_true, ite_false, if_pos, if_neg]) hn, P.2.2.1.trans (nXF.fld (by omega)), P.2.2.2.1.trans nTF.put, by simp (disch := omega) only [rd_N, wr_N, rd_L, wr_L, Option.bind_some, N_le, N_lt, N_eq, N_leL, L_leN, N_ltL, L_ltN, N_eqL, L_eqN, N_neg, neg_N, N_nlt0, N_0le, N_add, N_addL, L_addN, N_mul, N_mulL, L_mulN, N_sub, N_subL, m_eq, m_ne, u_eq, u_ne, if_true, if_false, ite_true, ite_false, if_pos, if_neg, P.2.2.2.2]⟩
  · simp only [if_neg hv]
    exact fin _ _ P
