/-! ===== the image taken and brought back ===== -/
theorem rg1 {j : Nat} (h : j < 102) : rngB 1 j = true := by simp [rngB, h]
theorem rg28 {j : Nat} (h : j < 2) : rngB 28 j = true := by simp [rngB, h]
theorem rg15 {j : Nat} (h : j < 48) : rngB 15 j = true := by simp [rngB, h]
theorem rg16 {j : Nat} (h : j < 64) : rngB 16 j = true := by simp [rngB, h]
theorem rg17 {j : Nat} (h : j < 14) : rngB 17 j = true := by simp [rngB, h]
theorem rg25 {j : Nat} (h : j < 14) : rngB 25 j = true := by simp [rngB, h]
theorem rg26 {j : Nat} (h : j < 14) : rngB 26 j = true := by simp [rngB, h]
theorem rg27 {j : Nat} (h : j < 14) : rngB 27 j = true := by simp [rngB, h]
theorem rg18 {j : Nat} (h : j < 84) : rngB 18 j = true := by simp [rngB, h]
theorem rg21 {j : Nat} (h : j < 16) : rngB 21 j = true := by simp [rngB, h]
theorem rg22 {j : Nat} (h : j < 10) : rngB 22 j = true := by simp [rngB, h]
theorem rg23 {j : Nat} (h : j < 10) : rngB 23 j = true := by simp [rngB, h]
theorem rg24 {j : Nat} (h : j < 10) : rngB 24 j = true := by simp [rngB, h]
theorem rg29 {j : Nat} (h : j < 12) : rngB 29 j = true := by simp [rngB, h]
theorem rg30 {j : Nat} (h : j < 6) : rngB 30 j = true := by simp [rngB, h]
theorem rg32 {j : Nat} (h : j < 8) : rngB 32 j = true := by simp [rngB, h]
theorem rg35 {j : Nat} (h : j < 4) : rngB 35 j = true := by simp [rngB, h]
theorem rg4 {j : Nat} (h : j < 600) : rngB 4 j = true := by simp [rngB, h]
theorem rg7 {j : Nat} (h : j < 1) : rngB 7 j = true := by simp [rngB, h]
theorem rg8 {j : Nat} (h : j < 16) : rngB 8 j = true := by simp [rngB, h]
theorem rg9 {j : Nat} (h : j < 16) : rngB 9 j = true := by simp [rngB, h]
theorem rg10 {j : Nat} (h : j < 16) : rngB 10 j = true := by simp [rngB, h]
theorem rg11 {j : Nat} (h : j < 16) : rngB 11 j = true := by simp [rngB, h]
theorem rg12 {j : Nat} (h : j < 400) : rngB 12 j = true := by simp [rngB, h]
theorem rg13 {j : Nat} (h : j < 400) : rngB 13 j = true := by simp [rngB, h]
theorem WR_m {n w : Nat} {s m m' : Mem} (h : WR n w s m) (e : ∀ k j, rngB k j = true → m' k j = m k j) : WR n w s m' := by
  obtain ⟨⟨hn, hk, h6⟩, ⟨w1, w2, w3, w4⟩, hr, hb⟩ := h
  refine ⟨⟨hn, kepR_eq hk (fun _ _ => rfl) (fun j hj => e 1 j (rg1 hj)) hn, (e 0 6 (by decide)).trans h6⟩, ⟨?_, ?_, ?_, ?_⟩, ?_, fun i hi => (hb i hi).trans (e 4 i (rg4 hi)).symm⟩
  · obtain ⟨cnt, sz, h16, h400, q1, q2, q3, q4, q5⟩ := w1
    refine ⟨cnt, sz, h16, h400, q1, (e 7 0 (rg7 (by omega))).trans q2, q3, fun i hi => ?_, fun l hl => ?_⟩
    · rw [e 12 i (rg12 (by omega)), e 13 i (rg13 (by omega))]
      exact q4 i hi
    · obtain ⟨fr, wh, ti, p1, p2, p3, p4, p5, p6, p7, p8, p9, p10, p11⟩ := q5 l hl
      exact ⟨fr, wh, ti, p1, p2, p3, p4.trans (e 8 l (rg8 (by omega))).symm, p5, (e 9 l (rg9 (by omega))).trans p6, p7, (e 10 l (rg10 (by omega))).trans p8, p9, (e 11 l (rg11 (by omega))).trans p10, p11⟩
  · obtain ⟨cnt, q1, q2, q3, q4⟩ := w2
    refine ⟨cnt, q1, q2, (e 0 35 (by decide)).trans q3, fun p hp => ?_⟩
    obtain ⟨k, nm, p1, p2, p3, p4⟩ := q4 p hp
    exact ⟨k, nm, p1, (e 17 p (rg17 (by omega))).trans p2, fun i hi => ⟨(p3 i hi).1, (e 18 _ (rg18 (by omega))).trans (p3 i hi).2⟩, p4⟩
  · obtain ⟨cnt, q1, q2, q3, q4⟩ := w3
    refine ⟨cnt, q1, q2, (e 0 31 (by decide)).trans q3, fun l hl => ?_⟩
    rw [e 15 _ (rg15 (show 3 * l < 48 by omega)), e 15 _ (rg15 (show 3 * l + 1 < 48 by omega)), e 15 _ (rg15 (show 3 * l + 2 < 48 by omega))]
    exact q4 l hl
  · obtain ⟨cnt, q1, q2, q3, q4⟩ := w4
    refine ⟨cnt, q1, q2, (e 0 33 (by decide)).trans q3, fun l hl => ?_⟩
    rw [e 16 _ (rg16 (show 4 * l < 64 by omega)), e 16 _ (rg16 (show 4 * l + 1 < 64 by omega)), e 16 _ (rg16 (show 4 * l + 2 < 64 by omega)), e 16 _ (rg16 (show 4 * l + 3 < 64 by omega))]
    exact q4 l hl
  · exact rowsR_eq hr (fun _ _ _ => rfl) ⟨e _ _ (by decide), e _ _ (by decide), e _ _ (by decide), e _ _ (by decide), e _ _ (by decide), e _ _ (by decide)⟩ (fun j hj => e _ _ (rg21 hj)) (fun j hj => ⟨e _ _ (rg22 hj), e _ _ (rg23 hj), e _ _ (rg24 hj)⟩) (fun j hj => ⟨e _ _ (rg25 hj), e _ _ (rg26 hj), e _ _ (rg27 hj)⟩) ⟨e _ _ (rg28 (by omega)), e _ _ (rg28 (by omega))⟩ (fun j hj => e _ _ (rg29 hj)) (fun j hj => e _ _ (rg30 hj)) (fun j hj => e _ _ (rg32 hj)) (fun j hj => e _ _ (rg35 hj))
theorem imS_0 {f : Bool} {t : Mem} (h : t 0 63 = 0) : imS f t 0 = t := by
  funext c i
  unfold imS
  by_cases h1 : c = 0 ∧ i = 63
  · obtain ⟨rfl, rfl⟩ := h1
    rw [if_pos ⟨rfl, rfl⟩, h]
    rfl
  · rw [if_neg h1]
    cases f with
    | true => rw [if_pos rfl, if_neg (by omega)]
    | false => rw [if_neg (by decide), if_neg (by omega)]
theorem m_image {x : Int32} {t : Mem} (hx : x = 0 ∨ x = 1) : jn_X12_image_18 x t = some (1, if x = 0 then mset (imS false (mset (mset (mset t 0 61 0) 0 62 1) 0 63 0) 1907) 0 3 0 else imS true (mset (mset (mset t 0 61 1) 0 62 1) 0 63 0) 1907) := by
  unfold jn_X12_image_18
  rw [if_neg (fun q => q hx)]
  rcases hx with rfl | rfl
  · have hf : mset (mset (mset t 0 61 0) 0 62 1) 0 63 0 0 61 = if (false : Bool) = true then 1 else 0 := by
      simp (disch := omega) only [m_eq, u_eq, u_ne]
      decide
    have h0 : mset (mset (mset t 0 61 0) 0 62 1) 0 63 0 0 63 = 0 := by
      rw [m_eq, u_eq]
    generalize mset (mset (mset t 0 61 0) 0 62 1) 0 63 0 = T at *
    have a1 := im_image_35 (x := 0) hf
    have a2 := m_keepsMany hf
    have a3 := m_keepsTold hf
    have a4 := im_image_73 (x := 0) hf
    have a5 := m_keepsLaw hf
    rw [imS_0 h0] at a1
    rw [a1, Option.bind_some, a2, Option.bind_some, a3, Option.bind_some, a4, Option.bind_some, a5, Option.bind_some, if_pos rfl, if_pos rfl]
  · have hf : mset (mset (mset t 0 61 1) 0 62 1) 0 63 0 0 61 = if (true : Bool) = true then 1 else 0 := by
      simp (disch := omega) only [m_eq, u_eq, u_ne]
      decide
    have h0 : mset (mset (mset t 0 61 1) 0 62 1) 0 63 0 0 63 = 0 := by
      rw [m_eq, u_eq]
    generalize mset (mset (mset t 0 61 1) 0 62 1) 0 63 0 = T at *
    have a1 := im_image_35 (x := 1) hf
    have a2 := m_keepsMany hf
    have a3 := m_keepsTold hf
    have a4 := im_image_73 (x := 1) hf
    have a5 := m_keepsLaw hf
    rw [imS_0 h0] at a1
    rw [a1, Option.bind_some, a2, Option.bind_some, a3, Option.bind_some, a4, Option.bind_some, a5, Option.bind_some, if_neg (by decide), if_neg (by decide)]
theorem r36 {i : Nat} : rngB 36 i = false := by
  cases hb : rngB 36 i with
  | false => rfl
  | true => exact absurd (rng_lt hb).1 (by omega)
/-- what the taking leaves -/
theorem imT_o {t : Mem} {c i : Nat} (h : c ≠ 36) (h2 : ¬ (c = 0 ∧ i = 63)) : imS true t 1907 c i = t c i := by
  rw [imS_T h2, if_neg (fun q => h q.1)]
theorem imT_i {t : Mem} {k j : Nat} (h : rngB k j = true) : imgV (imS true t 1907 36) k j = t k j := by
  obtain ⟨e1, e2⟩ := slot_ps h
  rw [imgV_ps, imS_T (by omega), if_pos ⟨rfl, e2⟩, e1]
theorem imB_o {t : Mem} {c i : Nat} (h : rngB c i = false) (h2 : ¬ (c = 0 ∧ i = 63)) : imS false t 1907 c i = t c i := by
  rw [imS_B h2, if_neg (fun q => by rw [h] at q; exact absurd q.1 (by decide))]
theorem imB_i {t : Mem} {k j : Nat} (h : rngB k j = true) : imS false t 1907 k j = imgV (t 36) k j := by
  have h2 : ¬ (k = 0 ∧ j = 63) := by
    rintro ⟨rfl, rfl⟩
    exact absurd h (by decide)
  rw [imS_B h2, if_pos ⟨h, (slot_ps h).2⟩, imgV_ps]
theorem GR_WR {n : Nat} {s t : Mem} (hL : GL n s t) (hX : GX n s t) : WR n 1 s t :=
  ⟨⟨hL.1.1.2.1, ⟨hL.1.2.1, hL.1.2.2.1, hL.2.1, hL.2.2.1⟩, hL.1.1.2.2.1⟩, ⟨hX.1.2.1.1, hX.1.2.1.2.1, hX.1.2.1.2.2.1, hX.1.2.1.2.2.2⟩, hX.1.2.2, hL.1.2.2.2⟩
theorem m_same {t : Mem} {v : Int32} {c i : Nat} (h : ¬ (c = 0 ∧ (i = 0 ∨ i = 61 ∨ i = 62 ∨ i = 63))) : mset (mset (mset (mset t 0 0 0) 0 61 v) 0 62 1) 0 63 0 c i = t c i := by
  by_cases hc : c = 0
  · subst hc
    simp (disch := omega) only [m_eq, u_ne]
  · simp (disch := omega) only [m_ne]
theorem r6 {i : Nat} : rngB 6 i = false := by simp [rngB]
theorem r5 {i : Nat} : rngB 5 i = false := by simp [rngB]
theorem o_image {x : Int32} {s t : Mem} (hx : x = 0 ∨ x = 1) (h : GR s t) : opR (f_X11_image x s) (f_X12_image x t) := by
  obtain ⟨n, hL, hX⟩ := h
  have hn := hL.1.1.2.1
  unfold f_X11_image f_X12_image
  rcases hx with rfl | rfl
  · rw [if_pos rfl, if_pos rfl]
    have e62 : mset t 0 0 0 0 62 = t 0 62 := by rw [m_eq, u_ne (by omega)]
    rw [e62]
    obtain ⟨i1, i2⟩ := hX.2.2.1
    rcases i2 with i2 | ⟨i2, n', i3⟩
    · rw [if_pos i2, if_pos (i1.trans i2)]
      exact opR.ret (GR_told ⟨n, hL, hX⟩)
    · rw [if_neg (by rw [i1, i2]; decide), if_neg (by rw [i2]; decide), m_image (Or.inl rfl), if_pos rfl]
      obtain ⟨s', e, b, f, z⟩ := x_copyWorld (d := 1) (e := 58) (Or.inr ⟨rfl, rfl⟩) i3
      unfold f_X11_forget
      rw [e, Option.bind_some, Option.bind_some]
      have b' : WR n' 1 s' (imS false (mset (mset (mset (mset t 0 0 0) 0 61 0) 0 62 1) 0 63 0) 1907) := WR_m b (fun k j hr => by
        rw [imB_i hr, m_ne (by omega), m_ne (by omega), m_ne (by omega), m_ne (by omega)])
      have T0 : ∀ j, rngB 0 j = false → j ≠ 0 → j ≠ 61 → j ≠ 62 → j ≠ 63 → imS false (mset (mset (mset (mset t 0 0 0) 0 61 0) 0 62 1) 0 63 0) 1907 0 j = t 0 j := fun j q1 q2 q3 q4 q5 => by
        rw [imB_o q1 (by omega), m_same (by omega)]
      have T62 : imS false (mset (mset (mset (mset t 0 0 0) 0 61 0) 0 62 1) 0 63 0) 1907 0 62 = 1 := by
        rw [imB_o (by decide) (by omega), m_eq, u_ne (by omega), m_eq, u_eq]
      have Tc : ∀ c, (∀ i, rngB c i = false) → c ≠ 0 → imS false (mset (mset (mset (mset t 0 0 0) 0 61 0) 0 62 1) 0 63 0) 1907 c = t c := fun c q1 q2 => funext fun i => by
        rw [imB_o (q1 i) (by omega), m_same (by omega)]
      generalize imS false (mset (mset (mset (mset t 0 0 0) 0 61 0) 0 62 1) 0 63 0) 1907 = T at *
      clear b
      obtain ⟨⟨g1, ⟨g2, g3, g4, g5⟩, g6⟩, ⟨w1, w2, w3, w4⟩, hr, hb⟩ := b'
      have a0 : mset T 0 3 0 1 = T 1 := m_ne (by omega)
      have ac : ∀ c, c ≠ 0 → mset T 0 3 0 c = T c := fun c q => m_ne q
      have a3 : ∀ j, j ≠ 3 → mset T 0 3 0 0 j = T 0 j := fun j q => by rw [m_eq, u_ne q]
      have sc : ∀ c, c ≠ 0 → mset s' 0 5 0 c = s' c := fun c q => m_ne q
      have s0 : s' 0 = s 0 := f 0 (by omega)
      obtain ⟨c0, nx, _, p2, _, p4, _, _⟩ := hX.2.1
      refine opR.ret ⟨n', ⟨⟨⟨Or.inl rfl, g1, (a3 6 (by omega)).trans g6, ?_, ?_⟩, ?_, ?_, fun i hi => ?_⟩, ?_, ?_, ?_⟩, ⟨?_, ?_, ?_⟩, ?_, ?_, ?_, ?_⟩
      · rw [sc 2 (by omega), a3 5 (by omega), T0 5 (by decide) (by omega) (by omega) (by omega) (by omega), z]
        exact hL.1.1.2.2.2.1
      · rw [a3 5 (by omega), T0 5 (by decide) (by omega) (by omega) (by omega) (by omega)]
        exact hL.1.1.2.2.2.2
      · rw [a0]
        exact nR_eq g2 (fun f hf => sc _ (by omega)) (fun _ _ => rfl) g1
      · rw [a0]
        exact g3
      · rw [sc 57 (by omega), ac 4 (by omega)]
        exact hb i hi
      · rw [a0]
        exact g4
      · rw [a0]
        exact g5
      · rw [a3 5 (by omega), T0 5 (by decide) (by omega) (by omega) (by omega) (by omega)]
        exact hL.2.2.2
      · rw [sc 115 (by omega), f 115 (by omega)]
        exact hX.1.1
      · exact ⟨lawR_eq w1 (fun j hj => sc _ (by omega)) (fun c q1 q2 => ac _ (by omega)), ordR_eq w2 (fun j hj => sc _ (by omega)) (a3 _ (by omega)) (ac _ (by omega)) (ac _ (by omega)), planT_eq w3 (fun j hj => sc _ (by omega)) (a3 _ (by omega)) (ac _ (by omega)), planC_eq w4 (fun j hj => sc _ (by omega)) (a3 _ (by omega)) (ac _ (by omega))⟩
      · exact rowsR_t hr (fun j q1 q2 => sc _ (by omega)) (fun j q1 q2 => a3 _ (by omega)) (fun c q1 q2 q3 q4 q5 => ac _ (by omega))
      · exact ⟨0, nx, by omega, p2, by rw [m_eq, u_eq]; rfl, by rw [m_eq, u_ne (by omega), s0]; exact p4, by rw [m_eq, u_eq]; rfl, fun u hu => by omega⟩
      · refine ⟨?_, Or.inr ⟨?_, n', ?_⟩⟩
        · rw [m_eq, u_ne (by omega), s0, a3 62 (by omega), T62, i1, i2]
        · rw [a3 62 (by omega), T62]
        · rw [ac 36 (by omega), Tc 36 (fun i => r36) (by omega)]
          exact WR_s i3 (fun c q1 q2 => by rw [sc c (by omega), f c (by omega)])
      · refine txtR_eq hX.2.2.2.1 (fun c q1 q2 => by rw [sc c (by omega), f c (by omega)]) ?_ ?_ ?_ ?_
        · rw [a3 _ (by omega), T0 9 (by decide) (by omega) (by omega) (by omega) (by omega)]
        · rw [a3 _ (by omega), T0 29 (by decide) (by omega) (by omega) (by omega) (by omega)]
        · rw [a3 _ (by omega), T0 30 (by decide) (by omega) (by omega) (by omega) (by omega)]
        · rw [ac _ (by omega), Tc 5 (fun i => r5) (by omega)]
      · unfold wrdR
        rw [ac 6 (by omega), Tc 6 (fun i => r6) (by omega)]
        exact hX.2.2.2.2
  · rw [if_neg (by decide), if_neg (by decide), m_image (Or.inr rfl), if_neg (by decide)]
    obtain ⟨s', e, b, f, z⟩ := x_copyWorld (d := 58) (e := 1) (Or.inl ⟨rfl, rfl⟩) (GR_WR hL hX)
    rw [e, Option.bind_some]
    have b' : WR n 58 s' (imgV (imS true (mset (mset (mset (mset t 0 0 0) 0 61 1) 0 62 1) 0 63 0) 1907 36)) := WR_m b (fun k j hr => by
      rw [imT_i hr, m_same]
      rintro ⟨rfl, q | q | q | q⟩
      all_goals
        subst q
        exact absurd hr (by decide))
    have T0 : ∀ j, j ≠ 0 → j ≠ 61 → j ≠ 62 → j ≠ 63 → imS true (mset (mset (mset (mset t 0 0 0) 0 61 1) 0 62 1) 0 63 0) 1907 0 j = t 0 j := fun j q2 q3 q4 q5 => by
      rw [imT_o (by omega) (by omega), m_same (by omega)]
    have T62 : imS true (mset (mset (mset (mset t 0 0 0) 0 61 1) 0 62 1) 0 63 0) 1907 0 62 = 1 := by
      rw [imT_o (by omega) (by omega), m_eq, u_ne (by omega), m_eq, u_eq]
    have Tc : ∀ c, c ≠ 36 → c ≠ 0 → imS true (mset (mset (mset (mset t 0 0 0) 0 61 1) 0 62 1) 0 63 0) 1907 c = t c := fun c q1 q2 => funext fun i => by
      rw [imT_o q1 (by omega), m_same (by omega)]
    generalize imS true (mset (mset (mset (mset t 0 0 0) 0 61 1) 0 62 1) 0 63 0) 1907 = T at *
    have sc : ∀ c, c ≠ 0 → mset s' 0 2 1 c = s' c := fun c q => m_ne q
    have s0 : s' 0 = s 0 := f 0 (by omega)
    have sx : ∀ c, c ≠ 0 → (c ≤ 58 ∨ 114 < c) → mset s' 0 2 1 c = s c := fun c q1 q2 => by rw [sc c q1, f c (by omega)]
    have s05 : ∀ j, j ≠ 2 → mset s' 0 2 1 0 j = s 0 j := fun j q => by rw [m_eq, u_ne q, s0]
    refine opR.ret ⟨n, ⟨nS_t hL.1 (fun c q1 q2 => sx c (by omega) (by omega)) (sx 57 (by omega) (by omega)) (Tc 1 (by omega) (by omega)) (Tc 4 (by omega) (by omega)) (T0 5 (by omega) (by omega) (by omega) (by omega)) (T0 6 (by omega) (by omega) (by omega) (by omega)), ?_, ?_, ?_⟩, ⟨?_, ?_, ?_⟩, ?_, ?_, ?_, ?_⟩
    · rw [Tc 1 (by omega) (by omega)]
      exact hL.2.1
    · rw [Tc 1 (by omega) (by omega)]
      exact hL.2.2.1
    · rw [T0 5 (by omega) (by omega) (by omega) (by omega)]
      exact hL.2.2.2
    · rw [sx 115 (by omega) (by omega)]
      exact hX.1.1
    · obtain ⟨w1, w2, w3, w4⟩ := hX.1.2.1
      exact ⟨lawR_eq w1 (fun j hj => sx _ (by omega) (by omega)) (fun c q1 q2 => Tc _ (by omega) (by omega)), ordR_eq w2 (fun j hj => sx _ (by omega) (by omega)) (T0 _ (by omega) (by omega) (by omega) (by omega)) (Tc _ (by omega) (by omega)) (Tc _ (by omega) (by omega)), planT_eq w3 (fun j hj => sx _ (by omega) (by omega)) (T0 _ (by omega) (by omega) (by omega) (by omega)) (Tc _ (by omega) (by omega)), planC_eq w4 (fun j hj => sx _ (by omega) (by omega)) (T0 _ (by omega) (by omega) (by omega) (by omega)) (Tc _ (by omega) (by omega))⟩
    · exact rowsR_t hX.1.2.2 (fun j q1 q2 => sx _ (by omega) (by omega)) (fun j q1 q2 => T0 _ (by omega) (by omega) (by omega) (by omega)) (fun c q1 q2 q3 q4 q5 => Tc _ (by omega) (by omega))
    · exact pastR_eq hX.2.1 hn (fun c q1 q2 => sx _ (by omega) (by omega)) (s05 _ (by omega)) (s05 _ (by omega)) (Tc _ (by omega) (by omega)) (T0 _ (by omega) (by omega) (by omega) (by omega))
    · refine ⟨?_, Or.inr ⟨T62, n, WR_s b' (fun c q1 q2 => sc c (by omega))⟩⟩
      rw [T62, m_eq, u_eq]
    · exact txtR_eq hX.2.2.2.1 (fun c q1 q2 => sx _ (by omega) (by omega)) (T0 _ (by omega) (by omega) (by omega) (by omega)) (T0 _ (by omega) (by omega) (by omega) (by omega)) (T0 _ (by omega) (by omega) (by omega) (by omega)) (Tc _ (by omega) (by omega))
    · unfold wrdR
      rw [Tc 6 (by omega) (by omega)]
      exact hX.2.2.2.2
