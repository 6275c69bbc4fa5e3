/-! ===== the image ===== -/
def ps (k j : Nat) : Nat :=
  if k = 1 then j else if k = 0 then (if j = 6 then 102 else if j = 31 then 103 else if j = 33 then 104 else if j = 35 then 105 else if j = 40 then 106 else if j = 42 then 107 else if j = 46 then 108 else if j = 52 then 111 else if j = 55 then 112 else 113)
  else if k = 28 then 109 + j else if k = 15 then 114 + j else if k = 16 then 162 + j else if k = 17 then 226 + 4 * j else if k = 25 then 227 + 4 * j else if k = 26 then 228 + 4 * j else if k = 27 then 229 + 4 * j
  else if k = 18 then 282 + j else if k = 21 then 366 + j else if k = 22 then 382 + 3 * j else if k = 23 then 383 + 3 * j else if k = 24 then 384 + 3 * j else if k = 29 then 412 + j else if k = 30 then 424 + j
  else if k = 32 then 430 + j else if k = 35 then 438 + j else if k = 4 then 442 + j else if k = 7 then 1042 + j else if k = 8 then 1043 + 4 * j else if k = 9 then 1044 + 4 * j else if k = 10 then 1045 + 4 * j
  else if k = 11 then 1046 + 4 * j else if k = 12 then 1107 + 2 * j else 1108 + 2 * j
def rngB (k j : Nat) : Bool := (k == 0 && (j == 6 || j == 31 || j == 33 || j == 35 || j == 40 || j == 42 || j == 46 || j == 52 || j == 55 || j == 59)) || (k == 1 && decide (j < 102)) || (k == 28 && decide (j < 2)) || (k == 15 && decide (j < 48)) || (k == 16 && decide (j < 64)) || (k == 17 && decide (j < 14)) || (k == 25 && decide (j < 14)) || (k == 26 && decide (j < 14)) || (k == 27 && decide (j < 14)) || (k == 18 && decide (j < 84)) || (k == 21 && decide (j < 16)) || (k == 22 && decide (j < 10)) || (k == 23 && decide (j < 10)) || (k == 24 && decide (j < 10)) || (k == 29 && decide (j < 12)) || (k == 30 && decide (j < 6)) || (k == 32 && decide (j < 8)) || (k == 35 && decide (j < 4)) || (k == 4 && decide (j < 600)) || (k == 7 && decide (j < 1)) || (k == 8 && decide (j < 16)) || (k == 9 && decide (j < 16)) || (k == 10 && decide (j < 16)) || (k == 11 && decide (j < 16)) || (k == 12 && decide (j < 400)) || (k == 13 && decide (j < 400))
def slotI (P : Nat) : Nat × Nat := if P < 102 then (1, P - 0) else if P < 103 then (0, 6) else if P < 104 then (0, 31) else if P < 105 then (0, 33) else if P < 106 then (0, 35) else if P < 107 then (0, 40) else if P < 108 then (0, 42) else if P < 109 then (0, 46) else if P < 111 then (28, P - 109) else if P < 112 then (0, 52) else if P < 113 then (0, 55) else if P < 114 then (0, 59) else if P < 162 then (15, P - 114) else if P < 226 then (16, P - 162) else if P < 282 then ((if (P - 226) % 4 = 0 then 17 else if (P - 226) % 4 = 1 then 25 else if (P - 226) % 4 = 2 then 26 else 27), (P - 226) / 4) else if P < 366 then (18, P - 282) else if P < 382 then (21, P - 366) else if P < 412 then ((if (P - 382) % 3 = 0 then 22 else if (P - 382) % 3 = 1 then 23 else 24), (P - 382) / 3) else if P < 424 then (29, P - 412) else if P < 430 then (30, P - 424) else if P < 438 then (32, P - 430) else if P < 442 then (35, P - 438) else if P < 1042 then (4, P - 442) else if P < 1043 then (7, P - 1042) else if P < 1107 then ((if (P - 1043) % 4 = 0 then 8 else if (P - 1043) % 4 = 1 then 9 else if (P - 1043) % 4 = 2 then 10 else 11), (P - 1043) / 4) else if P < 1907 then ((if (P - 1107) % 2 = 0 then 12 else 13), (P - 1107) / 2) else (0, 0)
theorem imgV_ps {u : Nat → Int32} {k j : Nat} : imgV u k j = u (ps k j) := by
  unfold imgV ps
  simp only [apply_ite u]
set_option maxRecDepth 100000 in
theorem slotA : allN 1907 (fun P => rngB (slotI P).1 (slotI P).2 && ps (slotI P).1 (slotI P).2 == P) = true := by decide +kernel
set_option maxRecDepth 100000 in
theorem slotB : allN 36 (fun k => allN 600 (fun j => !rngB k j || (slotI (ps k j) == (k, j) && decide (ps k j < 1907)))) = true := by decide +kernel
theorem rng_lt {k j : Nat} (h : rngB k j = true) : k < 36 ∧ j < 600 := by
  unfold rngB at h
  simp only [Bool.or_eq_true, Bool.and_eq_true, beq_iff_eq, decide_eq_true_eq] at h
  omega
theorem slot_ps {k j : Nat} (h : rngB k j = true) : slotI (ps k j) = (k, j) ∧ ps k j < 1907 := by
  obtain ⟨h1, h2⟩ := rng_lt h
  have g := allN_of (allN_of slotB k h1) j h2
  rw [h] at g
  simpa using g
theorem slot_rng {P : Nat} (h : P < 1907) : rngB (slotI P).1 (slotI P).2 = true ∧ ps (slotI P).1 (slotI P).2 = P := by
  have g := allN_of slotA P h
  simpa using g
def imS (f : Bool) (t : Mem) (P : Nat) : Mem := fun c i =>
  if c = 0 ∧ i = 63 then Int32.ofNat P else if f = true then (if c = 36 ∧ i < P then t (slotI i).1 (slotI i).2 else t c i) else (if rngB c i = true ∧ ps c i < P then t 36 (ps c i) else t c i)
theorem imS_T {t : Mem} {P c i : Nat} (h : ¬ (c = 0 ∧ i = 63)) : imS true t P c i = if c = 36 ∧ i < P then t (slotI i).1 (slotI i).2 else t c i := by
  unfold imS
  rw [if_neg h, if_pos rfl]
theorem imS_B {t : Mem} {P c i : Nat} (h : ¬ (c = 0 ∧ i = 63)) : imS false t P c i = if rngB c i = true ∧ ps c i < P then t 36 (ps c i) else t c i := by
  unfold imS
  rw [if_neg h, if_neg (by decide)]
theorem im_step {f : Bool} {t : Mem} {P k j : Nat} (hf : t 0 61 = if f = true then 1 else 0) (hP : P < 1907) (hs : slotI P = (k, j)) : ∃ w u, f_X12_keeps (imS f t P k j) (imS f t P) = some (w, u) ∧ mset u k j w = imS f t (P + 1) := by
  obtain ⟨hr, hp⟩ := slot_rng hP
  rw [hs] at hr hp
  dsimp only at hr hp
  obtain ⟨hk36, -⟩ := rng_lt hr
  have h63 : ¬ (k = 0 ∧ j = 63) := by
    rintro ⟨rfl, rfl⟩
    exact absurd hr (by decide)
  have r63 : rngB 0 63 = false := by decide
  have r61 : rngB 0 61 = false := by decide
  have r36 : ∀ i, rngB 36 i = false := fun i => by
    cases hb : rngB 36 i with
    | false => rfl
    | true => exact absurd (rng_lt hb).1 (by omega)
  have e63 : imS f t P 0 63 = Int32.ofNat P := by
    unfold imS
    rw [if_pos ⟨rfl, rfl⟩]
  have e61 : imS f t P 0 61 = t 0 61 := by
    unfold imS
    rw [if_neg (by omega)]
    cases f with
    | true => rw [if_pos rfl, if_neg (by omega)]
    | false => rw [if_neg (by decide), r61, if_neg (by simp)]
  unfold f_X12_keeps
  simp (disch := omega) only [m_eq, u_eq, u_ne, m_ne, e63, e61, hf, N_addL, N_subL, show P + 1 - 1 = P by omega]
  cases f with
  | true =>
    simp only [if_true]
    rw [if_neg (by decide)]
    simp (disch := omega) only [wr_N, Option.bind_some]
    refine ⟨_, _, rfl, ?_⟩
    funext c i
    have ekj : imS true t P k j = t k j := by
      unfold imS
      rw [if_neg h63, if_pos rfl, if_neg (by omega)]
    rw [ekj]
    by_cases h1 : c = k ∧ i = j
    · obtain ⟨rfl, rfl⟩ := h1
      rw [m_eq, u_eq]
      unfold imS
      rw [if_neg h63, if_pos rfl, if_neg (by omega)]
    · have h2 : mset (mset (mset (imS true t P) 0 63 (Int32.ofNat (P + 1))) 36 P (t k j)) k j (t k j) c i = mset (mset (imS true t P) 0 63 (Int32.ofNat (P + 1))) 36 P (t k j) c i := by
        by_cases hc : c = k
        · subst hc
          rw [m_eq, u_ne (fun q => h1 ⟨rfl, q⟩)]
        · rw [m_ne hc]
      rw [h2]
      by_cases h3 : c = 36
      · subst h3
        rw [m_eq]
        by_cases hi : i = P
        · subst hi
          rw [u_eq]
          unfold imS
          rw [if_neg (by omega), if_pos rfl, if_pos (by omega), hs]
        · rw [u_ne hi, m_ne (by omega)]
          rw [imS_T (by omega), imS_T (by omega)]
          by_cases hiP : i < P
          · rw [if_pos (show 36 = 36 ∧ i < P from ⟨rfl, hiP⟩), if_pos (show 36 = 36 ∧ i < P + 1 from ⟨rfl, by omega⟩)]
          · rw [if_neg (show ¬ (36 = 36 ∧ i < P) by omega), if_neg (show ¬ (36 = 36 ∧ i < P + 1) by omega)]
      · rw [m_ne h3]
        by_cases h4 : c = 0 ∧ i = 63
        · obtain ⟨rfl, rfl⟩ := h4
          rw [m_eq, u_eq]
          unfold imS
          rw [if_pos ⟨rfl, rfl⟩]
        · have h5 : mset (imS true t P) 0 63 (Int32.ofNat (P + 1)) c i = imS true t P c i := by
            by_cases hc : c = 0
            · subst hc
              rw [m_eq, u_ne (fun q => h4 ⟨rfl, q⟩)]
            · rw [m_ne hc]
          rw [h5]
          rw [imS_T h4, imS_T h4, if_neg (show ¬ (c = 36 ∧ i < P) by omega), if_neg (show ¬ (c = 36 ∧ i < P + 1) by omega)]
  | false =>
    simp only [Bool.false_eq_true, if_false, if_true]
    have e36 : imS false t P 36 P = t 36 P := by
      unfold imS
      rw [if_neg (by omega), if_neg (by decide), r36, if_neg (by simp)]
    simp (disch := omega) only [rd_N, Option.bind_some, e36]
    refine ⟨_, _, rfl, ?_⟩
    funext c i
    by_cases h1 : c = k ∧ i = j
    · obtain ⟨rfl, rfl⟩ := h1
      rw [m_eq, u_eq]
      unfold imS
      rw [if_neg h63, if_neg (by decide), if_pos ⟨hr, by omega⟩, hp]
    · have h2 : mset (mset (imS false t P) 0 63 (Int32.ofNat (P + 1))) k j (t 36 P) c i = mset (imS false t P) 0 63 (Int32.ofNat (P + 1)) c i := by
        by_cases hc : c = k
        · subst hc
          rw [m_eq, u_ne (fun q => h1 ⟨rfl, q⟩)]
        · rw [m_ne hc]
      rw [h2]
      by_cases h4 : c = 0 ∧ i = 63
      · obtain ⟨rfl, rfl⟩ := h4
        rw [m_eq, u_eq]
        unfold imS
        rw [if_pos ⟨rfl, rfl⟩]
      · have h5 : mset (imS false t P) 0 63 (Int32.ofNat (P + 1)) c i = imS false t P c i := by
          by_cases hc : c = 0
          · subst hc
            rw [m_eq, u_ne (fun q => h4 ⟨rfl, q⟩)]
          · rw [m_ne hc]
        rw [h5]
        rw [imS_B h4, imS_B h4]
        by_cases hb : rngB c i = true
        · have hne : ps c i ≠ P := by
            intro q
            have := (slot_ps hb).1
            rw [q, hs] at this
            exact h1 ⟨(congrArg Prod.fst this).symm, (congrArg Prod.snd this).symm⟩
          by_cases hlt : ps c i < P
          · rw [if_pos (show rngB c i = true ∧ ps c i < P from ⟨hb, hlt⟩), if_pos (show rngB c i = true ∧ ps c i < P + 1 from ⟨hb, by omega⟩)]
          · rw [if_neg (show ¬ (rngB c i = true ∧ ps c i < P) from fun q => hlt q.2), if_neg (show ¬ (rngB c i = true ∧ ps c i < P + 1) from fun q => by have := q.2; omega)]
        · rw [if_neg (show ¬ (rngB c i = true ∧ ps c i < P) from fun q => hb q.1), if_neg (show ¬ (rngB c i = true ∧ ps c i < P + 1) from fun q => hb q.1)]
theorem sl_image_35 : ∀ i, i < 102 → slotI (0 + 1 * i) = (1, i) := by decide +kernel
theorem im_image_35 {f : Bool} {t : Mem} (x : Int32) (hf : t 0 61 = if f = true then 1 else 0) : it FUEL (fun y => st_X12_image_35 x y.1 y.2) (0, imS f t 0) = some (imS f t 102) := by
  have e := it_go (f := fun y => st_X12_image_35 x y.1 y.2) (fun i => (Int32.ofNat i, imS f t (0 + 1 * i))) 102 (imS f t 102) (by omega) (fun i hi => by
    dsimp only
    unfold st_X12_image_35
    rw [if_neg (by rw [L_leN (by omega) (by omega)]; omega)]
    have hsl := sl_image_35 i hi
    obtain ⟨w0, u0, a0, b0⟩ := im_step (f := f) (t := t) hf (show 0 + 1 * i < 1907 by omega) hsl
    simp (disch := omega) only [rd_N, Option.bind_some]
    rw [a0]
    simp (disch := omega) only [Option.bind_some, wr_N, rd_N, b0]
    rw [N_addL, show 0 + 1 * (i + 1) = 0 + 1 * i + 1 by omega]) (by
    dsimp only
    unfold st_X12_image_35
    rw [if_pos (by decide)])
  exact e
theorem sl_keepsTold_2 : ∀ i, i < 48 → slotI (114 + 1 * i) = (15, i) := by decide +kernel
theorem im_keepsTold_2 {f : Bool} {t : Mem} (hf : t 0 61 = if f = true then 1 else 0) : it FUEL (fun y => st_X12_keepsTold_2 y.1 y.2) (0, imS f t 114) = some (imS f t 162) := by
  have e := it_go (f := fun y => st_X12_keepsTold_2 y.1 y.2) (fun i => (Int32.ofNat i, imS f t (114 + 1 * i))) 48 (imS f t 162) (by omega) (fun i hi => by
    dsimp only
    unfold st_X12_keepsTold_2
    rw [if_neg (by rw [L_leN (by omega) (by omega)]; omega)]
    have hsl := sl_keepsTold_2 i hi
    obtain ⟨w0, u0, a0, b0⟩ := im_step (f := f) (t := t) hf (show 114 + 1 * i < 1907 by omega) hsl
    simp (disch := omega) only [rd_N, Option.bind_some]
    rw [a0]
    simp (disch := omega) only [Option.bind_some, wr_N, rd_N, b0]
    rw [N_addL, show 114 + 1 * (i + 1) = 114 + 1 * i + 1 by omega]) (by
    dsimp only
    unfold st_X12_keepsTold_2
    rw [if_pos (by decide)])
  exact e
theorem sl_keepsTold_32 : ∀ i, i < 64 → slotI (162 + 1 * i) = (16, i) := by decide +kernel
theorem im_keepsTold_32 {f : Bool} {t : Mem} (hf : t 0 61 = if f = true then 1 else 0) : it FUEL (fun y => st_X12_keepsTold_32 y.1 y.2) (0, imS f t 162) = some (imS f t 226) := by
  have e := it_go (f := fun y => st_X12_keepsTold_32 y.1 y.2) (fun i => (Int32.ofNat i, imS f t (162 + 1 * i))) 64 (imS f t 226) (by omega) (fun i hi => by
    dsimp only
    unfold st_X12_keepsTold_32
    rw [if_neg (by rw [L_leN (by omega) (by omega)]; omega)]
    have hsl := sl_keepsTold_32 i hi
    obtain ⟨w0, u0, a0, b0⟩ := im_step (f := f) (t := t) hf (show 162 + 1 * i < 1907 by omega) hsl
    simp (disch := omega) only [rd_N, Option.bind_some]
    rw [a0]
    simp (disch := omega) only [Option.bind_some, wr_N, rd_N, b0]
    rw [N_addL, show 162 + 1 * (i + 1) = 162 + 1 * i + 1 by omega]) (by
    dsimp only
    unfold st_X12_keepsTold_32
    rw [if_pos (by decide)])
  exact e
theorem sl_keepsTold_62 : ∀ i, i < 14 → slotI (226 + 4 * i) = (17, i) ∧ slotI (226 + 4 * i + 1) = (25, i) ∧ slotI (226 + 4 * i + 2) = (26, i) ∧ slotI (226 + 4 * i + 3) = (27, i) := by decide +kernel
theorem im_keepsTold_62 {f : Bool} {t : Mem} (hf : t 0 61 = if f = true then 1 else 0) : it FUEL (fun y => st_X12_keepsTold_62 y.1 y.2) (0, imS f t 226) = some (imS f t 282) := by
  have e := it_go (f := fun y => st_X12_keepsTold_62 y.1 y.2) (fun i => (Int32.ofNat i, imS f t (226 + 4 * i))) 14 (imS f t 282) (by omega) (fun i hi => by
    dsimp only
    unfold st_X12_keepsTold_62
    rw [if_neg (by rw [L_leN (by omega) (by omega)]; omega)]
    have hsl := sl_keepsTold_62 i hi
    obtain ⟨w0, u0, a0, b0⟩ := im_step (f := f) (t := t) hf (show 226 + 4 * i < 1907 by omega) hsl.1
    simp (disch := omega) only [rd_N, Option.bind_some]
    rw [a0]
    simp (disch := omega) only [Option.bind_some, wr_N, rd_N, b0]
    obtain ⟨w1, u1, a1, b1⟩ := im_step (f := f) (t := t) hf (show 226 + 4 * i + 1 < 1907 by omega) hsl.2.1
    rw [a1]
    simp (disch := omega) only [Option.bind_some, wr_N, rd_N, b1]
    obtain ⟨w2, u2, a2, b2⟩ := im_step (f := f) (t := t) hf (show 226 + 4 * i + 2 < 1907 by omega) hsl.2.2.1
    rw [a2]
    simp (disch := omega) only [Option.bind_some, wr_N, rd_N, b2]
    obtain ⟨w3, u3, a3, b3⟩ := im_step (f := f) (t := t) hf (show 226 + 4 * i + 3 < 1907 by omega) hsl.2.2.2
    rw [a3]
    simp (disch := omega) only [Option.bind_some, wr_N, rd_N, b3]
    rw [N_addL, show 226 + 4 * (i + 1) = 226 + 4 * i + 4 by omega]) (by
    dsimp only
    unfold st_X12_keepsTold_62
    rw [if_pos (by decide)])
  exact e
theorem sl_keepsTold_140 : ∀ i, i < 84 → slotI (282 + 1 * i) = (18, i) := by decide +kernel
theorem im_keepsTold_140 {f : Bool} {t : Mem} (hf : t 0 61 = if f = true then 1 else 0) : it FUEL (fun y => st_X12_keepsTold_140 y.1 y.2) (0, imS f t 282) = some (imS f t 366) := by
  have e := it_go (f := fun y => st_X12_keepsTold_140 y.1 y.2) (fun i => (Int32.ofNat i, imS f t (282 + 1 * i))) 84 (imS f t 366) (by omega) (fun i hi => by
    dsimp only
    unfold st_X12_keepsTold_140
    rw [if_neg (by rw [L_leN (by omega) (by omega)]; omega)]
    have hsl := sl_keepsTold_140 i hi
    obtain ⟨w0, u0, a0, b0⟩ := im_step (f := f) (t := t) hf (show 282 + 1 * i < 1907 by omega) hsl
    simp (disch := omega) only [rd_N, Option.bind_some]
    rw [a0]
    simp (disch := omega) only [Option.bind_some, wr_N, rd_N, b0]
    rw [N_addL, show 282 + 1 * (i + 1) = 282 + 1 * i + 1 by omega]) (by
    dsimp only
    unfold st_X12_keepsTold_140
    rw [if_pos (by decide)])
  exact e
theorem sl_keepsTold_170 : ∀ i, i < 16 → slotI (366 + 1 * i) = (21, i) := by decide +kernel
theorem im_keepsTold_170 {f : Bool} {t : Mem} (hf : t 0 61 = if f = true then 1 else 0) : it FUEL (fun y => st_X12_keepsTold_170 y.1 y.2) (0, imS f t 366) = some (imS f t 382) := by
  have e := it_go (f := fun y => st_X12_keepsTold_170 y.1 y.2) (fun i => (Int32.ofNat i, imS f t (366 + 1 * i))) 16 (imS f t 382) (by omega) (fun i hi => by
    dsimp only
    unfold st_X12_keepsTold_170
    rw [if_neg (by rw [L_leN (by omega) (by omega)]; omega)]
    have hsl := sl_keepsTold_170 i hi
    obtain ⟨w0, u0, a0, b0⟩ := im_step (f := f) (t := t) hf (show 366 + 1 * i < 1907 by omega) hsl
    simp (disch := omega) only [rd_N, Option.bind_some]
    rw [a0]
    simp (disch := omega) only [Option.bind_some, wr_N, rd_N, b0]
    rw [N_addL, show 366 + 1 * (i + 1) = 366 + 1 * i + 1 by omega]) (by
    dsimp only
    unfold st_X12_keepsTold_170
    rw [if_pos (by decide)])
  exact e
theorem sl_keepsTold_200 : ∀ i, i < 10 → slotI (382 + 3 * i) = (22, i) ∧ slotI (382 + 3 * i + 1) = (23, i) ∧ slotI (382 + 3 * i + 2) = (24, i) := by decide +kernel
theorem im_keepsTold_200 {f : Bool} {t : Mem} (hf : t 0 61 = if f = true then 1 else 0) : it FUEL (fun y => st_X12_keepsTold_200 y.1 y.2) (0, imS f t 382) = some (imS f t 412) := by
  have e := it_go (f := fun y => st_X12_keepsTold_200 y.1 y.2) (fun i => (Int32.ofNat i, imS f t (382 + 3 * i))) 10 (imS f t 412) (by omega) (fun i hi => by
    dsimp only
    unfold st_X12_keepsTold_200
    rw [if_neg (by rw [L_leN (by omega) (by omega)]; omega)]
    have hsl := sl_keepsTold_200 i hi
    obtain ⟨w0, u0, a0, b0⟩ := im_step (f := f) (t := t) hf (show 382 + 3 * i < 1907 by omega) hsl.1
    simp (disch := omega) only [rd_N, Option.bind_some]
    rw [a0]
    simp (disch := omega) only [Option.bind_some, wr_N, rd_N, b0]
    obtain ⟨w1, u1, a1, b1⟩ := im_step (f := f) (t := t) hf (show 382 + 3 * i + 1 < 1907 by omega) hsl.2.1
    rw [a1]
    simp (disch := omega) only [Option.bind_some, wr_N, rd_N, b1]
    obtain ⟨w2, u2, a2, b2⟩ := im_step (f := f) (t := t) hf (show 382 + 3 * i + 2 < 1907 by omega) hsl.2.2
    rw [a2]
    simp (disch := omega) only [Option.bind_some, wr_N, rd_N, b2]
    rw [N_addL, show 382 + 3 * (i + 1) = 382 + 3 * i + 3 by omega]) (by
    dsimp only
    unfold st_X12_keepsTold_200
    rw [if_pos (by decide)])
  exact e
theorem sl_keepsTold_262 : ∀ i, i < 12 → slotI (412 + 1 * i) = (29, i) := by decide +kernel
theorem im_keepsTold_262 {f : Bool} {t : Mem} (hf : t 0 61 = if f = true then 1 else 0) : it FUEL (fun y => st_X12_keepsTold_262 y.1 y.2) (0, imS f t 412) = some (imS f t 424) := by
  have e := it_go (f := fun y => st_X12_keepsTold_262 y.1 y.2) (fun i => (Int32.ofNat i, imS f t (412 + 1 * i))) 12 (imS f t 424) (by omega) (fun i hi => by
    dsimp only
    unfold st_X12_keepsTold_262
    rw [if_neg (by rw [L_leN (by omega) (by omega)]; omega)]
    have hsl := sl_keepsTold_262 i hi
    obtain ⟨w0, u0, a0, b0⟩ := im_step (f := f) (t := t) hf (show 412 + 1 * i < 1907 by omega) hsl
    simp (disch := omega) only [rd_N, Option.bind_some]
    rw [a0]
    simp (disch := omega) only [Option.bind_some, wr_N, rd_N, b0]
    rw [N_addL, show 412 + 1 * (i + 1) = 412 + 1 * i + 1 by omega]) (by
    dsimp only
    unfold st_X12_keepsTold_262
    rw [if_pos (by decide)])
  exact e
theorem sl_keepsTold_292 : ∀ i, i < 6 → slotI (424 + 1 * i) = (30, i) := by decide +kernel
theorem im_keepsTold_292 {f : Bool} {t : Mem} (hf : t 0 61 = if f = true then 1 else 0) : it FUEL (fun y => st_X12_keepsTold_292 y.1 y.2) (0, imS f t 424) = some (imS f t 430) := by
  have e := it_go (f := fun y => st_X12_keepsTold_292 y.1 y.2) (fun i => (Int32.ofNat i, imS f t (424 + 1 * i))) 6 (imS f t 430) (by omega) (fun i hi => by
    dsimp only
    unfold st_X12_keepsTold_292
    rw [if_neg (by rw [L_leN (by omega) (by omega)]; omega)]
    have hsl := sl_keepsTold_292 i hi
    obtain ⟨w0, u0, a0, b0⟩ := im_step (f := f) (t := t) hf (show 424 + 1 * i < 1907 by omega) hsl
    simp (disch := omega) only [rd_N, Option.bind_some]
    rw [a0]
    simp (disch := omega) only [Option.bind_some, wr_N, rd_N, b0]
    rw [N_addL, show 424 + 1 * (i + 1) = 424 + 1 * i + 1 by omega]) (by
    dsimp only
    unfold st_X12_keepsTold_292
    rw [if_pos (by decide)])
  exact e
theorem sl_keepsTold_322 : ∀ i, i < 8 → slotI (430 + 1 * i) = (32, i) := by decide +kernel
theorem im_keepsTold_322 {f : Bool} {t : Mem} (hf : t 0 61 = if f = true then 1 else 0) : it FUEL (fun y => st_X12_keepsTold_322 y.1 y.2) (0, imS f t 430) = some (imS f t 438) := by
  have e := it_go (f := fun y => st_X12_keepsTold_322 y.1 y.2) (fun i => (Int32.ofNat i, imS f t (430 + 1 * i))) 8 (imS f t 438) (by omega) (fun i hi => by
    dsimp only
    unfold st_X12_keepsTold_322
    rw [if_neg (by rw [L_leN (by omega) (by omega)]; omega)]
    have hsl := sl_keepsTold_322 i hi
    obtain ⟨w0, u0, a0, b0⟩ := im_step (f := f) (t := t) hf (show 430 + 1 * i < 1907 by omega) hsl
    simp (disch := omega) only [rd_N, Option.bind_some]
    rw [a0]
    simp (disch := omega) only [Option.bind_some, wr_N, rd_N, b0]
    rw [N_addL, show 430 + 1 * (i + 1) = 430 + 1 * i + 1 by omega]) (by
    dsimp only
    unfold st_X12_keepsTold_322
    rw [if_pos (by decide)])
  exact e
theorem sl_keepsTold_352 : ∀ i, i < 4 → slotI (438 + 1 * i) = (35, i) := by decide +kernel
theorem im_keepsTold_352 {f : Bool} {t : Mem} (hf : t 0 61 = if f = true then 1 else 0) : it FUEL (fun y => st_X12_keepsTold_352 y.1 y.2) (0, imS f t 438) = some (imS f t 442) := by
  have e := it_go (f := fun y => st_X12_keepsTold_352 y.1 y.2) (fun i => (Int32.ofNat i, imS f t (438 + 1 * i))) 4 (imS f t 442) (by omega) (fun i hi => by
    dsimp only
    unfold st_X12_keepsTold_352
    rw [if_neg (by rw [L_leN (by omega) (by omega)]; omega)]
    have hsl := sl_keepsTold_352 i hi
    obtain ⟨w0, u0, a0, b0⟩ := im_step (f := f) (t := t) hf (show 438 + 1 * i < 1907 by omega) hsl
    simp (disch := omega) only [rd_N, Option.bind_some]
    rw [a0]
    simp (disch := omega) only [Option.bind_some, wr_N, rd_N, b0]
    rw [N_addL, show 438 + 1 * (i + 1) = 438 + 1 * i + 1 by omega]) (by
    dsimp only
    unfold st_X12_keepsTold_352
    rw [if_pos (by decide)])
  exact e
theorem sl_image_73 : ∀ i, i < 600 → slotI (442 + 1 * i) = (4, i) := by decide +kernel
theorem im_image_73 {f : Bool} {t : Mem} (x : Int32) (hf : t 0 61 = if f = true then 1 else 0) : it FUEL (fun y => st_X12_image_73 x y.1 y.2) (0, imS f t 442) = some (imS f t 1042) := by
  have e := it_go (f := fun y => st_X12_image_73 x y.1 y.2) (fun i => (Int32.ofNat i, imS f t (442 + 1 * i))) 600 (imS f t 1042) (by omega) (fun i hi => by
    dsimp only
    unfold st_X12_image_73
    rw [if_neg (by rw [L_leN (by omega) (by omega)]; omega)]
    have hsl := sl_image_73 i hi
    obtain ⟨w0, u0, a0, b0⟩ := im_step (f := f) (t := t) hf (show 442 + 1 * i < 1907 by omega) hsl
    simp (disch := omega) only [rd_N, Option.bind_some]
    rw [a0]
    simp (disch := omega) only [Option.bind_some, wr_N, rd_N, b0]
    rw [N_addL, show 442 + 1 * (i + 1) = 442 + 1 * i + 1 by omega]) (by
    dsimp only
    unfold st_X12_image_73
    rw [if_pos (by decide)])
  exact e
theorem sl_keepsLaw_18 : ∀ i, i < 16 → slotI (1043 + 4 * i) = (8, i) ∧ slotI (1043 + 4 * i + 1) = (9, i) ∧ slotI (1043 + 4 * i + 2) = (10, i) ∧ slotI (1043 + 4 * i + 3) = (11, i) := by decide +kernel
theorem im_keepsLaw_18 {f : Bool} {t : Mem} (hf : t 0 61 = if f = true then 1 else 0) : it FUEL (fun y => st_X12_keepsLaw_18 y.1 y.2) (0, imS f t 1043) = some (imS f t 1107) := by
  have e := it_go (f := fun y => st_X12_keepsLaw_18 y.1 y.2) (fun i => (Int32.ofNat i, imS f t (1043 + 4 * i))) 16 (imS f t 1107) (by omega) (fun i hi => by
    dsimp only
    unfold st_X12_keepsLaw_18
    rw [if_neg (by rw [L_leN (by omega) (by omega)]; omega)]
    have hsl := sl_keepsLaw_18 i hi
    obtain ⟨w0, u0, a0, b0⟩ := im_step (f := f) (t := t) hf (show 1043 + 4 * i < 1907 by omega) hsl.1
    simp (disch := omega) only [rd_N, Option.bind_some]
    rw [a0]
    simp (disch := omega) only [Option.bind_some, wr_N, rd_N, b0]
    obtain ⟨w1, u1, a1, b1⟩ := im_step (f := f) (t := t) hf (show 1043 + 4 * i + 1 < 1907 by omega) hsl.2.1
    rw [a1]
    simp (disch := omega) only [Option.bind_some, wr_N, rd_N, b1]
    obtain ⟨w2, u2, a2, b2⟩ := im_step (f := f) (t := t) hf (show 1043 + 4 * i + 2 < 1907 by omega) hsl.2.2.1
    rw [a2]
    simp (disch := omega) only [Option.bind_some, wr_N, rd_N, b2]
    obtain ⟨w3, u3, a3, b3⟩ := im_step (f := f) (t := t) hf (show 1043 + 4 * i + 3 < 1907 by omega) hsl.2.2.2
    rw [a3]
    simp (disch := omega) only [Option.bind_some, wr_N, rd_N, b3]
    rw [N_addL, show 1043 + 4 * (i + 1) = 1043 + 4 * i + 4 by omega]) (by
    dsimp only
    unfold st_X12_keepsLaw_18
    rw [if_pos (by decide)])
  exact e
theorem sl_keepsLaw_96 : ∀ i, i < 400 → slotI (1107 + 2 * i) = (12, i) ∧ slotI (1107 + 2 * i + 1) = (13, i) := by decide +kernel
theorem im_keepsLaw_96 {f : Bool} {t : Mem} (hf : t 0 61 = if f = true then 1 else 0) : it FUEL (fun y => st_X12_keepsLaw_96 y.1 y.2) (0, imS f t 1107) = some (imS f t 1907) := by
  have e := it_go (f := fun y => st_X12_keepsLaw_96 y.1 y.2) (fun i => (Int32.ofNat i, imS f t (1107 + 2 * i))) 400 (imS f t 1907) (by omega) (fun i hi => by
    dsimp only
    unfold st_X12_keepsLaw_96
    rw [if_neg (by rw [L_leN (by omega) (by omega)]; omega)]
    have hsl := sl_keepsLaw_96 i hi
    obtain ⟨w0, u0, a0, b0⟩ := im_step (f := f) (t := t) hf (show 1107 + 2 * i < 1907 by omega) hsl.1
    simp (disch := omega) only [rd_N, Option.bind_some]
    rw [a0]
    simp (disch := omega) only [Option.bind_some, wr_N, rd_N, b0]
    obtain ⟨w1, u1, a1, b1⟩ := im_step (f := f) (t := t) hf (show 1107 + 2 * i + 1 < 1907 by omega) hsl.2
    rw [a1]
    simp (disch := omega) only [Option.bind_some, wr_N, rd_N, b1]
    rw [N_addL, show 1107 + 2 * (i + 1) = 1107 + 2 * i + 2 by omega]) (by
    dsimp only
    unfold st_X12_keepsLaw_96
    rw [if_pos (by decide)])
  exact e
theorem m_keepsMany {f : Bool} {t : Mem} (hf : t 0 61 = if f = true then 1 else 0) : f_X12_keepsMany (imS f t 102) = some (imS f t 114) := by
  unfold f_X12_keepsMany
  obtain ⟨w0, u0, a0, b0⟩ := im_step (f := f) (t := t) hf (show 102 < 1907 by omega) (show slotI 102 = (0, 6) by decide)
  rw [a0, Option.bind_some]
  rw [b0]
  obtain ⟨w1, u1, a1, b1⟩ := im_step (f := f) (t := t) hf (show 103 < 1907 by omega) (show slotI 103 = (0, 31) by decide)
  rw [a1, Option.bind_some]
  rw [b1]
  obtain ⟨w2, u2, a2, b2⟩ := im_step (f := f) (t := t) hf (show 104 < 1907 by omega) (show slotI 104 = (0, 33) by decide)
  rw [a2, Option.bind_some]
  rw [b2]
  obtain ⟨w3, u3, a3, b3⟩ := im_step (f := f) (t := t) hf (show 105 < 1907 by omega) (show slotI 105 = (0, 35) by decide)
  rw [a3, Option.bind_some]
  rw [b3]
  obtain ⟨w4, u4, a4, b4⟩ := im_step (f := f) (t := t) hf (show 106 < 1907 by omega) (show slotI 106 = (0, 40) by decide)
  rw [a4, Option.bind_some]
  rw [b4]
  obtain ⟨w5, u5, a5, b5⟩ := im_step (f := f) (t := t) hf (show 107 < 1907 by omega) (show slotI 107 = (0, 42) by decide)
  rw [a5, Option.bind_some]
  rw [b5]
  obtain ⟨w6, u6, a6, b6⟩ := im_step (f := f) (t := t) hf (show 108 < 1907 by omega) (show slotI 108 = (0, 46) by decide)
  rw [a6, Option.bind_some]
  rw [b6]
  obtain ⟨w7, u7, a7, b7⟩ := im_step (f := f) (t := t) hf (show 109 < 1907 by omega) (show slotI 109 = (28, 0) by decide)
  try simp (disch := omega) only [rd_L, Option.bind_some]
  rw [a7, Option.bind_some]
  simp (disch := omega) only [wr_L, Option.bind_some]
  rw [b7]
  obtain ⟨w8, u8, a8, b8⟩ := im_step (f := f) (t := t) hf (show 110 < 1907 by omega) (show slotI 110 = (28, 1) by decide)
  try simp (disch := omega) only [rd_L, Option.bind_some]
  rw [a8, Option.bind_some]
  simp (disch := omega) only [wr_L, Option.bind_some]
  rw [b8]
  obtain ⟨w9, u9, a9, b9⟩ := im_step (f := f) (t := t) hf (show 111 < 1907 by omega) (show slotI 111 = (0, 52) by decide)
  rw [a9, Option.bind_some]
  rw [b9]
  obtain ⟨w10, u10, a10, b10⟩ := im_step (f := f) (t := t) hf (show 112 < 1907 by omega) (show slotI 112 = (0, 55) by decide)
  rw [a10, Option.bind_some]
  rw [b10]
  obtain ⟨w11, u11, a11, b11⟩ := im_step (f := f) (t := t) hf (show 113 < 1907 by omega) (show slotI 113 = (0, 59) by decide)
  rw [a11, Option.bind_some]
  rw [b11]
theorem m_keepsTold {f : Bool} {t : Mem} (hf : t 0 61 = if f = true then 1 else 0) : f_X12_keepsTold (imS f t 114) = some (imS f t 442) := by
  unfold f_X12_keepsTold
  rw [im_keepsTold_2 hf, Option.bind_some]
  rw [im_keepsTold_32 hf, Option.bind_some]
  rw [im_keepsTold_62 hf, Option.bind_some]
  rw [im_keepsTold_140 hf, Option.bind_some]
  rw [im_keepsTold_170 hf, Option.bind_some]
  rw [im_keepsTold_200 hf, Option.bind_some]
  rw [im_keepsTold_262 hf, Option.bind_some]
  rw [im_keepsTold_292 hf, Option.bind_some]
  rw [im_keepsTold_322 hf, Option.bind_some]
  rw [im_keepsTold_352 hf, Option.bind_some]
theorem m_keepsLaw {f : Bool} {t : Mem} (hf : t 0 61 = if f = true then 1 else 0) : f_X12_keepsLaw (imS f t 1042) = some (imS f t 1907) := by
  unfold f_X12_keepsLaw
  obtain ⟨w0, u0, a0, b0⟩ := im_step (f := f) (t := t) hf (show 1042 < 1907 by omega) (show slotI 1042 = (7, 0) by decide)
  simp (disch := omega) only [rd_L, Option.bind_some]
  rw [a0, Option.bind_some]
  simp (disch := omega) only [wr_L, Option.bind_some]
  rw [b0, im_keepsLaw_18 hf, Option.bind_some, im_keepsLaw_96 hf, Option.bind_some]
