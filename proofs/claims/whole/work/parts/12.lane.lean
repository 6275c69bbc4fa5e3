/-! ===== a lane, here and in the reference ===== -/
def nR (n : Nat) (s : Mem) (a : Nat) (w : Nat → Int32) : Prop :=
  (s a 1 = Int32.ofNat n ∧ s a 9 = w 3 ∧ s a 10 = w 0 ∧ s a 11 = w 1 ∧ s a 12 = w 2) ∧
  ∀ i, i < n → s (a + 1) i = w (4 + i) ∧ s (a + 2) i = w (18 + i) ∧ s (a + 3) i = w (32 + i) - 1 ∧ s (a + 4) i = w (46 + i) ∧ s (a + 5) i = w (60 + i) ∧ s (a + 6) i = w (74 + i) ∧ s (a + 7) i = w (88 + i)
def nB (n : Nat) (w : Nat → Int32) : Prop :=
  (0 ≤ w 2 ∧ w 2 ≤ 150 ∧ 0 ≤ w 0 ∧ w 0 ≤ 10100) ∧
  ∀ i, i < n → (0 ≤ w (4 + i) ∧ w (4 + i) ≤ 9) ∧ (0 ≤ w (18 + i) ∧ w (18 + i) ≤ 99) ∧ (0 ≤ w (32 + i) ∧ w (32 + i) ≤ Int32.ofNat n) ∧ (0 ≤ w (46 + i) ∧ w (46 + i) < 16384)
/-- who has none: by nobody, tried nobody -/
def nC (n : Nat) (w : Nat → Int32) : Prop := ∀ i, i < n → w (18 + i) = 0 → w (32 + i) = 0 ∧ w (46 + i) = 0
def nS (n a : Nat) (s t : Mem) : Prop :=
  ((a = 2 ∨ a = 115) ∧ n ≤ 14 ∧ t 0 6 = Int32.ofNat n ∧ s a 0 = t 0 5 ∧ (t 0 5 = 0 ∨ t 0 5 = 1)) ∧ nR n s a (t 1) ∧ nB n (t 1) ∧ ∀ i, i < 600 → s 57 i = t 4 i

theorem nS_nerve {n a : Nat} {s t : Mem} {p : Nat} {v : Int32} (h : nS n a s t) (hp : p < n) (hv : 0 ≤ v ∧ v ≤ 9) : nS n a (mset s (a + 1) p v) (mset t 1 (4 + p) v) := by
  obtain ⟨⟨ha, hn, h1, h2, h3⟩, ⟨h4, h5⟩, ⟨h6, h7⟩, h8⟩ := h
  refine ⟨⟨ha, hn, ?_, ?_, ?_⟩, ⟨?_, fun i hi => ?_⟩, ⟨?_, fun i hi => ?_⟩, fun i hi => ?_⟩
  · simpa (disch := omega) only [m_ne] using h1
  · simpa (disch := omega) only [m_ne] using h2
  · simpa (disch := omega) only [m_ne] using h3
  · simpa (disch := omega) only [m_ne, m_eq, u_ne] using h4
  · have h5i := h5 i hi
    by_cases hip : i = p
    · subst hip
      simp (disch := omega) only [m_ne, m_eq, u_ne, u_eq]
      simp only [h5i, and_self]
    · simpa (disch := omega) only [m_ne, m_eq, u_ne, u_eq] using h5i
  · simpa (disch := omega) only [m_ne, m_eq, u_ne] using h6
  · have h7i := h7 i hi
    by_cases hip : i = p
    · subst hip
      simp (disch := omega) only [m_ne, m_eq, u_ne, u_eq]
      exact ⟨hv, h7i.2.1, h7i.2.2.1, h7i.2.2.2⟩
    · simpa (disch := omega) only [m_ne, m_eq, u_ne, u_eq] using h7i
  · simpa (disch := omega) only [m_ne] using h8 i hi
theorem nS_hic {n a : Nat} {s t : Mem} {p : Nat} {v : Int32} (h : nS n a s t) (hp : p < n) (hv : 0 ≤ v ∧ v ≤ 99) : nS n a (mset s (a + 2) p v) (mset t 1 (18 + p) v) := by
  obtain ⟨⟨ha, hn, h1, h2, h3⟩, ⟨h4, h5⟩, ⟨h6, h7⟩, h8⟩ := h
  refine ⟨⟨ha, hn, ?_, ?_, ?_⟩, ⟨?_, fun i hi => ?_⟩, ⟨?_, fun i hi => ?_⟩, fun i hi => ?_⟩
  · simpa (disch := omega) only [m_ne] using h1
  · simpa (disch := omega) only [m_ne] using h2
  · simpa (disch := omega) only [m_ne] using h3
  · simpa (disch := omega) only [m_ne, m_eq, u_ne] using h4
  · have h5i := h5 i hi
    by_cases hip : i = p
    · subst hip
      simp (disch := omega) only [m_ne, m_eq, u_ne, u_eq]
      simp only [h5i, and_self]
    · simpa (disch := omega) only [m_ne, m_eq, u_ne, u_eq] using h5i
  · simpa (disch := omega) only [m_ne, m_eq, u_ne] using h6
  · have h7i := h7 i hi
    by_cases hip : i = p
    · subst hip
      simp (disch := omega) only [m_ne, m_eq, u_ne, u_eq]
      exact ⟨h7i.1, hv, h7i.2.2.1, h7i.2.2.2⟩
    · simpa (disch := omega) only [m_ne, m_eq, u_ne, u_eq] using h7i
  · simpa (disch := omega) only [m_ne] using h8 i hi
theorem nS_by {n a : Nat} {s t : Mem} {p : Nat} {v : Int32} (h : nS n a s t) (hp : p < n) (hv : 0 ≤ v ∧ v ≤ Int32.ofNat n) : nS n a (mset s (a + 3) p (v - 1)) (mset t 1 (32 + p) v) := by
  obtain ⟨⟨ha, hn, h1, h2, h3⟩, ⟨h4, h5⟩, ⟨h6, h7⟩, h8⟩ := h
  refine ⟨⟨ha, hn, ?_, ?_, ?_⟩, ⟨?_, fun i hi => ?_⟩, ⟨?_, fun i hi => ?_⟩, fun i hi => ?_⟩
  · simpa (disch := omega) only [m_ne] using h1
  · simpa (disch := omega) only [m_ne] using h2
  · simpa (disch := omega) only [m_ne] using h3
  · simpa (disch := omega) only [m_ne, m_eq, u_ne] using h4
  · have h5i := h5 i hi
    by_cases hip : i = p
    · subst hip
      simp (disch := omega) only [m_ne, m_eq, u_ne, u_eq]
      simp only [h5i, and_self]
    · simpa (disch := omega) only [m_ne, m_eq, u_ne, u_eq] using h5i
  · simpa (disch := omega) only [m_ne, m_eq, u_ne] using h6
  · have h7i := h7 i hi
    by_cases hip : i = p
    · subst hip
      simp (disch := omega) only [m_ne, m_eq, u_ne, u_eq]
      exact ⟨h7i.1, h7i.2.1, hv, h7i.2.2.2⟩
    · simpa (disch := omega) only [m_ne, m_eq, u_ne, u_eq] using h7i
  · simpa (disch := omega) only [m_ne] using h8 i hi
theorem nS_tried {n a : Nat} {s t : Mem} {p : Nat} {v : Int32} (h : nS n a s t) (hp : p < n) (hv : 0 ≤ v ∧ v < 16384) : nS n a (mset s (a + 4) p v) (mset t 1 (46 + p) v) := by
  obtain ⟨⟨ha, hn, h1, h2, h3⟩, ⟨h4, h5⟩, ⟨h6, h7⟩, h8⟩ := h
  refine ⟨⟨ha, hn, ?_, ?_, ?_⟩, ⟨?_, fun i hi => ?_⟩, ⟨?_, fun i hi => ?_⟩, fun i hi => ?_⟩
  · simpa (disch := omega) only [m_ne] using h1
  · simpa (disch := omega) only [m_ne] using h2
  · simpa (disch := omega) only [m_ne] using h3
  · simpa (disch := omega) only [m_ne, m_eq, u_ne] using h4
  · have h5i := h5 i hi
    by_cases hip : i = p
    · subst hip
      simp (disch := omega) only [m_ne, m_eq, u_ne, u_eq]
      simp only [h5i, and_self]
    · simpa (disch := omega) only [m_ne, m_eq, u_ne, u_eq] using h5i
  · simpa (disch := omega) only [m_ne, m_eq, u_ne] using h6
  · have h7i := h7 i hi
    by_cases hip : i = p
    · subst hip
      simp (disch := omega) only [m_ne, m_eq, u_ne, u_eq]
      exact ⟨h7i.1, h7i.2.1, h7i.2.2.1, hv⟩
    · simpa (disch := omega) only [m_ne, m_eq, u_ne, u_eq] using h7i
  · simpa (disch := omega) only [m_ne] using h8 i hi
theorem nS_named {n a : Nat} {s t : Mem} {p : Nat} {v : Int32} (h : nS n a s t) (hp : p < n) (hv : True) : nS n a (mset s (a + 5) p v) (mset t 1 (60 + p) v) := by
  obtain ⟨⟨ha, hn, h1, h2, h3⟩, ⟨h4, h5⟩, ⟨h6, h7⟩, h8⟩ := h
  refine ⟨⟨ha, hn, ?_, ?_, ?_⟩, ⟨?_, fun i hi => ?_⟩, ⟨?_, fun i hi => ?_⟩, fun i hi => ?_⟩
  · simpa (disch := omega) only [m_ne] using h1
  · simpa (disch := omega) only [m_ne] using h2
  · simpa (disch := omega) only [m_ne] using h3
  · simpa (disch := omega) only [m_ne, m_eq, u_ne] using h4
  · have h5i := h5 i hi
    by_cases hip : i = p
    · subst hip
      simp (disch := omega) only [m_ne, m_eq, u_ne, u_eq]
      simp only [h5i, and_self]
    · simpa (disch := omega) only [m_ne, m_eq, u_ne, u_eq] using h5i
  · simpa (disch := omega) only [m_ne, m_eq, u_ne] using h6
  · have h7i := h7 i hi
    by_cases hip : i = p
    · subst hip
      simp (disch := omega) only [m_ne, m_eq, u_ne, u_eq]
      exact ⟨h7i.1, h7i.2.1, h7i.2.2.1, h7i.2.2.2⟩
    · simpa (disch := omega) only [m_ne, m_eq, u_ne, u_eq] using h7i
  · simpa (disch := omega) only [m_ne] using h8 i hi
theorem nS_found {n a : Nat} {s t : Mem} {p : Nat} {v : Int32} (h : nS n a s t) (hp : p < n) (hv : True) : nS n a (mset s (a + 6) p v) (mset t 1 (74 + p) v) := by
  obtain ⟨⟨ha, hn, h1, h2, h3⟩, ⟨h4, h5⟩, ⟨h6, h7⟩, h8⟩ := h
  refine ⟨⟨ha, hn, ?_, ?_, ?_⟩, ⟨?_, fun i hi => ?_⟩, ⟨?_, fun i hi => ?_⟩, fun i hi => ?_⟩
  · simpa (disch := omega) only [m_ne] using h1
  · simpa (disch := omega) only [m_ne] using h2
  · simpa (disch := omega) only [m_ne] using h3
  · simpa (disch := omega) only [m_ne, m_eq, u_ne] using h4
  · have h5i := h5 i hi
    by_cases hip : i = p
    · subst hip
      simp (disch := omega) only [m_ne, m_eq, u_ne, u_eq]
      simp only [h5i, and_self]
    · simpa (disch := omega) only [m_ne, m_eq, u_ne, u_eq] using h5i
  · simpa (disch := omega) only [m_ne, m_eq, u_ne] using h6
  · have h7i := h7 i hi
    by_cases hip : i = p
    · subst hip
      simp (disch := omega) only [m_ne, m_eq, u_ne, u_eq]
      exact ⟨h7i.1, h7i.2.1, h7i.2.2.1, h7i.2.2.2⟩
    · simpa (disch := omega) only [m_ne, m_eq, u_ne, u_eq] using h7i
  · simpa (disch := omega) only [m_ne] using h8 i hi
theorem nS_frights {n a : Nat} {s t : Mem} {p : Nat} {v : Int32} (h : nS n a s t) (hp : p < n) (hv : True) : nS n a (mset s (a + 7) p v) (mset t 1 (88 + p) v) := by
  obtain ⟨⟨ha, hn, h1, h2, h3⟩, ⟨h4, h5⟩, ⟨h6, h7⟩, h8⟩ := h
  refine ⟨⟨ha, hn, ?_, ?_, ?_⟩, ⟨?_, fun i hi => ?_⟩, ⟨?_, fun i hi => ?_⟩, fun i hi => ?_⟩
  · simpa (disch := omega) only [m_ne] using h1
  · simpa (disch := omega) only [m_ne] using h2
  · simpa (disch := omega) only [m_ne] using h3
  · simpa (disch := omega) only [m_ne, m_eq, u_ne] using h4
  · have h5i := h5 i hi
    by_cases hip : i = p
    · subst hip
      simp (disch := omega) only [m_ne, m_eq, u_ne, u_eq]
      simp only [h5i, and_self]
    · simpa (disch := omega) only [m_ne, m_eq, u_ne, u_eq] using h5i
  · simpa (disch := omega) only [m_ne, m_eq, u_ne] using h6
  · have h7i := h7 i hi
    by_cases hip : i = p
    · subst hip
      simp (disch := omega) only [m_ne, m_eq, u_ne, u_eq]
      exact ⟨h7i.1, h7i.2.1, h7i.2.2.1, h7i.2.2.2⟩
    · simpa (disch := omega) only [m_ne, m_eq, u_ne, u_eq] using h7i
  · simpa (disch := omega) only [m_ne] using h8 i hi
theorem nS_calm {n a : Nat} {s t : Mem} {v : Int32} (h : nS n a s t) (hv : True) : nS n a (mset s a 9 v) (mset t 1 3 v) := by
  obtain ⟨⟨ha, hn, h1, h2, h3⟩, ⟨⟨g1, g2, g3, g4, g5⟩, h5⟩, ⟨⟨b1, b2, b3, b4⟩, h7⟩, h8⟩ := h
  refine ⟨⟨ha, hn, ?_, ?_, ?_⟩, ⟨⟨?_, ?_, ?_, ?_, ?_⟩, fun i hi => ?_⟩, ⟨⟨?_, ?_, ?_, ?_⟩, fun i hi => ?_⟩, fun i hi => ?_⟩
  · simpa (disch := omega) only [m_ne] using h1
  · simpa (disch := omega) only [m_ne, m_eq, u_ne] using h2
  · simpa (disch := omega) only [m_ne] using h3
  · simp (disch := omega) only [m_ne, m_eq, u_ne, u_eq, g1, g2, g3, g4, g5]
  · simp (disch := omega) only [m_ne, m_eq, u_ne, u_eq, g1, g2, g3, g4, g5]
  · simp (disch := omega) only [m_ne, m_eq, u_ne, u_eq, g1, g2, g3, g4, g5]
  · simp (disch := omega) only [m_ne, m_eq, u_ne, u_eq, g1, g2, g3, g4, g5]
  · simp (disch := omega) only [m_ne, m_eq, u_ne, u_eq, g1, g2, g3, g4, g5]
  · simpa (disch := omega) only [m_ne, m_eq, u_ne, u_eq] using h5 i hi
  · simp (disch := omega) only [m_eq, u_ne, u_eq]; first | exact b1 | exact hv.1
  · simp (disch := omega) only [m_eq, u_ne, u_eq]; first | exact b2 | exact hv.2
  · simp (disch := omega) only [m_eq, u_ne, u_eq]; first | exact b3 | exact hv.1
  · simp (disch := omega) only [m_eq, u_ne, u_eq]; first | exact b4 | exact hv.2
  · simpa (disch := omega) only [m_ne, m_eq, u_ne, u_eq] using h7 i hi
  · simpa (disch := omega) only [m_ne] using h8 i hi
theorem nS_minute {n a : Nat} {s t : Mem} {v : Int32} (h : nS n a s t) (hv : 0 ≤ v ∧ v ≤ 10100) : nS n a (mset s a 10 v) (mset t 1 0 v) := by
  obtain ⟨⟨ha, hn, h1, h2, h3⟩, ⟨⟨g1, g2, g3, g4, g5⟩, h5⟩, ⟨⟨b1, b2, b3, b4⟩, h7⟩, h8⟩ := h
  refine ⟨⟨ha, hn, ?_, ?_, ?_⟩, ⟨⟨?_, ?_, ?_, ?_, ?_⟩, fun i hi => ?_⟩, ⟨⟨?_, ?_, ?_, ?_⟩, fun i hi => ?_⟩, fun i hi => ?_⟩
  · simpa (disch := omega) only [m_ne] using h1
  · simpa (disch := omega) only [m_ne, m_eq, u_ne] using h2
  · simpa (disch := omega) only [m_ne] using h3
  · simp (disch := omega) only [m_ne, m_eq, u_ne, u_eq, g1, g2, g3, g4, g5]
  · simp (disch := omega) only [m_ne, m_eq, u_ne, u_eq, g1, g2, g3, g4, g5]
  · simp (disch := omega) only [m_ne, m_eq, u_ne, u_eq, g1, g2, g3, g4, g5]
  · simp (disch := omega) only [m_ne, m_eq, u_ne, u_eq, g1, g2, g3, g4, g5]
  · simp (disch := omega) only [m_ne, m_eq, u_ne, u_eq, g1, g2, g3, g4, g5]
  · simpa (disch := omega) only [m_ne, m_eq, u_ne, u_eq] using h5 i hi
  · simp (disch := omega) only [m_eq, u_ne, u_eq]; first | exact b1 | exact hv.1
  · simp (disch := omega) only [m_eq, u_ne, u_eq]; first | exact b2 | exact hv.2
  · simp (disch := omega) only [m_eq, u_ne, u_eq]; first | exact b3 | exact hv.1
  · simp (disch := omega) only [m_eq, u_ne, u_eq]; first | exact b4 | exact hv.2
  · simpa (disch := omega) only [m_ne, m_eq, u_ne, u_eq] using h7 i hi
  · simpa (disch := omega) only [m_ne] using h8 i hi
theorem nS_draws {n a : Nat} {s t : Mem} {v : Int32} (h : nS n a s t) (hv : True) : nS n a (mset s a 11 v) (mset t 1 1 v) := by
  obtain ⟨⟨ha, hn, h1, h2, h3⟩, ⟨⟨g1, g2, g3, g4, g5⟩, h5⟩, ⟨⟨b1, b2, b3, b4⟩, h7⟩, h8⟩ := h
  refine ⟨⟨ha, hn, ?_, ?_, ?_⟩, ⟨⟨?_, ?_, ?_, ?_, ?_⟩, fun i hi => ?_⟩, ⟨⟨?_, ?_, ?_, ?_⟩, fun i hi => ?_⟩, fun i hi => ?_⟩
  · simpa (disch := omega) only [m_ne] using h1
  · simpa (disch := omega) only [m_ne, m_eq, u_ne] using h2
  · simpa (disch := omega) only [m_ne] using h3
  · simp (disch := omega) only [m_ne, m_eq, u_ne, u_eq, g1, g2, g3, g4, g5]
  · simp (disch := omega) only [m_ne, m_eq, u_ne, u_eq, g1, g2, g3, g4, g5]
  · simp (disch := omega) only [m_ne, m_eq, u_ne, u_eq, g1, g2, g3, g4, g5]
  · simp (disch := omega) only [m_ne, m_eq, u_ne, u_eq, g1, g2, g3, g4, g5]
  · simp (disch := omega) only [m_ne, m_eq, u_ne, u_eq, g1, g2, g3, g4, g5]
  · simpa (disch := omega) only [m_ne, m_eq, u_ne, u_eq] using h5 i hi
  · simp (disch := omega) only [m_eq, u_ne, u_eq]; first | exact b1 | exact hv.1
  · simp (disch := omega) only [m_eq, u_ne, u_eq]; first | exact b2 | exact hv.2
  · simp (disch := omega) only [m_eq, u_ne, u_eq]; first | exact b3 | exact hv.1
  · simp (disch := omega) only [m_eq, u_ne, u_eq]; first | exact b4 | exact hv.2
  · simpa (disch := omega) only [m_ne, m_eq, u_ne, u_eq] using h7 i hi
  · simpa (disch := omega) only [m_ne] using h8 i hi
theorem nS_lines {n a : Nat} {s t : Mem} {v : Int32} (h : nS n a s t) (hv : 0 ≤ v ∧ v ≤ 150) : nS n a (mset s a 12 v) (mset t 1 2 v) := by
  obtain ⟨⟨ha, hn, h1, h2, h3⟩, ⟨⟨g1, g2, g3, g4, g5⟩, h5⟩, ⟨⟨b1, b2, b3, b4⟩, h7⟩, h8⟩ := h
  refine ⟨⟨ha, hn, ?_, ?_, ?_⟩, ⟨⟨?_, ?_, ?_, ?_, ?_⟩, fun i hi => ?_⟩, ⟨⟨?_, ?_, ?_, ?_⟩, fun i hi => ?_⟩, fun i hi => ?_⟩
  · simpa (disch := omega) only [m_ne] using h1
  · simpa (disch := omega) only [m_ne, m_eq, u_ne] using h2
  · simpa (disch := omega) only [m_ne] using h3
  · simp (disch := omega) only [m_ne, m_eq, u_ne, u_eq, g1, g2, g3, g4, g5]
  · simp (disch := omega) only [m_ne, m_eq, u_ne, u_eq, g1, g2, g3, g4, g5]
  · simp (disch := omega) only [m_ne, m_eq, u_ne, u_eq, g1, g2, g3, g4, g5]
  · simp (disch := omega) only [m_ne, m_eq, u_ne, u_eq, g1, g2, g3, g4, g5]
  · simp (disch := omega) only [m_ne, m_eq, u_ne, u_eq, g1, g2, g3, g4, g5]
  · simpa (disch := omega) only [m_ne, m_eq, u_ne, u_eq] using h5 i hi
  · simp (disch := omega) only [m_eq, u_ne, u_eq]; first | exact b1 | exact hv.1
  · simp (disch := omega) only [m_eq, u_ne, u_eq]; first | exact b2 | exact hv.2
  · simp (disch := omega) only [m_eq, u_ne, u_eq]; first | exact b3 | exact hv.1
  · simp (disch := omega) only [m_eq, u_ne, u_eq]; first | exact b4 | exact hv.2
  · simpa (disch := omega) only [m_ne, m_eq, u_ne, u_eq] using h7 i hi
  · simpa (disch := omega) only [m_ne] using h8 i hi
theorem nS_book {n a : Nat} {s t : Mem} {k : Nat} {v : Int32} (h : nS n a s t) : nS n a (mset s 57 k v) (mset t 4 k v) := by
  obtain ⟨⟨ha, hn, h1, h2, h3⟩, ⟨h4, h5⟩, ⟨h6, h7⟩, h8⟩ := h
  refine ⟨⟨ha, hn, ?_, ?_, ?_⟩, ⟨?_, fun i hi => ?_⟩, ⟨?_, fun i hi => ?_⟩, fun i hi => ?_⟩
  · simpa (disch := omega) only [m_ne] using h1
  · simpa (disch := omega) only [m_ne] using h2
  · simpa (disch := omega) only [m_ne] using h3
  · simpa (disch := omega) only [m_ne] using h4
  · simpa (disch := omega) only [m_ne] using h5 i hi
  · simpa (disch := omega) only [m_ne] using h6
  · simpa (disch := omega) only [m_ne] using h7 i hi
  · by_cases hik : i = k
    · subst hik
      simp only [m_eq, u_eq]
    · simpa (disch := omega) only [m_eq, u_ne] using h8 i hi
def nSX (s s' : Mem) : Prop := ∀ c, c ≠ 16 → c ≠ 31 → s' c = s c
def nST (t t' : Mem) : Prop := ∀ c, c ≠ 19 → c ≠ 20 → t' c = t c
theorem nS_scr {n a : Nat} {s t s' t' : Mem} (h : nS n a s t) (hs : nSX s s') (ht : nST t t') : nS n a s' t' := by
  obtain ⟨⟨ha, hn, h1, h2, h3⟩, ⟨h4, h5⟩, ⟨h6, h7⟩, h8⟩ := h
  have e0 : t' 0 = t 0 := ht 0 (by omega) (by omega)
  have e1 : t' 1 = t 1 := ht 1 (by omega) (by omega)
  have e4 : t' 4 = t 4 := ht 4 (by omega) (by omega)
  have ea : ∀ j, j < 8 → s' (a + j) = s (a + j) := fun j hj => hs (a + j) (by omega) (by omega)
  have ea0 : s' a = s a := ea 0 (by omega)
  have e57 : s' 57 = s 57 := hs 57 (by omega) (by omega)
  refine ⟨⟨ha, hn, ?_, ?_, ?_⟩, ⟨?_, fun i hi => ?_⟩, ⟨?_, fun i hi => ?_⟩, fun i hi => ?_⟩
  · rw [e0]; exact h1
  · rw [e0, ea0]; exact h2
  · rw [e0]; exact h3
  · rw [e1, ea0]; exact h4
  · rw [e1, ea 1 (by omega), ea 2 (by omega), ea 3 (by omega), ea 4 (by omega), ea 5 (by omega), ea 6 (by omega), ea 7 (by omega)]; exact h5 i hi
  · rw [e1]; exact h6
  · rw [e1]; exact h7 i hi
  · rw [e57, e4]; exact h8 i hi
theorem nSX.refl {s : Mem} : nSX s s := fun _ _ _ => rfl
theorem nST.refl {t : Mem} : nST t t := fun _ _ _ => rfl
theorem nSX.trans {s s' s'' : Mem} (h : nSX s s') (h' : nSX s' s'') : nSX s s'' := fun c h1 h2 => (h' c h1 h2).trans (h c h1 h2)
theorem nST.trans {s s' s'' : Mem} (h : nST s s') (h' : nST s' s'') : nST s s'' := fun c h1 h2 => (h' c h1 h2).trans (h c h1 h2)
/-- what a lane's methods leave as it was -/
def nXF (a : Nat) (s s' : Mem) : Prop := (∀ c, (c < a ∨ a + 7 < c) → c ≠ 16 → c ≠ 31 → c ≠ 57 → s' c = s c) ∧ s' a 0 = s a 0
def nTF (t t' : Mem) : Prop := (∀ c, c ≠ 0 → c ≠ 1 → c ≠ 4 → c ≠ 19 → c ≠ 20 → t' c = t c) ∧ t' 0 = t 0 ∧ (t 0 5 ≠ 0 → t' 4 = t 4)
theorem nXF.refl {a : Nat} {s : Mem} : nXF a s s := ⟨fun _ _ _ _ _ => rfl, rfl⟩
theorem nTF.refl {t : Mem} : nTF t t := ⟨fun _ _ _ _ _ _ => rfl, rfl, fun _ => rfl⟩
theorem nXF.trans {a : Nat} {s s' s'' : Mem} (h : nXF a s s') (h' : nXF a s' s'') : nXF a s s'' := ⟨fun c h1 h2 h3 h4 => (h'.1 c h1 h2 h3 h4).trans (h.1 c h1 h2 h3 h4), h'.2.trans h.2⟩
theorem nTF.trans {s s' s'' : Mem} (h : nTF s s') (h' : nTF s' s'') : nTF s s'' := ⟨fun c h1 h2 h3 h4 h5 => (h'.1 c h1 h2 h3 h4 h5).trans (h.1 c h1 h2 h3 h4 h5), h'.2.1.trans h.2.1, fun q => (h'.2.2 (by rw [h.2.1]; exact q)).trans (h.2.2 q)⟩
theorem nXF.put {a f p : Nat} {s : Mem} {v : Int32} (hf : f < 7) : nXF a s (mset s (a + 1 + f) p v) := ⟨fun c h1 _ _ _ => m_ne (by omega), by rw [m_ne (by omega)]⟩
theorem nXF.fld {a j : Nat} {s : Mem} {v : Int32} (hj : j ≠ 0) : nXF a s (mset s a j v) := ⟨fun c h1 _ _ _ => m_ne (by omega), by rw [m_eq, u_ne (by omega)]⟩
theorem nXF.bk {a k : Nat} {s : Mem} {v : Int32} (ha : a = 2 ∨ a = 115) : nXF a s (mset s 57 k v) := ⟨fun c h1 _ _ _ => m_ne (by omega), by rw [m_ne (by omega)]⟩
theorem nTF.put {p : Nat} {t : Mem} {v : Int32} : nTF t (mset t 1 p v) := ⟨fun c _ _ _ _ _ => m_ne (by omega), m_ne (by omega), fun _ => m_ne (by omega)⟩
theorem nTF.bk {p : Nat} {t : Mem} {v : Int32} (h : t 0 5 = 0) : nTF t (mset t 4 p v) := ⟨fun c _ _ _ _ _ => m_ne (by omega), m_ne (by omega), fun q => absurd h q⟩
theorem nXF.scr {a : Nat} {s s' : Mem} (ha : a = 2 ∨ a = 115) (h : nSX s s') : nXF a s s' := ⟨fun c _ h2 h3 _ => h c h2 h3, by rw [h a (by omega) (by omega)]⟩
theorem nTF.scr {t t' : Mem} (h : nST t t') : nTF t t' := ⟨fun c _ _ _ h4 h5 => h c h4 h5, h 0 (by omega) (by omega), fun _ => h 4 (by omega) (by omega)⟩
