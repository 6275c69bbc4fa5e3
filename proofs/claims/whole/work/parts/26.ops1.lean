/-! ===== calls of the lane ===== -/
theorem told_L {n : Nat} {s t : Mem} (h : GL n s t) : GL n s (mset t 0 0 0) := by
  obtain ⟨g1, g2, g3, g4⟩ := h
  have e1 : (mset t 0 0 0) 1 = t 1 := m_ne (by omega)
  refine ⟨nS_t g1 (fun _ _ _ => rfl) rfl e1 (m_ne (by omega)) (by rw [m_eq, u_ne (by omega)]) (by rw [m_eq, u_ne (by omega)]), by rw [e1]; exact g2, by rw [e1]; exact g3, by rw [m_eq, u_ne (by omega)]; exact g4⟩
theorem told_X {n : Nat} {s t : Mem} (hn : n ≤ 14) (h : GX n s t) : GX n s (mset t 0 0 0) := by
  obtain ⟨⟨h1, ⟨w1, w2, w3, w4⟩, h3⟩, h4, h5, h6, h7⟩ := h
  have e0 : ∀ j, j ≠ 0 → (mset t 0 0 0) 0 j = t 0 j := fun j hj => by rw [m_eq, u_ne hj]
  have et : ∀ c, c ≠ 0 → (mset t 0 0 0) c = t c := fun c hc => m_ne hc
  refine ⟨⟨h1, ⟨lawR_eq w1 (fun _ _ => rfl) (fun c q1 q2 => et c (by omega)), ordR_eq w2 (fun _ _ => rfl) (e0 _ (by omega)) (et _ (by omega)) (et _ (by omega)), planT_eq w3 (fun _ _ => rfl) (e0 _ (by omega)) (et _ (by omega)), planC_eq w4 (fun _ _ => rfl) (e0 _ (by omega)) (et _ (by omega))⟩, rowsR_t h3 (fun _ _ _ => rfl) (fun j q1 q2 => e0 _ (by omega)) (fun c q1 q2 q3 q4 q5 => et _ (by omega))⟩,
    pastR_eq h4 hn (fun _ _ _ => rfl) rfl rfl (et _ (by omega)) (e0 _ (by omega)), imgR_eq h5 (fun _ _ _ => rfl) rfl (e0 _ (by omega)) (et _ (by omega)), txtR_eq h6 (fun _ _ _ => rfl) (e0 _ (by omega)) (e0 _ (by omega)) (e0 _ (by omega)) (et _ (by omega)), ?_⟩
  unfold wrdR
  rw [et 6 (by omega)]
  exact h7
/-- forgetting what can be undone -/
theorem forget_L {n : Nat} {s t : Mem} (h : GL n s t) : GL n (mset s 0 5 0) (mset t 0 3 0) := by
  obtain ⟨g1, g2, g3, g4⟩ := h
  have e1 : (mset t 0 3 0) 1 = t 1 := m_ne (by omega)
  have ha := g1.1.1
  refine ⟨nS_t g1 (fun c q1 q2 => m_ne (by omega)) (m_ne (by omega)) e1 (m_ne (by omega)) (by rw [m_eq, u_ne (by omega)]) (by rw [m_eq, u_ne (by omega)]), by rw [e1]; exact g2, by rw [e1]; exact g3, by rw [m_eq, u_ne (by omega)]; exact g4⟩
theorem forget_X {n : Nat} {s t : Mem} (hn : n ≤ 14) (h : GX n s t) : GX n (mset s 0 5 0) (mset t 0 3 0) := by
  obtain ⟨⟨h1, ⟨w1, w2, w3, w4⟩, h3⟩, h4, h5, h6, h7⟩ := h
  have e0 : ∀ j, j ≠ 3 → (mset t 0 3 0) 0 j = t 0 j := fun j hj => by rw [m_eq, u_ne hj]
  have et : ∀ c, c ≠ 0 → (mset t 0 3 0) c = t c := fun c hc => m_ne hc
  have es : ∀ c, c ≠ 0 → (mset s 0 5 0) c = s c := fun c hc => m_ne hc
  have es0 : ∀ j, j ≠ 5 → (mset s 0 5 0) 0 j = s 0 j := fun j hj => by rw [m_eq, u_ne hj]
  refine ⟨⟨by rw [es 115 (by omega)]; exact h1, ⟨lawR_eq w1 (fun j hj => es _ (by omega)) (fun c q1 q2 => et c (by omega)), ordR_eq w2 (fun j hj => es _ (by omega)) (e0 _ (by omega)) (et _ (by omega)) (et _ (by omega)), planT_eq w3 (fun j hj => es _ (by omega)) (e0 _ (by omega)) (et _ (by omega)), planC_eq w4 (fun j hj => es _ (by omega)) (e0 _ (by omega)) (et _ (by omega))⟩, rowsR_t h3 (fun j q1 q2 => es _ (by omega)) (fun j q1 q2 => e0 _ (by omega)) (fun c q1 q2 q3 q4 q5 => et _ (by omega))⟩,
    pastR_0 h4, imgR_eq h5 (fun c q1 q2 => es _ (by omega)) (es0 _ (by omega)) (e0 _ (by omega)) (et _ (by omega)), txtR_eq h6 (fun c q1 q2 => es _ (by omega)) (e0 _ (by omega)) (e0 _ (by omega)) (e0 _ (by omega)) (et _ (by omega)), ?_⟩
  unfold wrdR
  rw [et 6 (by omega)]
  exact h7
theorem o_state {x : Int32} {s t : Mem} (h : GR s t) : opR (f_X11_state x s) (f_X12_state x t) := by
  obtain ⟨n, hL, hX⟩ := h
  have hn := hL.1.1.2.1
  have hL1 := told_L hL
  have hX1 := told_X hn hX
  generalize mset t 0 0 0 = t1 at *
  sorry
