/-! ===== the call of the tree ===== -/
theorem o_tree {x y w : Int32} {s t : Mem} (h : GR s t) : opR (f_X11_tree x y w s) (f_X12_tree x y w t) := by
  have h1 := GR_told (v := 0) h
  unfold f_X11_tree f_X12_tree
  generalize mset t 0 0 0 = t1 at *
  clear h
  have hG := h1
  obtain ⟨nn, hL, hX⟩ := h1
  have r11 := hX.1.2.2.2.2.2.2.1
  clear hL hX
  obtain ⟨n, f, hn, e1, e2, hf⟩ := row_N (hi := 7) r11 (by decide) (by omega)
  simp only [show (32 + 19 : Nat) = 51 from rfl, show (51 + 1 : Nat) = 52 from rfl] at e1 hf
  have hB : rwB s t1 n f := ⟨hn, ⟨e1, e2⟩, fun j hj => ⟨(hf j hj).1, (hf j hj).2.1, (hf j hj).2.2.2⟩⟩
  simp only [m_isIn, Option.bind_some, show (1 + 31 + 19 : Nat) = 51 from rfl]
  rw [e1, e2, N_addL, N_addL, N_addL, N_subL (by omega), show n + 2 - 1 = n + 1 by omega]
  have gr : ∀ s' t' : Mem, (∀ c, c ≠ 199 → s' c = s c) → (∀ c, c ≠ 31 → t' c = t1 c) → GR s' t' := fun s' t' hs ht => GR_q hG (fun c q1 q2 q3 => hs c (by omega)) (by rw [hs 115 (by omega)]) (fun j _ _ _ => by rw [ht 0 (by omega)]) (fun c _ _ _ _ q5 _ _ => ht c q5)
  by_cases hw : 0 ≤ w ∧ w ≤ 1
  · rw [if_pos hw, if_neg (show ¬ (1 : Int32) = 0 by decide), if_neg (show ¬ w < 0 by grind), if_neg (show ¬ 1 < w by grind)]
    by_cases hx : 0 ≤ x ∧ x ≤ Int32.ofNat (n + 1)
    · rw [if_pos hx, if_neg (show ¬ (1 : Int32) = 0 by decide), if_neg (show ¬ x < 0 by grind), if_neg (show ¬ Int32.ofNat (n + 1) < x by grind)]
      obtain ⟨a, rfl, ha⟩ := N_of (x := x) (m := n + 1) hx.1 hx.2 (by omega)
      unfold jn_X12_tree_54
      rcases r_tree hB with ⟨g1, g2⟩ | ⟨g, F, s2, t2, g1, g2, hSt, hu, dist, sf, tf⟩
      · rw [g1, g2, Option.bind_some, Option.bind_some]
        dsimp only
        rw [if_pos rfl, if_pos rfl]
        simp only [ite_self]
        exact opR.ret hG
      · rw [g1, g2, Option.bind_some, Option.bind_some]
        dsimp only
        rw [if_neg (show ¬ (1 : Int32) = 0 by decide)]
        have G2 := gr s2 t2 sf tf
        by_cases w0 : w = 0
        · subst w0
          rw [if_pos rfl, if_neg (show ¬ (0 : Int32) = 1 by decide), if_neg (show ¬ (0 : Int32) = 1 by decide), x_joinedTo hSt hu (by omega), m_joined hSt dist (by omega)]
          exact opR.ret G2
        · have w1 : w = 1 := by grind
          subst w1
          rw [if_neg w0, if_pos rfl]
          by_cases hy : 0 ≤ y ∧ y ≤ Int32.ofNat (n + 1)
          · rw [if_pos hy, if_neg (show ¬ (1 : Int32) = 0 by decide), if_neg (show ¬ y < 0 by grind), if_pos hy.2, if_neg (show ¬ (1 : Int32) = 0 by decide), if_pos rfl]
            obtain ⟨b, rfl, hb⟩ := N_of (x := y) (m := n + 1) hy.1 hy.2 (by omega)
            rw [x_between hSt hu (by omega) (by omega), L_mulN, N_add, rd_N (by omega) (by omega), dist a b (by omega) (by omega)]
            exact opR.ret G2
          · rw [if_neg hy, if_pos rfl]
            unfold jn_X11_tree_81
            have G3 := gr s2 t1 sf (fun _ _ => rfl)
            by_cases h0 : y < 0
            · rw [if_pos h0]
              exact opR.ret G3
            · rw [if_neg h0, if_neg (show ¬ y ≤ Int32.ofNat (n + 1) by grind)]
              exact opR.ret G3
    · rw [if_neg hx, if_pos rfl]
      by_cases h0 : x < 0
      · rw [if_pos h0]; exact opR.ret hG
      · rw [if_neg h0, if_pos (show Int32.ofNat (n + 1) < x by grind)]; exact opR.ret hG
  · rw [if_neg hw, if_pos rfl]
    have : ∀ r : Option (Int32 × Mem), (if w < 0 then some (-1, s) else if 1 < w then some (-1, s) else r) = some (-1, s) := fun r => by
      by_cases h0 : w < 0
      · rw [if_pos h0]
      · rw [if_neg h0, if_pos (show 1 < w by grind)]
    rw [this]
    simp only [ite_self]
    exact opR.ret hG
