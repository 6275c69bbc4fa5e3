/-! ===== of, back ===== -/
theorem GR_scr {s t s' t' : Mem} (h : GR s t) (hs : nSX s s') (ht : nST t t') : GR s' t' :=
  GR_q h (fun c _ q1 q2 => hs c q1 q2) (by rw [hs 115 (by omega) (by omega)]) (fun j _ _ _ => by rw [ht 0 (by omega) (by omega)]) (fun c _ _ q1 q2 _ _ _ => ht c q1 q2)
theorem r_nameAt {n p kk : Nat} {s t : Mem} (h : nS n 2 s t) (hW : WS n s t) (hp : p < n) (hk : kk < 14) :
    ok2 (f_X3_nameAt 27 (Int32.ofNat p) (Int32.ofNat kk) (Int32.ofNat n) s) (f_X12_nameBy (Int32.ofNat p) (Int32.ofNat kk) 0 t) (fun r r' => r.1 = r'.1 ∧ nSX s r.2 ∧ r'.2 = t) := by
  have hn := h.1.2.1
  obtain ⟨cnt, hc, h0, h35, ho⟩ := hW.2.1
  obtain ⟨k, nm, hnm⟩ := ho p (by omega)
  have hX := x_nameAt (n := n) (kk := kk) hn (by omega) hc h0 hnm hk
  have hM := m_nameBy (n := n) (u := 0) (kk := some kk) (x2 := Int32.ofNat kk) (t := t) hn (by omega) h.1.2.2.1 hnm.1 hnm.2.1 (fun i hi => ⟨by have := (hnm.2.2.1 i hi).1; omega, (hnm.2.2.1 i hi).2⟩) (by omega) (fun j q => by cases q; exact hk) rfl
  obtain ⟨⟨v, s'⟩, e1, q1, q2⟩ := hX
  obtain ⟨⟨v', t'⟩, e2, q3, q4⟩ := hM
  exact ⟨_, _, e1, e2, q1.trans q3.symm, fun c _ h2 => q2 c h2, q4⟩
theorem o_of {x w : Int32} {s t : Mem} (h : GR s t) : opR (f_X11_of x w s) (f_X12_of x w t) := by
  have h1 := GR_told (v := 0) h
  unfold f_X11_of f_X12_of
  generalize mset t 0 0 0 = t1 at *
  clear h
  have hG := h1
  obtain ⟨n, hL, hX⟩ := h1
  have hn := hL.1.1.2.1
  have hW := hX.1.2.1
  have e1 : s (1 + 1) 1 = Int32.ofNat n := hL.1.2.1.1.1
  rw [x_has e1, m_isPerson hL.1.1.2.2.1]
  dsimp only [Option.bind_some]
  by_cases hp : 0 ≤ x ∧ x < Int32.ofNat n
  · simp only [if_pos hp, show ((1 : Int32) = 0) = False from by decide, if_false]
    obtain ⟨p, hpn, rfl⟩ := per_N hn hp
    clear hp
    have x0 := hL.1.2.1.2 p hpn
    unfold jn_X11_of_55 jn_X11_of_78 jn_X11_of_113
    simp only [e1, m_isIn, Option.bind_some]
    by_cases w20 : w < 20
    · rw [if_pos w20]
      by_cases w6 : 0 ≤ w ∧ w ≤ 6
      · rw [if_neg (show ¬ w < 0 by grind), if_neg (show ¬ 6 < w by grind), if_pos w6]
        rw [if_neg (show ¬ ((1 : Int32) = 0) by decide)]
        obtain ⟨j, ej, hj⟩ := N_of (m := 6) w6.1 w6.2 (by omega)
        subst ej
        unfold f_X0_told
        have hj7 : j = 0 ∨ j = 1 ∨ j = 2 ∨ j = 3 ∨ j = 4 ∨ j = 5 ∨ j = 6 := by omega
        have idx : (4 + 14 * Int32.ofNat j) + Int32.ofNat p = Int32.ofNat (4 + 14 * j + p) := by rw [L_mulN, L_addN, N_add]
        rw [idx]
        rcases hj7 with rfl | rfl | rfl | rfl | rfl | rfl | rfl
        · simp (disch := omega) only [rd_N, wr_N, rd_L, wr_L, Option.bind_some, N_le, N_lt, N_eq, N_leL, L_leN, N_ltL, L_ltN, N_eqL, L_eqN, N_neg, neg_N, N_nlt0, N_0le, N_add, N_addL, L_addN, N_mul, N_mulL, L_mulN, N_sub, N_subL, m_eq, m_ne, u_eq, u_ne, if_true, if_false, ite_true, ite_false, if_pos, if_neg, show (1 + 1 + 1 : Nat) = 3 from rfl]
          exact opR.rets x0.1 hG
        · simp (disch := omega) only [rd_N, wr_N, rd_L, wr_L, Option.bind_some, N_le, N_lt, N_eq, N_leL, L_leN, N_ltL, L_ltN, N_eqL, L_eqN, N_neg, neg_N, N_nlt0, N_0le, N_add, N_addL, L_addN, N_mul, N_mulL, L_mulN, N_sub, N_subL, m_eq, m_ne, u_eq, u_ne, if_true, if_false, ite_true, ite_false, if_pos, if_neg, show (1 + 1 + 2 : Nat) = 4 from rfl]
          exact opR.rets x0.2.1 hG
        · simp (disch := omega) only [rd_N, wr_N, rd_L, wr_L, Option.bind_some, N_le, N_lt, N_eq, N_leL, L_leN, N_ltL, L_ltN, N_eqL, L_eqN, N_neg, neg_N, N_nlt0, N_0le, N_add, N_addL, L_addN, N_mul, N_mulL, L_mulN, N_sub, N_subL, m_eq, m_ne, u_eq, u_ne, if_true, if_false, ite_true, ite_false, if_pos, if_neg, show (1 + 1 + 3 : Nat) = 5 from rfl, m_byOf]
          exact opR.rets x0.2.2.1 hG
        · simp (disch := omega) only [rd_N, wr_N, rd_L, wr_L, Option.bind_some, N_le, N_lt, N_eq, N_leL, L_leN, N_ltL, L_ltN, N_eqL, L_eqN, N_neg, neg_N, N_nlt0, N_0le, N_add, N_addL, L_addN, N_mul, N_mulL, L_mulN, N_sub, N_subL, m_eq, m_ne, u_eq, u_ne, if_true, if_false, ite_true, ite_false, if_pos, if_neg, show (1 + 1 + 4 : Nat) = 6 from rfl]
          exact opR.rets x0.2.2.2.1 hG
        · simp (disch := omega) only [rd_N, wr_N, rd_L, wr_L, Option.bind_some, N_le, N_lt, N_eq, N_leL, L_leN, N_ltL, L_ltN, N_eqL, L_eqN, N_neg, neg_N, N_nlt0, N_0le, N_add, N_addL, L_addN, N_mul, N_mulL, L_mulN, N_sub, N_subL, m_eq, m_ne, u_eq, u_ne, if_true, if_false, ite_true, ite_false, if_pos, if_neg, show (1 + 1 + 5 : Nat) = 7 from rfl]
          exact opR.rets x0.2.2.2.2.1 hG
        · simp (disch := omega) only [rd_N, wr_N, rd_L, wr_L, Option.bind_some, N_le, N_lt, N_eq, N_leL, L_leN, N_ltL, L_ltN, N_eqL, L_eqN, N_neg, neg_N, N_nlt0, N_0le, N_add, N_addL, L_addN, N_mul, N_mulL, L_mulN, N_sub, N_subL, m_eq, m_ne, u_eq, u_ne, if_true, if_false, ite_true, ite_false, if_pos, if_neg, show (1 + 1 + 6 : Nat) = 8 from rfl]
          exact opR.rets x0.2.2.2.2.2.1 hG
        · simp (disch := omega) only [rd_N, wr_N, rd_L, wr_L, Option.bind_some, N_le, N_lt, N_eq, N_leL, L_leN, N_ltL, L_ltN, N_eqL, L_eqN, N_neg, neg_N, N_nlt0, N_0le, N_add, N_addL, L_addN, N_mul, N_mulL, L_mulN, N_sub, N_subL, m_eq, m_ne, u_eq, u_ne, if_true, if_false, ite_true, ite_false, if_pos, if_neg, show (1 + 1 + 7 : Nat) = 9 from rfl]
          exact opR.rets x0.2.2.2.2.2.2 hG
      · rw [if_neg w6, if_neg (show ¬ w = 2 by grind), if_pos (rfl : (0 : Int32) = 0)]
        have eX : ∀ (a b c : Option (Int32 × Mem)), (if w < 0 then a else if 6 < w then a else b) = a := by
          intro a b c
          by_cases h0 : w < 0
          · rw [if_pos h0]
          · rw [if_neg h0, if_pos (by grind)]
        rw [eX _ _ none]
        by_cases w7 : w = 7
        · subst w7
          simp only [show ((7 : Int32) < 7) = False from by decide, show ((9 : Int32) < 7) = False from by decide, if_false, if_true]
          refine (r_hics hL.1 hW.1 hpn).bind ?_
          rintro ⟨v, s2⟩ ⟨v', t2⟩ ⟨q1, q2, q3, q4⟩
          exact opR.rets q1 (GR_scr hG q3 q4)
        · by_cases w8 : w = 8
          · subst w8
            simp only [show ((8 : Int32) < 7) = False from by decide, show ((9 : Int32) < 8) = False from by decide, show ((8 : Int32) = 7) = False from by decide, if_false, if_true]
            refine (r_stops hL.1 hW.1 hpn).bind ?_
            rintro ⟨v, s2⟩ ⟨v', t2⟩ ⟨q1, q2, q3, q4⟩
            exact opR.rets q1 (GR_scr hG q3 q4)
          · by_cases w9 : w = 9
            · subst w9
              simp only [show ((9 : Int32) < 7) = False from by decide, show ((9 : Int32) < 9) = False from by decide, show ((9 : Int32) = 7) = False from by decide, show ((9 : Int32) = 8) = False from by decide, if_false, if_true]
              refine (r_passes hL.1 hW.1 hpn).bind ?_
              rintro ⟨v, s2⟩ ⟨v', t2⟩ ⟨q1, q2, q3, q4⟩
              exact opR.rets q1 (GR_scr hG q3 q4)
            · rw [if_neg w7, if_neg w8, if_neg w9]
              have eX2 : ∀ (a b : Option (Int32 × Mem)), (if w < 7 then a else if 9 < w then a else b) = a := by
                intro a b
                by_cases h0 : w < 7
                · rw [if_pos h0]
                · rw [if_neg h0, if_pos (by grind)]
              rw [eX2]
              by_cases w10 : w = 10
              · rw [if_pos w10, if_pos w10]
                refine (r_next hL.1 hW hpn).bind ?_
                rintro ⟨v, s2⟩ ⟨v', t2⟩ ⟨q1, q2, q3, q4⟩
                dsimp only at q1 q3 q4 ⊢
                subst q4
                exact opR.rets q1 (GR_scr hG q3 nST.refl)
              · rw [if_neg w10, if_neg w10, if_neg (show ¬ (20 ≤ w ∧ w ≤ 33) by grind), if_pos (rfl : (0 : Int32) = 0)]
                exact opR.ret hG
    · rw [if_neg w20, if_neg (show ¬ w = 2 by grind), if_neg (show ¬ (0 ≤ w ∧ w ≤ 6) by grind), if_pos (rfl : (0 : Int32) = 0), if_neg (show ¬ w = 7 by grind), if_neg (show ¬ w = 8 by grind), if_neg (show ¬ w = 9 by grind), if_neg (show ¬ w = 10 by grind)]
      by_cases w34 : w ≤ 33
      · rw [if_neg (show ¬ 34 ≤ w by grind), if_pos (show 20 ≤ w ∧ w ≤ 33 by grind), if_neg (show ¬ ((1 : Int32) = 0) by decide)]
        obtain ⟨j, ej, hj⟩ := N_of (m := 13) (x := w - 20) (by grind) (by
          have : Int32.ofNat 13 = 13 := rfl
          grind) (by omega)
        rw [ej]
        simp only [if_neg (show ¬ w = 10 by grind)]
        refine (r_nameAt (kk := j) hL.1 hW hpn (by omega)).bind ?_
        rintro ⟨v, s2⟩ ⟨v', t2⟩ ⟨q1, q3, q4⟩
        dsimp only at q1 q3 q4 ⊢
        subst q4
        exact opR.rets q1 (GR_scr hG q3 nST.refl)
      · rw [if_pos (show 34 ≤ w by grind), if_neg (show ¬ w < 0 by grind), if_pos (show 6 < w by grind), if_neg (show ¬ w < 7 by grind), if_pos (show 9 < w by grind), if_neg (show ¬ w = 10 by grind), if_neg (show ¬ (20 ≤ w ∧ w ≤ 33) by grind), if_pos (rfl : (0 : Int32) = 0)]
        exact opR.ret hG
  · simp only [if_neg hp, if_true]
    exact opR.ret hG
/-- how far back it goes -/
def pth (f : Nat → Nat) (p : Nat) : Nat → Nat
  | 0 => p
  | k + 1 => f (pth f p k)
def stopB (z : Nat → Prop) (f : Nat → Nat) (p k : Nat) : Prop := z (pth f p k) ∨ ∃ j, j < k ∧ pth f p j = pth f p k
theorem stop_ex {z : Nat → Prop} {f : Nat → Nat} {p n : Nat} (hn : n ≤ 14) (hp : p < n) (hf : ∀ i, i < n → ¬ z i → f i < n) : ∃ K, K ≤ 14 ∧ stopB z f p K ∧ ∀ k, k < K → ¬ stopB z f p k := by
  have key : ∀ m, (∀ k, k < m → ¬ stopB z f p k) → ((List.range m).map (pth f p)).Nodup ∧ (∀ k, k < m → pth f p k < n) ∧ (m = 0 ∨ pth f p m < n) := by
    intro m
    induction m with
    | zero => intro _; exact ⟨by simp, fun k hk => by omega, Or.inl rfl⟩
    | succ m ih =>
      intro hno
      obtain ⟨h1, h2, h3⟩ := ih (fun k hk => hno k (by omega))
      have hm : pth f p m < n := by
        rcases h3 with rfl | h3
        · exact hp
        · exact h3
      have hs := hno m (by omega)
      refine ⟨?_, fun k hk => ?_, Or.inr ?_⟩
      · rw [List.range_succ, List.map_append, List.nodup_append]
        refine ⟨h1, by simp, fun x hx y hy e => ?_⟩
        simp at hx hy
        obtain ⟨j, hj, ej⟩ := hx
        exact hs (Or.inr ⟨j, hj, by rw [ej, e, hy]⟩)
      · by_cases e : k = m
        · rw [e]; exact hm
        · exact h2 k (by omega)
      · exact hf _ hm (fun q => hs (Or.inl q))
  have : ¬ ∀ k, k < 15 → ¬ stopB z f p k := by
    intro hno
    obtain ⟨h1, h2, -⟩ := key 15 hno
    have h4 := nodup_len n _ h1 (fun q hq => by
      simp at hq
      obtain ⟨j, hj, e⟩ := hq
      rw [← e]
      exact h2 j hj)
    simp at h4
    omega
  -- the least one
  have least : ∀ m, (∀ k, k < m → ¬ stopB z f p k) ∨ ∃ K, K < m ∧ stopB z f p K ∧ ∀ k, k < K → ¬ stopB z f p k := by
    intro m
    induction m with
    | zero => exact Or.inl fun k hk => by omega
    | succ m ih =>
      rcases ih with h | ⟨K, h1, h2⟩
      · by_cases hs : stopB z f p m
        · exact Or.inr ⟨m, by omega, hs, h⟩
        · refine Or.inl fun k hk => ?_
          by_cases e : k = m
          · rw [e]; exact hs
          · exact h k (by omega)
      · exact Or.inr ⟨K, by omega, h2⟩
  rcases least 15 with h | ⟨K, h1, h2, h3⟩
  · exact absurd h this
  · exact ⟨K, by omega, h2, h3⟩
theorem o_back {x : Int32} {s t : Mem} (h : GR s t) : opR (f_X11_back x s) (f_X12_back x t) := by
  have h1 := GR_told (v := 0) h
  unfold f_X11_back f_X12_back
  generalize mset t 0 0 0 = t1 at *
  clear h
  have hG := h1
  obtain ⟨n, hL, hX⟩ := h1
  have hn := hL.1.1.2.1
  have e1 : s (1 + 1) 1 = Int32.ofNat n := hL.1.2.1.1.1
  rw [x_has e1, m_isPerson hL.1.1.2.2.1]
  dsimp only [Option.bind_some]
  by_cases hp : 0 ≤ x ∧ x < Int32.ofNat n
  · simp only [if_pos hp, show ((1 : Int32) = 0) = False from by decide, if_false]
    obtain ⟨p, hpn, rfl⟩ := per_N hn hp
    clear hp
    -- who BY is, as numbers
    have hby : ∀ i, i < n → ∃ b, b ≤ n ∧ t1 1 (32 + i) = Int32.ofNat b := by
      intro i hi
      obtain ⟨q1, q2⟩ := (hL.1.2.2.1.2 i hi).2.2.1
      obtain ⟨b, eb, hb⟩ := N_of q1 q2 (by omega)
      exact ⟨b, hb, eb⟩
    let f : Nat → Nat := fun i => (t1 1 (32 + i)).toNatClampNeg - 1
    let z : Nat → Prop := fun i => t1 1 (32 + i) = 0
    have hf : ∀ i, i < n → ¬ z i → f i < n ∧ t1 1 (32 + i) - 1 = Int32.ofNat (f i) := by
      intro i hi hz
      obtain ⟨b, hb, eb⟩ := hby i hi
      have hb0 : b ≠ 0 := fun q => hz (by show t1 1 (32 + i) = 0; rw [eb, q]; rfl)
      have e : f i = b - 1 := by show (t1 1 (32 + i)).toNatClampNeg - 1 = b - 1; rw [eb, N_nat (by omega)]
      rw [e, eb, N_pred (by omega)]
      exact ⟨by omega, rfl⟩
    have hz1 : ∀ i, i < n → ((t1 1 (32 + i) - 1 = -1) ↔ z i) := by
      intro i hi
      show (_ ↔ (t1 1 (32 + i) = 0))
      grind
    obtain ⟨K, hK, hst, hno⟩ := stop_ex (z := z) (f := f) hn hpn (fun i hi hz => (hf i hi hz).1)
    have hpn2 : ∀ k, k ≤ K → pth f p k < n := by
      intro k
      induction k with
      | zero => intro _; exact hpn
      | succ k ih =>
        intro hk
        have := hno k (by omega)
        exact (hf _ (ih (by omega)) (fun q => this (Or.inl q))).1
    -- here
    have X : ok (f_X0_stepsBack 2 (Int32.ofNat p) s) (fun r => r.1 = Int32.ofNat K ∧ r.2 = s) := by
      have key : ok (it FUEL (fun y => st_X0_stepsBack_12 2 y.1 y.2.1 y.2.2.1 y.2.2.2.1 y.2.2.2.2) (0, Int32.ofNat p, Int32.ofNat (2 ^ p), 0, s)) (fun r => (r.1 = 0 ∨ r.1 = 1) ∧ r.2.1 = Int32.ofNat K ∧ r.2.2 = s) := by
        refine it_ok1 14 (by omega) (fun k y => ∃ M, y = (Int32.ofNat k, Int32.ofNat (pth f p k), Int32.ofNat M, Int32.ofNat k, s) ∧ k ≤ K ∧ M < 16384 ∧ (∀ q, q < 14 → (M.testBit q = true ↔ ∃ j, j ≤ k ∧ pth f p j = q)) ∧ ∀ j, j < k → pth f p j ≠ pth f p k)
          ⟨2 ^ p, rfl, by omega, Nat.lt_of_le_of_lt (Nat.pow_le_pow_right (by omega) (show p ≤ 13 by omega)) (by omega), fun q hq => ?_, fun j hj => by omega⟩ (fun k y q => by obtain ⟨_, _, q, _⟩ := q; omega) ?_
        · rw [Nat.testBit_two_pow]
          simp only [decide_eq_true_eq]
          constructor
          · intro e; exact ⟨0, by omega, e⟩
          · rintro ⟨j, hj, e⟩
            have : j = 0 := by omega
            subst this
            exact e
        · rintro k y ⟨M, rfl, hk, hM, hM2, hnew⟩
          dsimp only
          unfold st_X0_stepsBack_12
          have hpk := hpn2 k hk
          have x0 := (hL.1.2.1.2 _ hpk).2.2.1
          by_cases h14 : k = 14
          · rw [if_pos (by rw [h14]; decide)]
            exact Or.inr ⟨_, rfl, Or.inr rfl, by dsimp only; rw [show K = k by omega], rfl⟩
          · rw [if_neg (by rw [L_leN (by omega) (by omega)]; omega)]
            simp (disch := omega) only [rd_N, Option.bind_some, show (2 + 3 : Nat) = 5 from rfl]
            have x0' : s 5 (pth f p k) = t1 1 (32 + pth f p k) - 1 := x0
            rw [x0']
            by_cases hz : z (pth f p k)
            · rw [(hz1 _ hpk).mpr hz, x_has (n := n) hL.1.2.1.1.1, if_neg (fun q => absurd q.1 (by decide))]
              dsimp only [Option.bind_some]
              rw [if_pos rfl]
              have : K = k := by
                rcases Nat.lt_or_ge k K with h | h
                · exact absurd (Or.inl hz) (hno k h)
                · omega
              exact Or.inr ⟨_, rfl, Or.inr rfl, by dsimp only; rw [this], rfl⟩
            · obtain ⟨g1, g2⟩ := hf _ hpk hz
              rw [g2, x_hasN (n := n) hL.1.2.1.1.1 hn g1]
              dsimp only [Option.bind_some]
              rw [if_neg (show ¬ ((1 : Int32) = 0) by decide)]
              have hkK : k < K := by
                rcases Nat.lt_or_ge k K with h | h
                · exact h
                · exfalso
                  have : k = K := by omega
                  subst this
                  rcases hst with q | ⟨j, hj, e⟩
                  · exact hz q
                  · exact hnew j hj e
              try simp (disch := omega) only [rd_N, Option.bind_some, show (2 + 3 : Nat) = 5 from rfl]
              simp only [x0']
              rw [g2, N_bit (by omega) (by omega)]
              by_cases hb : M.testBit (f (pth f p k)) = true
              · rw [if_pos hb, if_pos rfl]
                obtain ⟨j, hj, e⟩ := (hM2 _ (by omega)).mp hb
                have hs1 : stopB z f p (k + 1) := Or.inr ⟨j, by omega, e⟩
                have : K = k + 1 := by
                  rcases Nat.lt_or_ge (k + 1) K with h | h
                  · exact absurd hs1 (hno _ h)
                  · omega
                exact Or.inr ⟨_, rfl, Or.inl rfl, by dsimp only; rw [this, N_addL], rfl⟩
              · rw [if_neg hb, if_neg (by decide)]
                simp (disch := omega) only [L_shl, N_or, N_addL]
                refine Or.inl ⟨_, rfl, M ||| 2 ^ f (pth f p k), rfl, by omega, Nat.or_lt_two_pow (n := 14) hM (Nat.pow_lt_pow_right (by omega) (by omega)), fun q hq => ?_, fun j hj e => ?_⟩
                · rw [Nat.testBit_or, Nat.testBit_two_pow, Bool.or_eq_true, hM2 q hq]
                  simp only [decide_eq_true_eq]
                  constructor
                  · rintro (⟨j, hj, e⟩ | e)
                    · exact ⟨j, by omega, e⟩
                    · exact ⟨k + 1, by omega, e⟩
                  · rintro ⟨j, hj, e⟩
                    by_cases hjk : j = k + 1
                    · subst hjk; exact Or.inr e
                    · exact Or.inl ⟨j, by omega, e⟩
                · exact hb ((hM2 _ (by omega)).mpr ⟨j, by omega, e⟩)
      unfold f_X0_stepsBack
      rw [L_shl (by omega)]
      refine key.bind ?_
      rintro ⟨b, v, s2⟩ ⟨hb, q1, q2⟩
      dsimp only at hb q1 q2 ⊢
      subst q1 q2
      split <;> exact ok.some ⟨rfl, rfl⟩
    -- the reference
    have Mm : ok (it FUEL (fun y => st_X12_back_22 y.1 y.2.1 y.2.2.1 y.2.2.2) (0, Int32.ofNat p, 0, t1)) (fun r => r.1 = Int32.ofNat K ∧ r.2 = t1) := by
      refine it_ok1 14 (by omega) (fun k y => ∃ M, y = (Int32.ofNat M, Int32.ofNat (pth f p k), Int32.ofNat k, t1) ∧ k ≤ K ∧ M < 16384 ∧ (∀ q, q < 14 → (M.testBit q = true ↔ ∃ j, j < k ∧ pth f p j = q)))
        ⟨0, rfl, by omega, by omega, fun q hq => by simp⟩ (fun k y q => by obtain ⟨_, _, q, _⟩ := q; omega) ?_
      rintro k y ⟨M, rfl, hk, hM, hM2⟩
      dsimp only
      unfold st_X12_back_22 f_X12_has
      have hpk := hpn2 k hk
      rw [m_byOf (by omega)]
      dsimp only [Option.bind_some]
      by_cases hz : z (pth f p k)
      · rw [if_pos ((hz1 _ hpk).mpr hz)]
        have : K = k := by
          rcases Nat.lt_or_ge k K with h | h
          · exact absurd (Or.inl hz) (hno k h)
          · omega
        exact Or.inr ⟨_, rfl, by dsimp only; rw [this], rfl⟩
      · rw [if_neg (fun q => hz ((hz1 _ hpk).mp q)), N_bit (by omega) (by omega)]
        by_cases hb : M.testBit (pth f p k) = true
        · rw [if_pos hb, if_pos rfl]
          dsimp only [Option.bind_some]
          rw [if_neg (by decide)]
          obtain ⟨j, hj, e⟩ := (hM2 _ (by omega)).mp hb
          have : K = k := by
            rcases Nat.lt_or_ge k K with h | h
            · exact absurd (Or.inr ⟨j, hj, e⟩) (hno k h)
            · omega
          exact Or.inr ⟨_, rfl, by dsimp only; rw [this], rfl⟩
        · rw [if_neg hb, if_neg (by decide)]
          dsimp only [Option.bind_some]
          rw [if_pos rfl, m_byOf (by omega)]
          obtain ⟨g1, g2⟩ := hf _ hpk hz
          have hkK : k < K := by
            rcases Nat.lt_or_ge k K with h | h
            · exact h
            · exfalso
              have : k = K := by omega
              subst this
              rcases hst with q | ⟨j, hj, e⟩
              · exact hz q
              · exact hb ((hM2 _ (by omega)).mpr ⟨j, hj, e⟩)
          dsimp only [Option.bind_some]
          rw [g2, L_shl (by omega), N_or, N_addL]
          refine Or.inl ⟨_, rfl, M ||| 2 ^ pth f p k, rfl, by omega, Nat.or_lt_two_pow (n := 14) hM (Nat.pow_lt_pow_right (by omega) (by omega)), fun q hq => ?_⟩
          rw [Nat.testBit_or, Nat.testBit_two_pow, Bool.or_eq_true, hM2 q hq]
          simp only [decide_eq_true_eq]
          constructor
          · rintro (⟨j, hj, e⟩ | e)
            · exact ⟨j, by omega, e⟩
            · exact ⟨k, by omega, e⟩
          · rintro ⟨j, hj, e⟩
            by_cases hjk : j = k
            · subst hjk; exact Or.inr e
            · exact Or.inl ⟨j, by omega, e⟩
    refine ok2.left X ?_
    rintro ⟨v, s2⟩ ⟨q1, q2⟩
    refine ok2.right Mm ?_
    rintro ⟨v', t2⟩ ⟨q3, q4⟩
    dsimp only at q1 q2 q3 q4 ⊢
    subst q1 q2 q3 q4
    exact opR.ret hG
  · simp only [if_neg hp, if_true]
    exact opR.ret hG
