/-! ===== asking THE LAW ===== -/
def lawR (s : Mem) (L : Nat) (m : Mem) : Prop :=
  ∃ cnt sz : Nat, cnt ≤ 16 ∧ sz ≤ 400 ∧ s L 0 = Int32.ofNat cnt ∧ m 7 0 = Int32.ofNat cnt ∧ s L 1 = Int32.ofNat sz ∧ (∀ i, i < sz → cdR (s (L + 5) i) (m 12 i) (m 13 i)) ∧
  ∀ l, l < cnt → ∃ fr wh ti : Nat, fr ≤ wh ∧ wh ≤ ti ∧ ti ≤ sz ∧ s (L + 1) l = m 8 l ∧ s (L + 2) l = Int32.ofNat fr ∧ m 9 l = Int32.ofNat fr ∧ s (L + 3) l = Int32.ofNat wh ∧ m 10 l = Int32.ofNat wh ∧ s (L + 4) l = Int32.ofNat ti ∧ m 11 l = Int32.ofNat ti ∧
    (∀ F, ∃ v, evn F (s (L + 5)) fr (wh - fr) [] = some [v]) ∧ (wh < ti → ∀ F, ∃ v, evn F (s (L + 5)) wh (ti - wh) [] = some [v])
theorem x_value {n a p fr to sz : Nat} {v : Int32} {s t : Mem} (h : nS n a s t) (hz : s 10 1 = Int32.ofNat sz) (hz2 : to ≤ sz) (hz4 : sz ≤ 400) (hp : p < n) (h1 : fr ≤ to) (h2 : to ≤ 400) (hv : evn (fct (t 1) p) (s 15) fr (to - fr) [] = some [v]) :
    ok (f_X1_value 10 a (Int32.ofNat fr) (Int32.ofNat to) (Int32.ofNat p) s) (fun r => r.1 = v ∧ ∀ c, c ≠ 16 → r.2 c = s c) := by
  have key : ok (it FUEL (fun y => st_X1_value_6 10 a (Int32.ofNat to) (Int32.ofNat p) y.1 y.2.1 y.2.2) (0, Int32.ofNat fr, s)) (fun r => r.1 = 1 ∧ r.2 16 0 = v ∧ ∀ c, c ≠ 16 → r.2 c = s c) := by
    refine it_ok1 400 (by omega) (fun k y => ∃ (st : List Int32) (s' : Mem), y = (Int32.ofNat st.length, Int32.ofNat (fr + k), s') ∧ (∀ c, c ≠ 16 → s' c = s c) ∧ stkR (s' 16) st ∧ st.length ≤ 60 ∧ fr + k ≤ to ∧ evn (fct (t 1) p) (s 15) (fr + k) (to - fr - k) st = some [v]) ⟨[], s, rfl, fun _ _ => rfl, trivial, by simp, by omega, hv⟩ (fun k y q => by obtain ⟨st, s', -, -, -, -, q, -⟩ := q; omega) ?_
    rintro k y ⟨st, s', rfl, hf, hst, hl, hk, he⟩
    dsimp only
    by_cases hkt : fr + k = to
    · refine Or.inr ?_
      rw [show to - fr - k = 0 by omega] at he
      cases he
      unfold st_X1_value_6
      rw [if_pos (by rw [hkt, N_le (by omega) (by omega)]; omega)]
      exact ⟨_, rfl, rfl, hst.1, hf⟩
    · refine Or.inl ?_
      rw [show to - fr - k = (to - fr - (k + 1)) + 1 by omega] at he
      obtain ⟨st', e1, e2⟩ := bnd he
      have h' : nS n a s' t := nS_scr h (fun c q _ => hf c q) nST.refl
      obtain ⟨s'', g1, g2, g3, g4⟩ := x_vstep (e := to) (i := fr + k) h' ((congrFun (hf 10 (by omega)) 1).trans hz) hz2 hz4 hp hst hl (by omega) h2 (by rw [hf 15 (by omega)]; exact e1)
      exact ⟨_, g1, st', s'', rfl, fun c q => (g3 c q).trans (hf c q), g4, ev1_len e1 hl, by omega, e2⟩
  unfold f_X1_value
  refine key.bind ?_
  rintro ⟨d, s'⟩ ⟨e1, e2, e3⟩
  dsimp only at e1 e2 e3 ⊢
  subst e1
  unfold jn_X1_value_170
  rw [if_neg (by decide)]
  rw [show ((1 : Int32) - 1) = Int32.ofNat 0 from rfl, rd_N (by omega) (by omega)]
  exact ok.some ⟨e2, e3⟩
theorem m_runs {F : Nat → Int32} {f : Nat → Int32} {fr to : Nat} {v : Int32} {t : Mem} (hF : ∀ j, j < 8 → t 19 j = F j) (hc : ∀ i, i < to → cdR (f i) (t 12 i) (t 13 i)) (h1 : fr ≤ to) (h2 : to ≤ 400) (hv : evn F f fr (to - fr) [] = some [v]) :
    ok (f_X12_runs 0 (Int32.ofNat fr) (Int32.ofNat to) t) (fun r => r.1 = v ∧ ∀ c, c ≠ 20 → r.2 c = t c) := by
  have key : ok (it FUEL (fun y => st_X12_runs_12 0 (Int32.ofNat to) y.1 y.2.1 y.2.2) (0, 400 * 0 + Int32.ofNat fr, t)) (fun r => r 20 0 = v ∧ ∀ c, c ≠ 20 → r c = t c) := by
    refine it_ok1 400 (by omega) (fun k y => ∃ (st : List Int32) (t' : Mem), y = (Int32.ofNat st.length, Int32.ofNat (fr + k), t') ∧ (∀ c, c ≠ 20 → t' c = t c) ∧ stkR (t' 20) st ∧ st.length ≤ 60 ∧ fr + k ≤ to ∧ evn F f (fr + k) (to - fr - k) st = some [v])
      ⟨[], t, by rw [show (400 * 0 + Int32.ofNat fr : Int32) = Int32.ofNat fr by grind]; rfl, fun _ _ => rfl, trivial, by simp, by omega, hv⟩ (fun k y q => by obtain ⟨st, s', -, -, -, -, q, -⟩ := q; omega) ?_
    rintro k y ⟨st, t', rfl, hf, hst, hl, hk, he⟩
    dsimp only
    by_cases hkt : fr + k = to
    · refine Or.inr ?_
      rw [show to - fr - k = 0 by omega] at he
      cases he
      unfold st_X12_runs_12
      rw [if_pos (by rw [hkt, show (400 * 0 + Int32.ofNat to : Int32) = Int32.ofNat to by grind, N_le (by omega) (by omega)]; omega)]
      exact ⟨_, rfl, hst.1, hf⟩
    · refine Or.inl ?_
      rw [show to - fr - k = (to - fr - (k + 1)) + 1 by omega] at he
      obtain ⟨st', e1, e2⟩ := bnd he
      obtain ⟨t'', g1, g2, g3⟩ := m_vstep (F := F) (e := to) (i := fr + k) (t := t') (fun j hj => by rw [hf 19 (by omega)]; exact hF j hj) (by rw [hf 12 (by omega), hf 13 (by omega)]; exact hc (fr + k) (by omega)) hst hl (by omega) h2 e1
      exact ⟨_, g1, st', t'', rfl, fun c q => (g2 c q).trans (hf c q), g3, ev1_len e1 hl, by omega, e2⟩
  unfold f_X12_runs
  refine key.bind ?_
  rintro t' ⟨e2, e3⟩
  rw [show ((0 : Int32)) = Int32.ofNat 0 from rfl, rd_N (by omega) (by omega)]
  exact ok.some ⟨e2, e3⟩
def lawB (w : Nat) (v : Int32) : Int32 := if w = 0 then jmmax 1 (jmmin 99 v) else if w = 1 then jmmax 0 (jmmin 1000 v) else jmmax 0 (jmmin 99 v)
def loB (w : Nat) : Int32 := if w = 0 then 1 else 0
def hiB (w : Nat) : Int32 := if w = 1 then 1000 else 99
theorem x_bound {w : Nat} {v : Int32} {s : Mem} (hw : w < 3) : f_X1_bound (Int32.ofNat w) v s = some (lawB w v, s) := by
  have : w = 0 ∨ w = 1 ∨ w = 2 := by omega
  rcases this with rfl | rfl | rfl <;> rfl
theorem m_bounded {w : Nat} {v : Int32} {t : Mem} (hw : w < 3) : f_X12_bounded v (loB w) (hiB w) t = some (lawB w v, t) := by
  unfold f_X12_bounded
  have : w = 0 ∨ w = 1 ∨ w = 2 := by omega
  rcases this with rfl | rfl | rfl
  · show (if 1 ≤ v then if v ≤ 99 then some (v, t) else some (99, t) else some (1, t)) = some (jmmax 1 (jmmin 99 v), t)
    unfold jmmax jmmin
    split <;> (try split) <;> (congr 2; grind)
  · show (if 0 ≤ v then if v ≤ 1000 then some (v, t) else some (1000, t) else some (0, t)) = some (jmmax 0 (jmmin 1000 v), t)
    unfold jmmax jmmin
    split <;> (try split) <;> (congr 2; grind)
  · show (if 0 ≤ v then if v ≤ 99 then some (v, t) else some (99, t) else some (0, t)) = some (jmmax 0 (jmmin 99 v), t)
    unfold jmmax jmmin
    split <;> (try split) <;> (congr 2; grind)
def lawD (w : Nat) (f : Nat → Int32) (p : Nat) : Int32 := if w = 0 then 20 - f (4 + p) else if w = 1 then 50 + 20 * f (4 + p) else f (18 + p) / 2
theorem r_tells {n a p w : Nat} {s t t1 : Mem} (h : nS n a s t) (hL : lawR s 10 t) (hp : p < n) (hw : w < 3) (ht : nST t t1) (hF : ∀ j, j < 8 → t1 19 j = fct (t 1) p j) :
    ok2 (f_X1_ask 10 a (Int32.ofNat w) (Int32.ofNat p) s) (f_X12_lawTells (Int32.ofNat w) (lawD w (t 1) p) (loB w) (hiB w) t1) (fun r r' => r.1 = r'.1 ∧ (∃ v, r.1 = lawB w v) ∧ nSX s r.2 ∧ nST t r'.2) := by
  obtain ⟨cnt, sz, hc16, hs4, g1, g2, g3, g4, g5⟩ := hL
  have key : ok2 (it FUEL (fun y => st_X1_ask_3 10 a (Int32.ofNat w) (Int32.ofNat p) y.1 y.2) (0, s)) (it FUEL (fun y => st_X12_lineOf_2 (Int32.ofNat w) y.1 y.2) (0, t1))
      (fun r r' => (∀ c, c ≠ 16 → r.2.2 c = s c) ∧ (∀ c, c ≠ 20 → r'.2.2 c = t1 c) ∧ ((∃ l, l < cnt ∧ r.1 = 0 ∧ r'.1 = 0 ∧ r.2.1 = Int32.ofNat l ∧ r'.2.1 = Int32.ofNat l) ∨ (r.1 = 1 ∧ r'.1 = 1))) := by
    refine it_ok2 16 (by omega) (fun k y y' => k ≤ cnt ∧ y.1 = Int32.ofNat k ∧ y'.1 = Int32.ofNat k ∧ (∀ c, c ≠ 16 → y.2 c = s c) ∧ (∀ c, c ≠ 20 → y'.2 c = t1 c)) ⟨by omega, rfl, rfl, fun _ _ => rfl, fun _ _ => rfl⟩ (fun k y y' q => by omega) ?_
    rintro k ⟨i, s'⟩ ⟨i', t'⟩ ⟨hk, rfl, rfl, hs', ht'⟩
    dsimp only at hs' ht' ⊢
    unfold st_X1_ask_3 st_X12_lineOf_2
    have et : ∀ c, c ≠ 19 → c ≠ 20 → t' c = t c := fun c q1 q2 => (ht' c q2).trans (ht c q1 q2)
    simp only [hs' 10 (by omega), hs' 11 (by omega), hs' 13 (by omega), hs' 14 (by omega), et 7 (by omega) (by omega), et 8 (by omega) (by omega), et 10 (by omega) (by omega), et 11 (by omega) (by omega), g1]
    by_cases hkc : k = cnt
    · subst hkc
      simp (disch := omega) only [rd_N, wr_N, rd_L, wr_L, Option.bind_some, N_le, N_lt, N_eq, N_leL, L_leN, N_ltL, L_ltN, N_eqL, L_eqN, N_neg, neg_N, N_nlt0, N_0le, N_add, N_addL, L_addN, N_mul, N_mulL, L_mulN, N_sub, N_subL, m_eq, m_ne, u_eq, u_ne, if_true, if_false, ite_true, ite_false, if_pos, if_neg, g2]
      exact ok2.some (Or.inr ⟨_, _, rfl, rfl, hs', ht', Or.inr ⟨rfl, rfl⟩⟩)
    · obtain ⟨fr, wh, ti, q1, q2, q3, q4, q5, q6, q7, q8, q9, q10, q11, q12⟩ := g5 k (by omega)
      simp only [show (10 + 1 : Nat) = 11 from rfl, show (10 + 2 : Nat) = 12 from rfl, show (10 + 3 : Nat) = 13 from rfl, show (10 + 4 : Nat) = 14 from rfl, show (10 + 5 : Nat) = 15 from rfl] at q4 q5 q6 q7 q8 q9 q10 q11 q12
      simp (disch := omega) only [rd_N, wr_N, rd_L, wr_L, Option.bind_some, N_le, N_lt, N_eq, N_leL, L_leN, N_ltL, L_ltN, N_eqL, L_eqN, N_neg, neg_N, N_nlt0, N_0le, N_add, N_addL, L_addN, N_mul, N_mulL, L_mulN, N_sub, N_subL, m_eq, m_ne, u_eq, u_ne, if_true, if_false, ite_true, ite_false, if_pos, if_neg, g2, q4, q7, q8, q9, q10]
      by_cases hwd : t 8 k = Int32.ofNat w
      · simp only [hwd, if_true]
        by_cases hwt : wh = ti
        · subst hwt
          simp (disch := omega) only [rd_N, wr_N, rd_L, wr_L, Option.bind_some, N_le, N_lt, N_eq, N_leL, L_leN, N_ltL, L_ltN, N_eqL, L_eqN, N_neg, neg_N, N_nlt0, N_0le, N_add, N_addL, L_addN, N_mul, N_mulL, L_mulN, N_sub, N_subL, m_eq, m_ne, u_eq, u_ne, if_true, if_false, ite_true, ite_false, if_pos, if_neg]
          exact ok2.some (Or.inr ⟨_, _, rfl, rfl, hs', ht', Or.inl ⟨k, by omega, rfl, rfl, rfl, rfl⟩⟩)
        · simp (disch := omega) only [rd_N, wr_N, rd_L, wr_L, Option.bind_some, N_le, N_lt, N_eq, N_leL, L_leN, N_ltL, L_ltN, N_eqL, L_eqN, N_neg, neg_N, N_nlt0, N_0le, N_add, N_addL, L_addN, N_mul, N_mulL, L_mulN, N_sub, N_subL, m_eq, m_ne, u_eq, u_ne, if_true, if_false, ite_true, ite_false, if_pos, if_neg]
          obtain ⟨v, hv⟩ := q12 (by omega) (fct (t 1) p)
          have hx : nS n a s' t := nS_scr h (fun c q _ => hs' c q) nST.refl
          have xv := x_value (fr := wh) (to := ti) hx ((congrFun (hs' 10 (by omega)) 1).trans g3) q3 hs4 hp q2 (by omega) (by rw [hs' 15 (by omega)]; exact hv)
          have mv := m_runs (F := fct (t 1) p) (f := s 15) (fr := wh) (to := ti) (t := t') (fun j hj => by rw [ht' 19 (by omega)]; exact hF j hj) (fun i hi => by rw [et 12 (by omega) (by omega), et 13 (by omega) (by omega)]; exact g4 i (by omega)) q2 (by omega) hv
          refine ok2.left xv ?_
          rintro ⟨v1, s''⟩ ⟨e1, f1⟩
          refine ok2.right mv ?_
          rintro ⟨v2, t''⟩ ⟨e2, f2⟩
          dsimp only at e1 e2 f1 f2 ⊢
          subst e1 e2
          by_cases hv0 : v2 = 0
          · simp only [hv0, if_true]
            exact ok2.some (Or.inl ⟨_, _, rfl, rfl, by omega, rfl, rfl, fun c q => (f1 c q).trans (hs' c q), fun c q => (f2 c q).trans (ht' c q)⟩)
          · simp only [hv0, if_false]
            exact ok2.some (Or.inr ⟨_, _, rfl, rfl, fun c q => (f1 c q).trans (hs' c q), fun c q => (f2 c q).trans (ht' c q), Or.inl ⟨k, by omega, rfl, rfl, rfl, rfl⟩⟩)
      · simp only [hwd, if_false]
        exact ok2.some (Or.inl ⟨_, _, rfl, rfl, by omega, rfl, rfl, hs', ht'⟩)
  unfold f_X1_ask f_X12_lawTells f_X12_lineOf
  obtain ⟨⟨b, l0, s'⟩, ⟨b', l0', t'⟩, e1, e2, f1, f2, hq⟩ := key
  rw [e1, e2]
  dsimp only [Option.bind_some] at f1 f2 hq ⊢
  have et : ∀ c, c ≠ 19 → c ≠ 20 → t' c = t c := fun c q1 q2 => (f2 c q2).trans (ht c q1 q2)
  rcases hq with ⟨l, hl, rfl, rfl, rfl, rfl⟩ | ⟨rfl, rfl⟩
  · obtain ⟨fr, wh, ti, q1, q2, q3, q4, q5, q6, q7, q8, q9, q10, q11, q12⟩ := g5 l (by omega)
    simp only [show (10 + 1 : Nat) = 11 from rfl, show (10 + 2 : Nat) = 12 from rfl, show (10 + 3 : Nat) = 13 from rfl, show (10 + 4 : Nat) = 14 from rfl, show (10 + 5 : Nat) = 15 from rfl] at q4 q5 q6 q7 q8 q9 q10 q11 q12
    obtain ⟨v, hv⟩ := q11 (fct (t 1) p)
    have hx : nS n a s' t := nS_scr h (fun c q _ => f1 c q) nST.refl
    unfold jn_X1_ask_63
    simp (disch := omega) only [rd_N, wr_N, rd_L, wr_L, Option.bind_some, N_le, N_lt, N_eq, N_leL, L_leN, N_ltL, L_ltN, N_eqL, L_eqN, N_neg, neg_N, N_nlt0, N_0le, N_add, N_addL, L_addN, N_mul, N_mulL, L_mulN, N_sub, N_subL, m_eq, m_ne, u_eq, u_ne, if_true, if_false, ite_true, ite_false, if_pos, if_neg, f1 12 (by omega), f1 13 (by omega), q5, q7, et 9 (by omega) (by omega), et 10 (by omega) (by omega), q6, q8]
    have xv := x_value (fr := fr) (to := wh) hx ((congrFun (f1 10 (by omega)) 1).trans g3) (by omega) hs4 hp q1 (by omega) (by rw [f1 15 (by omega)]; exact hv)
    have mv := m_runs (F := fct (t 1) p) (f := s 15) (fr := fr) (to := wh) (t := t') (fun j hj => by rw [f2 19 (by omega)]; exact hF j hj) (fun i hi => by rw [et 12 (by omega) (by omega), et 13 (by omega) (by omega)]; exact g4 i (by omega)) q1 (by omega) hv
    refine ok2.left xv ?_
    rintro ⟨v1, s''⟩ ⟨e1, f3⟩
    refine ok2.right mv ?_
    rintro ⟨v2, t''⟩ ⟨e2, f4⟩
    dsimp only at e1 e2 f3 f4 ⊢
    subst e1 e2
    unfold jn_X12_lawTells_37
    rw [x_bound hw, m_bounded hw]
    exact ok2.some ⟨rfl, ⟨_, rfl⟩, fun c h1 h2 => (f3 c h1).trans (f1 c h1), fun c h1 h2 => (f4 c h2).trans (et c h1 h2)⟩
  · have hx : nS n a s' t := nS_scr h (fun c q _ => f1 c q) nST.refl
    have hn := h.1.2.1
    obtain ⟨r1, r2, -⟩ := hx.2.1.2 p hp
    unfold jn_X12_lawTells_37
    rw [if_neg (by decide)]
    simp only [if_neg (show ¬ (1 : Nat) = 0 by decide), if_true, m_bounded hw]
    have hw3 : w = 0 ∨ w = 1 ∨ w = 2 := by omega
    have fin : ∀ r, ok2 (some (r, s')) ((some (lawB w (lawD w (t 1) p), t')).bind fun r6 => some (r6.1, r6.2)) (fun r r' => r.1 = r'.1 ∧ (∃ v, r.1 = lawB w v) ∧ nSX s r.2 ∧ nST t r'.2) ↔ r = lawB w (lawD w (t 1) p) := by
      intro r
      constructor
      · rintro ⟨_, _, e1, e2, e3, -⟩
        cases e1; cases e2
        exact e3
      · rintro rfl
        exact ok2.some ⟨rfl, ⟨_, rfl⟩, fun c h1 h2 => f1 c h1, fun c h1 h2 => et c h1 h2⟩
    rcases hw3 with rfl | rfl | rfl
    · simp (disch := omega) only [rd_N, wr_N, rd_L, wr_L, Option.bind_some, N_le, N_lt, N_eq, N_leL, L_leN, N_ltL, L_ltN, N_eqL, L_eqN, N_neg, neg_N, N_nlt0, N_0le, N_add, N_addL, L_addN, N_mul, N_mulL, L_mulN, N_sub, N_subL, m_eq, m_ne, u_eq, u_ne, if_true, if_false, ite_true, ite_false, if_pos, if_neg, r1]
      rw [show ((0 : Int32)) = Int32.ofNat 0 from rfl, x_bound (by omega)]
      exact (fin _).mpr rfl
    · simp (disch := omega) only [rd_N, wr_N, rd_L, wr_L, Option.bind_some, N_le, N_lt, N_eq, N_leL, L_leN, N_ltL, L_ltN, N_eqL, L_eqN, N_neg, neg_N, N_nlt0, N_0le, N_add, N_addL, L_addN, N_mul, N_mulL, L_mulN, N_sub, N_subL, m_eq, m_ne, u_eq, u_ne, if_true, if_false, ite_true, ite_false, if_pos, if_neg, r1]
      rw [show ((1 : Int32)) = Int32.ofNat 1 from rfl, x_bound (by omega)]
      exact (fin _).mpr rfl
    · simp (disch := omega) only [rd_N, wr_N, rd_L, wr_L, Option.bind_some, N_le, N_lt, N_eq, N_leL, L_leN, N_ltL, L_ltN, N_eqL, L_eqN, N_neg, neg_N, N_nlt0, N_0le, N_add, N_addL, L_addN, N_mul, N_mulL, L_mulN, N_sub, N_subL, m_eq, m_ne, u_eq, u_ne, if_true, if_false, ite_true, ite_false, if_pos, if_neg, r2]
      rw [show ((2 : Int32)) = Int32.ofNat 2 from rfl, x_bound (by omega)]
      exact (fin _).mpr rfl
