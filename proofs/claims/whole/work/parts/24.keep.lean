/-! ===== keeping a lane, going back ===== -/
def cpM (t : Mem) (A oa B ob m : Nat) : Mem := fun c j => if c = B ∧ ob ≤ j ∧ j < ob + m then t A (oa + (j - ob)) else t c j
theorem cpM_0 {t : Mem} {A oa B ob : Nat} : cpM t A oa B ob 0 = t := by
  funext c j
  unfold cpM
  rw [if_neg (by omega)]
theorem cpM_succ {t : Mem} {A oa B ob k : Nat} : mset (cpM t A oa B ob k) B (ob + k) (t A (oa + k)) = cpM t A oa B ob (k + 1) := by
  funext c j
  by_cases hc : c = B
  · subst hc
    rw [m_eq]
    by_cases hj : j = ob + k
    · subst hj
      rw [u_eq]
      unfold cpM
      rw [if_pos (by omega)]
      congr 1
      omega
    · rw [u_ne hj]
      unfold cpM
      by_cases h1 : ob ≤ j ∧ j < ob + k
      · rw [if_pos (by omega), if_pos (by omega)]
      · rw [if_neg (by omega), if_neg (by omega)]
  · rw [m_ne hc]
    unfold cpM
    rw [if_neg (by omega), if_neg (by omega)]
theorem cpM_rd {t : Mem} {A oa B ob k : Nat} (h : A ≠ B ∨ ob ≤ oa) : cpM t A oa B ob k A (oa + k) = t A (oa + k) := by
  unfold cpM
  rw [if_neg (by omega)]
theorem cpM_ne {t : Mem} {A oa B ob k c : Nat} (h : c ≠ B) : cpM t A oa B ob k c = t c := by
  funext j
  unfold cpM
  rw [if_neg (by omega)]
theorem cpM_in {t : Mem} {A oa B ob m j : Nat} (h : j < m) : cpM t A oa B ob m B (ob + j) = t A (oa + j) := by
  unfold cpM
  rw [if_pos (by omega), show ob + j - ob = j by omega]
theorem cpM_out {t : Mem} {A oa B ob m j : Nat} (h : j < ob ∨ ob + m ≤ j) : cpM t A oa B ob m B j = t B j := by
  unfold cpM
  rw [if_neg (by omega)]
/-- a lane copied -/
theorem x_copy {s : Mem} {d e n : Nat} (hde : d + 7 < e ∨ e + 7 < d) (hn : n ≤ 14) (h1 : s e 1 = Int32.ofNat n) :
    ∃ s', f_X0_copyFrom d e s = some s' ∧ (∀ c, (c < d ∨ d + 7 < c) → s' c = s c) ∧ s' d 0 = s d 0 ∧ (s' d 1 = Int32.ofNat n ∧ s' d 9 = s e 9 ∧ s' d 10 = s e 10 ∧ s' d 11 = s e 11 ∧ s' d 12 = s e 12) ∧ ∀ i, i < n → s' (d + 1) i = s (e + 1) i ∧ s' (d + 2) i = s (e + 2) i ∧ s' (d + 3) i = s (e + 3) i ∧ s' (d + 4) i = s (e + 4) i ∧ s' (d + 5) i = s (e + 5) i ∧ s' (d + 6) i = s (e + 6) i ∧ s' (d + 7) i = s (e + 7) i := by
  have key : ok (it FUEL (fun y => st_X0_copyFrom_10 d e y.1 y.2) (0, mset s d 1 (s e 1))) (fun s' => (∀ c, (c < d ∨ d + 7 < c) → s' c = s c) ∧ s' d = upd (s d) 1 (Int32.ofNat n) ∧ ∀ i, i < n → s' (d + 1) i = s (e + 1) i ∧ s' (d + 2) i = s (e + 2) i ∧ s' (d + 3) i = s (e + 3) i ∧ s' (d + 4) i = s (e + 4) i ∧ s' (d + 5) i = s (e + 5) i ∧ s' (d + 6) i = s (e + 6) i ∧ s' (d + 7) i = s (e + 7) i) := by
    refine it_ok1 14 (by omega) (fun k y => ∃ s', y = (Int32.ofNat k, s') ∧ k ≤ n ∧ (∀ c, (c < d ∨ d + 7 < c) → s' c = s c) ∧ s' d = upd (s d) 1 (Int32.ofNat n) ∧ ∀ i, i < k → s' (d + 1) i = s (e + 1) i ∧ s' (d + 2) i = s (e + 2) i ∧ s' (d + 3) i = s (e + 3) i ∧ s' (d + 4) i = s (e + 4) i ∧ s' (d + 5) i = s (e + 5) i ∧ s' (d + 6) i = s (e + 6) i ∧ s' (d + 7) i = s (e + 7) i)
      ⟨_, rfl, by omega, fun c hc => m_ne (by omega), by rw [m_eq, h1], fun i hi => by omega⟩ (fun k y q => by obtain ⟨_, _, q, _⟩ := q; omega) ?_
    rintro k y ⟨s', rfl, hk, hf, hd, hi⟩
    dsimp only
    unfold st_X0_copyFrom_10
    simp only [hd, u_eq]
    by_cases hkn : k = n
    · subst hkn
      rw [if_pos (by rw [N_le (by omega) (by omega)]; omega)]
      exact Or.inr ⟨_, rfl, hf, hd, hi⟩
    · rw [if_neg (by rw [N_le (by omega) (by omega)]; omega)]
      have ef : ∀ f, f < 8 → s' (e + f) = s (e + f) := fun f hf' => hf (e + f) (by omega)
      simp (disch := omega) only [rd_N, wr_N, Option.bind_some, m_eq, m_ne, N_addL, ef]
      refine Or.inl ⟨_, rfl, _, rfl, by omega, fun c hc => ?_, ?_, fun i hik => ?_⟩
      · simp (disch := omega) only [m_ne]
        exact hf c hc
      · simp (disch := omega) only [m_ne]
        exact hd
      · by_cases hik2 : i = k
        · subst hik2
          simp (disch := omega) only [m_ne, m_eq, u_eq, and_self]
        · simp (disch := omega) only [m_ne, m_eq, u_ne]
          exact hi i (by omega)
  unfold f_X0_copyFrom
  obtain ⟨s', e1, hf, hd, hi⟩ := key
  rw [e1]
  dsimp only [Option.bind_some]
  have ee : s' e = s e := hf e (by omega)
  refine ⟨_, rfl, fun c hc => ?_, ?_, ⟨?_, ?_, ?_, ?_, ?_⟩, fun i hin => ?_⟩
  · simp (disch := omega) only [m_ne]
    exact hf c hc
  · simp (disch := omega) only [m_ne, m_eq, u_ne, hd]
  · simp (disch := omega) only [m_ne, m_eq, u_ne, hd, u_eq]
  · simp (disch := omega) only [m_ne, m_eq, u_ne, u_eq, ee]
  · simp (disch := omega) only [m_ne, m_eq, u_ne, u_eq, ee]
  · simp (disch := omega) only [m_ne, m_eq, u_ne, u_eq, ee]
  · simp (disch := omega) only [m_ne, m_eq, u_ne, u_eq, ee]
  · simp (disch := omega) only [m_ne]
    exact hi i hin
theorem nR_copy {n d e : Nat} {s : Mem} {w : Nat → Int32} (hde : d + 7 < e ∨ e + 7 < d) (hn : n ≤ 14) (h : nR n s e w) : ∃ s', f_X0_copyFrom d e s = some s' ∧ (∀ c, (c < d ∨ d + 7 < c) → s' c = s c) ∧ s' d 0 = s d 0 ∧ nR n s' d w := by
  obtain ⟨⟨g1, g2, g3, g4, g5⟩, h2⟩ := h
  obtain ⟨s', e1, e2, e3, ⟨e4, e5, e6, e7, e8⟩, e9⟩ := x_copy (d := d) hde hn g1
  refine ⟨s', e1, e2, e3, ⟨e4, e5.trans g2, e6.trans g3, e7.trans g4, e8.trans g5⟩, fun i hi => ?_⟩
  obtain ⟨q1, q2, q3, q4, q5, q6, q7⟩ := e9 i hi
  obtain ⟨p1, p2, p3, p4, p5, p6, p7⟩ := h2 i hi
  exact ⟨q1.trans p1, q2.trans p2, q3.trans p3, q4.trans p4, q5.trans p5, q6.trans p6, q7.trans p7⟩
theorem nR_eq {n d : Nat} {s s' : Mem} {w w' : Nat → Int32} (h : nR n s d w) (hs : ∀ f, f < 8 → s' (d + f) = s (d + f)) (hw : ∀ j, j < 102 → w' j = w j) (hn : n ≤ 14) : nR n s' d w' := by
  obtain ⟨⟨g1, g2, g3, g4, g5⟩, h2⟩ := h
  have e0 : s' d = s d := hs 0 (by omega)
  refine ⟨⟨by rw [e0, g1], by rw [e0, g2, hw _ (by omega)], by rw [e0, g3, hw _ (by omega)], by rw [e0, g4, hw _ (by omega)], by rw [e0, g5, hw _ (by omega)]⟩, fun i hi => ?_⟩
  rw [hs 1 (by omega), hs 2 (by omega), hs 3 (by omega), hs 4 (by omega), hs 5 (by omega), hs 6 (by omega), hs 7 (by omega), hw _ (by omega), hw _ (by omega), hw _ (by omega), hw _ (by omega), hw _ (by omega), hw _ (by omega), hw _ (by omega)]
  exact h2 i hi
theorem nB_eq {n : Nat} {w w' : Nat → Int32} (h : nB n w) (hw : ∀ j, j < 102 → w' j = w j) (hn : n ≤ 14) : nB n w' := by
  obtain ⟨h1, h2⟩ := h
  refine ⟨by rw [hw _ (by omega), hw _ (by omega)]; exact h1, fun i hi => ?_⟩
  rw [hw _ (by omega), hw _ (by omega), hw _ (by omega), hw _ (by omega)]
  exact h2 i hi
theorem nC_eq {n : Nat} {w w' : Nat → Int32} (h : nC n w) (hw : ∀ j, j < 102 → w' j = w j) (hn : n ≤ 14) : nC n w' := nC_same h (fun j _ h2 => hw j (by omega)) hn
/-- a kept lane -/
def kepR (n : Nat) (s : Mem) (a : Nat) (w : Nat → Int32) : Prop := nR n s a w ∧ nB n w ∧ nC n w ∧ w 0 ≤ 9999
theorem kepR_eq {n d : Nat} {s s' : Mem} {w w' : Nat → Int32} (h : kepR n s d w) (hs : ∀ f, f < 8 → s' (d + f) = s (d + f)) (hw : ∀ j, j < 102 → w' j = w j) (hn : n ≤ 14) : kepR n s' d w' :=
  ⟨nR_eq h.1 hs hw hn, nB_eq h.2.1 hw hn, nC_eq h.2.2.1 hw hn, by rw [hw 0 (by omega)]; exact h.2.2.2⟩
def pastR (n : Nat) (s t : Mem) : Prop :=
  ∃ c nx : Nat, c ≤ 6 ∧ nx < 6 ∧ s 0 5 = Int32.ofNat c ∧ s 0 6 = Int32.ofNat nx ∧ t 0 3 = Int32.ofNat c ∧ ∀ u, u < c → kepR n s (124 + 8 * ((nx + 6 - c + u) % 6)) (fun j => t 2 (102 * u + j))
theorem pastR_0 {n : Nat} {s t : Mem} (h : pastR n s t) : pastR n (mset s 0 5 0) (mset t 0 3 0) := by
  obtain ⟨c, nx, h1, h2, h3, h4, h5, h6⟩ := h
  refine ⟨0, nx, by omega, h2, by rw [m_eq, u_eq]; rfl, by rw [m_eq, u_ne (by omega)]; exact h4, by rw [m_eq, u_eq]; rfl, fun u hu => by omega⟩
theorem pastR_eq {n : Nat} {s s' t t' : Mem} (h : pastR n s t) (hn : n ≤ 14) (hs : ∀ c, 124 ≤ c → c < 172 → s' c = s c) (e5 : s' 0 5 = s 0 5) (e6 : s' 0 6 = s 0 6) (ht : t' 2 = t 2) (e3 : t' 0 3 = t 0 3) : pastR n s' t' := by
  obtain ⟨c, nx, h1, h2, h3, h4, h5, h6⟩ := h
  refine ⟨c, nx, h1, h2, e5.trans h3, e6.trans h4, e3.trans h5, fun u hu => ?_⟩
  refine kepR_eq (h6 u hu) (fun f hf => hs _ (by omega) (by omega)) (fun j hj => by rw [ht]) hn
theorem rdq_past {nx : Nat} (h : nx < 6) : rdq 6 123 (Int32.ofNat nx) = some (124 + 8 * nx) := by
  have : nx = 0 ∨ nx = 1 ∨ nx = 2 ∨ nx = 3 ∨ nx = 4 ∨ nx = 5 := by omega
  rcases this with rfl | rfl | rfl | rfl | rfl | rfl <;> decide +kernel
theorem m_keep55 {t : Mem} {u : Nat} (hu : u < 6) (h : t 0 3 = Int32.ofNat u) : f_X12_keepsAhead t = some (mset (cpM t 1 0 2 (102 * u) 102) 0 3 (Int32.ofNat (u + 1))) := by
  unfold f_X12_keepsAhead
  rw [if_neg (by rw [h, N_eqL (by omega) (by omega)]; omega)]
  unfold jn_X12_keepsAhead_53
  have e := it_go (f := fun y => st_X12_keepsAhead_55 y.1 y.2) (fun k => (Int32.ofNat k, cpM t 1 0 2 (102 * u) k)) 102 (cpM t 1 0 2 (102 * u) 102) (by omega) (fun k hk => by
    dsimp only
    unfold st_X12_keepsAhead_55
    rw [if_neg (by rw [L_leN (by omega) (by omega)]; omega)]
    have e1 : cpM t 1 0 2 (102 * u) k 0 3 = Int32.ofNat u := by rw [cpM_ne (by omega), h]
    have e2 : cpM t 1 0 2 (102 * u) k 1 k = t 1 (0 + k) := by rw [cpM_ne (by omega), Nat.zero_add]
    simp (disch := omega) only [e1, rd_N, e2, Option.bind_some, L_mulN, N_add, wr_N, N_addL]
    rw [cpM_succ]) (by
    dsimp only
    unfold st_X12_keepsAhead_55
    rw [if_pos (by decide)])
  rw [cpM_0] at e
  have e' : it FUEL (fun y => st_X12_keepsAhead_55 y.1 y.2) ((0 : Int32), t) = some (cpM t 1 0 2 (102 * u) 102) := e
  rw [e']
  dsimp only [Option.bind_some]
  rw [cpM_ne (by omega), h, N_addL]
theorem m_keep6 {t : Mem} (h : t 0 3 = Int32.ofNat 6) : f_X12_keepsAhead t = f_X12_keepsAhead (cpM (mset t 0 3 (Int32.ofNat 5)) 2 102 2 0 510) := by
  have h2 : (cpM (mset t 0 3 (Int32.ofNat 5)) 2 102 2 0 510) 0 3 = Int32.ofNat 5 := by rw [cpM_ne (by omega), m_eq, u_eq]
  have e0 : f_X12_keepsAhead (cpM (mset t 0 3 (Int32.ofNat 5)) 2 102 2 0 510) = jn_X12_keepsAhead_53 (cpM (mset t 0 3 (Int32.ofNat 5)) 2 102 2 0 510) := by
    unfold f_X12_keepsAhead
    rw [if_neg (by rw [h2]; decide)]
  rw [e0]
  unfold f_X12_keepsAhead
  rw [if_pos (by rw [h]; rfl)]
  have e := it_go (f := fun y => st_X12_keepsAhead_21 y.1 y.2) (fun k => (Int32.ofNat k, cpM (mset t 0 3 (Int32.ofNat 5)) 2 102 2 0 k)) 510 (cpM (mset t 0 3 (Int32.ofNat 5)) 2 102 2 0 510) (by omega) (fun k hk => by
    dsimp only
    unfold st_X12_keepsAhead_21
    have e1 : cpM (mset t 0 3 (Int32.ofNat 5)) 2 102 2 0 k 0 3 = Int32.ofNat 5 := by rw [cpM_ne (by omega), m_eq, u_eq]
    rw [e1, if_neg (by rw [L_mulN, N_le (by omega) (by omega)]; omega)]
    have e2 : cpM (mset t 0 3 (Int32.ofNat 5)) 2 102 2 0 k 2 (k + 102) = mset t 0 3 (Int32.ofNat 5) 2 (102 + k) := by rw [Nat.add_comm k 102, cpM_rd (by omega)]
    simp (disch := omega) only [rd_N, e2, Option.bind_some, N_addL, wr_N]
    have e3 := cpM_succ (t := mset t 0 3 (Int32.ofNat 5)) (A := 2) (oa := 102) (B := 2) (ob := 0) (k := k)
    rw [Nat.zero_add] at e3
    rw [e3]) (by
    dsimp only
    unfold st_X12_keepsAhead_21
    have e1 : cpM (mset t 0 3 (Int32.ofNat 5)) 2 102 2 0 510 0 3 = Int32.ofNat 5 := by rw [cpM_ne (by omega), m_eq, u_eq]
    rw [e1, if_pos (by decide)])
  rw [cpM_0] at e
  have e' : it FUEL (fun y => st_X12_keepsAhead_21 y.1 y.2) ((0 : Int32), mset t 0 3 (t 0 3 - 1)) = some (cpM (mset t 0 3 (Int32.ofNat 5)) 2 102 2 0 510) := by
    rw [h]
    exact e
  rw [e']
  dsimp only [Option.bind_some]
theorem r_keep {n : Nat} {s t : Mem} (h : nS n 2 s t) (hC : nC n (t 1)) (hm : t 1 0 ≤ 9999) (hP : pastR n s t) :
    ∃ s' t', f_X11_keep s = some s' ∧ f_X12_keepsAhead t = some t' ∧ pastR n s' t' ∧ (∀ c, (c < 124 ∨ 172 ≤ c) → c ≠ 0 → s' c = s c) ∧ (∀ j, j ≠ 5 → j ≠ 6 → s' 0 j = s 0 j) ∧ (∀ c, c ≠ 2 → c ≠ 0 → t' c = t c) ∧ ∀ j, j ≠ 3 → t' 0 j = t 0 j := by
  have hn := h.1.2.1
  obtain ⟨c, nx, h1, h2, h3, h4, h5, h6⟩ := hP
  obtain ⟨s1, e1, f1, f2, R1⟩ := nR_copy (d := 124 + 8 * nx) (e := 2) (by omega) hn h.2.1
  have hnow : kepR n s1 (124 + 8 * nx) (t 1) := ⟨R1, h.2.2.1, hC, hm⟩
  have e0 : s1 0 = s 0 := f1 0 (by omega)
  have X : ∃ s', f_X11_keep s = some s' ∧ s' 0 5 = Int32.ofNat (if c = 6 then 6 else c + 1) ∧ s' 0 6 = Int32.ofNat (if nx = 5 then 0 else nx + 1) ∧ (∀ d, d ≠ 0 → s' d = s1 d) ∧ (∀ j, j ≠ 5 → j ≠ 6 → s' 0 j = s 0 j) := by
    unfold f_X11_keep
    rw [h4, rdq_past h2]
    dsimp only [Option.bind_some]
    rw [e1]
    dsimp only [Option.bind_some]
    have fin : ∀ v, ∃ s', jn_X11_keep_38 v s1 = some s' ∧ s' 0 5 = Int32.ofNat (if c = 6 then 6 else c + 1) ∧ s' 0 6 = v ∧ (∀ d, d ≠ 0 → s' d = s1 d) ∧ (∀ j, j ≠ 5 → j ≠ 6 → s' 0 j = s 0 j) := by
      intro v
      unfold jn_X11_keep_38
      have ec : jmmin 6 (Int32.ofNat c + 1) = Int32.ofNat (if c = 6 then 6 else c + 1) := by
        unfold jmmin
        simp (disch := omega) only [N_addL, N_ltL]
        by_cases h9 : c = 6
        · subst h9; rfl
        · rw [if_neg h9]
          by_cases h8 : c + 1 < 6
          · rw [if_pos h8]
          · rw [if_neg h8, show c = 5 by omega]; rfl
      refine ⟨_, rfl, ?_, ?_, fun d hd => ?_, fun j q1 q2 => ?_⟩
      · simp (disch := omega) only [m_eq, m_ne, u_eq, u_ne, e0, h3, ec]
      · simp (disch := omega) only [m_eq, m_ne, u_eq, u_ne]
      · simp (disch := omega) only [m_ne]
      · simp (disch := omega) only [m_eq, m_ne, u_eq, u_ne, e0]
    simp only [e0, h4]
    by_cases h9 : nx = 5
    · subst h9
      rw [if_pos rfl]
      exact fin _
    · rw [if_neg (by rw [N_eqL (by omega) (by omega)]; exact h9), N_addL]
      simp only [if_neg h9]
      exact fin _
  obtain ⟨s', g1, g2, g3, g4, g5⟩ := X
  by_cases hc : c = 6
  · subst hc
    have M1 := m_keep6 h5
    have hu : (cpM (mset t 0 3 (Int32.ofNat 5)) 2 102 2 0 510) 0 3 = Int32.ofNat 5 := by rw [cpM_ne (by omega), m_eq, u_eq]
    rw [m_keep55 (by omega) hu] at M1
    refine ⟨s', _, g1, M1, ?_, fun d q1 q2 => (g4 d q2).trans (f1 d (by omega)), g5, fun d q1 q2 => ?_, fun j q => ?_⟩
    · refine ⟨6, if nx = 5 then 0 else nx + 1, by omega, by split <;> omega, g2, g3, ?_, fun u hu => ?_⟩
      · rw [m_eq, u_eq]
      · have hw : ∀ j, j < 102 → (mset (cpM (cpM (mset t 0 3 (Int32.ofNat 5)) 2 102 2 0 510) 1 0 2 (102 * 5) 102) 0 3 (Int32.ofNat (5 + 1))) 2 (102 * u + j) = if u = 5 then t 1 j else t 2 (102 * (u + 1) + j) := by
          intro j hj
          rw [m_ne (by omega)]
          by_cases h9 : u = 5
          · subst h9
            rw [cpM_in hj, if_pos rfl, cpM_ne (by omega), m_ne (by omega), Nat.zero_add]
          · rw [cpM_out (by omega), if_neg h9]
            have := cpM_in (t := mset t 0 3 (Int32.ofNat 5)) (A := 2) (oa := 102) (B := 2) (ob := 0) (m := 510) (j := 102 * u + j) (by omega)
            rw [Nat.zero_add] at this
            rw [this, m_ne (by omega), show 102 + (102 * u + j) = 102 * (u + 1) + j by omega]
        by_cases h9 : u = 5
        · subst h9
          have es : ((if nx = 5 then 0 else nx + 1) + 6 - 6 + 5) % 6 = nx := by split <;> omega
          rw [es]
          exact kepR_eq hnow (fun f hf => g4 _ (by omega)) (fun j hj => by rw [hw j hj, if_pos rfl]) hn
        · have es : ((if nx = 5 then 0 else nx + 1) + 6 - 6 + u) % 6 = (nx + 6 - 6 + (u + 1)) % 6 := by split <;> omega
          rw [es]
          have hne : (nx + 6 - 6 + (u + 1)) % 6 ≠ nx := by omega
          refine kepR_eq (h6 (u + 1) (by omega)) (fun f hf => (g4 _ (by omega)).trans (f1 _ (by omega))) (fun j hj => by rw [hw j hj, if_neg h9]) hn
    · rw [m_ne q2, cpM_ne q1, cpM_ne q1, m_ne q2]
    · rw [m_eq, u_ne q, cpM_ne (by omega), cpM_ne (by omega), m_eq, u_ne q]
  · have M1 := m_keep55 (u := c) (by omega) h5
    simp only [if_neg hc] at g2
    refine ⟨s', _, g1, M1, ?_, fun d q1 q2 => (g4 d q2).trans (f1 d (by omega)), g5, fun d q1 q2 => ?_, fun j q => ?_⟩
    · refine ⟨c + 1, if nx = 5 then 0 else nx + 1, by omega, by split <;> omega, g2, g3, ?_, fun u hu => ?_⟩
      · rw [m_eq, u_eq]
      · have hw : ∀ j, j < 102 → (mset (cpM t 1 0 2 (102 * c) 102) 0 3 (Int32.ofNat (c + 1))) 2 (102 * u + j) = if u = c then t 1 j else t 2 (102 * u + j) := by
          intro j hj
          rw [m_ne (by omega)]
          by_cases h9 : u = c
          · subst h9
            rw [cpM_in hj, if_pos rfl, Nat.zero_add]
          · rw [cpM_out (by omega), if_neg h9]
        by_cases h9 : u = c
        · subst h9
          have es : ((if nx = 5 then 0 else nx + 1) + 6 - (u + 1) + u) % 6 = nx := by split <;> omega
          rw [es]
          exact kepR_eq hnow (fun f hf => g4 _ (by omega)) (fun j hj => by rw [hw j hj, if_pos rfl]) hn
        · have es : ((if nx = 5 then 0 else nx + 1) + 6 - (c + 1) + u) % 6 = (nx + 6 - c + u) % 6 := by split <;> omega
          rw [es]
          have hne : (nx + 6 - c + u) % 6 ≠ nx := by omega
          exact kepR_eq (h6 u (by omega)) (fun f hf => (g4 _ (by omega)).trans (f1 _ (by omega))) (fun j hj => by rw [hw j hj, if_neg h9]) hn
    · rw [m_ne q2, cpM_ne q1]
    · rw [m_eq, u_ne q, cpM_ne (by omega)]
