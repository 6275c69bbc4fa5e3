/-! ===== words, here and in the reference ===== -/
def cwT : List Nat := [0, 1, 2, 11, 12, 13, 14, 3, 4, 5, 6, 7, 8, 9, 10, 15, 16, 17, 18, 19, 20, 21, 22]
def ckT : List Nat := [4, 10, 17, 73, 76, 80, 84, 23, 30, 36, 42, 48, 56, 61, 68, 87, 94, 100, 107, 114, 120, 126, 131]
def rsT : List Nat := [0, 5, 11, 18, 23, 26, 30, 34, 40, 47, 53, 59, 65, 73, 78, 85, 88, 95, 101, 108, 115, 121, 127, 132]
def cw (q : Nat) : Nat := cwT.getD q 0
def ckp (q : Nat) : Nat := ckT.getD q 0
def rsp (q : Nat) : Nat := rsT.getD q 0
def wcn : Nat → Nat
  | 0 => 0
  | k + 1 => if byF 0 k = 32 then wcn k + 1 else wcn k
def wst : Nat → Nat
  | 0 => 0
  | k + 1 => if byF 0 k = 32 then k + 1 else wst k
theorem wst_le : ∀ k, wst k ≤ k
  | 0 => Nat.le_refl _
  | k + 1 => by
    have := wst_le k
    unfold wst
    split <;> omega
theorem wcn_le : ∀ k, wcn k ≤ k
  | 0 => Nat.le_refl _
  | k + 1 => by
    have := wcn_le k
    unfold wcn
    split <;> omega
theorem byT : ∀ k, k < 132 → (i2c (byF 0 k &&& 255) = byF 0 k ∧ vp_nar .char (byF 0 k) = byF 0 k) := by decide +kernel
theorem rsp_ok : ∀ q, q < 23 → rsp q + 1 < rsp (q + 1) ∧ rsp (q + 1) ≤ 132 ∧ wordM.getD (rsp (q + 1)) 0 = 32 ∧ ∀ j, j < 8 → rsp q + 1 + j < rsp (q + 1) → wordM.getD (rsp q + 1 + j) 0 ≠ 32 := by decide +kernel
theorem rsp_w : ∀ q, q < 23 → rsp (q + 1) ≤ rsp q + 8 := by decide +kernel
theorem ckp_ok : ∀ q, q < 23 → ckp q < 132 ∧ byF 0 (ckp q) = 32 ∧ wcn (ckp q) = cw q ∧ ckp q - wst (ckp q) = rsp (q + 1) - rsp q - 1 ∧ ∀ i, i < 8 → i < rsp (q + 1) - rsp q - 1 → byF 0 (wst (ckp q) + i) = wordM.getD (rsp q + 1 + i) 0 := by decide +kernel
theorem ckp_all : ∀ k, k < 132 → byF 0 k = 32 → ∃ q, q < 23 ∧ k = ckp q := by decide +kernel
theorem cw_lt : ∀ q, q < 23 → cw q < 23 := by decide +kernel
theorem cw_inj : ∀ q, q < 23 → ∀ q', q' < 23 → cw q = cw q' → q = q' := by decide +kernel
def unlike (q q' : Nat) : Bool := rsp (q + 1) - rsp q != rsp (q' + 1) - rsp q' || (List.range 8).any (fun i => decide (i < rsp (q + 1) - rsp q - 1) && decide (wordM.getD (rsp q + 1 + i) 0 ≠ wordM.getD (rsp q' + 1 + i) 0))
theorem words_unlike : ∀ q, q < 23 → ∀ q', q' < 23 → q = q' ∨ unlike q q' = true := by decide +kernel
/-- the tape from a to e is the reference's word q -/
def hitR (f : Nat → Int32) (a e q : Nat) : Prop := e - a = rsp (q + 1) - rsp q - 1 ∧ ∀ i, i < e - a → wordM.getD (rsp q + 1 + i) 0 = f (a + i)
def hitC (f : Nat → Int32) (a e k : Nat) : Prop := e - a = k - wst k ∧ ∀ i, i < e - a → byF 0 (wst k + i) = f (a + i)
theorem hit_iff {f : Nat → Int32} {a e q : Nat} (hq : q < 23) : hitC f a e (ckp q) ↔ hitR f a e q := by
  obtain ⟨h1, h2, h3, h4, h5⟩ := ckp_ok q hq
  have h6 := rsp_w q hq
  unfold hitC hitR
  rw [h4]
  constructor
  · rintro ⟨g1, g2⟩
    exact ⟨g1, fun i hi => by rw [← h5 i (by omega) (by omega)]; exact g2 i hi⟩
  · rintro ⟨g1, g2⟩
    exact ⟨g1, fun i hi => by rw [h5 i (by omega) (by omega)]; exact g2 i hi⟩
theorem hit_one {f : Nat → Int32} {a e q q' : Nat} (hq : q < 23) (hq' : q' < 23) (h : hitR f a e q) (h' : hitR f a e q') : q = q' := by
  rcases words_unlike q hq q' hq' with h1 | h1
  · exact h1
  · exfalso
    have r1 := rsp_ok q hq
    have r2 := rsp_ok q' hq'
    unfold unlike at h1
    rw [Bool.or_eq_true] at h1
    rcases h1 with h1 | h1
    · have h2 : rsp (q + 1) - rsp q ≠ rsp (q' + 1) - rsp q' := by simpa using h1
      have := h.1
      have := h'.1
      omega
    · rw [List.any_eq_true] at h1
      obtain ⟨i, -, h2⟩ := h1
      rw [Bool.and_eq_true, decide_eq_true_eq, decide_eq_true_eq] at h2
      apply h2.2
      rw [h.2 i (by rw [h.1]; exact h2.1), h'.2 i (by rw [h.1]; exact h2.1)]
theorem len_0 : (Int32.ofNat (byL 0)) >>> ((0 : Int32) &&& 31) = 132 := by decide +kernel
theorem len_1 : (Int32.ofNat (byL 1)) >>> ((0 : Int32) &&& 31) = 10 := by decide +kernel
theorem x_len {s : Mem} : f_J0_length_8abf5 0 s = some (132, s) := by
  unfold f_J0_length_8abf5 f_J0_coder_7d493
  rw [if_neg (by decide)]
  dsimp only [Option.bind_some]
  rw [len_0]
theorem x_len1 {s : Mem} : f_J0_length_8abf5 1 s = some (10, s) := by
  unfold f_J0_length_8abf5 f_J0_coder_7d493
  rw [if_neg (by decide)]
  dsimp only [Option.bind_some]
  rw [len_1]
theorem x_charAt {k : Nat} {s : Mem} (h : k < 132) : f_J0_charAt_5068e 0 (Int32.ofNat k) s = some (byF 0 k, s) := by
  obtain ⟨h1, h2⟩ := byT k h
  have e1 : f_J0_isLatin1_aae02 0 s = some (1, s) := rfl
  have e2 : f_J0_checkIndex_df160 (Int32.ofNat k) (Int32.ofNat (byL 0)) s = some s := by
    unfold f_J0_checkIndex_df160 f_J3_checkIndex_8e157
    rw [if_neg (by rw [N_nlt0 (by omega)]; exact fun q => q), if_pos (by rw [N_lt (by omega) (by decide)]; exact h)]
    rfl
  unfold f_J0_charAt_5068e
  rw [e1]
  dsimp only [Option.bind_some]
  rw [if_neg (by decide)]
  unfold f_J1_charAt_3b067
  rw [e2]
  dsimp only [Option.bind_some]
  rw [rd_N (show k < byL 0 from h) (by decide)]
  dsimp only [Option.bind_some]
  rw [h1, h2, if_neg (fun q => q rfl)]
  dsimp only [Option.bind_some]
  rw [h2, if_neg (fun q => q rfl)]
theorem x_isAt {s : Mem} {b a e : Nat} (h1 : a ≤ e) (h2 : e ≤ 400) (h3 : b + (e - a) ≤ 132) :
    ok (f_X6_isAt (Int32.ofNat b) (Int32.ofNat a) (Int32.ofNat e) s) (fun r => r.2 = s ∧ ((r.1 = 1 ∧ ∀ i, i < e - a → byF 0 (b + i) = s 174 (a + i)) ∨ (r.1 = 0 ∧ ¬ ∀ i, i < e - a → byF 0 (b + i) = s 174 (a + i)))) := by
  have key : ok (it FUEL (fun y => st_X6_isAt_3 (Int32.ofNat b) (Int32.ofNat a) (Int32.ofNat e) y.1 y.2) (Int32.ofNat a, s)) (fun r => r.2 = s ∧ ((r.1 = 1 ∧ ∀ i, i < e - a → byF 0 (b + i) = s 174 (a + i)) ∨ (r.1 = 0 ∧ ¬ ∀ i, i < e - a → byF 0 (b + i) = s 174 (a + i)))) := by
    refine it_ok1 400 (by omega) (fun k y => y = (Int32.ofNat (a + k), s) ∧ k ≤ e - a ∧ ∀ i, i < k → byF 0 (b + i) = s 174 (a + i)) ⟨rfl, by omega, fun i hi => by omega⟩ (fun k y q => by omega) ?_
    rintro k y ⟨rfl, hk, hi⟩
    try dsimp only
    unfold st_X6_isAt_3
    by_cases hke : k = e - a
    · rw [if_pos (by rw [N_le (by omega) (by omega)]; omega)]
      exact Or.inr ⟨_, rfl, rfl, Or.inl ⟨rfl, fun i hi' => hi i (by omega)⟩⟩
    · rw [if_neg (by rw [N_le (by omega) (by omega)]; omega), x_len]
      dsimp only [Option.bind_some]
      rw [N_add, N_sub (by omega), show b + (a + k) - a = b + k by omega, if_neg (by rw [L_leN (by omega) (by omega)]; omega), x_charAt (by omega)]
      dsimp only [Option.bind_some]
      rw [rd_N (by omega) (by omega)]
      dsimp only [Option.bind_some]
      by_cases q : byF 0 (b + k) = s 174 (a + k)
      · rw [if_pos q, N_addL]
        refine Or.inl ⟨_, rfl, rfl, by omega, fun i hi' => ?_⟩
        by_cases q2 : i = k
        · rw [q2]; exact q
        · exact hi i (by omega)
      · rw [if_neg q]
        exact Or.inr ⟨_, rfl, rfl, Or.inr ⟨rfl, fun q2 => q (q2 k (by omega))⟩⟩
  unfold f_X6_isAt
  refine key.bind ?_
  rintro ⟨d, s'⟩ ⟨e1, ⟨e2, e3⟩ | ⟨e2, e3⟩⟩
  · dsimp only at e1 e2 ⊢
    subst e2
    rw [if_neg (by decide)]
    exact ok.some ⟨e1, Or.inl ⟨rfl, e3⟩⟩
  · dsimp only at e1 e2 ⊢
    subst e2
    rw [if_pos rfl]
    exact ok.some ⟨e1, Or.inr ⟨rfl, e3⟩⟩
theorem x_keyword {s : Mem} {a e : Nat} (h1 : a < e) (h2 : e ≤ 400) :
    ok (f_X6_keyword (Int32.ofNat a) (Int32.ofNat e) s) (fun r => r.2 = s ∧ ((r.1 = -1 ∧ ∀ q, q < 23 → ¬ hitR (s 174) a e q) ∨ ∃ q, q < 23 ∧ hitR (s 174) a e q ∧ r.1 = Int32.ofNat (cw q))) := by
  have key : ok (it FUEL (fun y => st_X6_keyword_8 (Int32.ofNat a) (Int32.ofNat e) y.1 y.2.1 y.2.2.1 y.2.2.2) (0, 0, 0, s)) (fun r => r.2.2 = s ∧ ((r.1 = 1 ∧ ∀ k, k < 132 → byF 0 k = 32 → ¬ hitC (s 174) a e k) ∨ (r.1 = 0 ∧ ∃ k, k < 132 ∧ byF 0 k = 32 ∧ hitC (s 174) a e k ∧ r.2.1 = Int32.ofNat (wcn k)))) := by
    refine it_ok1 132 (by omega) (fun k y => y = (Int32.ofNat (wcn k), Int32.ofNat (wst k), Int32.ofNat k, s) ∧ k ≤ 132 ∧ ∀ k', k' < k → byF 0 k' = 32 → ¬ hitC (s 174) a e k') ⟨rfl, by omega, fun i hi => by omega⟩ (fun k y q => by omega) ?_
    rintro k y ⟨rfl, hk, hi⟩
    try dsimp only
    unfold st_X6_keyword_8
    rw [x_len]
    dsimp only [Option.bind_some]
    by_cases hke : k = 132
    · subst hke
      rw [if_pos (by decide)]
      exact Or.inr ⟨_, rfl, rfl, Or.inl ⟨rfl, hi⟩⟩
    · have w1 := wst_le k
      have w2 := wcn_le k
      rw [if_neg (by rw [L_leN (by omega) (by omega)]; omega), x_charAt (by omega)]
      dsimp only [Option.bind_some]
      have nxt : ¬ hitC (s 174) a e k ∨ byF 0 k ≠ 32 → ∀ k', k' < k + 1 → byF 0 k' = 32 → ¬ hitC (s 174) a e k' := by
        intro hq k' hk' hb
        by_cases q2 : k' = k
        · subst q2
          rcases hq with hq | hq
          · exact hq
          · exact absurd hb hq
        · exact hi k' (by omega) hb
      by_cases hb : byF 0 k = 32
      · rw [if_pos hb, N_sub (by omega), N_sub (by omega)]
        have e1 : wcn (k + 1) = wcn k + 1 := by
          show (if byF 0 k = 32 then wcn k + 1 else wcn k) = _
          rw [if_pos hb]
        have e2 : wst (k + 1) = k + 1 := by
          show (if byF 0 k = 32 then k + 1 else wst k) = _
          rw [if_pos hb]
        have jn : ∀ {s' : Mem}, jn_X6_keyword_54 (Int32.ofNat a) (Int32.ofNat e) (Int32.ofNat (wcn k)) (Int32.ofNat k) s' = some (.inl (Int32.ofNat (wcn (k + 1)), Int32.ofNat (wst (k + 1)), Int32.ofNat (k + 1), s')) := by
          intro s'
          unfold jn_X6_keyword_54
          rw [N_addL, N_addL, e1, e2]
        by_cases hl : k - wst k = e - a
        · rw [if_pos (by rw [hl])]
          obtain ⟨⟨d, s'⟩, g1, g2, g3⟩ := x_isAt (s := s) (b := wst k) (a := a) (e := e) (by omega) h2 (by omega)
          dsimp only at g2 g3
          subst g2
          rw [g1]
          dsimp only [Option.bind_some]
          rcases g3 with ⟨rfl, g4⟩ | ⟨rfl, g4⟩
          · rw [if_neg (by decide)]
            exact Or.inr ⟨_, rfl, rfl, Or.inr ⟨rfl, k, by omega, hb, ⟨hl.symm, g4⟩, rfl⟩⟩
          · rw [if_pos rfl, jn]
            exact Or.inl ⟨_, rfl, rfl, by omega, nxt (Or.inl (fun q => g4 q.2))⟩
        · rw [if_neg (by rw [N_eq (by omega) (by omega)]; exact hl), jn]
          exact Or.inl ⟨_, rfl, rfl, by omega, nxt (Or.inl (fun q => hl q.1.symm))⟩
      · rw [if_neg hb, N_addL]
        have e1 : wcn (k + 1) = wcn k := by
          show (if byF 0 k = 32 then wcn k + 1 else wcn k) = _
          rw [if_neg hb]
        have e2 : wst (k + 1) = wst k := by
          show (if byF 0 k = 32 then k + 1 else wst k) = _
          rw [if_neg hb]
        exact Or.inl ⟨_, rfl, by rw [e1, e2], by omega, nxt (Or.inr hb)⟩
  unfold f_X6_keyword
  refine key.bind ?_
  rintro ⟨d, w, s'⟩ ⟨e1, ⟨e2, e3⟩ | ⟨e2, k, g1, g2, g3, g4⟩⟩
  · dsimp only at e1 e2 ⊢
    subst e2
    rw [if_neg (by decide)]
    refine ok.some ⟨e1, Or.inl ⟨rfl, fun q hq hh => ?_⟩⟩
    have := ckp_ok q hq
    exact e3 (ckp q) this.1 this.2.1 ((hit_iff hq).mpr hh)
  · dsimp only at e1 e2 g4 ⊢
    subst e2
    rw [if_pos rfl]
    obtain ⟨q, hq, rfl⟩ := ckp_all k g1 g2
    exact ok.some ⟨e1, Or.inr ⟨q, hq, (hit_iff hq).mp g3, by rw [g4, (ckp_ok q hq).2.2.1]⟩⟩
theorem m_wordAt {t : Mem} {a e : Nat} (hw : wrdR t) (h1 : a < e) (h2 : e ≤ 400) (hP : ∀ i, a ≤ i → i < e → lett (t 5 i)) :
    ok (f_X12_wordAt (Int32.ofNat a) (Int32.ofNat e) t) (fun r => r.2 = t ∧ ((r.1 = -1 ∧ ∀ q, q < 23 → ¬ hitR (t 5) a e q) ∨ ∃ q, q < 23 ∧ hitR (t 5) a e q ∧ r.1 = Int32.ofNat q)) := by
  have l32 : ∀ i, a ≤ i → i < e → t 5 i ≠ 32 := by
    intro i g1 g2 g3
    have := hP i g1 g2
    rw [g3] at this
    exact absurd this (by decide)
  have key : ok (it FUEL (fun y => st_X12_wordAt_5 (Int32.ofNat a) (Int32.ofNat e) y.1 y.2.1 y.2.2) ((-1), 0, t)) (fun r => r.2.2 = t ∧ ((r.1 = 1 ∧ ∀ q, q < 23 → ¬ hitR (t 5) a e q) ∨ (r.1 = 0 ∧ ∃ q, q < 23 ∧ hitR (t 5) a e q ∧ r.2.1 = Int32.ofNat q))) := by
    refine it_ok1 23 (by omega) (fun q y => ∃ v : Int32, y = (v, Int32.ofNat (rsp q), t) ∧ v + 1 = Int32.ofNat q ∧ q ≤ 23 ∧ ∀ q', q' < q → ¬ hitR (t 5) a e q') ⟨-1, rfl, by decide, by omega, fun i hi => by omega⟩ (fun k y q => by obtain ⟨_, _, _, q, _⟩ := q; exact q) ?_
    rintro q y ⟨v, rfl, hv, hq, hn⟩
    try dsimp only
    unfold st_X12_wordAt_5
    by_cases hq23 : q = 23
    · subst hq23
      rw [if_pos (by decide)]
      exact Or.inr ⟨_, rfl, rfl, Or.inl ⟨rfl, hn⟩⟩
    · obtain ⟨r1, r2, r3, r4⟩ := rsp_ok q (by omega)
      have r5 := rsp_w q (by omega)
      have r0 : rsp q < 131 := by omega
      rw [if_neg (by rw [L_leN (by omega) (by omega)]; omega), hv]
      have in1 : ok (it FUEL (fun y => st_X12_wordAt_20 (Int32.ofNat a) (Int32.ofNat e) (Int32.ofNat q) (Int32.ofNat (rsp q)) y.1 y.2) (0, t)) (fun r => r.2 = t ∧ ∃ i, r.1 = Int32.ofNat i ∧ i ≤ e - a ∧ rsp q + 1 + i ≤ rsp (q + 1) ∧ (∀ i', i' < i → wordM.getD (rsp q + 1 + i') 0 = t 5 (a + i')) ∧ (i < e - a → wordM.getD (rsp q + 1 + i) 0 ≠ t 5 (a + i))) := by
        refine it_ok1 400 (by omega) (fun i y => y = (Int32.ofNat i, t) ∧ i ≤ e - a ∧ rsp q + 1 + i ≤ rsp (q + 1) ∧ (∀ i', i' < i → wordM.getD (rsp q + 1 + i') 0 = t 5 (a + i'))) ⟨rfl, by omega, by omega, fun i hi => by omega⟩ (fun k y q => by omega) ?_
        rintro i y ⟨rfl, hi, hj, he⟩
        try dsimp only
        unfold st_X12_wordAt_20
        rw [N_add]
        by_cases hie : i = e - a
        · rw [if_pos (by rw [N_le (by omega) (by omega)]; omega)]
          exact Or.inr ⟨_, rfl, rfl, i, rfl, hi, hj, he, fun q => by omega⟩
        · rw [if_neg (by rw [N_le (by omega) (by omega)]; omega), N_addL, N_add, rd_N (by omega) (by omega)]
          dsimp only [Option.bind_some]
          rw [rd_N (by omega) (by omega)]
          dsimp only [Option.bind_some]
          rw [hw _ (by omega)]
          by_cases hc : wordM.getD (rsp q + 1 + i) 0 = t 5 (a + i)
          · rw [if_pos hc, N_addL]
            have hlt : rsp q + 1 + i ≠ rsp (q + 1) := by
              intro h9
              rw [h9, r3] at hc
              exact l32 (a + i) (by omega) (by omega) hc.symm
            refine Or.inl ⟨_, rfl, rfl, by omega, by omega, fun i' hi' => ?_⟩
            by_cases q2 : i' = i
            · rw [q2]; exact hc
            · exact he i' (by omega)
          · rw [if_neg hc]
            exact Or.inr ⟨_, rfl, rfl, i, rfl, hi, hj, he, fun _ => hc⟩
      obtain ⟨⟨v2, t2⟩, g0, g1, i, g2, g3, g4, g5, g6⟩ := in1
      dsimp only at g1 g2
      subst g1 g2
      rw [g0]
      dsimp only [Option.bind_some]
      have skip : jn_X12_wordAt_88 (Int32.ofNat a) (Int32.ofNat e) (Int32.ofNat q) (Int32.ofNat (rsp q)) t2 = some (.inl (Int32.ofNat q, Int32.ofNat (rsp (q + 1)), t2)) := by
        unfold jn_X12_wordAt_88
        have k2 := it_go (f := fun y : Int32 × Mem => st_X12_wordAt_94 (Int32.ofNat a) (Int32.ofNat e) (Int32.ofNat q) y.1 y.2) (fun k => (Int32.ofNat (rsp q + 1 + k), t2)) (rsp (q + 1) - (rsp q + 1)) (Int32.ofNat (rsp (q + 1)), t2) (by omega) (fun k hk => by
          try dsimp only
          unfold st_X12_wordAt_94
          rw [rd_N (by omega) (by omega), hw _ (by omega)]
          dsimp only [Option.bind_some]
          rw [if_neg (r4 k (by omega) (by omega)), N_addL]
          rfl) (by
          try dsimp only
          rw [show rsp q + 1 + (rsp (q + 1) - (rsp q + 1)) = rsp (q + 1) by omega]
          unfold st_X12_wordAt_94
          rw [rd_N (by omega) (by omega), hw _ (by omega)]
          dsimp only [Option.bind_some]
          rw [if_pos r3])
        rw [N_addL]
        rw [show (Int32.ofNat (rsp q + 1 + 0), t2) = (Int32.ofNat (rsp q + 1), t2) from rfl] at k2
        rw [k2]
        rfl
      have miss : ¬ hitR (t2 5) a e q → (∃ s', (some (.inl (Int32.ofNat q, Int32.ofNat (rsp (q + 1)), t2)) : Option ((Int32 × Int32 × Mem) ⊕ (Nat × Int32 × Mem))) = some (.inl s') ∧ ∃ v : Int32, s' = (v, Int32.ofNat (rsp (q + 1)), t2) ∧ v + 1 = Int32.ofNat (q + 1) ∧ q + 1 ≤ 23 ∧ ∀ q', q' < q + 1 → ¬ hitR (t2 5) a e q') := by
        intro hm
        refine ⟨_, rfl, _, rfl, by rw [N_addL], by omega, fun q' hq' => ?_⟩
        by_cases q2 : q' = q
        · rw [q2]; exact hm
        · exact hn q' (by omega)
      unfold jn_X12_wordAt_61
      rw [N_add]
      by_cases hie : i = e - a
      · rw [if_pos (by rw [N_eq (by omega) (by omega)]; omega), N_addL, N_add, rd_N (by omega) (by omega), hw _ (by omega)]
        dsimp only [Option.bind_some]
        by_cases h9 : rsp q + 1 + i = rsp (q + 1)
        · rw [h9, if_pos r3]
          exact Or.inr ⟨_, rfl, rfl, Or.inr ⟨rfl, q, by omega, ⟨by omega, fun i' hi' => g5 i' (by omega)⟩, rfl⟩⟩
        · rw [if_neg (r4 i (by omega) (by omega)), skip]
          exact Or.inl (miss (fun hh => by have := hh.1; omega))
      · rw [if_neg (by rw [N_eq (by omega) (by omega)]; omega), skip]
        exact Or.inl (miss (fun hh => g6 (by omega) (hh.2 i (by omega))))
  unfold f_X12_wordAt
  refine key.bind ?_
  rintro ⟨d, w, t'⟩ ⟨e1, ⟨e2, e3⟩ | ⟨e2, e3⟩⟩
  · dsimp only at e1 e2 ⊢
    subst e2
    rw [if_neg (by decide)]
    exact ok.some ⟨e1, Or.inl ⟨rfl, e3⟩⟩
  · dsimp only at e1 e2 ⊢
    subst e2
    rw [if_pos rfl]
    exact ok.some ⟨e1, Or.inr e3⟩
/-- signs -/
theorem sg_c : ∀ c, c < 256 → i2c (Int32.ofNat c) = Int32.ofNat c := by decide +kernel
theorem sg_t : ∀ c, c < 256 → (mark (Int32.ofNat c) ↔ ∃ j, j < 10 ∧ byF 1 j = i2b (Int32.ofNat c)) := by decide +kernel
theorem x_signAt {c : Nat} {s : Mem} (hc : c < 256) : ok (f_J0_indexOf_0f7a4 1 (i2c (Int32.ofNat c)) s) (fun r => r.2 = s ∧ (r.1 < 0 ↔ ¬ mark (Int32.ofNat c))) := by
  rw [sg_c c hc]
  have e1 : f_J0_isLatin1_aae02 1 s = some (1, s) := rfl
  have e2 : f_J0_length_8abf5 1 s = some (10, s) := x_len1
  have e3 : f_J1_canEncode_9a6ad (Int32.ofNat c) s = some (1, s) := by
    unfold f_J1_canEncode_9a6ad
    rw [if_neg (by rw [N_nlt0 (by omega)]; exact fun q => q), if_neg (by rw [L_ltN (by omega) (by omega)]; omega)]
  have key : ok (it FUEL (fun y => st_J1_indexOfChar_4cfef_7 1 10 (i2b (Int32.ofNat c)) y.1 y.2) (0, s)) (fun r => r.2.2 = s ∧ ((r.1 = 1 ∧ ¬ ∃ j, j < 10 ∧ byF 1 j = i2b (Int32.ofNat c)) ∨ (r.1 = 0 ∧ ∃ j, j < 10 ∧ byF 1 j = i2b (Int32.ofNat c) ∧ r.2.1 = Int32.ofNat j))) := by
    refine it_ok1 10 (by omega) (fun k y => y = (Int32.ofNat k, s) ∧ k ≤ 10 ∧ ∀ j, j < k → byF 1 j ≠ i2b (Int32.ofNat c)) ⟨rfl, by omega, fun j hj => by omega⟩ (fun k y q => by omega) ?_
    rintro k y ⟨rfl, hk, hn⟩
    try dsimp only
    unfold st_J1_indexOfChar_4cfef_7
    by_cases hk10 : k = 10
    · subst hk10
      rw [if_pos (by decide)]
      exact Or.inr ⟨_, rfl, rfl, Or.inl ⟨rfl, fun ⟨j, hj, hb⟩ => hn j hj hb⟩⟩
    · rw [if_neg (by rw [L_leN (by omega) (by omega)]; omega), rd_N (show k < byL 1 by show k < 10; omega) (by decide)]
      dsimp only [Option.bind_some]
      by_cases hb : byF 1 k = i2b (Int32.ofNat c)
      · rw [if_pos hb]
        exact Or.inr ⟨_, rfl, rfl, Or.inr ⟨rfl, k, by omega, hb, rfl⟩⟩
      · rw [if_neg hb, N_addL]
        refine Or.inl ⟨_, rfl, rfl, by omega, fun j hj => ?_⟩
        by_cases q2 : j = k
        · rw [q2]; exact hb
        · exact hn j (by omega)
  have e4 : (jmmax 0 0 < jmmin 10 (Int32.ofNat (byL 1))) = True := by decide
  have e5 : jmmax 0 0 = (0 : Int32) := by decide
  have e6 : jmmin 10 (Int32.ofNat (byL 1)) = 10 := by decide
  unfold f_J0_indexOf_0f7a4 f_J0_indexOf_7cf53
  rw [e1]
  dsimp only [Option.bind_some]
  rw [if_neg (by decide), e2]
  dsimp only [Option.bind_some]
  unfold f_J1_indexOf_4cfef
  rw [e3]
  dsimp only [Option.bind_some]
  rw [if_neg (by decide)]
  simp only [e4, if_true]
  rw [e5, e6]
  unfold f_J1_indexOfChar_4cfef
  obtain ⟨⟨d, v, s'⟩, g0, g1, g2⟩ := key
  rw [g0]
  dsimp only [Option.bind_some]
  dsimp only at g1 g2
  subst g1
  rcases g2 with ⟨rfl, g3⟩ | ⟨rfl, j, g3, g4, rfl⟩
  · rw [if_neg (by decide)]
    exact ok.some ⟨rfl, by
      constructor
      · intro _ hm
        exact g3 ((sg_t c hc).mp hm)
      · intro _
        show (-1 : Int32) < 0
        decide⟩
  · rw [if_pos rfl]
    exact ok.some ⟨rfl, by
      constructor
      · intro hh
        exfalso
        have : Int32.ofNat j < 0 := hh
        rw [N_nlt0 (by omega)] at this
        exact this
      · intro hm
        exact absurd ((sg_t c hc).mpr ⟨j, g3, g4⟩) hm⟩
