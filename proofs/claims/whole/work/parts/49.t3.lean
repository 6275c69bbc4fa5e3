/-! ===== the TAPE's tokens: split here, read one by one in the reference ===== -/
def rdC (t : Mem) (p e kd pl rv : Int32) : Prop := ∀ t' : Mem, t' 5 = t 5 → t' 6 = t 6 → t' 0 9 = t 0 9 → t' 0 10 = p → ∃ t'', f_X12_reads t' = some t'' ∧ (∀ c, c ≠ 0 → t'' c = t' c) ∧ (∀ j, j < 10 ∨ 13 < j → t'' 0 j = t' 0 j) ∧ t'' 0 10 = e ∧ t'' 0 11 = pl ∧ t'' 0 12 = kd ∧ (kd ≠ 0 → kd ≠ 1 → t'' 0 13 = rv)
def uu (t : Mem) (a : Nat) : Mem := mset (mset (sp10 t a) 0 11 (Int32.ofNat a)) 0 12 1
theorem uu_c {t : Mem} {a c : Nat} (h : c ≠ 0) : uu t a c = t c := by
  unfold uu
  rw [m_ne h, m_ne h, sp10_c h]
theorem uu_j {t : Mem} {a j : Nat} (h : j < 10 ∨ 12 < j) : uu t a 0 j = t 0 j := by
  unfold uu
  rw [m_eq, u_ne (by omega), m_eq, u_ne (by omega), sp10_j (by omega)]
theorem uu_10 {t : Mem} {a : Nat} : uu t a 0 10 = Int32.ofNat a := by
  unfold uu
  rw [m_eq, u_ne (by omega), m_eq, u_ne (by omega), sp10_a]
theorem uu_11 {t : Mem} {a : Nat} : uu t a 0 11 = Int32.ofNat a := by
  unfold uu
  rw [m_eq, u_ne (by omega), m_eq, u_eq]
theorem uu_12 {t : Mem} {a : Nat} : uu t a 0 12 = 1 := by
  unfold uu
  rw [m_eq, u_eq]
def rdT (v : Int32) (u : Mem) : Option Mem :=
  (f_X12_isLetter v (mset (mset u 0 10 ((u 0 10) + 1)) 0 13 v)).bind fun r8 =>
  if r8.1 = 0 then
  (f_X12_isDigit v r8.2).bind fun r10 =>
  if r10.1 = 0 then
  (f_X12_isMarkSign v r10.2).bind fun r12 =>
  if r12.1 = 0 then
  some r12.2
  else
  some (mset r12.2 0 12 4)
  else
  (it FUEL (fun y => st_X12_reads_171 y) ((mset r10.2 0 13 (v - 48)))).bind fun r19 =>
  if 5 ≤ ((r19 0 10) - (r19 0 11)) then
  some r19
  else
  some (mset r19 0 12 3)
  else
  (it FUEL (fun y => st_X12_reads_95 y) (r8.2)).bind fun r24 =>
  (f_X12_wordAt (r24 0 11) (r24 0 10) r24).bind fun r25 =>
  if ((mset r25.2 0 13 r25.1) 0 13) = (-1) then
  some (mset r25.2 0 13 r25.1)
  else
  some (mset (mset r25.2 0 13 r25.1) 0 12 2)
theorem m_reads0 {t : Mem} {p a L : Nat} (hL : t 0 9 = Int32.ofNat L) (hL4 : L ≤ 400) (hp : t 0 10 = Int32.ofNat p) (h1 : p ≤ a) (h2 : a ≤ L) (hB : ∀ i, p ≤ i → i < a → blan (t 5 i)) (hE : a = L ∨ ¬ blan (t 5 a)) (hn : a < L → 0 ≤ t 5 a) :
    f_X12_reads t = if a < L then rdT (t 5 a) (uu t a) else some (mset (uu t a) 0 12 0) := by
  unfold f_X12_reads
  rw [m_blanks hL hL4 hp h1 h2 hB hE]
  dsimp only [Option.bind_some]
  rw [sp10_a]
  have e0 : mset (mset (sp10 t a) 0 11 (Int32.ofNat a)) 0 12 1 = uu t a := rfl
  rw [e0, uu_10, m_raw (L := L) (by rw [uu_j (by omega)]; exact hL) hL4 (by omega), uu_c (by omega)]
  dsimp only [Option.bind_some]
  by_cases q : a < L
  · rw [if_pos q, if_pos q, if_neg (by have := hn q; grind)]
    rfl
  · rw [if_neg q, if_neg q, if_pos rfl]
theorem rdC_end {t : Mem} {p L : Nat} {rv : Int32} (hL : t 0 9 = Int32.ofNat L) (hL4 : L ≤ 400) (h1 : p ≤ L) (hB : ∀ i, p ≤ i → i < L → blan (t 5 i)) : rdC t (Int32.ofNat p) (Int32.ofNat L) 0 (Int32.ofNat L) rv := by
  intro t' h5 h6 h9 h10
  rw [m_reads0 (L := L) (a := L) (by rw [h9]; exact hL) hL4 h10 h1 (Nat.le_refl _) (by rw [h5]; exact hB) (Or.inl rfl) (fun q => by omega), if_neg (by omega)]
  refine ⟨_, rfl, fun c hc => by simp only [m_ne hc, sp10_c hc, uu_c hc], fun j hj => by simp (disch := omega) only [m_eq, u_ne, sp10_j, uu_j], ?_, ?_, ?_, fun q => absurd rfl q⟩
  · rw [m_eq, u_ne (by omega), uu_10]
  · rw [m_eq, u_ne (by omega), uu_11]
  · rw [m_eq, u_eq]
theorem rdC_word {t : Mem} {p a e L : Nat} (hw : wrdR t) (hL : t 0 9 = Int32.ofNat L) (hL4 : L ≤ 400) (h1 : p ≤ a) (hae : a < e) (heL : e ≤ L) (hB : ∀ i, p ≤ i → i < a → blan (t 5 i)) (hn : 0 ≤ t 5 a) (hP : ∀ i, a ≤ i → i < e → lett (t 5 i)) (hE : e = L ∨ ¬ lett (t 5 e)) :
    ((∀ q, q < 23 → ¬ hitR (t 5) a e q) → ∀ rv, rdC t (Int32.ofNat p) (Int32.ofNat e) 1 (Int32.ofNat a) rv) ∧ (∀ q, q < 23 → hitR (t 5) a e q → rdC t (Int32.ofNat p) (Int32.ofNat e) 2 (Int32.ofNat a) (Int32.ofNat q)) := by
  have hla := hP a (by omega) hae
  have hnb : ¬ blan (t 5 a) := by
    rintro (q | q)
    · rw [q] at hla; exact absurd hla (by decide)
    · rw [q] at hla; exact absurd hla (by decide)
  have main : ∀ t' : Mem, t' 5 = t 5 → t' 6 = t 6 → t' 0 9 = t 0 9 → t' 0 10 = Int32.ofNat p → ∃ (w : Mem) (n : Int32), (∀ c, c ≠ 0 → w c = t' c) ∧ (∀ j, j < 10 ∨ 13 < j → w 0 j = t' 0 j) ∧ w 0 10 = Int32.ofNat e ∧ w 0 11 = Int32.ofNat a ∧ w 0 12 = 1 ∧ ((n = -1 ∧ ∀ q, q < 23 → ¬ hitR (t 5) a e q) ∨ ∃ q, q < 23 ∧ hitR (t 5) a e q ∧ n = Int32.ofNat q) ∧ f_X12_reads t' = if n = -1 then some (mset w 0 13 n) else some (mset (mset w 0 13 n) 0 12 2) := by
    intro t' h5 h6 h9 h10
    rw [m_reads0 (L := L) (a := a) (by rw [h9]; exact hL) hL4 h10 h1 (by omega) (by rw [h5]; exact hB) (by rw [h5]; exact Or.inr hnb) (fun _ => by rw [h5]; exact hn), if_pos (by omega), h5]
    unfold rdT
    rw [m_isLetter, if_pos hla]
    dsimp only [Option.bind_some]
    rw [if_neg (by decide), uu_10, N_addL]
    rw [m_letters (a := a + 1) (e := e) (L := L) (by simp (disch := omega) only [m_eq, u_ne, uu_j]; rw [h9]; exact hL) hL4 (by simp (disch := omega) only [m_eq, u_ne, u_eq]) (by omega) heL
      (by rw [m_ne (by omega), m_ne (by omega), uu_c (by omega), h5]; exact fun i g1 g2 => hP i (by omega) g2) (by rw [m_ne (by omega), m_ne (by omega), uu_c (by omega), h5]; exact hE)]
    dsimp only [Option.bind_some]
    generalize hw2 : sp10 (mset (mset (uu t' a) 0 10 (Int32.ofNat (a + OfNat.ofNat 1))) 0 13 (t 5 a)) e = w
    have w10 : w 0 10 = Int32.ofNat e := by rw [← hw2, sp10_a]
    have w11 : w 0 11 = Int32.ofNat a := by
      rw [← hw2]
      simp (disch := omega) only [sp10_j, m_eq, u_ne, uu_11]
    have w12 : w 0 12 = 1 := by
      rw [← hw2]
      simp (disch := omega) only [sp10_j, m_eq, u_ne, uu_12]
    have wc : ∀ c, c ≠ 0 → w c = t' c := fun c hc => by
      rw [← hw2]
      simp only [sp10_c hc, m_ne hc, uu_c hc]
    have wj : ∀ j, j < 10 ∨ 13 < j → w 0 j = t' 0 j := fun j hj => by
      rw [← hw2]
      simp (disch := omega) only [sp10_j, m_eq, u_ne, uu_j]
    have ww : wrdR w := by
      unfold wrdR
      rw [wc 6 (by omega), h6]
      exact hw
    obtain ⟨⟨n, w'⟩, g0, g1, g2⟩ := m_wordAt (t := w) ww hae (by omega) (by rw [wc 5 (by omega), h5]; exact hP)
    dsimp only at g1 g2
    subst g1
    rw [wc 5 (by omega), h5] at g2
    rw [w10, w11, g0]
    dsimp only [Option.bind_some]
    refine ⟨w', n, wc, wj, w10, w11, w12, g2, ?_⟩
    rw [m_eq, u_eq]
  constructor
  · intro hno rv t' h5 h6 h9 h10
    obtain ⟨w, n, wc, wj, w10, w11, w12, hn2, e1⟩ := main t' h5 h6 h9 h10
    rcases hn2 with ⟨rfl, -⟩ | ⟨q, hq, hh, -⟩
    · rw [if_pos rfl] at e1
      refine ⟨_, e1, fun c hc => by rw [m_ne hc, wc c hc], fun j hj => by rw [m_eq, u_ne (by omega), wj j hj], ?_, ?_, ?_, fun _ q => absurd rfl q⟩
      · rw [m_eq, u_ne (by omega), w10]
      · rw [m_eq, u_ne (by omega), w11]
      · rw [m_eq, u_ne (by omega), w12]
    · exact absurd hh (hno q hq)
  · intro q hq hh t' h5 h6 h9 h10
    obtain ⟨w, n, wc, wj, w10, w11, w12, hn2, e1⟩ := main t' h5 h6 h9 h10
    rcases hn2 with ⟨-, hno⟩ | ⟨q', hq', hh', rfl⟩
    · exact absurd hh (hno q hq)
    · have := hit_one hq hq' hh hh'
      subst this
      rw [if_neg (by rw [N_neg (by omega)]; exact fun q => q)] at e1
      refine ⟨_, e1, fun c hc => by rw [m_ne hc, m_ne hc, wc c hc], fun j hj => by rw [m_eq, u_ne (by omega), m_eq, u_ne (by omega), wj j hj], ?_, ?_, ?_, fun _ _ => ?_⟩
      · rw [m_eq, u_ne (by omega), m_eq, u_ne (by omega), w10]
      · rw [m_eq, u_ne (by omega), m_eq, u_ne (by omega), w11]
      · rw [m_eq, u_eq]
      · rw [m_eq, u_ne (by omega), m_eq, u_eq]
theorem rdC_num {t : Mem} {p a e L : Nat} (hL : t 0 9 = Int32.ofNat L) (hL4 : L ≤ 400) (h1 : p ≤ a) (hae : a < e) (heL : e ≤ L) (hB : ∀ i, p ≤ i → i < a → blan (t 5 i)) (hP : ∀ i, a ≤ i → i < e → digi (t 5 i)) (hE : e = L ∨ ¬ digi (t 5 e)) :
    rdC t (Int32.ofNat p) (Int32.ofNat e) (if e - a ≤ 4 then 3 else 1) (Int32.ofNat a) (Int32.ofNat (nmv (t 5) a (e - a))) := by
  have hla := hP a (by omega) hae
  obtain ⟨d, ed, hd10⟩ := digi_N hla
  have hnl : ¬ lett (t 5 a) := by
    rintro (⟨q, -⟩ | ⟨q, -⟩)
    · have := hla.2; grind
    · have := hla.2; grind
  have hnb : ¬ blan (t 5 a) := by
    rintro (q | q)
    · rw [q] at hla; exact absurd hla (by decide)
    · rw [q] at hla; exact absurd hla (by decide)
  intro t' h5 h6 h9 h10
  rw [m_reads0 (L := L) (a := a) (by rw [h9]; exact hL) hL4 h10 h1 (by omega) (by rw [h5]; exact hB) (by rw [h5]; exact Or.inr hnb) (fun _ => by rw [h5]; have := hla.1; grind), if_pos (by omega), h5]
  unfold rdT
  rw [m_isLetter, if_neg hnl]
  dsimp only [Option.bind_some]
  rw [if_pos rfl, m_isDigit, if_pos hla]
  dsimp only [Option.bind_some]
  rw [if_neg (by decide), uu_10, N_addL]
  generalize hw2 : mset (mset (mset (uu t' a) 0 10 (Int32.ofNat (a + OfNat.ofNat 1))) 0 13 (t 5 a)) 0 13 (t 5 a - 48) = w
  have w5 : w 5 = t 5 := by
    rw [← hw2]
    simp (disch := omega) only [m_ne, uu_c]
    exact h5
  obtain ⟨r, g0, g1, g2, g3, g4⟩ := m_digits (t := w) (a := a) (e := e) (L := L) (by
    rw [← hw2]
    simp (disch := omega) only [m_eq, u_ne, uu_j]
    rw [h9]; exact hL) hL4 hae heL (by rw [w5]; exact hP) (by rw [w5]; exact hE) (by
    rw [← hw2]
    simp (disch := omega) only [m_eq, u_ne, u_eq]) (by
    rw [w5, ← hw2, m_eq, u_eq, ed, N_subL (by omega)]
    unfold nmv nmv
    rw [show a + 0 = a from rfl, ed, N_nat (by omega)]
    congr 1
    omega)
  rw [g0]
  dsimp only [Option.bind_some]
  have r11 : r 0 11 = Int32.ofNat a := by
    rw [g2 _ (by omega) (by omega), ← hw2]
    simp (disch := omega) only [m_eq, u_ne, uu_11]
  have r12 : r 0 12 = 1 := by
    rw [g2 _ (by omega) (by omega), ← hw2]
    simp (disch := omega) only [m_eq, u_ne, uu_12]
  have rc : ∀ c, c ≠ 0 → r c = t' c := fun c hc => by
    rw [g1 c hc, ← hw2]
    simp only [m_ne hc, uu_c hc]
  have rj : ∀ j, j < 10 ∨ 13 < j → r 0 j = t' 0 j := fun j hj => by
    rw [g2 j (by omega) (by omega), ← hw2]
    simp (disch := omega) only [m_eq, u_ne, uu_j]
  rw [g3, r11, N_sub (by omega)]
  rw [w5] at g4
  by_cases h4 : e - a ≤ 4
  · rw [if_pos h4, if_neg (by rw [L_leN (by omega) (by omega)]; omega)]
    refine ⟨_, rfl, fun c hc => by rw [m_ne hc, rc c hc], fun j hj => by rw [m_eq, u_ne (by omega), rj j hj], ?_, ?_, ?_, fun _ _ => ?_⟩
    · rw [m_eq, u_ne (by omega), g3]
    · rw [m_eq, u_ne (by omega), r11]
    · rw [m_eq, u_eq]
    · rw [m_eq, u_ne (by omega), g4 h4]
  · rw [if_neg h4, if_pos (by rw [L_leN (by omega) (by omega)]; omega)]
    exact ⟨_, rfl, rc, rj, g3, r11, r12, fun _ q => absurd rfl q⟩
theorem rdC_sign {t : Mem} {p a L : Nat} (hL : t 0 9 = Int32.ofNat L) (hL4 : L ≤ 400) (h1 : p ≤ a) (haL : a < L) (hB : ∀ i, p ≤ i → i < a → blan (t 5 i)) (hn : 0 ≤ t 5 a) (hnl : ¬ lett (t 5 a)) (hnd : ¬ digi (t 5 a)) (hnb : ¬ blan (t 5 a)) :
    rdC t (Int32.ofNat p) (Int32.ofNat (a + 1)) (if mark (t 5 a) then 4 else 1) (Int32.ofNat a) (t 5 a) := by
  intro t' h5 h6 h9 h10
  rw [m_reads0 (L := L) (a := a) (by rw [h9]; exact hL) hL4 h10 h1 (by omega) (by rw [h5]; exact hB) (by rw [h5]; exact Or.inr hnb) (fun _ => by rw [h5]; exact hn), if_pos (by omega), h5]
  unfold rdT
  rw [m_isLetter, if_neg hnl]
  dsimp only [Option.bind_some]
  rw [if_pos rfl, m_isDigit, if_neg hnd]
  dsimp only [Option.bind_some]
  rw [if_pos rfl, m_isMark, uu_10, N_addL]
  dsimp only [Option.bind_some]
  by_cases hm : mark (t 5 a)
  · rw [if_pos hm, if_pos hm, if_neg (by decide)]
    refine ⟨_, rfl, fun c hc => by simp only [m_ne hc, sp10_c hc, uu_c hc], fun j hj => by simp (disch := omega) only [m_eq, u_ne, sp10_j, uu_j], ?_, ?_, ?_, fun _ _ => ?_⟩
    · simp (disch := omega) only [m_eq, u_ne, u_eq]
    · simp (disch := omega) only [m_eq, u_ne, uu_11]
    · rw [m_eq, u_eq]
    · rw [m_eq, u_ne (by omega), m_eq, u_eq]
  · rw [if_neg hm, if_neg hm, if_pos rfl]
    refine ⟨_, rfl, fun c hc => by simp only [m_ne hc, sp10_c hc, uu_c hc], fun j hj => by simp (disch := omega) only [m_eq, u_ne, sp10_j, uu_j], ?_, ?_, ?_, fun _ q => absurd rfl q⟩
    · simp (disch := omega) only [m_eq, u_ne, u_eq]
    · simp (disch := omega) only [m_eq, u_ne, uu_11]
    · simp (disch := omega) only [m_eq, u_ne, uu_12]
