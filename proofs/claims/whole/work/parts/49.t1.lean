/-! ===== the TAPE's signs: letters, digits, how far they go ===== -/
abbrev lett (v : Int32) : Prop := (97 ≤ v ∧ v ≤ 122) ∨ (65 ≤ v ∧ v ≤ 90)
abbrev digi (v : Int32) : Prop := 48 ≤ v ∧ v ≤ 57
abbrev blan (v : Int32) : Prop := v = 32 ∨ v = 10
abbrev mark (v : Int32) : Prop := v = 59 ∨ v = 43 ∨ v = 45 ∨ v = 42 ∨ v = 47 ∨ v = 40 ∨ v = 41 ∨ v = 60 ∨ v = 61 ∨ v = 62
theorem x_isLetter {v : Int32} {s : Mem} : f_X6_isLetter v s = some (if lett v then 1 else 0, s) := by
  by_cases h : lett v
  · rw [if_pos h]
    unfold f_X6_isLetter jn_X6_isLetter_12 jn_X6_isLetter_24
    repeat' split
    all_goals first | rfl | (exfalso; grind)
  · rw [if_neg h]
    unfold f_X6_isLetter jn_X6_isLetter_12 jn_X6_isLetter_24
    repeat' split
    all_goals first | rfl | (exfalso; grind)
theorem x_isDigit {v : Int32} {s : Mem} : f_X6_isDigit v s = some (if digi v then 1 else 0, s) := by
  by_cases h : digi v
  · rw [if_pos h]
    unfold f_X6_isDigit
    repeat' split
    all_goals first | rfl | (exfalso; grind)
  · rw [if_neg h]
    unfold f_X6_isDigit
    repeat' split
    all_goals first | rfl | (exfalso; grind)
theorem m_isLetter {v : Int32} {t : Mem} : f_X12_isLetter v t = some (if lett v then 1 else 0, t) := by
  unfold f_X12_isLetter jn_X12_isLetter_24
  simp only [m_isIn, Option.bind_some]
  by_cases h1 : 97 ≤ v ∧ v ≤ 122
  · rw [if_pos h1, if_neg (by decide), if_pos (Or.inl h1)]
  · rw [if_neg h1, if_pos rfl]
    by_cases h2 : 65 ≤ v ∧ v ≤ 90
    · rw [if_pos h2, if_neg (by decide), if_pos (Or.inr h2)]
    · rw [if_neg h2, if_pos rfl, if_neg (by rintro (q | q); exact h1 q; exact h2 q)]
theorem m_isDigit {v : Int32} {t : Mem} : f_X12_isDigit v t = some (if digi v then 1 else 0, t) := by
  unfold f_X12_isDigit
  simp only [m_isIn, Option.bind_some]
  by_cases h1 : 48 ≤ v ∧ v ≤ 57
  · rw [if_pos h1, if_neg (by decide)]
  · rw [if_neg h1, if_neg (by decide)]
theorem m_isMark {v : Int32} {t : Mem} : f_X12_isMarkSign v t = some (if mark v then 1 else 0, t) := by
  by_cases h : mark v
  · rw [if_pos h]
    unfold f_X12_isMarkSign jn_X12_isMarkSign_60
    repeat' split
    all_goals first | rfl | (exfalso; grind)
  · rw [if_neg h]
    unfold f_X12_isMarkSign jn_X12_isMarkSign_60
    repeat' split
    all_goals first | rfl | (exfalso; grind)
theorem run_end (P : Int32 → Prop) (f : Nat → Int32) (L : Nat) : ∀ r a, L ≤ a + r → a ≤ L → ∃ e, a ≤ e ∧ e ≤ L ∧ (∀ i, a ≤ i → i < e → P (f i)) ∧ (e = L ∨ ¬ P (f e))
  | 0, a, h1, h2 => ⟨a, by omega, h2, fun i h3 h4 => by omega, Or.inl (by omega)⟩
  | r + 1, a, h1, h2 => by
    by_cases q : a = L
    · exact ⟨a, by omega, h2, fun i h3 h4 => by omega, Or.inl q⟩
    · by_cases hp : P (f a)
      · obtain ⟨e, g1, g2, g3, g4⟩ := run_end P f L r (a + 1) (by omega) (by omega)
        refine ⟨e, by omega, g2, fun i h3 h4 => ?_, g4⟩
        by_cases q2 : i = a
        · rw [q2]; exact hp
        · exact g3 i (by omega) h4
      · exact ⟨a, by omega, h2, fun i h3 h4 => by omega, Or.inr hp⟩
theorem x_lettersEnd {s : Mem} {a e L : Nat} (hL : s 173 0 = Int32.ofNat L) (hL4 : L ≤ 400) (h1 : a ≤ e) (h2 : e ≤ L) (hP : ∀ i, a ≤ i → i < e → lett (s 174 i)) (hE : e = L ∨ ¬ lett (s 174 e)) : f_X6_lettersEnd (Int32.ofNat a) s = some (Int32.ofNat e, s) := by
  have key := it_go (f := fun y : Int32 × Mem => st_X6_lettersEnd_2 y.1 y.2) (fun k => (Int32.ofNat (a + k), s)) (e - a) (Int32.ofNat e, s) (by omega) (fun k hk => by
    try dsimp only
    unfold st_X6_lettersEnd_2
    rw [hL, if_neg (by rw [N_le (by omega) (by omega)]; omega), rd_N (by omega) (by omega)]
    dsimp only [Option.bind_some]
    rw [x_isLetter, if_pos (hP _ (by omega) (by omega))]
    dsimp only [Option.bind_some]
    rw [if_neg (by decide), N_addL]
    rfl) (by
    try dsimp only
    rw [show a + (e - a) = e by omega]
    unfold st_X6_lettersEnd_2
    rw [hL]
    by_cases q : e = L
    · rw [if_pos (by rw [N_le (by omega) (by omega)]; omega)]
    · rw [if_neg (by rw [N_le (by omega) (by omega)]; omega), rd_N (by omega) (by omega)]
      dsimp only [Option.bind_some]
      rw [x_isLetter, if_neg (hE.resolve_left q)]
      dsimp only [Option.bind_some]
      rw [if_pos rfl])
  unfold f_X6_lettersEnd
  rw [show (Int32.ofNat (a + 0), s) = (Int32.ofNat a, s) from rfl] at key
  rw [key]
  rfl
theorem x_digitsEnd {s : Mem} {a e L : Nat} (hL : s 173 0 = Int32.ofNat L) (hL4 : L ≤ 400) (h1 : a ≤ e) (h2 : e ≤ L) (hP : ∀ i, a ≤ i → i < e → digi (s 174 i)) (hE : e = L ∨ ¬ digi (s 174 e)) : f_X6_digitsEnd (Int32.ofNat a) s = some (Int32.ofNat e, s) := by
  have key := it_go (f := fun y : Int32 × Mem => st_X6_digitsEnd_2 y.1 y.2) (fun k => (Int32.ofNat (a + k), s)) (e - a) (Int32.ofNat e, s) (by omega) (fun k hk => by
    try dsimp only
    unfold st_X6_digitsEnd_2
    rw [hL, if_neg (by rw [N_le (by omega) (by omega)]; omega), rd_N (by omega) (by omega)]
    dsimp only [Option.bind_some]
    rw [x_isDigit, if_pos (hP _ (by omega) (by omega))]
    dsimp only [Option.bind_some]
    rw [if_neg (by decide), N_addL]
    rfl) (by
    try dsimp only
    rw [show a + (e - a) = e by omega]
    unfold st_X6_digitsEnd_2
    rw [hL]
    by_cases q : e = L
    · rw [if_pos (by rw [N_le (by omega) (by omega)]; omega)]
    · rw [if_neg (by rw [N_le (by omega) (by omega)]; omega), rd_N (by omega) (by omega)]
      dsimp only [Option.bind_some]
      rw [x_isDigit, if_neg (hE.resolve_left q)]
      dsimp only [Option.bind_some]
      rw [if_pos rfl])
  unfold f_X6_digitsEnd
  rw [show (Int32.ofNat (a + 0), s) = (Int32.ofNat a, s) from rfl] at key
  rw [key]
  rfl
theorem m_raw {t : Mem} {a L : Nat} (hL : t 0 9 = Int32.ofNat L) (hL4 : L ≤ 400) (ha : a ≤ 400) : f_X12_raw (Int32.ofNat a) t = some (if a < L then t 5 a else -1, t) := by
  unfold f_X12_raw
  rw [hL]
  by_cases h : a < L
  · rw [if_pos h, if_neg (by rw [N_le (by omega) (by omega)]; omega), rd_N (by omega) (by omega)]
    rfl
  · rw [if_neg h, if_pos (by rw [N_le (by omega) (by omega)]; omega)]
def sp10 (t : Mem) (a : Nat) : Mem := mset t 0 10 (Int32.ofNat a)
theorem sp10_a {t : Mem} {a : Nat} : sp10 t a 0 10 = Int32.ofNat a := by unfold sp10; rw [m_eq, u_eq]
theorem sp10_j {t : Mem} {a j : Nat} (h : j ≠ 10) : sp10 t a 0 j = t 0 j := by unfold sp10; rw [m_eq, u_ne h]
theorem sp10_c {t : Mem} {a c : Nat} (h : c ≠ 0) : sp10 t a c = t c := by unfold sp10; rw [m_ne h]
theorem sp10_s {t : Mem} {a b : Nat} : mset (sp10 t a) 0 10 (Int32.ofNat b) = sp10 t b := by
  funext c j
  unfold sp10 mset upd
  by_cases hc : c = 0
  · subst hc
    by_cases hj : j = 10
    · subst hj; simp
    · simp [hj]
  · simp [hc]
theorem sp10_0 {t : Mem} {a : Nat} (h : t 0 10 = Int32.ofNat a) : sp10 t a = t := by
  funext c j
  unfold sp10 mset upd
  by_cases hc : c = 0
  · subst hc
    by_cases hj : j = 10
    · subst hj; simp [h]
    · simp [hj]
  · simp [hc]
/-- ahead of a token: blanks -/
theorem m_blanks {t : Mem} {p a L : Nat} (hL : t 0 9 = Int32.ofNat L) (hL4 : L ≤ 400) (hp : t 0 10 = Int32.ofNat p) (h1 : p ≤ a) (h2 : a ≤ L) (hB : ∀ i, p ≤ i → i < a → blan (t 5 i)) (hE : a = L ∨ ¬ blan (t 5 a)) : it FUEL (fun y => st_X12_reads_0 y) t = some (sp10 t a) := by
  have key := it_go (f := fun y : Mem => st_X12_reads_0 y) (fun k => sp10 t (p + k)) (a - p) (sp10 t a) (by omega) (fun k hk => by
    try dsimp only
    unfold st_X12_reads_0 jn_X12_reads_26
    rw [sp10_a, m_raw (L := L) (by rw [sp10_j (by omega)]; exact hL) hL4 (by omega), if_pos (by omega), sp10_c (by omega)]
    dsimp only [Option.bind_some]
    rcases hB (p + k) (by omega) (by omega) with q | q
    · rw [if_pos q, sp10_a, N_addL, sp10_s]
      rfl
    · rw [if_neg (by rw [q]; decide), sp10_a, m_raw (L := L) (by rw [sp10_j (by omega)]; exact hL) hL4 (by omega), if_pos (by omega), sp10_c (by omega)]
      dsimp only [Option.bind_some]
      rw [if_pos q, sp10_a, N_addL, sp10_s]
      rfl) (by
    try dsimp only
    rw [show p + (a - p) = a by omega]
    unfold st_X12_reads_0
    rw [sp10_a, m_raw (L := L) (by rw [sp10_j (by omega)]; exact hL) hL4 (by omega), sp10_c (by omega)]
    dsimp only [Option.bind_some]
    have e : ∀ v : Int32, ¬ blan v → ¬ v = 32 ∧ ¬ v = 10 := fun v hv => ⟨fun q => hv (Or.inl q), fun q => hv (Or.inr q)⟩
    have e2 : ¬ blan (if a < L then t 5 a else -1) := by
      by_cases q : a < L
      · rw [if_pos q]; exact hE.resolve_left (by omega)
      · rw [if_neg q]; decide
    rw [if_neg (e _ e2).1, sp10_a, m_raw (L := L) (by rw [sp10_j (by omega)]; exact hL) hL4 (by omega), sp10_c (by omega)]
    dsimp only [Option.bind_some]
    rw [if_neg (e _ e2).2])
  rw [Nat.add_zero, sp10_0 hp] at key
  exact key
theorem m_letters {t : Mem} {a e L : Nat} (hL : t 0 9 = Int32.ofNat L) (hL4 : L ≤ 400) (hp : t 0 10 = Int32.ofNat a) (h1 : a ≤ e) (h2 : e ≤ L) (hP : ∀ i, a ≤ i → i < e → lett (t 5 i)) (hE : e = L ∨ ¬ lett (t 5 e)) : it FUEL (fun y => st_X12_reads_95 y) t = some (sp10 t e) := by
  have key := it_go (f := fun y : Mem => st_X12_reads_95 y) (fun k => sp10 t (a + k)) (e - a) (sp10 t e) (by omega) (fun k hk => by
    try dsimp only
    unfold st_X12_reads_95
    rw [sp10_a, m_raw (L := L) (by rw [sp10_j (by omega)]; exact hL) hL4 (by omega), if_pos (by omega), sp10_c (by omega)]
    dsimp only [Option.bind_some]
    rw [m_isLetter, if_pos (hP _ (by omega) (by omega))]
    dsimp only [Option.bind_some]
    rw [if_neg (by decide), sp10_a, N_addL, sp10_s]
    rfl) (by
    try dsimp only
    rw [show a + (e - a) = e by omega]
    unfold st_X12_reads_95
    rw [sp10_a, m_raw (L := L) (by rw [sp10_j (by omega)]; exact hL) hL4 (by omega), sp10_c (by omega)]
    dsimp only [Option.bind_some]
    have e2 : ¬ lett (if e < L then t 5 e else -1) := by
      by_cases q : e < L
      · rw [if_pos q]; exact hE.resolve_left (by omega)
      · rw [if_neg q]; decide
    rw [m_isLetter, if_neg e2]
    dsimp only [Option.bind_some]
    rw [if_pos rfl])
  rw [Nat.add_zero, sp10_0 hp] at key
  exact key
/-- what digits come to -/
def nmv (f : Nat → Int32) (a : Nat) : Nat → Nat
  | 0 => 0
  | k + 1 => nmv f a k * 10 + ((f (a + k)).toNatClampNeg - 48)
def nmi (f : Nat → Int32) (a : Nat) : Nat → Int32
  | 0 => 0
  | k + 1 => nmi f a k * 10 + f (a + k) - 48
theorem digi_N {v : Int32} (h : digi v) : ∃ d, v = Int32.ofNat (48 + d) ∧ d < 10 := by
  obtain ⟨k, e, hk⟩ := N_of (x := v) (m := 57) (by have := h.1; grind) (by
    have e : Int32.ofNat 57 = 57 := rfl
    rw [e]; exact h.2) (by omega)
  have h1 := h.1
  rw [e, L_leN (by omega) (by omega)] at h1
  exact ⟨k - 48, by rw [e]; congr 1; omega, by omega⟩
theorem nmv_lt {f : Nat → Int32} {a : Nat} : ∀ k, (∀ i, i < k → digi (f (a + i))) → nmv f a k < 10 ^ k
  | 0, _ => Nat.one_pos
  | k + 1, h => by
    have h1 := nmv_lt k (fun i hi => h i (by omega))
    obtain ⟨d, e, hd⟩ := digi_N (h k (by omega))
    unfold nmv
    rw [e, N_nat (by omega), Nat.pow_succ]
    omega
theorem nmi_N {f : Nat → Int32} {a : Nat} : ∀ k, k ≤ 4 → (∀ i, i < k → digi (f (a + i))) → nmi f a k = Int32.ofNat (nmv f a k)
  | 0, _, _ => rfl
  | k + 1, hk, h => by
    have h1 := nmi_N k (by omega) (fun i hi => h i (by omega))
    have h2 := nmv_lt k (fun i hi => h i (by omega))
    have h3 : 10 ^ k ≤ 10 ^ 4 := Nat.pow_le_pow_right (by omega) (by omega)
    obtain ⟨d, e, hd⟩ := digi_N (h k (by omega))
    unfold nmi nmv
    rw [h1, e, N_nat (by omega), N_mulL, N_add, N_subL (by omega)]
    congr 1
    omega
theorem x_number {s : Mem} {a e : Nat} (h1 : a ≤ e) (h2 : e ≤ 400) : f_X6_number (Int32.ofNat a) (Int32.ofNat e) s = some (nmi (s 174) a (e - a), s) := by
  have key := it_go (f := fun y : Int32 × Int32 × Mem => st_X6_number_5 (Int32.ofNat e) y.1 y.2.1 y.2.2) (fun k => (nmi (s 174) a k, Int32.ofNat (a + k), s)) (e - a) (nmi (s 174) a (e - a), s) (by omega) (fun k hk => by
    try dsimp only
    unfold st_X6_number_5
    rw [if_neg (by rw [N_le (by omega) (by omega)]; omega), rd_N (by omega) (by omega)]
    dsimp only [Option.bind_some]
    rw [N_addL]
    rfl) (by
    try dsimp only
    rw [show a + (e - a) = e by omega]
    unfold st_X6_number_5
    rw [if_pos (by rw [N_le (by omega) (by omega)]; omega)])
  unfold f_X6_number
  rw [show ((nmi (s 174) a 0, Int32.ofNat (a + 0), s) : Int32 × Int32 × Mem) = (0, Int32.ofNat a, s) from rfl] at key
  rw [key]
  rfl
theorem m_digits {t : Mem} {a e L : Nat} (hL : t 0 9 = Int32.ofNat L) (hL4 : L ≤ 400) (ha : a < e) (h2 : e ≤ L) (hP : ∀ i, a ≤ i → i < e → digi (t 5 i)) (hE : e = L ∨ ¬ digi (t 5 e)) (hp : t 0 10 = Int32.ofNat (a + 1)) (hv : t 0 13 = Int32.ofNat (nmv (t 5) a 1)) :
    ok (it FUEL (fun y => st_X12_reads_171 y) t) (fun r => (∀ c, c ≠ 0 → r c = t c) ∧ (∀ j, j ≠ 10 → j ≠ 13 → r 0 j = t 0 j) ∧ r 0 10 = Int32.ofNat e ∧ (e - a ≤ 4 → r 0 13 = Int32.ofNat (nmv (t 5) a (e - a)))) := by
  refine it_ok1 400 (by omega) (fun k y => a + 1 + k ≤ e ∧ (∀ c, c ≠ 0 → y c = t c) ∧ (∀ j, j ≠ 10 → j ≠ 13 → y 0 j = t 0 j) ∧ y 0 10 = Int32.ofNat (a + 1 + k) ∧ (1 + k ≤ 4 → y 0 13 = Int32.ofNat (nmv (t 5) a (1 + k)))) ⟨by omega, fun _ _ => rfl, fun _ _ _ => rfl, hp, fun _ => hv⟩ (fun k y q => by omega) ?_
  rintro k y ⟨hk, q1, q2, q3, q4⟩
  try dsimp only
  unfold st_X12_reads_171
  rw [q3, m_raw (L := L) (by rw [q2 _ (by omega) (by omega)]; exact hL) hL4 (by omega), q1 5 (by omega)]
  dsimp only [Option.bind_some]
  rw [m_isDigit]
  dsimp only [Option.bind_some]
  by_cases hke : a + 1 + k = e
  · have e2 : ¬ digi (if a + 1 + k < L then t 5 (a + 1 + k) else -1) := by
      by_cases q : e < L
      · rw [hke, if_pos q]; exact hE.resolve_left (by omega)
      · rw [if_neg (by omega)]; decide
    rw [if_neg e2, if_pos rfl]
    refine Or.inr ⟨_, rfl, q1, q2, by rw [q3, hke], fun h4 => ?_⟩
    rw [q4 (by omega), show 1 + k = e - a by omega]
  · have hd := hP (a + 1 + k) (by omega) (by omega)
    rw [if_pos (show a + 1 + k < L by omega), if_pos hd, if_neg (by decide)]
    obtain ⟨d, ed, hd10⟩ := digi_N hd
    have fin : ∀ v : Int32, (1 + (k + 1) ≤ 4 → v = Int32.ofNat (nmv (t 5) a (1 + (k + 1)))) → (∃ s', jn_X12_reads_223 v y = some (.inl s') ∧ (a + 1 + (k + 1) ≤ e ∧ (∀ c, c ≠ 0 → s' c = t c) ∧ (∀ j, j ≠ 10 → j ≠ 13 → s' 0 j = t 0 j) ∧ s' 0 10 = Int32.ofNat (a + 1 + (k + 1)) ∧ (1 + (k + 1) ≤ 4 → s' 0 13 = Int32.ofNat (nmv (t 5) a (1 + (k + 1)))))) := by
      intro v hv
      unfold jn_X12_reads_223
      refine ⟨_, rfl, by omega, fun c hc => ?_, fun j h10 h13 => ?_, ?_, fun h4 => ?_⟩
      · rw [m_ne hc, m_ne hc, q1 c hc]
      · rw [m_eq, u_ne h10, m_eq, u_ne h13, q2 j h10 h13]
      · rw [m_eq, u_eq, m_eq, u_ne (by omega), q3, N_addL]
        rfl
      · rw [m_eq, u_ne (by omega), m_eq, u_eq, hv h4]
    by_cases hc : 10000 ≤ y 0 13
    · rw [if_pos hc]
      obtain ⟨s', g1, g2⟩ := fin (y 0 13) (fun h4 => by
        exfalso
        have h5 := nmv_lt (f := t 5) (a := a) (1 + k) (fun i hi => hP (a + i) (by omega) (by omega))
        have h6 : 10 ^ (1 + k) ≤ 10 ^ 3 := Nat.pow_le_pow_right (by omega) (by omega)
        rw [q4 (by omega), L_leN (by omega) (by omega)] at hc
        omega)
      exact Or.inl ⟨s', g1, g2⟩
    · rw [if_neg hc, q3, m_raw (L := L) (t := y) (by rw [q2 _ (by omega) (by omega)]; exact hL) hL4 (by omega), q1 5 (by omega), if_pos (show a + 1 + k < L by omega)]
      dsimp only [Option.bind_some]
      obtain ⟨s', g1, g2⟩ := fin (((10 * (y 0 13)) + t 5 (a + 1 + k)) - 48) (fun h4 => by
        have h5 := nmv_lt (f := t 5) (a := a) (1 + k) (fun i hi => hP (a + i) (by omega) (by omega))
        have h6 : 10 ^ (1 + k) ≤ 10 ^ 3 := Nat.pow_le_pow_right (by omega) (by omega)
        rw [q4 (by omega), ed, L_mulN, N_add, N_subL (by omega), show 1 + (k + 1) = (1 + k) + 1 by omega]
        show _ = Int32.ofNat (nmv (t 5) a (1 + k) * 10 + ((t 5 (a + (1 + k))).toNatClampNeg - 48))
        rw [show a + (1 + k) = a + 1 + k by omega, ed, N_nat (by omega)]
        congr 1
        omega)
      exact Or.inl ⟨s', g1, g2⟩
