/-! ===== the tree grown, both sides in step ===== -/
def EB (g f : Nat → Nat) : Nat → Nat → Nat → Bool
  | 0, _, _ => false
  | i + 1, x, y => EB g f i x y || (Nat.beq x (g i) && Nat.beq y (f i)) || (Nat.beq y (g i) && Nat.beq x (f i))
def xt (g : Nat → Nat) (i x : Nat) : Nat → Nat := fun q => if q = i then x else g q
theorem xt_eq {g : Nat → Nat} {i x : Nat} : xt g i x i = x := by
  unfold xt
  rw [if_pos rfl]
theorem xt_ne {g : Nat → Nat} {i x q : Nat} (h : q ≠ i) : xt g i x q = g q := by
  unfold xt
  rw [if_neg h]
theorem EB_congr {g g' f f' : Nat → Nat} {x y : Nat} : ∀ i, (∀ q, q < i → g' q = g q ∧ f' q = f q) → EB g' f' i x y = EB g f i x y
  | 0, _ => rfl
  | i + 1, h => by
    unfold EB
    rw [EB_congr i (fun q hq => h q (by omega)), (h i (by omega)).1, (h i (by omega)).2]
def matI (g f : Nat → Nat) (i : Nat) (t : Mem) : Prop := ∀ x y, x < 8 → y < 8 → t 31 (8 * x + y) = Int32.ofNat (if x = y then 0 else if EB g f i x y = true then 1 else 100000000)
theorem m_joins {g f : Nat → Nat} {i : Nat} {t : Mem} (h : matI g f i t) (hg : g i < 8) (hf : f i < 8) (hne : f i ≠ g i) : ∃ t', f_X12_joins (Int32.ofNat (g i)) (Int32.ofNat (f i)) t = some t' ∧ matI g f (i + 1) t' ∧ ∀ c, c ≠ 31 → t' c = t c := by
  unfold f_X12_joins
  rw [L_mulN, L_mulN, N_add, N_add, wr_N (by omega) (by omega), Option.bind_some, wr_N (by omega) (by omega), Option.bind_some]
  refine ⟨_, rfl, fun x y hx hy => ?_, fun c hc => by rw [m_ne hc, m_ne hc]⟩
  have e : EB g f (i + 1) x y = (EB g f i x y || (Nat.beq x (g i) && Nat.beq y (f i)) || (Nat.beq y (g i) && Nat.beq x (f i))) := rfl
  rw [m_eq, e]
  by_cases h1 : x = f i ∧ y = g i
  · obtain ⟨rfl, rfl⟩ := h1
    rw [u_eq, if_neg hne, beq_t rfl, beq_t rfl]
    simp
  · rw [u_ne (by omega), m_eq]
    by_cases h2 : x = g i ∧ y = f i
    · obtain ⟨rfl, rfl⟩ := h2
      rw [u_eq, if_neg (Ne.symm hne), beq_t rfl, beq_t rfl]
      simp
    · rw [u_ne (by omega), h x y hx hy]
      have e1 : (Nat.beq x (g i) && Nat.beq y (f i)) = false := by
        by_cases w : x = g i
        · rw [beq_f (show y ≠ f i from fun w2 => h2 ⟨w, w2⟩), Bool.and_false]
        · rw [beq_f w, Bool.false_and]
      have e2 : (Nat.beq y (g i) && Nat.beq x (f i)) = false := by
        by_cases w : y = g i
        · rw [beq_f (show x ≠ f i from fun w2 => h1 ⟨w2, w⟩), Bool.and_false]
        · rw [beq_f w, Bool.false_and]
      rw [e1, e2, Bool.or_false, Bool.or_false]
/-- i places taken away, g in their order -/
def grI (n : Nat) (f g : Nat → Nat) (i m : Nat) : Prop :=
  m < 256 ∧ (∀ x, x < 8 → (m.testBit x = true ↔ x < n + 2 ∧ ∀ q, q < i → g q ≠ x)) ∧ wS one1 m.testBit 8 + i = n + 2 ∧ ∀ q, q < i → g q < n + 2 ∧ (∀ q', q' < q → g q' ≠ g q) ∧ ∀ q', q ≤ q' → q' < n → f q' ≠ g q
theorem grI_step {n i m x : Nat} {f g : Nat → Nat} (h : grI n f g i m) (hx : x < 8) (hm : m.testBit x = true) (hno : ∀ q, i ≤ q → q < n → f q ≠ x) : grI n f (xt g i x) (i + 1) (clr m x) := by
  obtain ⟨h1, h2, h3, h4⟩ := h
  obtain ⟨-, c2, c3⟩ := clr_N h1 hx
  have hxx := (h2 x hx).mp hm
  refine ⟨c2, fun y hy => ?_, ?_, fun q hq => ?_⟩
  · rw [c3 y hy, Bool.and_eq_true, h2 y hy]
    constructor
    · rintro ⟨⟨w1, w2⟩, w3⟩
      refine ⟨w1, fun q hq => ?_⟩
      by_cases hqi : q = i
      · rw [hqi, xt_eq]
        rintro rfl
        rw [beq_t rfl] at w3
        exact absurd w3 (by decide)
      · rw [xt_ne hqi]
        exact w2 q (by omega)
    · rintro ⟨w1, w2⟩
      refine ⟨⟨w1, fun q hq => ?_⟩, ?_⟩
      · have := w2 q (by omega)
        rw [xt_ne (by omega)] at this
        exact this
      · have := w2 i (by omega)
        rw [xt_eq] at this
        rw [beq_f (Ne.symm this)]
        rfl
  · have := wS_just (k := x) c3 hx hm
    omega
  · by_cases hqi : q = i
    · subst hqi
      rw [xt_eq]
      refine ⟨hxx.1, fun q' hq' => ?_, hno⟩
      rw [xt_ne (by omega)]
      exact hxx.2 q' hq'
    · rw [xt_ne hqi]
      obtain ⟨k1, k2, k3⟩ := h4 q (by omega)
      refine ⟨k1, fun q' hq' => ?_, k3⟩
      rw [xt_ne (by omega)]
      exact k2 q' hq'
def rwX (s : Mem) (n : Nat) (f : Nat → Nat) : Prop := n ≤ 6 ∧ s 51 1 = Int32.ofNat n ∧ ∀ j, j < n → s 52 j = Int32.ofNat (f j) ∧ f j < n + 2
def rwM (t : Mem) (n : Nat) (f : Nat → Nat) : Prop := n ≤ 6 ∧ t 0 52 = Int32.ofNat n ∧ ∀ j, j < n → t 30 j = Int32.ofNat (f j) ∧ f j < n + 2
theorem rwX_s {s s' : Mem} {n : Nat} {f : Nat → Nat} (h : rwX s n f) (e : ∀ c, c ≠ 199 → s' c = s c) : rwX s' n f := by
  unfold rwX
  rw [e 51 (by omega), e 52 (by omega)]
  exact h
theorem rwM_t {t t' : Mem} {n : Nat} {f : Nat → Nat} (h : rwM t n f) (e : ∀ c, c ≠ 31 → t' c = t c) : rwM t' n f := by
  unfold rwM
  rw [e 0 (by omega), e 30 (by omega)]
  exact h
theorem r_grow {n m0 : Nat} {f g0 : Nat → Nat} {s t : Mem} {z : Int32} (hX : rwX s n f) (hM : rwM t n f) (h0 : grI n f g0 0 m0) (hmat : matI g0 f 0 t) :
    ok2 (it FUEL (fun y => st_X9_growTree_32 51 y.1 y.2.1 y.2.2) (Int32.ofNat m0, 0, s)) (it FUEL (fun y => st_X12_growsTree_77 z y.1 y.2.1 y.2.2) (Int32.ofNat m0, 0, t))
      (fun r r' => ∃ g m, r = (1, Int32.ofNat m, r.2.2) ∧ r' = (Int32.ofNat m, r'.2) ∧ grI n f g n m ∧ (∀ c, c ≠ 199 → r.2.2 c = s c) ∧ (∀ q, q < n → r.2.2 199 (g q) = Int32.ofNat (f q)) ∧ (∀ c, c ≠ 31 → r'.2 c = t c) ∧ matI g f n r'.2) := by
  refine it_ok2 6 (by omega) (fun i y y' => ∃ g m s' t', y = (Int32.ofNat m, Int32.ofNat i, s') ∧ y' = (Int32.ofNat m, Int32.ofNat i, t') ∧ i ≤ n ∧ grI n f g i m ∧ (∀ c, c ≠ 199 → s' c = s c) ∧ (∀ q, q < i → s' 199 (g q) = Int32.ofNat (f q)) ∧ (∀ c, c ≠ 31 → t' c = t c) ∧ matI g f i t')
    ⟨g0, m0, s, t, rfl, rfl, by omega, h0, fun _ _ => rfl, fun q hq => by omega, fun _ _ => rfl, hmat⟩ (fun i y y' w => by
      obtain ⟨_, _, _, _, _, _, w, _⟩ := w
      have := hX.1
      omega) ?_
  rintro i y y' ⟨g, m, s', t', rfl, rfl, hi, hI, sf, sv, tf, tm⟩
  have hX' := rwX_s hX sf
  have hM' := rwM_t hM tf
  obtain ⟨hn, x1, x2⟩ := hX'
  obtain ⟨-, y1, y2⟩ := hM'
  dsimp only
  unfold st_X9_growTree_32 st_X12_growsTree_77
  rw [x1, y1]
  by_cases hin : i = n
  · subst hin
    rw [if_pos (by rw [N_le (by omega) (by omega)]; omega), if_pos (by rw [N_le (by omega) (by omega)]; omega)]
    exact ok2.some (Or.inr ⟨_, _, rfl, rfl, g, m, rfl, rfl, hI, sf, sv, tf, tm⟩)
  · rw [if_neg (by rw [N_le (by omega) (by omega)]; omega), if_neg (by rw [N_le (by omega) (by omega)]; omega)]
    have hI' := hI
    obtain ⟨i1, i2, i3, i4⟩ := hI'
    obtain ⟨x, hx, fr, least, e⟩ := x_free (rc := 51) (i := i) (m := m) (s := s') hn hi x1 gl_rows.2.2.2.2.2.2.2.2.2.1 (fun j hj => ⟨(x2 j hj).1, by have := (x2 j hj).2; omega⟩) i1 (by omega)
    have e' := m_free (z := z) (t := t') (i := i) (m := m) hn hi y1 (fun j hj => ⟨(y2 j hj).1, by have := (y2 j hj).2; omega⟩) i1 hx fr least
    have nI := grI_step hI hx fr.1 fr.2
    obtain ⟨c1, c2, c3⟩ := clr_N i1 hx
    obtain ⟨x3, x4⟩ := x2 i (by omega)
    obtain ⟨y3, y4⟩ := y2 i (by omega)
    rw [e, Option.bind_some, e', Option.bind_some]
    dsimp only
    rw [if_neg (by rw [N_neg (by omega)]; exact fun w => w), x_at (r := 52) x1 rfl gl_rows.2.2.2.2.2.2.2.2.2.1 hn (by omega) (by omega), Option.bind_some]
    dsimp only
    rw [x3, wr_N (by omega) (by omega), Option.bind_some, rd_N (by omega) (by omega), Option.bind_some, y3, c1]
    have tm' : matI (xt g i x) f i t' := fun a b ha hb => by
      rw [tm a b ha hb, EB_congr (g' := xt g i x) (f' := f) i (fun q hq => ⟨xt_ne (by omega), rfl⟩)]
    have hgi : xt g i x i = x := xt_eq
    obtain ⟨t2, e2, nm, nf⟩ := m_joins tm' (by rw [hgi]; exact hx) (by omega) (by rw [hgi]; exact fr.2 i (by omega) (by omega))
    rw [hgi] at e2
    rw [e2, Option.bind_some, N_addL]
    refine ok2.some (Or.inl ⟨_, _, rfl, rfl, _, _, _, _, rfl, rfl, by omega, nI, fun c hc => ?_, fun q hq => ?_, fun c hc => (nf c hc).trans (tf c hc), nm⟩)
    · rw [m_ne hc]
      exact sf c hc
    · rw [m_eq]
      by_cases hqi : q = i
      · subst hqi
        rw [xt_eq, u_eq]
      · have hgq : g q ≠ x := ((i2 x hx).mp fr.1).2 q (by omega)
        rw [xt_ne hqi, u_ne hgq]
        exact sv q (by omega)
