/-! ===== the greatest sum ===== -/
def smv (f : Nat → Int32) (i : Nat) : Nat → Int32
  | 0 => 0
  | q + 1 => smv f i q + f (i + q)
def mnv (f : Nat → Int32) (i : Nat) : Nat → Int32
  | 0 => f i
  | q + 1 => jmmin (mnv f i q) (f (i + q))
theorem smv_b {f : Nat → Int32} {i : Nat} : ∀ q, (∀ k, i ≤ k → k < i + q → (-50 ≤ f k ∧ f k ≤ 50)) → q ≤ 16 → -(50 * q : Int) ≤ (smv f i q).toInt ∧ (smv f i q).toInt ≤ 50 * q
  | 0, _, _ => by
    unfold smv
    decide
  | q + 1, h, hq => by
    have ih := smv_b q (fun k h1 h2 => h k h1 (by omega)) (by omega)
    obtain ⟨h1, h2⟩ := h (i + q) (by omega) (by omega)
    rw [Int32.le_iff_toInt_le] at h1 h2
    have e1 : (-50 : Int32).toInt = -50 := by decide
    have e2 : (50 : Int32).toInt = 50 := by decide
    rw [e1] at h1
    rw [e2] at h2
    have e : (smv f i (q + 1)).toInt = (smv f i q).toInt + (f (i + q)).toInt := by
      show (smv f i q + f (i + q)).toInt = _
      rw [Int32.toInt_add]
      have : (Int.bmod ((smv f i q).toInt + (f (i + q)).toInt) (2 ^ 32)) = (smv f i q).toInt + (f (i + q)).toInt := Int.bmod_eq_of_le (by omega) (by omega)
      exact this
    rw [e]
    omega
theorem mnv_b {f : Nat → Int32} {i : Nat} (h0 : -50 ≤ f i ∧ f i ≤ 50) : ∀ q, (∀ k, i ≤ k → k < i + q → (-50 ≤ f k ∧ f k ≤ 50)) → -50 ≤ mnv f i q ∧ mnv f i q ≤ 50
  | 0, _ => h0
  | q + 1, h => by
    have ih := mnv_b h0 q (fun k h1 h2 => h k h1 (by omega))
    have h1 := h (i + q) (by omega) (by omega)
    show -50 ≤ jmmin (mnv f i q) (f (i + q)) ∧ jmmin (mnv f i q) (f (i + q)) ≤ 50
    unfold jmmin
    grind
theorem sub_I {S x : Int32} (h1 : -1000 ≤ S.toInt) (h2 : S.toInt ≤ 1000) (h3 : -50 ≤ x ∧ x ≤ 50) : (S - x).toInt = S.toInt - x.toInt := by
  obtain ⟨h4, h5⟩ := h3
  rw [Int32.le_iff_toInt_le] at h4 h5
  have e1 : (-50 : Int32).toInt = -50 := by decide
  have e2 : (50 : Int32).toInt = 50 := by decide
  rw [e1] at h4
  rw [e2] at h5
  rw [Int32.toInt_sub]
  exact Int.bmod_eq_of_le (by omega) (by omega)
theorem mx_sub {b S x y : Int32} (h1 : -1000 ≤ S.toInt) (h2 : S.toInt ≤ 1000) (hx : -50 ≤ x ∧ x ≤ 50) (hy : -50 ≤ y ∧ y ≤ 50) : jmmax (jmmax b (S - x)) (S - y) = jmmax b (S - jmmin x y) := by
  have e1 := sub_I h1 h2 hx
  have e2 := sub_I h1 h2 hy
  unfold jmmin
  by_cases h : y < x
  · rw [if_pos h]
    have : S - x < S - y := by
      rw [Int32.lt_iff_toInt_lt] at h ⊢
      omega
    unfold jmmax
    grind
  · rw [if_neg h]
    have : ¬ (S - x < S - y) := by
      rw [Int32.lt_iff_toInt_lt] at h ⊢
      omega
    unfold jmmax
    grind
theorem m_sumFrom {f : Nat → Int32} {i q k n : Nat} {t : Mem} (hf : ∀ j, j < n → t 21 j = f j) (hn : n ≤ 16) (hq : i + q ≤ n) (hq0 : 0 < q) (hk : k < i + q) (hik : i ≤ k) : f_X12_sumFrom (Int32.ofNat i) (Int32.ofNat (i + q - 1)) (Int32.ofNat k) t = some (smv f i q - f k, t) := by
  have e := it_go (f := fun y => st_X12_sumFrom_6 (Int32.ofNat (i + q - 1)) (Int32.ofNat k) y.1 y.2.1 y.2.2) (fun p => (if k < i + p then smv f i p - f k else smv f i p, Int32.ofNat (i + p), t)) q (smv f i q - f k, t) (by omega) (fun p hp => by
    dsimp only
    unfold st_X12_sumFrom_6
    simp (disch := omega) only [N_lt, N_eq]
    rw [if_neg (by omega)]
    by_cases h : i + p = k
    · rw [if_pos h, if_neg (by omega), if_pos (by omega), N_addL, ← Nat.add_assoc]
      have : smv f i (p + 1) - f k = smv f i p := by
        show smv f i p + f (i + p) - f k = smv f i p
        rw [h]
        grind
      rw [this]
    · rw [if_neg h, rd_N (by omega) (by omega), Option.bind_some, hf _ (by omega), N_addL, ← Nat.add_assoc]
      by_cases h2 : k < i + p
      · rw [if_pos h2, if_pos (by omega)]
        have : smv f i (p + 1) - f k = smv f i p - f k + f (i + p) := by
          show smv f i p + f (i + p) - f k = _
          grind
        rw [this]
      · rw [if_neg h2, if_neg (by omega)]
        rfl) (by
    dsimp only
    unfold st_X12_sumFrom_6
    simp (disch := omega) only [N_lt]
    rw [if_pos (by omega), if_pos hk])
  unfold f_X12_sumFrom
  rw [if_neg (by omega)] at e
  have e' : it FUEL (fun y => st_X12_sumFrom_6 (Int32.ofNat (i + q - 1)) (Int32.ofNat k) y.1 y.2.1 y.2.2) (0, Int32.ofNat i, t) = some (smv f i q - f k, t) := e
  rw [e', Option.bind_some]
theorem m_sumAll {f : Nat → Int32} {i q n : Nat} {t : Mem} (hf : ∀ j, j < n → t 21 j = f j) (hn : n ≤ 16) (hq : i + q ≤ n) (hq0 : 0 < q) : f_X12_sumFrom (Int32.ofNat i) (Int32.ofNat (i + q - 1)) (-1) t = some (smv f i q, t) := by
  have e := it_go (f := fun y => st_X12_sumFrom_6 (Int32.ofNat (i + q - 1)) (-1) y.1 y.2.1 y.2.2) (fun p => (smv f i p, Int32.ofNat (i + p), t)) q (smv f i q, t) (by omega) (fun p hp => by
    dsimp only
    unfold st_X12_sumFrom_6
    simp (disch := omega) only [N_lt, N_neg, if_false]
    rw [if_neg (by omega), rd_N (by omega) (by omega), Option.bind_some, hf _ (by omega), N_addL, ← Nat.add_assoc]
    rfl) (by
    dsimp only
    unfold st_X12_sumFrom_6
    simp (disch := omega) only [N_lt]
    rw [if_pos (by omega)])
  unfold f_X12_sumFrom
  have e' : it FUEL (fun y => st_X12_sumFrom_6 (Int32.ofNat (i + q - 1)) (-1) y.1 y.2.1 y.2.2) (0, Int32.ofNat i, t) = some (smv f i q, t) := e
  rw [e', Option.bind_some]
theorem m_held3 {f : Nat → Int32} {x b : Int32} {i q n : Nat} {t : Mem} (hf : ∀ j, j < n → t 21 j = f j) (hb : ∀ k, k < n → (-50 ≤ f k ∧ f k ≤ 50)) (hn : n ≤ 16) (hq : i + q ≤ n) (hq0 : 0 < q) :
    it FUEL (fun y => st_X12_held_73 x (Int32.ofNat i) (Int32.ofNat (i + q - 1)) y.1 y.2.1 y.2.2) (b, Int32.ofNat i, t) = some (if x = 1 ∧ 1 < q then jmmax b (smv f i q - mnv f i q) else b, t) := by
  by_cases hx : x = 1 ∧ 1 < q
  · rw [if_pos hx]
    obtain ⟨rfl, hq1⟩ := hx
    obtain ⟨z1, z2⟩ := smv_b (f := f) (i := i) q (fun k _ h2 => hb k (by omega)) (by omega)
    have e := it_go (f := fun y => st_X12_held_73 1 (Int32.ofNat i) (Int32.ofNat (i + q - 1)) y.1 y.2.1 y.2.2) (fun p => (if p = 0 then b else jmmax b (smv f i q - mnv f i p), Int32.ofNat (i + p), t)) q (jmmax b (smv f i q - mnv f i q), t) (by omega) (fun p hp => by
      dsimp only
      unfold st_X12_held_73
      simp (disch := omega) only [N_lt, N_le]
      rw [if_neg (by omega), if_pos trivial, if_neg (by omega), m_sumFrom hf hn hq hq0 (by omega) (by omega), Option.bind_some]
      dsimp only
      rw [m_greater, Option.bind_some, N_addL, ← Nat.add_assoc, if_neg (show ¬ p + 1 = 0 by omega)]
      by_cases hp0 : p = 0
      · subst hp0
        rw [if_pos rfl]
        have : mnv f i (0 + 1) = f (i + 0) := by
          show jmmin (f i) (f (i + 0)) = f (i + 0)
          unfold jmmin
          grind
        rw [this]
      · rw [if_neg hp0, mx_sub (by omega) (by omega) (mnv_b (hb i (by omega)) p (fun k _ h2 => hb k (by omega))) (hb (i + p) (by omega))]
        rfl) (by
      dsimp only
      unfold st_X12_held_73
      simp (disch := omega) only [N_lt]
      rw [if_pos (by omega), if_neg (by omega)])
    rw [if_pos rfl] at e
    exact e
  · rw [if_neg hx]
    refine it_go (f := fun y => st_X12_held_73 x (Int32.ofNat i) (Int32.ofNat (i + q - 1)) y.1 y.2.1 y.2.2) (fun p => (b, Int32.ofNat i, t)) 0 (b, t) (by omega) (fun p hp => by omega) ?_
    dsimp only
    unfold st_X12_held_73
    simp (disch := omega) only [N_lt, N_le]
    rw [if_neg (by omega)]
    by_cases h1 : x = 1
    · have h1q : ¬ 1 < q := fun h => hx ⟨h1, h⟩
      rw [if_pos h1, if_pos (by omega)]
    · rw [if_neg h1]
theorem jm_c {a b c : Int32} : jmmax (jmmax a b) c = jmmax (jmmax a c) b := by
  unfold jmmax
  grind
theorem r_held {f : Nat → Int32} {x : Int32} {n rc : Nat} {s t : Mem} (hx : x = 0 ∨ x = 1) (hs : ∀ j, j < n → s (rc + 1) j = f j) (hf : ∀ j, j < n → t 21 j = f j) (hb : ∀ k, k < n → (-50 ≤ f k ∧ f k ≤ 50)) (hn : n ≤ 16) (e1 : s rc 1 = Int32.ofNat n) (e2 : t 0 40 = Int32.ofNat n) (hg : gL 0 (rc + 1) = 16) (hn0 : 0 < n) :
    ok2 (it FUEL (fun y => st_X9_greatestSum_18 rc x y.1 y.2.1 y.2.2) (f 0, 0, s)) (it FUEL (fun y => st_X12_held_36 x y.1 y.2.1 y.2.2) (-100000000, 0, t)) (fun r r' => r.1 = r'.1 ∧ r.2 = s ∧ r'.2 = t) := by
  have hb0 := hb 0 hn0
  have inner : ∀ i bX bM, i < n → bX = jmmax bM (f 0) → (i = 0 ∨ bX = bM) → ok2 (it FUEL (fun y => st_X9_greatestSum_42 rc x (Int32.ofNat i) y.1 y.2.1 y.2.2.1 y.2.2.2.1 y.2.2.2.2) (bX, 0, f i, Int32.ofNat i, s)) (it FUEL (fun y => st_X12_held_47 x (Int32.ofNat i) y.1 y.2.1 y.2.2) (bM, Int32.ofNat i, t))
      (fun r r' => r.1 = r'.1 ∧ r.2 = s ∧ r'.2 = t ∧ r.1 = jmmax r.1 (f 0)) := by
    intro i bX bM hi hX hX2
    refine it_ok2 16 (by omega) (fun q y y' => i + q ≤ n ∧ y.1 = jmmax y'.1 (f 0) ∧ ((i = 0 ∧ q = 0) ∨ y.1 = y'.1) ∧ y.2 = (smv f i q, mnv f i q, Int32.ofNat (i + q), s) ∧ y'.2 = (Int32.ofNat (i + q), t)) ⟨by omega, hX, hX2.imp (fun h => ⟨h, rfl⟩) id, rfl, rfl⟩ (fun k y y' q => by omega) ?_
    rintro q ⟨b, y⟩ ⟨b', y'⟩ ⟨hq, hb1, hb2, rfl, rfl⟩
    dsimp only at hb1 hb2 ⊢
    unfold st_X9_greatestSum_42 st_X12_held_47
    simp (disch := omega) only [e1, e2, hg, N_le]
    by_cases hqn : n ≤ i + q
    · rw [if_pos hqn, if_pos hqn]
      refine ok2.some (Or.inr ⟨_, _, rfl, rfl, ?_, rfl, rfl, ?_⟩)
      · rcases hb2 with h | h
        · omega
        · exact h
      · rcases hb2 with h | h
        · omega
        · dsimp only
          rw [← h] at hb1
          exact hb1
    · rw [if_neg hqn, if_neg hqn]
      simp (disch := omega) only [x_at e1 rfl hg hn, rd_N, Option.bind_some, N_addL, hs]
      have g1 := m_sumAll (i := i) (q := q + 1) hf hn (by omega) (by omega)
      rw [show i + (q + 1) - 1 = i + q by omega] at g1
      rw [g1, Option.bind_some]
      dsimp only
      rw [m_greater, Option.bind_some]
      dsimp only
      have g3 := m_held3 (x := x) (b := jmmax b' (smv f i (q + 1))) (i := i) (q := q + 1) hf hb hn (by omega) (by omega)
      rw [show i + (q + 1) - 1 = i + q by omega] at g3
      rw [g3, Option.bind_some]
      dsimp only
      have es : smv f i q + f (i + q) = smv f i (q + 1) := rfl
      have em : jmmin (mnv f i q) (f (i + q)) = mnv f i (q + 1) := rfl
      rw [es, em]
      have first : i = 0 ∧ q = 0 → smv f i (q + 1) = f 0 := by
        rintro ⟨rfl, rfl⟩
        show 0 + f (0 + 0) = f 0
        grind
      have eb : jmmax b (smv f i (q + 1)) = jmmax (jmmax b' (smv f i (q + 1))) (f 0) := by
        rw [hb1, jm_c]
      have eb2 : jmmax b (smv f i (q + 1)) = jmmax b' (smv f i (q + 1)) := by
        rcases hb2 with h | h
        · rw [eb, first h]
          unfold jmmax
          grind
        · rw [h]
      have big : ∀ z, jmmax (jmmax b' (smv f i (q + 1))) z = jmmax (jmmax (jmmax b' (smv f i (q + 1))) z) (f 0) := by
        intro z
        rw [jm_c (b := z), ← eb, eb2]
      have out : jmmax b' (smv f i (q + 1)) = jmmax (jmmax b' (smv f i (q + 1))) (f 0) := eb2.symm.trans eb
      rcases hx with rfl | rfl
      · rw [if_pos rfl, if_neg (show ¬ ((0 : Int32) = 1 ∧ 1 < q + 1) from fun h => absurd h.1 (by decide))]
        exact ok2.some (Or.inl ⟨_, _, rfl, rfl, by omega, by dsimp only; rw [eb2]; exact out, Or.inr eb2, rfl, rfl⟩)
      · rw [if_neg (by decide)]
        by_cases hq0 : q = 0
        · rw [if_pos (show i + q ≤ i by omega), if_neg (show ¬ ((1 : Int32) = 1 ∧ 1 < q + 1) by omega)]
          exact ok2.some (Or.inl ⟨_, _, rfl, rfl, by omega, by dsimp only; rw [eb2]; exact out, Or.inr eb2, rfl, rfl⟩)
        · rw [if_neg (show ¬ i + q ≤ i by omega), if_pos (show (1 : Int32) = 1 ∧ 1 < q + 1 from ⟨rfl, by omega⟩), eb2]
          exact ok2.some (Or.inl ⟨_, _, rfl, rfl, by omega, big _, Or.inr rfl, rfl, rfl⟩)
  refine it_ok2 16 (by omega) (fun i y y' => i ≤ n ∧ y.1 = jmmax y'.1 (f 0) ∧ (i = 0 ∨ y.1 = y'.1) ∧ y.2 = (Int32.ofNat i, s) ∧ y'.2 = (Int32.ofNat i, t)) ⟨by omega, by dsimp only; unfold jmmax; grind, Or.inl rfl, rfl, rfl⟩ (fun k y y' q => by omega) ?_
  rintro i ⟨b, y⟩ ⟨b', y'⟩ ⟨hi, hb1, hb2, rfl, rfl⟩
  dsimp only at hb1 hb2 ⊢
  unfold st_X9_greatestSum_18 st_X12_held_36
  simp (disch := omega) only [e1, e2, hg, N_le]
  by_cases hin : n ≤ i
  · rw [if_pos hin, if_pos hin]
    refine ok2.some (Or.inr ⟨_, _, rfl, rfl, ?_, rfl, rfl⟩)
    rcases hb2 with h | h
    · omega
    · exact h
  · rw [if_neg hin, if_neg hin]
    simp (disch := omega) only [x_at e1 rfl hg hn, rd_N, Option.bind_some, hs]
    refine (inner i b b' (by omega) hb1 hb2).bind ?_
    rintro ⟨v, s2⟩ ⟨v', t2⟩ ⟨q1, q2, q3, q4⟩
    dsimp only at q1 q2 q3 q4 ⊢
    subst q2 q3 q1
    rw [N_addL]
    exact ok2.some (Or.inl ⟨_, _, rfl, rfl, by omega, q4, Or.inr rfl, rfl, rfl⟩)
theorem o_held {x : Int32} {s t : Mem} (h : GR s t) : opR (f_X11_held x s) (f_X12_held x t) := by
  have h1 := GR_told (v := 0) h
  unfold f_X11_held f_X12_held
  generalize mset t 0 0 0 = t1 at *
  clear h
  have hG := h1
  obtain ⟨nn, hL, hX⟩ := h1
  obtain ⟨n, h1, h2, h3, h4⟩ := hX.1.2.2.1
  clear hL hX
  simp only [m_isIn, Option.bind_some]
  have go : ∀ x : Int32, (x = 0 ∨ x = 1) → opR (jn_X11_held_37 x s) (if t1 0 40 = 0 then jn_X12_held_33 x 0 t1 else jn_X12_held_33 x (-100000000) t1) := by
    intro x hx
    unfold jn_X11_held_37 jn_X12_held_33 f_X9_greatestSum
    simp only [show (1 + 31 + 1 : Nat) = 33 from rfl, show (32 + 1 : Nat) = 33 from rfl, show (33 + 1 : Nat) = 34 from rfl] at h2 h4 ⊢
    rw [h2, h3]
    by_cases hn : n = 0
    · subst hn
      rw [if_pos (by decide), if_pos (by decide)]
      dsimp only [Option.bind_some]
      have e : it FUEL (fun y => st_X12_held_36 x y.1 y.2.1 y.2.2) (0, 0, t1) = some (0, t1) := it_go (f := fun y => st_X12_held_36 x y.1 y.2.1 y.2.2) (fun _ => (0, 0, t1)) 0 (0, t1) (by omega) (fun p hp => by omega) (by
        dsimp only
        unfold st_X12_held_36
        rw [h3, if_pos (by decide)])
      rw [e]
      exact opR.ret hG
    · rw [if_neg (N_ne0 (by omega) (by omega)), if_neg (N_ne0 (by omega) (by omega))]
      rw [x_at0 (r := 34) h2 rfl gl_rows.1 h1 (by omega) (by omega), Option.bind_some]
      dsimp only
      rw [(h4 0 (by omega)).1]
      have := r_held (f := t1 21) (x := x) (n := n) (rc := 33) (s := s) (t := t1) hx (fun j hj => (h4 j hj).1) (fun j hj => rfl) (fun k hk => (h4 k hk).2) h1 h2 h3 gl_rows.1 (by omega)
      obtain ⟨⟨v, s2⟩, ⟨v', t2⟩, g1, g2, q1, q2, q3⟩ := this
      dsimp only at q1 q2 q3
      subst q1 q2 q3
      rw [g1, g2]
      exact opR.ret hG
  by_cases hx : 0 ≤ x ∧ x ≤ 1
  · rw [if_pos hx, if_neg (show ¬ x < 0 by grind), if_pos hx.2]
    rw [if_neg (show ¬ ((1 : Int32) = 0) by decide)]
    by_cases hx1 : x = 1
    · subst hx1
      rw [if_pos rfl]
      exact go 1 (Or.inr rfl)
    · have hx0 : x = 0 := by grind
      subst hx0
      rw [if_neg hx1]
      exact go 0 (Or.inl rfl)
  · rw [if_neg hx, if_pos rfl]
    by_cases h0 : x < 0
    · rw [if_pos h0]; exact opR.ret hG
    · rw [if_neg h0, if_neg (show ¬ x ≤ 1 by grind)]; exact opR.ret hG
