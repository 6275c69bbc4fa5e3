/-! ===== the stair ===== -/
def uF (op : Nat → Nat → Nat) (z : Nat) (g : Nat → Nat) (lo : Nat) : Nat → Nat
  | 0 => z
  | c + 1 => op (uF op z g lo c) (g (lo + c))
def dF (op : Nat → Nat → Nat) (z : Nat) (g : Nat → Nat) (i : Nat) : Nat → Nat
  | 0 => z
  | c + 1 => op (dF op z g i c) (g (i - 1 - c))
theorem uF_front {op : Nat → Nat → Nat} (hop : ∀ a x y, op (op a x) y = op (op a y) x) {z : Nat} {g : Nat → Nat} : ∀ c lo, uF op z g lo (c + 1) = op (uF op z g (lo + 1) c) (g lo)
  | 0, lo => rfl
  | c + 1, lo => by
    show op (uF op z g lo (c + 1)) (g (lo + (c + 1))) = op (op (uF op z g (lo + 1) c) (g (lo + 1 + c))) (g lo)
    rw [uF_front hop c lo, hop, show lo + (c + 1) = lo + 1 + c by omega]
theorem uF_dF {op : Nat → Nat → Nat} (hop : ∀ a x y, op (op a x) y = op (op a y) x) {z : Nat} {g : Nat → Nat} {i : Nat} : ∀ c, c ≤ i → uF op z g (i - c) c = dF op z g i c
  | 0, _ => rfl
  | c + 1, h => by
    rw [uF_front hop c, show i - (c + 1) + 1 = i - c by omega, uF_dF hop c (by omega), show i - (c + 1) = i - 1 - c by omega]
    rfl
theorem hop_add : ∀ a x y : Nat, a + x + y = a + y + x := by omega
theorem hop_min : ∀ a x y : Nat, min (min a x) y = min (min a y) x := by omega
theorem dF_congr {op : Nat → Nat → Nat} {z : Nat} {g g' : Nat → Nat} {i : Nat} (hg : ∀ j, j < i → g j = g' j) (hi : 0 < i) : ∀ c, dF op z g i c = dF op z g' i c
  | 0 => rfl
  | c + 1 => by
    unfold dF
    rw [dF_congr hg hi c, hg _ (by omega)]
def bB (f : Nat → Nat) : Nat → Nat → Bool
  | 0, _ => false
  | n + 1, i => bB f n i || Nat.beq (f n) i
/-- ways and fewest, as a table grown from below -/
def wT (b : Nat → Bool) (k : Nat) : Nat → Nat → Nat
  | 0, _ => 1
  | i + 1, j => if j = i + 1 then (if b (i + 1) = true then 0 else dF (fun a x => a + x) 0 (wT b k i) (i + 1) (min (i + 1) k) % 1000000007) else wT b k i j
def dT (b : Nat → Bool) (k : Nat) : Nat → Nat → Nat
  | 0, _ => 0
  | i + 1, j => if j = i + 1 then (if b (i + 1) = true then 100000000 else dF min 100000000 (fun j => dT b k i j + 1) (i + 1) (min (i + 1) k)) else dT b k i j
theorem wT_lt {b : Nat → Bool} {k : Nat} : ∀ i j, wT b k i j < 1000000007
  | 0, _ => by
    unfold wT
    decide
  | i + 1, j => by
    unfold wT
    split
    · split
      · decide
      · exact Nat.mod_lt _ (by decide)
    · exact wT_lt i j
theorem dF_min {g : Nat → Nat} {i : Nat} : ∀ c, dF min 100000000 g i c ≤ 100000000
  | 0 => Nat.le_refl _
  | c + 1 => by
    have := dF_min (g := g) (i := i) c
    unfold dF
    omega
theorem dT_le {b : Nat → Bool} {k : Nat} : ∀ i j, dT b k i j ≤ 100000000
  | 0, _ => by
    unfold dT
    decide
  | i + 1, j => by
    unfold dT
    split
    · split
      · decide
      · exact dF_min _
    · exact dT_le i j
theorem m_isBad {f : Nat → Nat} {n i : Nat} {t : Mem} (hn : n ≤ 8) (h0 : t 0 55 = Int32.ofNat n) (hf : ∀ j, j < n → t 32 j = Int32.ofNat (f j) ∧ f j ≤ 40) (hi : i ≤ 40) : f_X12_isBad (Int32.ofNat i) t = some (if bB f n i = true then 1 else 0, t) := by
  have key : ok (it FUEL (fun y => st_X12_isBad_2 (Int32.ofNat i) y.1 y.2) (0, t)) (fun r => r.2 = t ∧ ((r.1 = 0 ∧ bB f n i = true) ∨ (r.1 = 1 ∧ bB f n i = false))) := by
    refine it_ok1 8 (by omega) (fun k y => y = (Int32.ofNat k, t) ∧ k ≤ n ∧ bB f k i = false) ⟨rfl, by omega, rfl⟩ (fun k y q => by omega) ?_
    rintro k y ⟨rfl, h1, h2⟩
    dsimp only
    unfold st_X12_isBad_2
    rw [h0]
    by_cases hk : k = n
    · subst hk
      rw [if_pos (by rw [N_le (by omega) (by omega)]; omega)]
      exact Or.inr ⟨_, rfl, rfl, Or.inr ⟨rfl, h2⟩⟩
    · obtain ⟨q1, q2⟩ := hf k (by omega)
      rw [if_neg (by rw [N_le (by omega) (by omega)]; omega), rd_N (by omega) (by omega), Option.bind_some, q1, N_addL]
      have hs : bB f (k + 1) i = (bB f k i || Nat.beq (f k) i) := rfl
      by_cases hfi : f k = i
      · rw [if_pos (by rw [hfi])]
        refine Or.inr ⟨_, rfl, rfl, Or.inl ⟨rfl, ?_⟩⟩
        have mono : ∀ m, bB f (k + 1 + m) i = true := by
          intro m
          induction m with
          | zero => rw [Nat.add_zero, hs, hfi]; simp
          | succ m ih =>
            show (bB f (k + 1 + m) i || _) = true
            rw [ih, Bool.true_or]
        have := mono (n - (k + 1))
        rw [show k + 1 + (n - (k + 1)) = n by omega] at this
        exact this
      · rw [if_neg (by rw [N_eq (by omega) (by omega)]; exact hfi)]
        refine Or.inl ⟨_, rfl, rfl, by omega, ?_⟩
        rw [hs, h2, Bool.false_or]
        cases hb : Nat.beq (f k) i with
        | false => rfl
        | true => exact absurd (Nat.eq_of_beq_eq_true hb) hfi
  obtain ⟨⟨fl, t2⟩, e, q1, q2⟩ := key
  dsimp only at q1 q2
  subst q1
  unfold f_X12_isBad
  rw [e, Option.bind_some]
  dsimp only
  rcases q2 with ⟨rfl, q⟩ | ⟨rfl, q⟩
  · rw [if_pos rfl, if_pos q]
  · rw [if_neg (by decide), if_neg (by rw [q]; decide)]
theorem m_stIn {f : Nat → Nat} {n k i : Nat} {w d : Nat → Nat} {t : Mem} {z z' : Int32} (hn : n ≤ 8) (h0 : t 0 55 = Int32.ofNat n) (hf : ∀ j, j < n → t 32 j = Int32.ofNat (f j) ∧ f j ≤ 40) (hi : i ≤ 40) (hk : 1 ≤ k) (hk6 : k ≤ 6) (hw : ∀ j, j < i → t 33 j = Int32.ofNat (w j) ∧ w j < 1000000007) (hd : ∀ j, j < i → t 34 j = Int32.ofNat (d j) ∧ d j ≤ 100000000)
    (e33 : i ≠ 0 → t 33 i = 0) (e34 : i ≠ 0 → t 34 i = 100000000) :
    ok (it FUEL (fun y => st_X12_stair_87 z (Int32.ofNat k) z' (Int32.ofNat i) y.1 y.2) (1, t)) (fun t' => (∀ c, c ≠ 33 → c ≠ 34 → t' c = t c) ∧ (∀ j, j ≠ i → t' 33 j = t 33 j ∧ t' 34 j = t 34 j) ∧ (i = 0 → t' 33 i = t 33 i ∧ t' 34 i = t 34 i) ∧
      (i ≠ 0 → t' 33 i = Int32.ofNat (if bB f n i = true then 0 else dF (fun a x => a + x) 0 w i (min i k) % 1000000007) ∧ t' 34 i = Int32.ofNat (if bB f n i = true then 100000000 else dF min 100000000 (fun j => d j + 1) i (min i k)))) := by
  refine it_ok1 6 (by omega) (fun c y => ∃ t', y = (Int32.ofNat (c + 1), t') ∧ c ≤ min i k ∧ (∀ c, c ≠ 33 → c ≠ 34 → t' c = t c) ∧ (∀ j, j ≠ i → t' 33 j = t 33 j ∧ t' 34 j = t 34 j) ∧ (c = 0 → t' = t) ∧ (c ≠ 0 → bB f n i = false ∧ t' 33 i = Int32.ofNat (dF (fun a x => a + x) 0 w i c % 1000000007) ∧ t' 34 i = Int32.ofNat (dF min 100000000 (fun j => d j + 1) i c))) ⟨t, rfl, by omega, fun _ _ _ => rfl, fun _ _ => ⟨rfl, rfl⟩, fun _ => rfl, fun q => absurd rfl q⟩ (fun c y q => by obtain ⟨_, _, q, _⟩ := q; omega) ?_
  rintro c y ⟨t', rfl, hc, g1, g2, g3, g4⟩
  dsimp only
  have fin : c = min i k → (∀ c, c ≠ 33 → c ≠ 34 → t' c = t c) ∧ (∀ j, j ≠ i → t' 33 j = t 33 j ∧ t' 34 j = t 34 j) ∧ (i = 0 → t' 33 i = t 33 i ∧ t' 34 i = t 34 i) ∧
      (i ≠ 0 → t' 33 i = Int32.ofNat (if bB f n i = true then 0 else dF (fun a x => a + x) 0 w i (min i k) % 1000000007) ∧ t' 34 i = Int32.ofNat (if bB f n i = true then 100000000 else dF min 100000000 (fun j => d j + 1) i (min i k))) := by
    intro hcm
    refine ⟨g1, g2, fun hi0 => ?_, fun hi0 => ?_⟩
    · rw [g3 (by omega)]
      exact ⟨rfl, rfl⟩
    · obtain ⟨q1, q2, q3⟩ := g4 (by omega)
      rw [if_neg (by rw [q1]; decide), if_neg (by rw [q1]; decide), ← hcm]
      exact ⟨q2, q3⟩
  unfold st_X12_stair_87
  by_cases h1 : k < c + 1
  · rw [if_pos (by rw [N_lt (by omega) (by omega)]; exact h1)]
    exact Or.inr ⟨_, rfl, fin (by omega)⟩
  · rw [if_neg (by rw [N_lt (by omega) (by omega)]; exact h1)]
    by_cases h2 : i < c + 1
    · rw [if_pos (by rw [N_lt (by omega) (by omega)]; exact h2)]
      exact Or.inr ⟨_, rfl, fin (by omega)⟩
    · rw [if_neg (by rw [N_lt (by omega) (by omega)]; exact h2)]
      have hb := m_isBad (t := t') (i := i) hn (by rw [g1 0 (by omega) (by omega)]; exact h0) (fun j hj => by rw [g1 32 (by omega) (by omega)]; exact hf j hj) hi
      rw [hb, Option.bind_some]
      dsimp only
      cases hbb : bB f n i with
      | true =>
        rw [if_pos rfl, if_neg (by decide)]
        have hc0 : c = 0 := by
          by_cases q : c = 0
          · exact q
          · have := (g4 q).1
            rw [hbb] at this
            cases this
        have := g3 hc0
        subst this
        refine Or.inr ⟨_, rfl, g1, g2, fun q => by omega, fun q => ?_⟩
        rw [if_pos rfl, if_pos rfl]
        exact ⟨e33 q, e34 q⟩
      | false =>
        rw [if_pos (show (if false = true then (1 : Int32) else 0) = 0 by decide)]
        have v33 : t' 33 i = Int32.ofNat (dF (fun a x => a + x) 0 w i c % 1000000007) := by
          by_cases q : c = 0
          · subst q
            rw [g3 rfl, e33 (by omega)]
            rfl
          · exact (g4 q).2.1
        have v34 : t' 34 i = Int32.ofNat (dF min 100000000 (fun j => d j + 1) i c) := by
          by_cases q : c = 0
          · subst q
            rw [g3 rfl, e34 (by omega)]
            rfl
          · exact (g4 q).2.2
        have hj : i - (c + 1) ≠ i := by omega
        obtain ⟨w1, w2⟩ := hw (i - (c + 1)) (by omega)
        obtain ⟨d1, d2⟩ := hd (i - (c + 1)) (by omega)
        have hm := Nat.mod_lt (dF (fun a x => a + x) 0 w i c) (show 0 < 1000000007 by decide)
        have hmin := dF_min (g := fun j => d j + 1) (i := i) c
        rw [N_sub (show c + 1 ≤ i by omega)]
        simp (disch := omega) only [rd_N, wr_N, Option.bind_some, m_ne, v33, v34, (g2 _ hj).1, (g2 _ hj).2, w1, d1, N_add, N_addL, m_lesser, jmin_N]
        rw [N_modL (by omega) (by omega)]
        refine Or.inl ⟨_, rfl, _, rfl, by omega, fun c' q1 q2 => ?_, fun j q => ⟨?_, ?_⟩, fun q => by omega, fun _ => ⟨trivial, ?_, ?_⟩⟩
        · rw [m_ne q2, m_ne q1]
          exact g1 c' q1 q2
        · rw [m_ne (by omega), m_eq, u_ne q]
          exact (g2 j q).1
        · rw [m_eq, u_ne q, m_ne (by omega)]
          exact (g2 j q).2
        · rw [m_ne (by omega), m_eq, u_eq]
          congr 1
          show _ = (dF (fun a x => a + x) 0 w i c + w (i - 1 - c)) % 1000000007
          rw [show i - (c + 1) = i - 1 - c by omega, Nat.mod_add_mod]
        · rw [m_eq, u_eq]
          show _ = Int32.ofNat (min (dF min 100000000 (fun j => d j + 1) i c) (d (i - 1 - c) + 1))
          rw [show i - (c + 1) = i - 1 - c by omega]
theorem m_stairs {f : Nat → Nat} {n k h : Nat} {t : Mem} {z : Int32} (hn : n ≤ 8) (h0 : t 0 55 = Int32.ofNat n) (hf : ∀ j, j < n → t 32 j = Int32.ofNat (f j) ∧ f j ≤ 40) (hh : h ≤ 40) (hk : 1 ≤ k) (hk6 : k ≤ 6) :
    ok (it FUEL (fun y => st_X12_stair_42 (Int32.ofNat h) (Int32.ofNat k) z y.1 y.2) (0, t)) (fun t' => (∀ c, c ≠ 33 → c ≠ 34 → t' c = t c) ∧ ∀ j, j ≤ h → t' 33 j = Int32.ofNat (wT (bB f n) k h j) ∧ t' 34 j = Int32.ofNat (dT (bB f n) k h j)) := by
  refine it_ok1 41 (by omega) (fun i y => ∃ t', y = (Int32.ofNat i, t') ∧ i ≤ h + 1 ∧ (∀ c, c ≠ 33 → c ≠ 34 → t' c = t c) ∧ ∀ j, j < i → t' 33 j = Int32.ofNat (wT (bB f n) k (i - 1) j) ∧ t' 34 j = Int32.ofNat (dT (bB f n) k (i - 1) j)) ⟨t, rfl, by omega, fun _ _ _ => rfl, fun j hj => by omega⟩ (fun i y q => by obtain ⟨_, _, q, _⟩ := q; omega) ?_
  rintro i y ⟨t', rfl, hi, g1, g2⟩
  dsimp only
  unfold st_X12_stair_42
  by_cases hih : i = h + 1
  · subst hih
    rw [if_pos (by rw [N_lt (by omega) (by omega)]; omega)]
    exact Or.inr ⟨_, rfl, g1, fun j hj => g2 j (by omega)⟩
  · rw [if_neg (by rw [N_lt (by omega) (by omega)]; omega)]
    have run : ∀ t2 : Mem, (∀ c, c ≠ 33 → c ≠ 34 → t2 c = t c) → (∀ j, j < i → t2 33 j = t' 33 j ∧ t2 34 j = t' 34 j) → (i = 0 → t2 33 i = 1 ∧ t2 34 i = 0) → (i ≠ 0 → t2 33 i = 0) → (i ≠ 0 → t2 34 i = 100000000) →
        (∃ s', ((it FUEL (fun y => st_X12_stair_87 (Int32.ofNat h) (Int32.ofNat k) z (Int32.ofNat i) y.1 y.2) (1, t2)).bind fun r23 => (some (Sum.inl (Int32.ofNat i + 1, r23)) : Option ((Int32 × Mem) ⊕ Mem))) = some (Sum.inl s') ∧ ∃ t', s' = (Int32.ofNat (i + 1), t') ∧ i + 1 ≤ h + 1 ∧ (∀ c, c ≠ 33 → c ≠ 34 → t' c = t c) ∧ ∀ j, j < i + 1 → t' 33 j = Int32.ofNat (wT (bB f n) k (i + 1 - 1) j) ∧ t' 34 j = Int32.ofNat (dT (bB f n) k (i + 1 - 1) j)) := by
      intro t2 a1 a2 a3 a4 a5
      obtain ⟨t3, e, b1, b2, b3, b4⟩ := m_stIn (z := Int32.ofNat h) (z' := z) (t := t2) (w := wT (bB f n) k (i - 1)) (d := dT (bB f n) k (i - 1)) (i := i) hn (by rw [a1 0 (by omega) (by omega)]; exact h0) (fun j hj => by rw [a1 32 (by omega) (by omega)]; exact hf j hj) (by omega) hk hk6
        (fun j hj => ⟨by rw [(a2 j hj).1]; exact (g2 j hj).1, wT_lt _ _⟩) (fun j hj => ⟨by rw [(a2 j hj).2]; exact (g2 j hj).2, dT_le _ _⟩) a4 a5
      rw [e, Option.bind_some, N_addL]
      refine ⟨_, rfl, t3, rfl, by omega, fun c q1 q2 => (b1 c q1 q2).trans (a1 c q1 q2), fun j hj => ?_⟩
      rw [show i + 1 - 1 = i by omega]
      by_cases hji : j = i
      · subst hji
        cases j with
        | zero =>
          obtain ⟨c1, c2⟩ := b3 rfl
          obtain ⟨c3, c4⟩ := a3 rfl
          rw [c1, c2, c3, c4]
          exact ⟨rfl, rfl⟩
        | succ i =>
          obtain ⟨c1, c2⟩ := b4 (by omega)
          rw [c1, c2]
          refine ⟨?_, ?_⟩
          · show _ = Int32.ofNat (if i + 1 = i + 1 then _ else _)
            rw [if_pos rfl]
            rfl
          · show _ = Int32.ofNat (if i + 1 = i + 1 then _ else _)
            rw [if_pos rfl]
            rfl
      · obtain ⟨c1, c2⟩ := b2 j hji
        obtain ⟨c3, c4⟩ := a2 j (by omega)
        obtain ⟨c5, c6⟩ := g2 j (by omega)
        rw [c1, c2, c3, c4, c5, c6]
        cases i with
        | zero => omega
        | succ i =>
          refine ⟨?_, ?_⟩
          · show _ = Int32.ofNat (if j = i + 1 then _ else _)
            rw [if_neg hji]
            rfl
          · show _ = Int32.ofNat (if j = i + 1 then _ else _)
            rw [if_neg hji]
            rfl
    unfold jn_X12_stair_64 jn_X12_stair_83
    by_cases hi0 : i = 0
    · subst hi0
      rw [if_pos (show Int32.ofNat 0 = 0 from rfl), wr_N (by omega) (by omega), Option.bind_some, if_pos (show Int32.ofNat 0 = 0 from rfl), wr_N (by omega) (by omega), Option.bind_some]
      refine Or.inl (run _ (fun c q1 q2 => ?_) (fun j hj => by omega) (fun _ => ⟨?_, ?_⟩) (fun q => absurd rfl q) (fun q => absurd rfl q))
      · rw [m_ne q2, m_ne q1]
        exact g1 c q1 q2
      · rw [m_ne (by omega), m_eq, u_eq]
      · rw [m_eq, u_eq]
    · have hz : ¬ Int32.ofNat i = 0 := by rw [N_eqL (by omega) (by omega)]; exact hi0
      rw [if_neg hz, wr_N (by omega) (by omega), Option.bind_some, if_neg hz, wr_N (by omega) (by omega), Option.bind_some]
      refine Or.inl (run _ (fun c q1 q2 => ?_) (fun j hj => ⟨?_, ?_⟩) (fun q => absurd q hi0) (fun _ => ?_) (fun _ => ?_))
      · rw [m_ne q2, m_ne q1]
        exact g1 c q1 q2
      · rw [m_ne (by omega), m_eq, u_ne (by omega)]
      · rw [m_eq, u_ne (by omega), m_ne (by omega)]
      · rw [m_ne (by omega), m_eq, u_eq]
      · rw [m_eq, u_eq]
