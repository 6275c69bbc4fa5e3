/-! ===== the tree grown ===== -/
def clr (m k : Nat) : Nat := if m.testBit k = true then m - 2 ^ k else m
theorem clr_all : allN 256 (fun m => allN 8 (fun k => decide (Int32.ofNat m &&& (((1 : Int32) <<< (Int32.ofNat k &&& 31)) ^^^ (-1)) = Int32.ofNat (clr m k)) && decide (clr m k < 256) && allN 8 (fun j => (clr m k).testBit j == (m.testBit j && !Nat.beq j k)))) = true := by decide +kernel
theorem clr_N {m k : Nat} (hm : m < 256) (hk : k < 8) : Int32.ofNat m &&& (((1 : Int32) <<< (Int32.ofNat k &&& 31)) ^^^ (-1)) = Int32.ofNat (clr m k) ∧ clr m k < 256 ∧ ∀ j, j < 8 → (clr m k).testBit j = (m.testBit j && !Nat.beq j k) := by
  have h := allN_of (allN_of clr_all m hm) k hk
  simp only [Bool.and_eq_true, decide_eq_true_eq] at h
  exact ⟨h.1.1, h.1.2, fun j hj => eq_of_beq (allN_of h.2 j hj)⟩
theorem wS_pos {p : Nat → Bool} : ∀ n, 0 < wS one1 p n → ∃ x, x < n ∧ p x = true
  | 0, h => absurd h (by unfold wS; omega)
  | n + 1, h => by
    by_cases hp : p n = true
    · exact ⟨n, by omega, hp⟩
    · have e : wS one1 p (n + 1) = wS one1 p n := by
        show wS one1 p n + (if p n = true then one1 n else 0) = _
        rw [if_neg hp, Nat.add_zero]
      rw [e] at h
      obtain ⟨x, h1, h2⟩ := wS_pos n h
      exact ⟨x, by omega, h2⟩
theorem wS_drop {p q : Nat → Bool} {k n : Nat} (hq : ∀ j, j < n → q j = (p j && !Nat.beq j k)) : wS one1 p n ≤ wS one1 q n + 1 := by
  rw [wS_congr (p := q) (q := dl p k) n hq]
  by_cases hk : k < n ∧ p k = true
  · have := wS_del (v := one1) hk.2 n hk.1
    have e : one1 k = 1 := rfl
    omega
  · rw [wS_congr (p := p) (q := dl p k) n (fun j hj => by
      unfold dl
      by_cases hjk : j = k
      · subst hjk
        cases hpj : p j with
        | false => rfl
        | true => exact absurd ⟨hj, hpj⟩ hk
      · rw [beq_f hjk]
        simp)]
    omega
theorem wS_just {p q : Nat → Bool} {k n : Nat} (hq : ∀ j, j < n → q j = (p j && !Nat.beq j k)) (hk : k < n) (hp : p k = true) : wS one1 p n = wS one1 q n + 1 := by
  rw [wS_congr (p := q) (q := dl p k) n hq]
  exact wS_del (v := one1) hp n hk
/-- who may be taken: in m, and in no row from i on -/
def freeP (m : Nat) (f : Nat → Nat) (n i x : Nat) : Prop := m.testBit x = true ∧ ∀ q, i ≤ q → q < n → f q ≠ x
theorem x_clears {n i m rc : Nat} {f : Nat → Nat} {s : Mem} (hn : n ≤ 6) (hi : i ≤ n) (h0 : s rc 1 = Int32.ofNat n) (hg : gL 0 (rc + 1) = 6) (hf : ∀ j, j < n → s (rc + 1) j = Int32.ofNat (f j) ∧ f j < 8) (hm : m < 256) :
    ok (it FUEL (fun y => st_X9_leastFree_5 rc y.1 y.2.1 y.2.2) (Int32.ofNat m, Int32.ofNat i, s)) (fun r => ∃ m', r = (Int32.ofNat m', s) ∧ m' < 256 ∧ (∀ x, x < 8 → (m'.testBit x = true ↔ freeP m f n i x)) ∧ wS one1 m.testBit 8 ≤ wS one1 m'.testBit 8 + (n - i)) := by
  refine it_ok1 6 (by omega) (fun k y => ∃ m', y = (Int32.ofNat m', Int32.ofNat (i + k), s) ∧ i + k ≤ n ∧ m' < 256 ∧ (∀ x, x < 8 → (m'.testBit x = true ↔ (m.testBit x = true ∧ ∀ q, i ≤ q → q < i + k → f q ≠ x))) ∧ wS one1 m.testBit 8 ≤ wS one1 m'.testBit 8 + k) ⟨m, rfl, by omega, hm, fun x _ => ⟨fun h => ⟨h, fun q q1 q2 => by omega⟩, fun h => h.1⟩, by omega⟩ (fun k y w => by obtain ⟨_, _, w, _⟩ := w; omega) ?_
  rintro k y ⟨m', rfl, hk, h1, h2, h3⟩
  dsimp only
  unfold st_X9_leastFree_5
  rw [h0]
  by_cases hkn : i + k = n
  · rw [if_pos (by rw [N_le (by omega) (by omega)]; omega)]
    rw [hkn] at h2
    exact Or.inr ⟨_, rfl, m', rfl, h1, h2, by omega⟩
  · obtain ⟨q1, q2⟩ := hf (i + k) (by omega)
    obtain ⟨c1, c2, c3⟩ := clr_N h1 q2
    rw [if_neg (by rw [N_le (by omega) (by omega)]; omega), x_at h0 rfl hg hn (by omega) (by omega), Option.bind_some]
    dsimp only
    rw [q1, c1, N_addL]
    refine Or.inl ⟨_, rfl, _, rfl, by omega, c2, fun x hx => ?_, ?_⟩
    · rw [c3 x hx, Bool.and_eq_true, h2 x hx]
      constructor
      · rintro ⟨⟨w1, w2⟩, w3⟩
        refine ⟨w1, fun q w4 w5 => ?_⟩
        by_cases hq : q = i + k
        · subst hq
          intro w6
          rw [beq_t w6.symm] at w3
          exact absurd w3 (by decide)
        · exact w2 q w4 (by omega)
      · rintro ⟨w1, w2⟩
        refine ⟨⟨w1, fun q w4 w5 => w2 q w4 (by omega)⟩, ?_⟩
        rw [beq_f (fun w => w2 (i + k) (by omega) (by omega) w.symm)]
        rfl
    · have := wS_drop (k := f (i + k)) c3
      omega
theorem x_free {n i m rc : Nat} {f : Nat → Nat} {s : Mem} (hn : n ≤ 6) (hi : i ≤ n) (h0 : s rc 1 = Int32.ofNat n) (hg : gL 0 (rc + 1) = 6) (hf : ∀ j, j < n → s (rc + 1) j = Int32.ofNat (f j) ∧ f j < 8) (hm : m < 256) (hc : n - i < wS one1 m.testBit 8) :
    ∃ g, g < 8 ∧ freeP m f n i g ∧ (∀ x, x < g → ¬ freeP m f n i x) ∧ f_X9_leastFree rc (Int32.ofNat i) (Int32.ofNat m) s = some (Int32.ofNat g, s) := by
  obtain ⟨r, e, m', rfl, h1, h2, h3⟩ := x_clears hn hi h0 hg hf hm
  obtain ⟨x0, hx0, hb0⟩ := wS_pos (p := m'.testBit) 8 (by omega)
  have key : ok (it FUEL (fun y => st_X9_leastFree_36 rc (Int32.ofNat m') y.1 y.2) (0, s)) (fun r => ∃ g, r = (0, Int32.ofNat g, s) ∧ g < 8 ∧ m'.testBit g = true ∧ ∀ x, x < g → ¬ m'.testBit x = true) := by
    refine it_ok1 8 (by omega) (fun k y => y = (Int32.ofNat k, s) ∧ k ≤ x0 ∧ ∀ x, x < k → ¬ m'.testBit x = true) ⟨rfl, by omega, fun x hx => by omega⟩ (fun k y w => by omega) ?_
    rintro k y ⟨rfl, hk, hno⟩
    dsimp only
    unfold st_X9_leastFree_36
    rw [if_neg (by rw [L_leN (by omega) (by omega)]; omega), N_bit (by omega) (by omega)]
    by_cases hb : m'.testBit k = true
    · rw [if_pos (by rw [if_pos hb])]
      exact Or.inr ⟨_, rfl, k, rfl, by omega, hb, hno⟩
    · rw [if_neg (by rw [if_neg hb]; decide), N_addL]
      refine Or.inl ⟨_, rfl, rfl, ?_, fun x hx => ?_⟩
      · have : k ≠ x0 := by
          rintro rfl
          exact hb hb0
        omega
      · by_cases hxk : x = k
        · subst hxk
          exact hb
        · exact hno x (by omega)
  obtain ⟨r, e2, g, rfl, g1, g2, g3⟩ := key
  refine ⟨g, g1, (h2 g g1).mp g2, fun x hx w => g3 x hx ((h2 x (by omega)).mpr w), ?_⟩
  unfold f_X9_leastFree
  rw [e, Option.bind_some]
  dsimp only
  rw [e2, Option.bind_some]
  rfl
theorem m_inRow {n i x : Nat} {f : Nat → Nat} {t : Mem} (hn : n ≤ 6) (hi : i ≤ n) (h0 : t 0 52 = Int32.ofNat n) (hf : ∀ j, j < n → t 30 j = Int32.ofNat (f j) ∧ f j < 8) (hx : x < 1000) : ∃ v, f_X12_isInRow (Int32.ofNat x) (Int32.ofNat i) t = some (v, t) ∧ ((v = 0 ∧ ∀ q, i ≤ q → q < n → f q ≠ x) ∨ (v = 1 ∧ ∃ q, i ≤ q ∧ q < n ∧ f q = x)) := by
  have key : ok (it FUEL (fun y => st_X12_isInRow_2 (Int32.ofNat x) y.1 y.2) (Int32.ofNat i, t)) (fun r => r.2 = t ∧ ((r.1 = 1 ∧ ∀ q, i ≤ q → q < n → f q ≠ x) ∨ (r.1 = 0 ∧ ∃ q, i ≤ q ∧ q < n ∧ f q = x))) := by
    refine it_ok1 6 (by omega) (fun k y => y = (Int32.ofNat (i + k), t) ∧ i + k ≤ n ∧ ∀ q, i ≤ q → q < i + k → f q ≠ x) ⟨rfl, by omega, fun q q1 q2 => by omega⟩ (fun k y w => by omega) ?_
    rintro k y ⟨rfl, hk, hno⟩
    dsimp only
    unfold st_X12_isInRow_2
    rw [h0]
    by_cases hkn : i + k = n
    · rw [if_pos (by rw [N_le (by omega) (by omega)]; omega)]
      rw [hkn] at hno
      exact Or.inr ⟨_, rfl, rfl, Or.inl ⟨rfl, hno⟩⟩
    · obtain ⟨q1, q2⟩ := hf (i + k) (by omega)
      rw [if_neg (by rw [N_le (by omega) (by omega)]; omega), rd_N (by omega) (by omega), Option.bind_some, q1, N_addL]
      by_cases hfx : f (i + k) = x
      · rw [if_pos (by rw [hfx])]
        exact Or.inr ⟨_, rfl, rfl, Or.inr ⟨rfl, i + k, by omega, by omega, hfx⟩⟩
      · rw [if_neg (by rw [N_eq (by omega) (by omega)]; exact hfx)]
        refine Or.inl ⟨_, rfl, rfl, by omega, fun q w1 w2 => ?_⟩
        by_cases hq : q = i + k
        · subst hq
          exact hfx
        · exact hno q w1 (by omega)
  obtain ⟨⟨fl, t2⟩, e, q1, q2⟩ := key
  dsimp only at q1 q2
  subst q1
  unfold f_X12_isInRow
  rw [e, Option.bind_some]
  dsimp only
  rcases q2 with ⟨rfl, q⟩ | ⟨rfl, q⟩
  · exact ⟨0, by rw [if_neg (by decide)], Or.inl ⟨rfl, q⟩⟩
  · exact ⟨1, by rw [if_pos rfl], Or.inr ⟨rfl, q⟩⟩
theorem m_free {n i m g : Nat} {f : Nat → Nat} {t : Mem} {z : Int32} (hn : n ≤ 6) (hi : i ≤ n) (h0 : t 0 52 = Int32.ofNat n) (hf : ∀ j, j < n → t 30 j = Int32.ofNat (f j) ∧ f j < 8) (hm : m < 256) (hg : g < 8) (h1 : freeP m f n i g) (h2 : ∀ x, x < g → ¬ freeP m f n i x) :
    it FUEL (fun y => st_X12_growsTree_88 z (Int32.ofNat m) (Int32.ofNat i) y.1 y.2) (0, t) = some (Int32.ofNat g, t) := by
  refine it_go (f := fun y => st_X12_growsTree_88 z (Int32.ofNat m) (Int32.ofNat i) y.1 y.2) (fun k => (Int32.ofNat k, t)) g _ (by omega) (fun k hk => ?_) ?_
  · dsimp only
    unfold st_X12_growsTree_88
    rw [m_has (by omega) (by omega), Option.bind_some]
    dsimp only
    rw [N_addL]
    by_cases hb : m.testBit k = true
    · rw [if_neg (by rw [if_pos hb]; decide)]
      obtain ⟨v, e, q⟩ := m_inRow (x := k) hn hi h0 hf (by omega)
      rw [e, Option.bind_some]
      dsimp only
      rcases q with ⟨rfl, q⟩ | ⟨rfl, q⟩
      · exact absurd ⟨hb, q⟩ (h2 k hk)
      · rw [if_neg (by decide)]
    · rw [if_pos (by rw [if_neg hb])]
  · dsimp only
    unfold st_X12_growsTree_88
    rw [m_has (by omega) (by omega), Option.bind_some]
    dsimp only
    rw [if_neg (by rw [if_pos h1.1]; decide)]
    obtain ⟨v, e, q⟩ := m_inRow (x := g) hn hi h0 hf (by omega)
    rw [e, Option.bind_some]
    dsimp only
    rcases q with ⟨rfl, q⟩ | ⟨rfl, q1, q2, q3, q4⟩
    · rw [if_pos rfl]
    · exact absurd q4 (h1.2 q1 q2 q3)
