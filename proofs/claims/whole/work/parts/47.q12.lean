/-! ===== the stair, the object's side ===== -/
theorem x_markBad {f : Nat → Nat} {n rc : Nat} {s : Mem} (hn : n ≤ 8) (h0 : s rc 1 = Int32.ofNat n) (hg : gL 0 (rc + 1) = 8) (hf : ∀ j, j < n → s (rc + 1) j = Int32.ofNat (f j) ∧ f j ≤ 40) (hrc : rc < 197) :
    ok (f_X9_markBad rc s) (fun s' => (∀ c, c ≠ 198 → s' c = s c) ∧ ∀ i, i ≤ 40 → s' 198 i = if bB f n i = true then 1 else 0) := by
  have l1 : ok (it FUEL (fun y => st_X9_markBad_2 rc y.1 y.2) (0, s)) (fun s' => (∀ c, c ≠ 198 → s' c = s c) ∧ ∀ i, i ≤ 40 → s' 198 i = 0) := by
    refine it_ok1 41 (by omega) (fun k y => ∃ s', y = (Int32.ofNat k, s') ∧ k ≤ 41 ∧ (∀ c, c ≠ 198 → s' c = s c) ∧ ∀ i, i < k → s' 198 i = 0) ⟨s, rfl, by omega, fun _ _ => rfl, fun i hi => by omega⟩ (fun k y q => by obtain ⟨_, _, q, _⟩ := q; exact q) ?_
    rintro k y ⟨s', rfl, h1, h2, h3⟩
    dsimp only
    unfold st_X9_markBad_2
    by_cases hk : k = 41
    · subst hk
      rw [if_pos (by decide)]
      exact Or.inr ⟨_, rfl, h2, fun i hi => h3 i (by omega)⟩
    · rw [if_neg (by rw [L_ltN (by omega) (by omega)]; omega), wr_N (by omega) (by omega), Option.bind_some, N_addL]
      refine Or.inl ⟨_, rfl, _, rfl, by omega, fun c hc => ?_, fun i hi => ?_⟩
      · rw [m_ne hc]
        exact h2 c hc
      · rw [m_eq]
        by_cases hik : i = k
        · subst hik
          rw [u_eq]
        · rw [u_ne hik]
          exact h3 i (by omega)
  obtain ⟨s1, e1, a1, a2⟩ := l1
  have l2 : ok (it FUEL (fun y => st_X9_markBad_23 rc y.1 y.2) (0, s1)) (fun s' => (∀ c, c ≠ 198 → s' c = s c) ∧ ∀ i, i ≤ 40 → s' 198 i = if bB f n i = true then 1 else 0) := by
    refine it_ok1 8 (by omega) (fun k y => ∃ s', y = (Int32.ofNat k, s') ∧ k ≤ n ∧ (∀ c, c ≠ 198 → s' c = s c) ∧ ∀ i, i ≤ 40 → s' 198 i = if bB f k i = true then 1 else 0) ⟨s1, rfl, by omega, a1, fun i hi => by rw [a2 i hi]; rfl⟩ (fun k y q => by obtain ⟨_, _, q, _⟩ := q; omega) ?_
    rintro k y ⟨s', rfl, h1, h2, h3⟩
    dsimp only
    unfold st_X9_markBad_23
    rw [h2 rc (by omega), h0]
    by_cases hk : k = n
    · subst hk
      rw [if_pos (by rw [N_le (by omega) (by omega)]; omega)]
      exact Or.inr ⟨_, rfl, h2, h3⟩
    · obtain ⟨q1, q2⟩ := hf k (by omega)
      rw [if_neg (by rw [N_le (by omega) (by omega)]; omega), x_at ((congrFun (h2 rc (by omega)) 1).trans h0) rfl hg hn (by omega) (by omega), Option.bind_some]
      dsimp only
      rw [h2 (rc + 1) (by omega), q1, if_neg (by rw [N_nlt0 (by omega)]; exact id), if_neg (by rw [L_ltN (by omega) (by omega)]; omega), wr_N (by omega) (by omega), Option.bind_some, N_addL]
      refine Or.inl ⟨_, rfl, _, rfl, by omega, fun c hc => ?_, fun i hi => ?_⟩
      · rw [m_ne hc]
        exact h2 c hc
      · have hs : bB f (k + 1) i = (bB f k i || Nat.beq (f k) i) := rfl
        rw [m_eq, hs]
        by_cases hik : i = f k
        · subst hik
          rw [u_eq]
          simp
        · rw [u_ne hik, h3 i hi]
          cases hb : Nat.beq (f k) i with
          | false => rw [Bool.or_false]
          | true => exact absurd (Nat.eq_of_beq_eq_true hb).symm hik
  obtain ⟨s2, e2, a3, a4⟩ := l2
  unfold f_X9_markBad
  rw [e1, Option.bind_some, e2, Option.bind_some]
  exact ⟨_, rfl, a3, a4⟩
theorem jm_sub {a b : Nat} (ha : a < 1000) (hb : b < 1000) : jmmax 0 (Int32.ofNat a - Int32.ofNat b) = Int32.ofNat (a - b) := by
  unfold jmmax
  by_cases h : b < a
  · rw [N_sub (by omega), if_pos (show (0 : Int32) < Int32.ofNat (a - b) by rw [L_ltN (by omega) (by omega)]; omega)]
  · have e : (Int32.ofNat a - Int32.ofNat b).toInt = (a : Int) - b := by
      rw [Int32.toInt_sub, N_toInt (by omega), N_toInt (by omega)]
      exact Int.bmod_eq_of_le (by omega) (by omega)
    rw [if_neg (show ¬ (0 : Int32) < Int32.ofNat a - Int32.ofNat b by
      rw [Int32.lt_iff_toInt_lt, e]
      have : (0 : Int32).toInt = 0 := rfl
      omega), show a - b = 0 by omega]
    rfl
theorem l_mod {a b : Nat} (ha : a < 1000000007) (hb : b < 1000000007) : ((((Int32.ofNat a).toInt64 + (Int32.ofNat b).toInt64) - ((Int32.ofNat a).toInt64 + (Int32.ofNat b).toInt64) / (1000000007 : Int64) * (1000000007 : Int64))).toInt32 = Int32.ofNat ((a + b) % 1000000007) := by
  have e : ∀ a : Nat, a < 1000000007 → (Int32.ofNat a).toInt64 = Int64.ofNat a := fun a ha => by
    apply Int64.toInt_inj.mp
    rw [Int32.toInt_toInt64, N_toInt (by omega), Int64.toInt_ofNat_of_lt (by omega)]
  have hr := Nat.mod_lt (a + b) (show 0 < 1000000007 by decide)
  have hq : a + b = (a + b) % 1000000007 + (a + b) / 1000000007 * 1000000007 := by omega
  have e2 : Int64.ofNat (a + b) / (1000000007 : Int64) = Int64.ofNat ((a + b) / 1000000007) := (Int64.ofNat_div (a := a + b) (b := 1000000007) (by omega) (by omega)).symm
  have e3 : Int64.ofNat ((a + b) / 1000000007) * (1000000007 : Int64) = Int64.ofNat ((a + b) / 1000000007 * 1000000007) := (Int64.ofNat_mul _ 1000000007).symm
  have e4 : Int64.ofNat (a + b) = Int64.ofNat ((a + b) % 1000000007) + Int64.ofNat ((a + b) / 1000000007 * 1000000007) := by
    rw [← Int64.ofNat_add, ← hq]
  have e5 : ∀ x y : Int64, x + y - y = x := fun x y => by grind
  rw [e a ha, e b hb, ← Int64.ofNat_add, e2, e3, e4, e5]
  apply Int32.toInt_inj.mp
  rw [Int64.toInt_toInt32, Int64.toInt_ofNat_of_lt (by omega), N_toInt (by omega)]
  exact Int.bmod_eq_of_le (by omega) (by omega)
theorem x_wIn2 {w : Nat → Nat} {b : Bool} {rc k i : Nat} {s : Mem} {z : Int32} (hi : i ≤ 40) (hi1 : 1 ≤ i) (hk : 1 ≤ k) (hk6 : k ≤ 6) (hw : ∀ j, j < i → s 197 j = Int32.ofNat (w j) ∧ w j < 1000000007) (hb : s 198 i = if b = true then 1 else 0) :
    it FUEL (fun y => st_X9_waysUp_34 rc z (Int32.ofNat k) (Int32.ofNat i) y.1 y.2.1 y.2.2) (0, Int32.ofNat (i - k), s) = some (Int32.ofNat (if b = true then 0 else dF (fun a x => a + x) 0 w i (min i k) % 1000000007), s) := by
  cases b with
  | true =>
    refine it_go (f := fun y => st_X9_waysUp_34 rc z (Int32.ofNat k) (Int32.ofNat i) y.1 y.2.1 y.2.2) (fun _ => (0, Int32.ofNat (i - k), s)) 0 _ (by omega) (fun p hp => by omega) ?_
    dsimp only
    unfold st_X9_waysUp_34
    rw [if_neg (by rw [N_le (by omega) (by omega)]; omega), rd_N (by omega) (by omega), Option.bind_some, hb, if_pos rfl, if_neg (by decide), if_pos rfl]
    rfl
  | false =>
    rw [if_neg (by decide)] at hb
    have e := it_go (f := fun y => st_X9_waysUp_34 rc z (Int32.ofNat k) (Int32.ofNat i) y.1 y.2.1 y.2.2) (fun c => (Int32.ofNat (uF (fun a x => a + x) 0 w (i - k) c % 1000000007), Int32.ofNat (i - k + c), s)) (min i k) (Int32.ofNat (uF (fun a x => a + x) 0 w (i - k) (min i k) % 1000000007), s) (by omega) (fun c hc => by
      dsimp only
      unfold st_X9_waysUp_34
      obtain ⟨q1, q2⟩ := hw (i - k + c) (by omega)
      have hm := Nat.mod_lt (uF (fun a x => a + x) 0 w (i - k) c) (show 0 < 1000000007 by decide)
      rw [if_neg (by rw [N_le (by omega) (by omega)]; omega), rd_N (by omega) (by omega), Option.bind_some, hb, if_pos rfl, rd_N (by omega) (by omega), Option.bind_some, q1, l_mod hm q2, N_addL, Nat.mod_add_mod]
      rfl) (by
      dsimp only
      unfold st_X9_waysUp_34
      rw [if_pos (by rw [N_le (by omega) (by omega)]; omega)])
    rw [if_neg (by decide)]
    have e2 := uF_dF (op := fun a x => a + x) hop_add (z := 0) (g := w) (i := i) (min i k) (by omega)
    rw [show i - min i k = i - k by omega] at e2
    rw [e2] at e
    exact e
def eI (d : Nat) : Int32 := if d < 100000000 then Int32.ofNat d else -1
theorem x_dIn2 {d : Nat → Nat} {b : Bool} {rc k i : Nat} {s : Mem} {z : Int32} (hi : i ≤ 40) (hi1 : 1 ≤ i) (hk : 1 ≤ k) (hk6 : k ≤ 6) (hd : ∀ j, j < i → s 197 j = eI (d j) ∧ (d j = 100000000 ∨ d j ≤ 40)) (hb : s 198 i = if b = true then 1 else 0) :
    it FUEL (fun y => st_X9_fewestGoings_34 rc z (Int32.ofNat k) (Int32.ofNat i) y.1 y.2.1 y.2.2) (-1, Int32.ofNat (i - k), s) = some (eI (if b = true then 100000000 else dF min 100000000 (fun j => d j + 1) i (min i k)), s) := by
  cases b with
  | true =>
    refine it_go (f := fun y => st_X9_fewestGoings_34 rc z (Int32.ofNat k) (Int32.ofNat i) y.1 y.2.1 y.2.2) (fun _ => (-1, Int32.ofNat (i - k), s)) 0 _ (by omega) (fun p hp => by omega) ?_
    dsimp only
    unfold st_X9_fewestGoings_34
    rw [if_neg (by rw [N_le (by omega) (by omega)]; omega), rd_N (by omega) (by omega), Option.bind_some, hb, if_pos rfl, if_neg (by decide), if_pos rfl]
    rfl
  | false =>
    rw [if_neg (by decide)] at hb
    have small : ∀ c, c ≤ min i k → uF min 100000000 (fun j => d j + 1) (i - k) c = 100000000 ∨ uF min 100000000 (fun j => d j + 1) (i - k) c ≤ 41 := by
      intro c
      induction c with
      | zero => exact fun _ => Or.inl rfl
      | succ c ih =>
        intro hc
        have h1 := ih (by omega)
        have h2 := (hd (i - k + c) (by omega)).2
        show min _ (d (i - k + c) + 1) = 100000000 ∨ min _ (d (i - k + c) + 1) ≤ 41
        omega
    have e := it_go (f := fun y => st_X9_fewestGoings_34 rc z (Int32.ofNat k) (Int32.ofNat i) y.1 y.2.1 y.2.2) (fun c => (eI (uF min 100000000 (fun j => d j + 1) (i - k) c), Int32.ofNat (i - k + c), s)) (min i k) (eI (uF min 100000000 (fun j => d j + 1) (i - k) (min i k)), s) (by omega) (fun c hc => by
      dsimp only
      unfold st_X9_fewestGoings_34 jn_X9_fewestGoings_75
      obtain ⟨q1, q2⟩ := hd (i - k + c) (by omega)
      have hs := small c (by omega)
      have hu : uF min 100000000 (fun j => d j + 1) (i - k) (c + 1) = min (uF min 100000000 (fun j => d j + 1) (i - k) c) (d (i - k + c) + 1) := rfl
      rw [hu]
      generalize uF min 100000000 (fun j => d j + 1) (i - k) c = u at *
      rw [if_neg (by rw [N_le (by omega) (by omega)]; omega), rd_N (by omega) (by omega), Option.bind_some, hb, if_pos rfl, rd_N (by omega) (by omega), Option.bind_some, Option.bind_some, q1, N_addL, Nat.add_assoc]
      generalize d (i - k + c) = D at *
      unfold eI
      rcases q2 with rfl | hD
      · rw [if_neg (show ¬ 100000000 < 100000000 by omega), if_pos rfl, if_pos rfl, show min u (100000000 + 1) = u by omega]
      · rw [if_pos (show D < 100000000 by omega), if_neg (by rw [N_neg (by omega)]; exact fun q => q), N_addL, if_neg (by rw [N_neg (by omega)]; exact fun q => q)]
        rcases hs with rfl | hs
        · rw [if_neg (show ¬ 100000000 < 100000000 by omega), if_pos rfl, show min 100000000 (D + 1) = D + 1 by omega, if_pos (show D + 1 < 100000000 by omega)]
        · rw [if_pos (show u < 100000000 by omega), if_neg (by rw [N_neg (by omega)]; exact fun q => q), if_pos (show min u (D + 1) < 100000000 by omega)]
          by_cases hud : u ≤ D + 1
          · rw [if_pos (by rw [N_le (by omega) (by omega)]; exact hud), show min u (D + 1) = u by omega]
          · rw [if_neg (by rw [N_le (by omega) (by omega)]; exact hud), show min u (D + 1) = D + 1 by omega]) (by
      dsimp only
      unfold st_X9_fewestGoings_34
      rw [if_pos (by rw [N_le (by omega) (by omega)]; omega)])
    rw [if_neg (by decide)]
    have e2 := uF_dF (op := min) hop_min (z := 100000000) (g := fun j => d j + 1) (i := i) (min i k) (by omega)
    rw [show i - min i k = i - k by omega] at e2
    rw [e2] at e
    exact e
theorem dT_small {b : Nat → Bool} {k : Nat} : ∀ i j, dT b k i j = 100000000 ∨ dT b k i j ≤ i
  | 0, _ => Or.inr (Nat.le_refl _)
  | i + 1, j => by
    unfold dT
    split
    · split
      · exact Or.inl rfl
      · have key : ∀ c, dF min 100000000 (fun j => dT b k i j + 1) (i + 1) c = 100000000 ∨ dF min 100000000 (fun j => dT b k i j + 1) (i + 1) c ≤ i + 1 := by
          intro c
          induction c with
          | zero => exact Or.inl rfl
          | succ c ih =>
            have := dT_small (b := b) (k := k) i (i + 1 - 1 - c)
            show min _ (dT b k i (i + 1 - 1 - c) + 1) = 100000000 ∨ min _ (dT b k i (i + 1 - 1 - c) + 1) ≤ i + 1
            omega
        exact key _
    · have := dT_small (b := b) (k := k) i j
      omega
theorem wT_keep {b : Nat → Bool} {k i j : Nat} (h : j ≤ i) : wT b k (i + 1) j = wT b k i j := by
  show (if j = i + 1 then _ else _) = _
  rw [if_neg (by omega)]
theorem dT_keep {b : Nat → Bool} {k i j : Nat} (h : j ≤ i) : dT b k (i + 1) j = dT b k i j := by
  show (if j = i + 1 then _ else _) = _
  rw [if_neg (by omega)]
theorem wT_new {b : Nat → Bool} {k i : Nat} : wT b k (i + 1) (i + 1) = if b (i + 1) = true then 0 else dF (fun a x => a + x) 0 (wT b k i) (i + 1) (min (i + 1) k) % 1000000007 := by
  show (if i + 1 = i + 1 then _ else _) = _
  rw [if_pos rfl]
theorem dT_new {b : Nat → Bool} {k i : Nat} : dT b k (i + 1) (i + 1) = if b (i + 1) = true then 100000000 else dF min 100000000 (fun j => dT b k i j + 1) (i + 1) (min (i + 1) k) := by
  show (if i + 1 = i + 1 then _ else _) = _
  rw [if_pos rfl]
theorem x_waysUp {f : Nat → Nat} {n rc k h : Nat} {s : Mem} (hn : n ≤ 8) (h0 : s rc 1 = Int32.ofNat n) (hg : gL 0 (rc + 1) = 8) (hf : ∀ j, j < n → s (rc + 1) j = Int32.ofNat (f j) ∧ f j ≤ 40) (hrc : rc < 197) (hh : h ≤ 40) (hk : 1 ≤ k) (hk6 : k ≤ 6) :
    ok (f_X9_waysUp rc (Int32.ofNat h) (Int32.ofNat k) s) (fun r => r.1 = Int32.ofNat (wT (bB f n) k h h) ∧ ∀ c, c ≠ 197 → c ≠ 198 → r.2 c = s c) := by
  obtain ⟨s1, e1, a1, a2⟩ := x_markBad hn h0 hg hf hrc
  unfold f_X9_waysUp
  rw [e1, Option.bind_some, wr_L (by omega) (by omega), Option.bind_some]
  have key : ok (it FUEL (fun y => st_X9_waysUp_15 rc (Int32.ofNat h) (Int32.ofNat k) y.1 y.2) (1, mset s1 197 0 1)) (fun s' => (∀ c, c ≠ 197 → c ≠ 198 → s' c = s c) ∧ ∀ j, j ≤ h → s' 197 j = Int32.ofNat (wT (bB f n) k h j)) := by
    refine it_ok1 41 (by omega) (fun i y => ∃ s', y = (Int32.ofNat (i + 1), s') ∧ i ≤ h ∧ (∀ c, c ≠ 197 → c ≠ 198 → s' c = s c) ∧ (∀ j, j ≤ 40 → s' 198 j = if bB f n j = true then 1 else 0) ∧ ∀ j, j ≤ i → s' 197 j = Int32.ofNat (wT (bB f n) k i j)) ⟨_, rfl, by omega, fun c q1 q2 => by rw [m_ne q1]; exact a1 c q2, fun j hj => by rw [m_ne (by omega)]; exact a2 j hj, fun j hj => by
      have : j = 0 := by omega
      subst this
      rw [m_eq, u_eq]
      rfl⟩ (fun i y q => by obtain ⟨_, _, q, _⟩ := q; omega) ?_
    rintro i y ⟨s', rfl, b1, b2, b3, b4⟩
    dsimp only
    unfold st_X9_waysUp_15 jn_X9_waysUp_76
    by_cases hih : i = h
    · subst hih
      rw [if_pos (by rw [N_lt (by omega) (by omega)]; omega)]
      exact Or.inr ⟨_, rfl, b2, b4⟩
    · rw [if_neg (by rw [N_lt (by omega) (by omega)]; omega), jm_sub (by omega) (by omega)]
      have hi := x_wIn2 (w := wT (bB f n) k i) (b := bB f n (i + 1)) (rc := rc) (k := k) (i := i + 1) (s := s') (z := Int32.ofNat h) (by omega) (by omega) hk hk6 (fun j hj => ⟨b4 j (by omega), wT_lt _ _⟩) (b3 (i + 1) (by omega))
      rw [hi, Option.bind_some]
      dsimp only
      rw [← wT_new, wr_N (by omega) (by omega), Option.bind_some, N_addL]
      refine Or.inl ⟨_, rfl, _, rfl, by omega, fun c q1 q2 => ?_, fun j hj => ?_, fun j hj => ?_⟩
      · rw [m_ne q1]
        exact b2 c q1 q2
      · rw [m_ne (by omega)]
        exact b3 j hj
      · rw [m_eq]
        by_cases hji : j = i + 1
        · subst hji
          rw [u_eq]
        · rw [u_ne hji, wT_keep (by omega)]
          exact b4 j (by omega)
  obtain ⟨s2, e2, c1, c2⟩ := key
  rw [e2, Option.bind_some, rd_N (by omega) (by omega), Option.bind_some]
  exact ⟨_, rfl, c2 h (Nat.le_refl _), c1⟩
theorem x_goings {f : Nat → Nat} {n rc k h : Nat} {s : Mem} (hn : n ≤ 8) (h0 : s rc 1 = Int32.ofNat n) (hg : gL 0 (rc + 1) = 8) (hf : ∀ j, j < n → s (rc + 1) j = Int32.ofNat (f j) ∧ f j ≤ 40) (hrc : rc < 197) (hh : h ≤ 40) (hk : 1 ≤ k) (hk6 : k ≤ 6) :
    ok (f_X9_fewestGoings rc (Int32.ofNat h) (Int32.ofNat k) s) (fun r => r.1 = eI (dT (bB f n) k h h) ∧ ∀ c, c ≠ 197 → c ≠ 198 → r.2 c = s c) := by
  obtain ⟨s1, e1, a1, a2⟩ := x_markBad hn h0 hg hf hrc
  unfold f_X9_fewestGoings
  rw [e1, Option.bind_some, wr_L (by omega) (by omega), Option.bind_some]
  have key : ok (it FUEL (fun y => st_X9_fewestGoings_15 rc (Int32.ofNat h) (Int32.ofNat k) y.1 y.2) (1, mset s1 197 0 0)) (fun s' => (∀ c, c ≠ 197 → c ≠ 198 → s' c = s c) ∧ ∀ j, j ≤ h → s' 197 j = eI (dT (bB f n) k h j)) := by
    refine it_ok1 41 (by omega) (fun i y => ∃ s', y = (Int32.ofNat (i + 1), s') ∧ i ≤ h ∧ (∀ c, c ≠ 197 → c ≠ 198 → s' c = s c) ∧ (∀ j, j ≤ 40 → s' 198 j = if bB f n j = true then 1 else 0) ∧ ∀ j, j ≤ i → s' 197 j = eI (dT (bB f n) k i j)) ⟨_, rfl, by omega, fun c q1 q2 => by rw [m_ne q1]; exact a1 c q2, fun j hj => by rw [m_ne (by omega)]; exact a2 j hj, fun j hj => by
      have : j = 0 := by omega
      subst this
      rw [m_eq, u_eq]
      rfl⟩ (fun i y q => by obtain ⟨_, _, q, _⟩ := q; omega) ?_
    rintro i y ⟨s', rfl, b1, b2, b3, b4⟩
    dsimp only
    unfold st_X9_fewestGoings_15 jn_X9_fewestGoings_106
    by_cases hih : i = h
    · subst hih
      rw [if_pos (by rw [N_lt (by omega) (by omega)]; omega)]
      exact Or.inr ⟨_, rfl, b2, b4⟩
    · rw [if_neg (by rw [N_lt (by omega) (by omega)]; omega), jm_sub (by omega) (by omega)]
      have hi := x_dIn2 (d := dT (bB f n) k i) (b := bB f n (i + 1)) (rc := rc) (k := k) (i := i + 1) (s := s') (z := Int32.ofNat h) (by omega) (by omega) hk hk6 (fun j hj => ⟨b4 j (by omega), by
        have := dT_small (b := bB f n) (k := k) i j
        omega⟩) (b3 (i + 1) (by omega))
      rw [hi, Option.bind_some]
      dsimp only
      rw [← dT_new, wr_N (by omega) (by omega), Option.bind_some, N_addL]
      refine Or.inl ⟨_, rfl, _, rfl, by omega, fun c q1 q2 => ?_, fun j hj => ?_, fun j hj => ?_⟩
      · rw [m_ne q1]
        exact b2 c q1 q2
      · rw [m_ne (by omega)]
        exact b3 j hj
      · rw [m_eq]
        by_cases hji : j = i + 1
        · subst hji
          rw [u_eq]
        · rw [u_ne hji, dT_keep (by omega)]
          exact b4 j (by omega)
  obtain ⟨s2, e2, c1, c2⟩ := key
  rw [e2, Option.bind_some, rd_N (by omega) (by omega), Option.bind_some]
  exact ⟨_, rfl, c2 h (Nat.le_refl _), c1⟩
theorem o_stair {x y w : Int32} {s t : Mem} (h : GR s t) : opR (f_X11_stair x y w s) (f_X12_stair x y w t) := by
  have h1 := GR_told (v := 0) h
  unfold f_X11_stair f_X12_stair
  generalize mset t 0 0 0 = t1 at *
  clear h
  have hG := h1
  obtain ⟨nn, hL, hX⟩ := h1
  have r12 := hX.1.2.2.2.2.2.2.2.1
  clear hL hX
  obtain ⟨n, f, hn, e1, e2, hf⟩ := row_N (hi := 40) r12 (by decide) (by omega)
  simp only [show (32 + 21 : Nat) = 53 from rfl, show (53 + 1 : Nat) = 54 from rfl] at e1 hf
  clear r12
  simp only [m_isIn, Option.bind_some]
  by_cases hx : 0 ≤ x ∧ x ≤ 40
  · rw [if_pos hx, if_neg (show ¬ x < 0 by grind), if_neg (show ¬ 40 < x by grind), if_neg (show ¬ (1 : Int32) = 0 by decide)]
    obtain ⟨hh, rfl, hhb⟩ := N_of (x := x) (m := 40) hx.1 hx.2 (by omega)
    by_cases hy : 1 ≤ y ∧ y ≤ 6
    · rw [if_pos hy, if_neg (show ¬ y < 1 by grind), if_neg (show ¬ 6 < y by grind), if_neg (show ¬ (1 : Int32) = 0 by decide)]
      obtain ⟨k, rfl, hkb⟩ := N_of (x := y) (m := 6) (by grind) hy.2 (by omega)
      have hk1 : 1 ≤ k := by
        have := hy.1
        rw [L_leN (by omega) (by omega)] at this
        exact this
      by_cases hw : 0 ≤ w ∧ w ≤ 1
      · rw [if_pos hw, if_neg (show ¬ w < 0 by grind), if_pos hw.2, if_neg (show ¬ (1 : Int32) = 0 by decide)]
        obtain ⟨t2, g1, g2, g3⟩ := m_stairs (z := w) (t := t1) (n := n) (f := f) (k := k) (h := hh) hn e2 (fun j hj => ⟨(hf j hj).2.1, (hf j hj).2.2.2⟩) hhb hk1 hkb
        obtain ⟨g4, g5⟩ := g3 hh (Nat.le_refl _)
        rw [g1, Option.bind_some]
        have gr : ∀ s' : Mem, (∀ c, c ≠ 197 → c ≠ 198 → s' c = s c) → GR s' t2 := fun s' hs => GR_q hG (fun c q1 q2 q3 => hs c (by omega) (by omega)) (by rw [hs 115 (by omega) (by omega)]) (fun j _ _ _ => by rw [g2 0 (by omega) (by omega)]) (fun c _ _ _ _ _ q6 q7 => g2 c q6 q7)
        by_cases w0 : w = 0
        · rw [if_pos w0, if_pos w0]
          obtain ⟨⟨v, s2⟩, k1, k2, k3⟩ := x_waysUp (rc := 53) (s := s) hn e1 gl_rows.2.2.2.2.2.2.2.2.2.2.1 (fun j hj => ⟨(hf j hj).1, (hf j hj).2.2.2⟩) (by omega) hhb hk1 hkb
          dsimp only at k2 k3
          rw [show (1 + 31 + 21 : Nat) = 53 from rfl, k1, rd_N (by omega) (by omega), g4, k2]
          exact opR.ret (gr s2 k3)
        · rw [if_neg w0, if_neg w0]
          obtain ⟨⟨v, s2⟩, k1, k2, k3⟩ := x_goings (rc := 53) (s := s) hn e1 gl_rows.2.2.2.2.2.2.2.2.2.2.1 (fun j hj => ⟨(hf j hj).1, (hf j hj).2.2.2⟩) (by omega) hhb hk1 hkb
          dsimp only at k2 k3
          have hdl := dT_le (b := bB f n) (k := k) hh hh
          rw [show (1 + 31 + 21 : Nat) = 53 from rfl, k1, rd_N (by omega) (by omega), g5, k2]
          dsimp only [Option.bind_some]
          unfold eI
          by_cases hlt : dT (bB f n) k hh hh < 100000000
          · rw [if_pos hlt, if_pos (by rw [N_ltL (by omega) (by omega)]; exact hlt)]
            exact opR.ret (gr s2 k3)
          · rw [if_neg hlt, if_neg (by rw [N_ltL (by omega) (by omega)]; exact hlt)]
            exact opR.ret (gr s2 k3)
      · rw [if_neg hw, if_pos rfl]
        by_cases h0 : w < 0
        · rw [if_pos h0]; exact opR.ret hG
        · rw [if_neg h0, if_neg (show ¬ w ≤ 1 by grind)]; exact opR.ret hG
    · rw [if_neg hy, if_pos rfl]
      by_cases h0 : y < 1
      · rw [if_pos h0]; exact opR.ret hG
      · rw [if_neg h0, if_pos (show 6 < y by grind)]; exact opR.ret hG
  · rw [if_neg hx, if_pos rfl]
    by_cases h0 : x < 0
    · rw [if_pos h0]; exact opR.ret hG
    · rw [if_neg h0, if_pos (show 40 < x by grind)]; exact opR.ret hG
