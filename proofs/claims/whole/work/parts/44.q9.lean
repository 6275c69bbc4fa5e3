/-! ===== numbers that read the same upside down ===== -/
theorem mir_b {i b v : Nat} (hi : i < 1000) (h : mirN i b = some v) : v < 1000000 := by
  have key : ∀ w, udl 3 w i = some v → v < 1000000 := fun w q => by
    have := udl_b 3 _ _ _ q
    omega
  unfold mirN at h
  by_cases hb : b = 0
  · rw [if_pos hb] at h
    exact key _ h
  · rw [if_neg hb] at h
    by_cases ht : tdN (i % 10) = i % 10
    · rw [if_pos ht] at h
      exact key _ h
    · rw [if_neg ht] at h
      cases h
theorem mir_iff {i b y : Nat} (hi : i < 1000) (hb : b ≤ 1) (hy : y ≤ 100001) : (mirN i b = some y ∧ (b = 1 ∨ 0 < i)) ↔ (isUp y = true ∧ invN y = (i, b)) := by
  have c1 := allN_of chk1_all i hi
  have c1' : chk1 i b = true := by
    have : b = 0 ∨ b = 1 := by omega
    rcases this with rfl | rfl <;> simp_all
  constructor
  · rintro ⟨h1, h2⟩
    unfold chk1 at c1'
    rw [h1] at c1'
    simp only [Bool.or_eq_true, Bool.and_eq_true, Nat.blt_eq, Nat.beq_eq] at c1'
    rcases c1' with (q | q) | q
    · omega
    · omega
    · exact ⟨q.1.1, Prod.ext q.1.2 q.2⟩
  · rintro ⟨h1, h2⟩
    have c2 := allN_of (allN_of chk2_all (y / 100) (by omega)) (y % 100) (Nat.mod_lt _ (by decide))
    rw [show 100 * (y / 100) + y % 100 = y by omega] at c2
    unfold chk2 at c2
    rw [h1, h2] at c2
    simp only [Bool.not_true, Bool.false_or, Bool.or_eq_true, Nat.blt_eq] at c2
    rcases c2 with q | q
    · omega
    · cases hm : mirN i b with
      | none => rw [hm] at q; exact absurd q (by simp)
      | some v =>
        rw [hm] at q
        simp only [Bool.or_eq_true, Bool.and_eq_true, Nat.blt_eq, Nat.beq_eq, Nat.ble_eq] at q
        obtain ⟨⟨⟨q1, q2⟩, q3⟩, q4⟩ := q
        exact ⟨by rw [q1], by omega⟩
theorem inv_in {y : Nat} (h : isUp y = true) (hy : y ≤ 100001) : (invN y).1 < 1000 ∧ (invN y).2 ≤ 1 := by
  have c2 := allN_of (allN_of chk2_all (y / 100) (by omega)) (y % 100) (Nat.mod_lt _ (by decide))
  rw [show 100 * (y / 100) + y % 100 = y by omega] at c2
  unfold chk2 at c2
  rw [h] at c2
  simp only [Bool.not_true, Bool.false_or, Bool.or_eq_true, Nat.blt_eq] at c2
  rcases c2 with q | q
  · omega
  · cases hm : mirN (invN y).1 (invN y).2 with
    | none => rw [hm] at q; exact absurd q (by simp)
    | some v =>
      rw [hm] at q
      simp only [Bool.or_eq_true, Bool.and_eq_true, Nat.blt_eq, Nat.beq_eq, Nat.ble_eq] at q
      exact ⟨q.1.1.2, q.2⟩
def lu (i b x : Nat) : Nat := match mirN i b with
  | none => 0
  | some v => if v < x ∧ (b = 1 ∨ 0 < i) then 1 else 0
def cU (x : Nat) : Nat → Nat
  | 0 => 0
  | n + 1 => cU x n + (lu n 1 x + lu n 0 x)
def uU : Nat → Nat
  | 0 => 0
  | n + 1 => uU n + if isUp n = true then 1 else 0
theorem lu_step {i b y : Nat} (hi : i < 1000) (hb : b ≤ 1) (hy : y ≤ 100001) : lu i b (y + 1) = lu i b y + if isUp y = true ∧ invN y = (i, b) then 1 else 0 := by
  have e := mir_iff hi hb hy
  simp only [← e]
  unfold lu
  cases hm : mirN i b with
  | none => simp
  | some v =>
    dsimp only
    by_cases hc : b = 1 ∨ 0 < i
    · by_cases hv : v = y
      · subst hv
        rw [if_pos ⟨by omega, hc⟩, if_neg (by omega), if_pos ⟨rfl, hc⟩]
      · rw [if_neg (show ¬ (some v = some y ∧ (b = 1 ∨ 0 < i)) from fun q => hv (Option.some.inj q.1))]
        by_cases hlt : v < y
        · rw [if_pos ⟨by omega, hc⟩, if_pos ⟨hlt, hc⟩]
        · rw [if_neg (by omega), if_neg (by omega)]
    · rw [if_neg (fun q => hc q.2), if_neg (fun q => hc q.2), if_neg (fun q => hc q.2)]
theorem cU_step {y : Nat} (hy : y ≤ 100001) : ∀ n, n ≤ 1000 → cU (y + 1) n = cU y n + if isUp y = true ∧ (invN y).1 < n then 1 else 0
  | 0, _ => by
    unfold cU
    rw [if_neg (by omega)]
  | n + 1, hn => by
    unfold cU
    rw [cU_step hy n (by omega), lu_step (by omega) (by omega) hy, lu_step (by omega) (by omega) hy]
    by_cases hu : isUp y = true
    · obtain ⟨-, h2⟩ := inv_in hu hy
      rcases Nat.lt_trichotomy (invN y).1 n with h | h | h
      · rw [if_pos ⟨hu, h⟩, if_neg (fun q => by have := congrArg Prod.fst q.2; dsimp only at this; omega), if_neg (fun q => by have := congrArg Prod.fst q.2; dsimp only at this; omega), if_pos ⟨hu, by omega⟩]
        omega
      · rw [if_neg (show ¬ (isUp y = true ∧ (invN y).1 < n) by omega), if_pos (show isUp y = true ∧ (invN y).1 < n + 1 from ⟨hu, by omega⟩)]
        have : (invN y).2 = 0 ∨ (invN y).2 = 1 := by omega
        rcases this with h0 | h0
        · rw [if_neg (fun q => by have := congrArg Prod.snd q.2; dsimp only at this; omega), if_pos ⟨hu, Prod.ext h h0⟩]
          omega
        · rw [if_pos ⟨hu, Prod.ext h h0⟩, if_neg (fun q => by have := congrArg Prod.snd q.2; dsimp only at this; omega)]
          omega
      · rw [if_neg (by omega), if_neg (fun q => by have := congrArg Prod.fst q.2; dsimp only at this; omega), if_neg (fun q => by have := congrArg Prod.fst q.2; dsimp only at this; omega), if_neg (by omega)]
        omega
    · rw [if_neg (fun q => hu q.1), if_neg (fun q => hu q.1), if_neg (fun q => hu q.1), if_neg (fun q => hu q.1)]
      omega
theorem cU_0 : ∀ n, cU 0 n = 0
  | 0 => rfl
  | n + 1 => by
    unfold cU
    rw [cU_0 n]
    have : ∀ b, lu n b 0 = 0 := by
      intro b
      unfold lu
      split
      · rfl
      · rw [if_neg (by omega)]
    rw [this, this]
theorem cU_u : ∀ y, y ≤ 100001 → cU y 1000 = uU y
  | 0, _ => cU_0 1000
  | y + 1, hy => by
    rw [cU_step (by omega) 1000 (by omega), cU_u y (by omega)]
    show _ = uU y + (if isUp y = true then 1 else 0)
    by_cases hu : isUp y = true
    · rw [if_pos ⟨hu, (inv_in hu (by omega)).1⟩, if_pos hu]
    · rw [if_neg (fun q => hu q.1), if_neg hu]
theorem oI_neg {m : Option Nat} (h : ∀ v, m = some v → v < 1000000) : (oI m = -1) = (m = none) := by
  cases m with
  | none => simp [oI]
  | some v =>
    have := h v rfl
    show (Int32.ofNat v = -1) = _
    rw [N_neg (by omega)]
    simp
theorem x_upTo {x : Nat} {s : Mem} (hx : x ≤ 99999) : f_X2_evenTurnedUpTo (Int32.ofNat x) s = some (Int32.ofNat (cU (x + 1) 1000), s) := by
  have one : ∀ (i b : Nat) (c : Nat), i < 1000 → (b = 1 ∨ 0 < i) → (if oI (mirN i b) = -1 then Int32.ofNat c else if Int32.ofNat x < oI (mirN i b) then Int32.ofNat c else Int32.ofNat (c + 1)) = Int32.ofNat (c + lu i b (x + 1)) := by
    intro i b c hi hb
    unfold lu
    cases hm : mirN i b with
    | none =>
      rw [if_pos (show oI none = -1 from rfl)]
      rfl
    | some v =>
      have hv := mir_b hi hm
      rw [show oI (some v) = Int32.ofNat v from rfl]
      dsimp only
      rw [if_neg (show ¬ Int32.ofNat v = -1 by rw [N_neg (by omega)]; exact fun q => q)]
      simp only [N_lt (show x < 2147483648 by omega) (show v < 2147483648 by omega)]
      by_cases h : x < v
      · rw [if_pos h, if_neg (by omega)]
        rfl
      · rw [if_neg h, if_pos ⟨by omega, hb⟩]
  have e := it_go (f := fun y => st_X2_evenTurnedUpTo_4 (Int32.ofNat x) y.1 y.2.1 y.2.2) (fun i => (Int32.ofNat (cU (x + 1) i), Int32.ofNat i, s)) 1000 (Int32.ofNat (cU (x + 1) 1000), s) (by omega) (fun i hi => by
    dsimp only
    unfold st_X2_evenTurnedUpTo_4
    rw [if_neg (by rw [L_leN (by omega) (by omega)]; omega)]
    have e1 : f_X2_mirrored (Int32.ofNat i) 1 s = some (oI (mirN i 1), s) := x_mirrored (b := 1) hi (by omega)
    have e0 : f_X2_mirrored (Int32.ofNat i) 0 s = some (oI (mirN i 0), s) := x_mirrored (b := 0) hi (by omega)
    rw [e1, Option.bind_some]
    dsimp only
    have j : ∀ c, jn_X2_evenTurnedUpTo_30 (Int32.ofNat x) (Int32.ofNat c) (Int32.ofNat i) s = some (.inl (Int32.ofNat (c + lu i 0 (x + 1)), Int32.ofNat (i + 1), s)) := by
      intro c
      unfold jn_X2_evenTurnedUpTo_30
      rw [e0, Option.bind_some]
      dsimp only
      rw [N_addL, N_addL]
      by_cases hi0 : i = 0
      · subst hi0
        have z : lu 0 0 (x + 1) = 0 := by
          unfold lu
          split
          · rfl
          · rw [if_neg (by omega)]
        rw [z, if_pos (show Int32.ofNat 0 ≤ 0 by decide)]
        simp only [ite_self]
        rfl
      · rw [if_neg (show ¬ Int32.ofNat i ≤ 0 by rw [N_leL (by omega) (by omega)]; omega), ← one i 0 c hi (by omega)]
        by_cases h1 : oI (mirN i 0) = -1
        · rw [if_pos h1, if_pos h1]
        · rw [if_neg h1, if_neg h1]
          by_cases h2 : Int32.ofNat x < oI (mirN i 0)
          · rw [if_pos h2, if_pos h2]
          · rw [if_neg h2, if_neg h2]
    rw [N_addL]
    have hh := one i 1 (cU (x + 1) i) hi (by omega)
    have out : ∀ c, c = cU (x + 1) i + lu i 1 (x + 1) → jn_X2_evenTurnedUpTo_30 (Int32.ofNat x) (Int32.ofNat c) (Int32.ofNat i) s = some (.inl (Int32.ofNat (cU (x + 1) (i + 1)), Int32.ofNat (i + 1), s)) := by
      rintro c rfl
      rw [j]
      show _ = some (Sum.inl (Int32.ofNat (cU (x + 1) i + (lu i 1 (x + 1) + lu i 0 (x + 1))), _, _))
      rw [Nat.add_assoc]
    by_cases h1 : oI (mirN i 1) = -1
    · rw [if_pos h1] at hh ⊢
      rw [hh]
      exact out _ rfl
    · rw [if_neg h1] at hh ⊢
      by_cases h2 : Int32.ofNat x < oI (mirN i 1)
      · rw [if_pos h2] at hh ⊢
        rw [hh]
        exact out _ rfl
      · rw [if_neg h2] at hh ⊢
        rw [hh]
        exact out _ rfl) (by
    dsimp only
    unfold st_X2_evenTurnedUpTo_4
    rw [if_pos (by decide)])
  have e' : it FUEL (fun y => st_X2_evenTurnedUpTo_4 (Int32.ofNat x) y.1 y.2.1 y.2.2) (0, 0, s) = some (Int32.ofNat (cU (x + 1) 1000), s) := e
  unfold f_X2_evenTurnedUpTo
  rw [e', Option.bind_some]
theorem up_eq {k : Nat} (hk : k < 1000000) : (oI (udl 6 k 0) = Int32.ofNat k) = (isUp k = true) := by
  rw [isUp_iff]
  cases hm : udl 6 k 0 with
  | none =>
    show (-1 = Int32.ofNat k) = _
    rw [neg_N (by omega)]
    simp
  | some r =>
    have := udl_b 6 _ _ _ hm
    show (Int32.ofNat r = Int32.ofNat k) = _
    rw [N_eq (by omega) (by omega)]
    simp
theorem m_upTo {x : Nat} {t : Mem} (hx : x ≤ 99999) : it FUEL (fun y => st_X12_heads_71 (Int32.ofNat x) y.1 y.2.1 y.2.2) (0, 0, t) = some (Int32.ofNat (uU (x + 1)), t) := by
  have e := it_go (f := fun y => st_X12_heads_71 (Int32.ofNat x) y.1 y.2.1 y.2.2) (fun i => (Int32.ofNat (uU i), Int32.ofNat i, t)) (x + 1) (Int32.ofNat (uU (x + 1)), t) (by omega) (fun i hi => by
    dsimp only
    unfold st_X12_heads_71
    rw [if_neg (by rw [N_lt (by omega) (by omega)]; omega), m_upside (by omega), Option.bind_some]
    dsimp only
    have hu := up_eq (k := i) (by omega)
    rw [N_addL, N_addL]
    by_cases h : isUp i = true
    · rw [if_pos (hu.mpr h)]
      have : uU (i + 1) = uU i + 1 := by
        show uU i + (if isUp i = true then 1 else 0) = _
        rw [if_pos h]
      rw [this]
    · rw [if_neg (fun q => h (hu.mp q))]
      have : uU (i + 1) = uU i := by
        show uU i + (if isUp i = true then 1 else 0) = _
        rw [if_neg h, Nat.add_zero]
      rw [this]) (by
    dsimp only
    unfold st_X12_heads_71
    rw [if_pos (by rw [N_lt (by omega) (by omega)]; omega)])
  exact e
theorem m_above {x : Nat} {t : Mem} (hx : x ≤ 99999) : ok (it FUEL (fun y => st_X12_heads_48 y.1 y.2) (Int32.ofNat (x + 1), t)) (fun r => ∃ k, r = (Int32.ofNat k, t) ∧ x < k ∧ k ≤ 100001 ∧ isUp k = true ∧ ∀ j, x < j → j < k → ¬ isUp j = true) := by
  have top : isUp 100001 = true := by decide +kernel
  refine it_ok1 100001 (by omega) (fun i y => ∃ k, y = (Int32.ofNat k, t) ∧ k = x + 1 + i ∧ k ≤ 100001 ∧ ∀ j, x < j → j < k → ¬ isUp j = true) ⟨x + 1, rfl, by omega, by omega, fun j _ _ => by omega⟩ (fun i y q => by obtain ⟨k, _, q1, q2, _⟩ := q; omega) ?_
  rintro i y ⟨k, rfl, hk, hk1, hj⟩
  dsimp only
  unfold st_X12_heads_48
  rw [m_upside (by omega), Option.bind_some]
  dsimp only
  have hu := up_eq (k := k) (by omega)
  by_cases h : isUp k = true
  · rw [if_pos (hu.mpr h)]
    exact Or.inr ⟨_, rfl, k, rfl, by omega, hk1, h, hj⟩
  · rw [if_neg (fun q => h (hu.mp q)), N_addL]
    have hne : k ≠ 100001 := by
      rintro rfl
      exact h top
    refine Or.inl ⟨_, rfl, k + 1, rfl, by omega, by omega, fun j h1 h2 => ?_⟩
    by_cases hjk : j = k
    · subst hjk
      exact h
    · exact hj j h1 (by omega)
def up1 (best : Int32) (m : Option Nat) (x : Int32) : Int32 := if oI m ≤ x then best else if best = -1 then oI m else if best ≤ oI m then best else oI m
def abI (k0 : Nat) (best : Int32) (D : Prop) : Prop := (best = -1 ∧ ¬ D) ∨ ∃ v, best = Int32.ofNat v ∧ k0 ≤ v ∧ v < 1000000 ∧ (D → v = k0)
theorem ab_step {k0 x i b : Nat} {best : Int32} {D : Prop} (hx : x ≤ 99999) (hk : x < k0) (hk1 : k0 ≤ 100001) (hu : isUp k0 = true) (hl : ∀ j, x < j → j < k0 → ¬ isUp j = true) (hi : i < 1000) (hb : b ≤ 1) (h : abI k0 best D) : abI k0 (up1 best (mirN i b) (Int32.ofNat x)) (D ∨ invN k0 = (i, b)) := by
  have hinv : invN k0 = (i, b) → mirN i b = some k0 := fun q => ((mir_iff hi hb hk1).mpr ⟨hu, q⟩).1
  unfold up1
  cases hm : mirN i b with
  | none =>
    have hn : invN k0 ≠ (i, b) := fun q => by
      rw [hinv q] at hm
      cases hm
    rw [if_pos (show oI none ≤ Int32.ofNat x by
      show (-1 : Int32) ≤ Int32.ofNat x
      have := N_0le (a := x) (by omega)
      have h0 : (0 : Int32) ≤ Int32.ofNat x := by rw [this]; trivial
      grind)]
    rcases h with ⟨h1, h2⟩ | ⟨v, h1, h2, h3, h4⟩
    · exact Or.inl ⟨h1, fun q => q.elim h2 hn⟩
    · exact Or.inr ⟨v, h1, h2, h3, fun q => q.elim h4 (fun q => absurd q hn)⟩
  | some m =>
    have hmb := mir_b hi hm
    have hme : invN k0 = (i, b) → m = k0 := fun q => by
      have := hinv q
      rw [hm] at this
      exact Option.some.inj this
    rw [show oI (some m) = Int32.ofNat m from rfl]
    by_cases hmx : m ≤ x
    · rw [if_pos (by rw [N_le (by omega) (by omega)]; exact hmx)]
      have hn : invN k0 ≠ (i, b) := fun q => by
        have := hme q
        omega
      rcases h with ⟨h1, h2⟩ | ⟨v, h1, h2, h3, h4⟩
      · exact Or.inl ⟨h1, fun q => q.elim h2 hn⟩
      · exact Or.inr ⟨v, h1, h2, h3, fun q => q.elim h4 (fun q => absurd q hn)⟩
    · rw [if_neg (by rw [N_le (by omega) (by omega)]; exact hmx)]
      have hkm : k0 ≤ m := by
        by_cases hbig : 100001 < m
        · omega
        · have hc : b = 1 ∨ 0 < i := by
            by_cases hc : b = 1 ∨ 0 < i
            · exact hc
            · have e1 : b = 0 := by omega
              have e2 : i = 0 := by omega
              subst e1 e2
              have : mirN 0 0 = some 0 := rfl
              rw [this] at hm
              have := Option.some.inj hm
              omega
          have := ((mir_iff hi hb (by omega)).mp ⟨hm, hc⟩).1
          by_cases hlt : m < k0
          · exact absurd this (hl m (by omega) hlt)
          · omega
      rcases h with ⟨h1, h2⟩ | ⟨v, h1, h2, h3, h4⟩
      · rw [if_pos h1]
        exact Or.inr ⟨m, rfl, hkm, hmb, fun q => q.elim (fun q => absurd q h2) hme⟩
      · rw [h1, if_neg (by rw [N_neg (by omega)]; exact fun q => q)]
        by_cases hvm : v ≤ m
        · rw [if_pos (by rw [N_le (by omega) (by omega)]; exact hvm)]
          exact Or.inr ⟨v, rfl, h2, h3, fun q => q.elim h4 (fun q => by have := hme q; omega)⟩
        · rw [if_neg (by rw [N_le (by omega) (by omega)]; exact hvm)]
          exact Or.inr ⟨m, rfl, hkm, hmb, fun q => q.elim (fun q => by have := h4 q; omega) hme⟩
theorem x_above {x k0 : Nat} {s : Mem} (hx : x ≤ 99999) (hk : x < k0) (hk1 : k0 ≤ 100001) (hu : isUp k0 = true) (hl : ∀ j, x < j → j < k0 → ¬ isUp j = true) : f_X2_evenTurnedAbove (Int32.ofNat x) s = some (Int32.ofNat k0, s) := by
  obtain ⟨hi0, hb0⟩ := inv_in hu hk1
  have key : ok (it FUEL (fun y => st_X2_evenTurnedAbove_4 (Int32.ofNat x) y.1 y.2.1 y.2.2) (-1, 0, s)) (fun r => r = (Int32.ofNat k0, s)) := by
    refine it_ok1 1000 (by omega) (fun i y => ∃ best, y = (best, Int32.ofNat i, s) ∧ i ≤ 1000 ∧ abI k0 best ((invN k0).1 < i)) ⟨-1, rfl, by omega, Or.inl ⟨rfl, by omega⟩⟩ (fun i y q => by obtain ⟨_, _, q, _⟩ := q; exact q) ?_
    rintro i y ⟨best, rfl, hi, hab⟩
    dsimp only
    unfold st_X2_evenTurnedAbove_4
    by_cases h1000 : i = 1000
    · subst h1000
      rw [if_pos (by decide)]
      rcases hab with ⟨h1, h2⟩ | ⟨v, h1, h2, h3, h4⟩
      · exact absurd hi0 h2
      · have := h4 hi0
        subst this
        exact Or.inr ⟨_, rfl, by rw [h1]⟩
    · rw [if_neg (by rw [L_leN (by omega) (by omega)]; omega)]
      have e1 : f_X2_mirrored (Int32.ofNat i) 1 s = some (oI (mirN i 1), s) := x_mirrored (b := 1) (by omega) (by omega)
      have e0 : f_X2_mirrored (Int32.ofNat i) 0 s = some (oI (mirN i 0), s) := x_mirrored (b := 0) (by omega) (by omega)
      rw [e1, Option.bind_some]
      dsimp only
      have j : ∀ c, jn_X2_evenTurnedAbove_34 (Int32.ofNat x) c (Int32.ofNat i) s = some (.inl (up1 c (mirN i 0) (Int32.ofNat x), Int32.ofNat (i + 1), s)) := by
        intro c
        unfold jn_X2_evenTurnedAbove_34 up1
        rw [e0, Option.bind_some]
        dsimp only
        rw [N_addL]
        split
        · rfl
        · split
          · rfl
          · split <;> rfl
      have j2 : (if oI (mirN i 1) ≤ Int32.ofNat x then jn_X2_evenTurnedAbove_34 (Int32.ofNat x) best (Int32.ofNat i) s else if best = -1 then jn_X2_evenTurnedAbove_32 (Int32.ofNat x) (Int32.ofNat i) (oI (mirN i 1)) s else if best ≤ oI (mirN i 1) then jn_X2_evenTurnedAbove_34 (Int32.ofNat x) best (Int32.ofNat i) s else jn_X2_evenTurnedAbove_32 (Int32.ofNat x) (Int32.ofNat i) (oI (mirN i 1)) s) = jn_X2_evenTurnedAbove_34 (Int32.ofNat x) (up1 best (mirN i 1) (Int32.ofNat x)) (Int32.ofNat i) s := by
        unfold jn_X2_evenTurnedAbove_32 up1
        split
        · rfl
        · split
          · rfl
          · split <;> rfl
      rw [j2, j]
      have h1 := ab_step (b := 1) hx hk hk1 hu hl (show i < 1000 by omega) (by omega) hab
      have h0 := ab_step (b := 0) hx hk hk1 hu hl (show i < 1000 by omega) (by omega) h1
      refine Or.inl ⟨_, rfl, _, rfl, by omega, ?_⟩
      have hD : ((((invN k0).1 < i) ∨ invN k0 = (i, 1)) ∨ invN k0 = (i, 0)) = ((invN k0).1 < i + 1) := by
        apply propext
        constructor
        · rintro ((q | q) | q)
          · omega
          · rw [q]; exact Nat.lt_succ_self i
          · rw [q]; exact Nat.lt_succ_self i
        · intro q
          by_cases h : (invN k0).1 < i
          · exact Or.inl (Or.inl h)
          · have h2 : (invN k0).1 = i := by omega
            have : (invN k0).2 = 0 ∨ (invN k0).2 = 1 := by omega
            rcases this with h3 | h3
            · exact Or.inr (Prod.ext h2 h3)
            · exact Or.inl (Or.inr (Prod.ext h2 h3))
      rw [hD] at h0
      exact h0
  obtain ⟨r, e, rfl⟩ := key
  unfold f_X2_evenTurnedAbove
  rw [e, Option.bind_some]
theorem o_heads {x y : Int32} {s t : Mem} (h : GR s t) : opR (f_X11_heads x y s) (f_X12_heads x y t) := by
  have h1 := GR_told (v := 0) h
  unfold f_X11_heads f_X12_heads
  generalize mset t 0 0 0 = t1 at *
  simp only [m_isIn, Option.bind_some]
  by_cases hx : 0 ≤ x ∧ x ≤ 99999
  · rw [if_pos hx, if_neg (show ¬ x < 0 by grind), if_pos hx.2, if_neg (show ¬ (1 : Int32) = 0 by decide)]
    obtain ⟨n, rfl, hn⟩ := N_of (x := x) (m := 99999) hx.1 hx.2 (by omega)
    by_cases hy : 0 ≤ y ∧ y ≤ 2
    · rw [if_pos hy, if_neg (show ¬ (1 : Int32) = 0 by decide)]
      by_cases y0 : y = 0
      · rw [if_pos y0, if_pos y0, x_turned (by omega), m_upside (by omega)]
        exact opR.ret h1
      · rw [if_neg y0, if_neg y0]
        by_cases y1 : y = 1
        · rw [if_pos y1, if_pos y1, N_addL]
          obtain ⟨r, e, k, rfl, q1, q2, q3, q4⟩ := m_above (t := t1) hn
          rw [e, x_above hn q1 q2 q3 q4]
          exact opR.ret h1
        · have y2 : y = 2 := by grind
          rw [if_neg y1, if_neg y1, if_pos y2, m_upTo hn, x_upTo hn, cU_u _ (by omega)]
          exact opR.ret h1
    · rw [if_neg hy, if_pos rfl, if_neg (show ¬ y = 0 by grind), if_neg (show ¬ y = 1 by grind), if_neg (show ¬ y = 2 by grind)]
      exact opR.ret h1
  · rw [if_neg hx, if_pos rfl]
    by_cases h0 : x < 0
    · rw [if_pos h0]; exact opR.ret h1
    · rw [if_neg h0, if_neg (show ¬ x ≤ 99999 by grind)]; exact opR.ret h1
