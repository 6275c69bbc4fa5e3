/-! ===== lines of TALK, CURES, ROWS, one behind another ===== -/
def lpC (w : Int32) (LC : Mem → Option (Int32 × Mem)) (x3 : Int32) (s : Mem) : Option ((Int32 × Mem) ⊕ (Nat × Mem)) :=
  if 16 < x3 then
  some (.inr (1, s))
  else
  if (s 173 1) = 0 then
  some (.inr (1, s))
  else
  (f_X6_isWord w s).bind fun r3 =>
  (f_X4_beginsLine r3.1 x3 r3.2).bind fun r4 =>
  if r4.1 = 0 then
  some (.inr (0, r4.2))
  else
  (LC r4.2).bind fun r6 =>
  if r6.1 = 0 then
  some (.inr (0, r6.2))
  else
  some (.inl ((x3 + 1), r6.2))
def lpR (w : Int32) (LR : Int32 → Mem → Option (Int32 × Mem)) (x1 : Int32) (s : Mem) : Option ((Int32 × Mem) ⊕ (Nat × Int32 × Mem)) :=
  (f_X12_isWord w s).bind fun r1 =>
  if r1.1 = 0 then
  some (.inr (2, x1, r1.2))
  else
  if x1 = 16 then
  some (.inr (0, 0, r1.2))
  else
  (LR x1 r1.2).bind fun r4 =>
  if r4.1 = (-1) then
  some (.inr (1, 0, r4.2))
  else
  some (.inl ((x1 + 1), r4.2))
def finT (r6 : Nat × Int32 × Mem) : Option (Int32 × Mem) :=
  if r6.1 = 0 then (f_X12_errs 3 r6.2.2).bind fun r7 =>
  some (r7.1, r7.2) else if r6.1 = 1 then some ((-1), r6.2.2) else if (r6.2.2 0 12) = 0 then
  some (r6.2.1, r6.2.2)
  else
  (f_X12_errs 1 r6.2.2).bind fun r9 =>
  some (r9.1, r9.2)
def lisQ (s0 t0 : Mem) (Pl : Nat → Mem → Mem → Prop) (b : Nat × Mem) (b' : Nat × Int32 × Mem) : Prop :=
  (b.1 = 0 ∧ ∃ t', finT b' = some (-1, t') ∧ badR s0 t0 b.2 t') ∨ (b.1 = 1 ∧ ∃ k t', k ≤ 16 ∧ finT b' = some (Int32.ofNat k, t') ∧ Pl k b.2 t' ∧ (tgX s0 b.2 ∧ 0 ≤ b.2 173 0 ∧ b.2 172 1 = 0 ∧ b.2 172 2 = -1) ∧ tgY t0 t')
section U5
variable {K s0 t0 : Mem} {T n : Nat}
theorem r_lines {q : Nat} {w : Int32} (hq : q < 23) (hw : w = Int32.ofNat q) (hwc : w = Int32.ofNat (cw q)) (Pl : Nat → Mem → Mem → Prop) (LC : Mem → Option (Int32 × Mem)) (LR : Int32 → Mem → Option (Int32 × Mem))
    (hline : ∀ k, k < 16 → ∀ j s t, pS K T s0 t0 j s t → isW K j q → Pl k s t → ok2 (LC s) (LR (Int32.ofNat k) t) (linR K T s0 t0 (Pl (k + 1)))) {s t : Mem} {j : Nat} (h : pS K T s0 t0 j s t) (h0 : Pl 0 s t) :
    ok2 (it FUEL (fun y : Int32 × Mem => lpC w LC y.1 y.2) (0, s)) (it FUEL (fun y : Int32 × Mem => lpR w LR y.1 y.2) (0, t)) (lisQ s0 t0 Pl) := by
  refine it_ok2 16 (by omega) (fun k y z => k ≤ 16 ∧ ∃ s' t' j, y = (Int32.ofNat k, s') ∧ z = (Int32.ofNat k, t') ∧ pS K T s0 t0 j s' t' ∧ Pl k s' t') ⟨by omega, s, t, j, rfl, rfl, h, h0⟩ (fun k y z q => q.1) ?_
  rintro k y z ⟨hk, s', t', j, rfl, rfl, hS, hP⟩
  dsimp only
  unfold lpC lpR
  rw [if_neg (by rw [L_ltN (by omega) (by omega)]; omega), hS.1.2.2.2.1, m_isW w q hw hS.2.1]
  dsimp only [Option.bind_some]
  by_cases k0 : K j 0 = 0
  · have nw : ¬ isW K j q := fun z => absurd (k0.symm.trans z.1) (by decide)
    rw [if_pos (show ckd (K j 0) = 0 by rw [k0]; decide), if_neg nw, if_pos rfl]
    refine ok2.some (Or.inr ⟨_, _, rfl, rfl, Or.inr ⟨rfl, k, t', hk, ?_, hP, ⟨hS.2.2.1, show 0 ≤ s' 173 0 by rw [hS.1.2.1]; exact hS.2.1.1.2.2.2.2.2.2, hS.1.2.2.2.2.2.2⟩, hS.2.2.2⟩⟩)
    unfold finT
    dsimp only
    rw [if_neg (by decide), if_neg (by decide), if_pos (show t' 0 12 = 0 by rw [hS.2.1.2.2.2.2.1]; exact k0)]
  · rw [if_neg (fun z => k0 (ckd_0.mp z)), x_isW w q hq hwc hS.1 hS.2.1]
    dsimp only [Option.bind_some]
    unfold f_X4_beginsLine jn_X4_beginsLine_24
    by_cases w5 : isW K j q
    · rw [if_pos w5, if_neg (show ¬ (1 : Int32) = 0 by decide), if_neg (show ¬ (1 : Int32) = 0 by decide)]
      by_cases h16 : k = 16
      · subst h16
        rw [if_neg (by decide), if_pos (by decide)]
        obtain ⟨s2, t2, f1, f2, f3⟩ := p_fail hS 3
        rw [f1]
        dsimp only [Option.bind_some]
        rw [if_pos rfl]
        dsimp only [Option.bind_some]
        rw [if_pos rfl]
        refine ok2.some (Or.inr ⟨_, _, rfl, rfl, Or.inl ⟨rfl, t2, ?_, f3⟩⟩)
        unfold finT
        dsimp only
        rw [if_pos rfl, f2]
        rfl
      · rw [if_pos (by rw [N_ltL (by omega) (by omega)]; omega), if_neg (by rw [N_eqL (by omega) (by omega)]; exact h16)]
        dsimp only [Option.bind_some]
        rw [if_neg (by decide)]
        obtain ⟨⟨v, s2⟩, ⟨v', t2⟩, b1, b2, b3⟩ := hline k (by omega) j s' t' hS w5 hP
        rw [b1, b2]
        dsimp only [Option.bind_some]
        rcases b3 with ⟨z1, z2, z3⟩ | ⟨z1, z2, j2, z3, z4⟩
        · dsimp only at z1 z2 z3
          subst z1 z2
          rw [if_pos rfl, if_pos rfl]
          refine ok2.some (Or.inr ⟨_, _, rfl, rfl, Or.inl ⟨rfl, t2, ?_, z3⟩⟩)
          unfold finT
          dsimp only
          rw [if_neg (by decide), if_pos rfl]
        · dsimp only at z1 z2 z3 z4
          subst z1 z2
          rw [if_neg (by decide), if_neg (by decide), N_addL]
          exact ok2.some (Or.inl ⟨_, _, rfl, rfl, by omega, s2, t2, j2, rfl, rfl, z3, z4⟩)
    · rw [if_neg w5, if_pos rfl, if_pos rfl]
      obtain ⟨s2, t2, f1, f2, f3⟩ := p_fail hS 1
      rw [f1]
      dsimp only [Option.bind_some]
      rw [if_neg (by decide)]
      dsimp only [Option.bind_some]
      rw [if_pos rfl]
      refine ok2.some (Or.inr ⟨_, _, rfl, rfl, Or.inl ⟨rfl, t2, ?_, f3⟩⟩)
      unfold finT
      dsimp only
      rw [if_neg (by decide), if_neg (by decide), if_neg (show ¬ t' 0 12 = 0 by rw [hS.2.1.2.2.2.2.1]; exact k0), f2]
      rfl
def endQ (s0 t0 : Mem) (Pl : Nat → Mem → Mem → Prop) (d : Nat) (r r' : Int32 × Mem) : Prop := (r.1 = -1 ∧ r'.1 = -1 ∧ badR s0 t0 r.2 r'.2) ∨ ∃ k, k ≤ 16 ∧ r.1 = Int32.ofNat k ∧ r'.1 = Int32.ofNat k ∧ tgY t0 r'.2 ∧ ∃ s', Pl k s' r'.2 ∧ (tgX s0 s' ∧ 0 ≤ s' 173 0 ∧ s' 172 1 = 0 ∧ s' 172 2 = -1) ∧ (∀ c, c < d ∨ d + 4 < c → r.2 c = s' c) ∧ r.2 d 0 = s' 185 0 ∧ ∀ f l, 1 ≤ f → f < 5 → l < 16 → r.2 (d + f) l = s' (185 + f) l
theorem r_readTalk {s t : Mem} {j a : Nat} (ha : a + 6 < 185) (h : pS K T s0 t0 j s t) (hn : n ≤ 14) (h172 : s0 172 3 = Int32.ofNat n) (h6 : t0 0 6 = Int32.ofNat n) : ok2 (f_X4_readPlan a 0 s) (f_X12_readTalk t) (endQ s0 t0 (plT n) a) := by
  have h1 : pS K T s0 t0 j (mset s 185 0 0) t := pS_x h (fun c hc => m_ne (by omega))
  obtain ⟨b, b', e1, e2, e3⟩ := r_lines (q := 15) (w := 15) (by omega) rfl (by decide) (plT n) (f_X4_readPlanLine 0) (fun x1 => f_X12_readTalkLine (48 + 3 * x1)) (fun k hk j s t g1 g2 g3 => by
    try dsimp only
    rw [L_mulN, L_addN]
    exact r_talkLine g1 hn h172 h6 hk g2 g3) h1 ⟨by rw [m_eq, u_eq]; rfl, fun l hl => by omega⟩
  have e1' : it FUEL (fun y => st_X4_readPlan_10 a 0 y.1 y.2) (0, mset s 185 0 0) = some b := e1
  have e2' : it FUEL (fun y => st_X12_readTalk_2 y.1 y.2) (0, t) = some b' := e2
  unfold f_X4_readPlan
  have e4 : f_X12_readTalk t = finT b' := by
    unfold f_X12_readTalk
    rw [e2']
    rfl
  rw [e1', e4]
  dsimp only [Option.bind_some]
  rcases e3 with ⟨z1, t', z2, z3⟩ | ⟨z1, k, t', hk, z2, z3, z4, z5⟩
  · rw [if_pos z1, z2]
    exact ok2.some (Or.inl ⟨rfl, rfl, z3⟩)
  · rw [if_neg (by rw [z1]; decide), z2]
    unfold jn_X4_readPlan_59
    obtain ⟨s3, f1, f2, f3, f4⟩ := x_copyPlan (s := b.2) (d := a) (e := 185) (Or.inl ha)
    rw [f1]
    dsimp only [Option.bind_some]
    refine ok2.some (Or.inr ⟨k, hk, ?_, rfl, z5, b.2, z3, z4, f4, f2, f3⟩)
    show s3 185 0 = _
    rw [f4 185 (by omega)]
    exact z3.1
theorem r_readCures {s t : Mem} {j a : Nat} (ha : a + 6 < 185) (h : pS K T s0 t0 j s t) (hn : n ≤ 14) (h172 : s0 172 3 = Int32.ofNat n) (h6 : t0 0 6 = Int32.ofNat n) : ok2 (f_X4_readPlan a 1 s) (f_X12_readCures t) (endQ s0 t0 (plC n) a) := by
  have h1 : pS K T s0 t0 j (mset s 185 0 0) t := pS_x h (fun c hc => m_ne (by omega))
  obtain ⟨b, b', e1, e2, e3⟩ := r_lines (q := 15) (w := 15) (by omega) rfl (by decide) (plC n) (f_X4_readPlanLine 1) (fun x1 => f_X12_readCure (64 + 4 * x1)) (fun k hk j s t g1 g2 g3 => by
    try dsimp only
    rw [L_mulN, L_addN]
    exact r_cureLine g1 hn h172 h6 hk g2 g3) h1 ⟨by rw [m_eq, u_eq]; rfl, fun l hl => by omega⟩
  have e1' : it FUEL (fun y => st_X4_readPlan_10 a 1 y.1 y.2) (0, mset s 185 0 0) = some b := e1
  have e2' : it FUEL (fun y => st_X12_readCures_2 y.1 y.2) (0, t) = some b' := e2
  unfold f_X4_readPlan
  have e4 : f_X12_readCures t = finT b' := by
    unfold f_X12_readCures
    rw [e2']
    rfl
  rw [e1', e4]
  dsimp only [Option.bind_some]
  rcases e3 with ⟨z1, t', z2, z3⟩ | ⟨z1, k, t', hk, z2, z3, z4, z5⟩
  · rw [if_pos z1, z2]
    exact ok2.some (Or.inl ⟨rfl, rfl, z3⟩)
  · rw [if_neg (by rw [z1]; decide), z2]
    unfold jn_X4_readPlan_59
    obtain ⟨s3, f1, f2, f3, f4⟩ := x_copyPlan (s := b.2) (d := a) (e := 185) (Or.inl ha)
    rw [f1]
    dsimp only [Option.bind_some]
    refine ok2.some (Or.inr ⟨k, hk, ?_, rfl, z5, b.2, z3, z4, f4, f2, f3⟩)
    show s3 185 0 = _
    rw [f4 185 (by omega)]
    exact z3.1
/-- a line of ROWS -/
def shm (t : Mem) : Mem := fun c i => if c = 17 then t 17 (14 + i) else if c = 18 then t 18 (84 + i) else t c i
def plR (n k : Nat) (s t : Mem) : Prop := s 190 0 = Int32.ofNat k ∧ ∀ p, p < 14 → ∃ (kk : Nat) (nm : Nat → Nat), nmR n s 190 (shm t) k p kk nm
theorem shm_17 {t : Mem} {i : Nat} : shm t 17 i = t 17 (14 + i) := rfl
theorem shm_18 {t : Mem} {i : Nat} : shm t 18 i = t 18 (84 + i) := rfl
theorem x_isP_s {x : Int32} {s : Mem} : (∃ u, f_X4_isPerson x s = some (0, u)) ∨ f_X4_isPerson x s = some (1, s) := by
  have h1 : ∀ lo hi, (∃ u, f_X4_isNumber lo hi s = some (0, u)) ∨ f_X4_isNumber lo hi s = some (1, s) := by
    intro lo hi
    unfold f_X4_isNumber jn_X4_isNumber_39 jn_X4_isNumber_47
    rw [x_fail, x_fail]
    dsimp only [Option.bind_some]
    split
    · split
      · exact Or.inl ⟨_, if_pos rfl⟩
      · split
        · exact Or.inr rfl
        · exact Or.inl ⟨_, if_pos rfl⟩
    · exact Or.inl ⟨_, if_neg (by decide)⟩
  unfold f_X4_isPerson jn_X4_isPerson_35
  rcases h1 0 ((s 172 3) - 1) with ⟨u, e⟩ | e
  · rw [e]
    exact Or.inl ⟨u, by dsimp only [Option.bind_some]; rw [if_pos rfl]⟩
  · rw [e]
    dsimp only [Option.bind_some]
    rw [if_neg (by decide), x_fail]
    dsimp only [Option.bind_some]
    split
    · exact Or.inl ⟨_, if_pos rfl⟩
    · exact Or.inr rfl
theorem r_isP {s t : Mem} {j p : Nat} (h : pS K T s0 t0 j s t) (hn : n ≤ 14) (h172 : s 172 3 = Int32.ofNat n) (h6 : t 0 6 = Int32.ofNat n) (hp : p < 14) :
    (∃ s' t', f_X4_isPerson (Int32.ofNat p) s = some (0, s') ∧ f_X12_readOther (Int32.ofNat p) t = some (-1, t') ∧ badR s0 t0 s' t') ∨
    ∃ v s' t', v < n ∧ v ≠ p ∧ f_X4_isPerson (Int32.ofNat p) s = some (1, s) ∧ s 173 2 = Int32.ofNat v ∧ K j 0 ≠ 0 ∧ f_X6_advance s = some s' ∧ f_X12_readOther (Int32.ofNat p) t = some (Int32.ofNat v, t') ∧ pS K T s0 t0 (j + 1) s' t' ∧ (∀ c, c ≠ 173 → s' c = s c) ∧ ∀ c, c ≠ 0 → t' c = t c := by
  obtain ⟨⟨v, s2⟩, ⟨v', t2⟩, b1, b2, b3⟩ := r_other h hn h172 h6 hp
  unfold f_X4_takePerson at b1
  rcases x_isP_s (x := Int32.ofNat p) (s := s) with ⟨u, e⟩ | e
  · rw [e] at b1
    dsimp only [Option.bind_some] at b1
    rw [if_pos rfl] at b1
    have b1' := Option.some.inj b1
    have q1 := (Prod.mk.inj b1').1
    have q2 := (Prod.mk.inj b1').2
    rcases b3 with ⟨z1, z2, z3⟩ | ⟨w, hw, -, z1, -⟩
    · dsimp only at z1 z2 z3
      subst z2 q2
      exact Or.inl ⟨u, t2, e, b2, z3⟩
    · dsimp only at z1
      rw [← q1, neg_N (by omega)] at z1
      exact z1.elim
  · rw [e] at b1
    dsimp only [Option.bind_some] at b1
    rw [if_neg (by decide)] at b1
    obtain ⟨u, eu, eq⟩ := bnd b1
    have b1' := Option.some.inj eq
    have q1 := (Prod.mk.inj b1').1
    have q2 := (Prod.mk.inj b1').2
    subst q2
    have hk0 : K j 0 ≠ 0 := by
      intro z
      have hjT : j = T ∨ j < T := by have := h.2.1.2.1; omega
      unfold f_X4_isPerson f_X4_isNumber at e
      rw [h.1.2.2.2.1, z, if_neg (by decide), x_fail] at e
      dsimp only [Option.bind_some] at e
      rw [if_neg (by decide)] at e
      dsimp only [Option.bind_some] at e
      rw [if_pos rfl] at e
      exact absurd (Prod.mk.inj (Option.some.inj e)).1 (by decide)
    rcases b3 with ⟨z1, z2, z3⟩ | ⟨w, hw, hV, z1, z2, z3, z4, z5⟩
    · exfalso
      dsimp only at z1
      have k3 : K j 0 = 3 := by
        by_cases q : K j 0 = 3
        · exact q
        · exfalso
          unfold f_X4_isPerson f_X4_isNumber at e
          rw [h.1.2.2.2.1, if_neg (fun z => q (ckd_2.mp z)), x_fail] at e
          dsimp only [Option.bind_some] at e
          rw [if_neg (by decide)] at e
          dsimp only [Option.bind_some] at e
          rw [if_pos rfl] at e
          exact absurd (Prod.mk.inj (Option.some.inj e)).1 (by decide)
      obtain ⟨w, hw, e4, e1⟩ := tkF_n (cur_F h.2.1 hk0) k3
      rw [← q1, h.1.2.2.2.2.1, e1, N_neg (by omega)] at z1
      exact z1
    · dsimp only at z1 z2 z3 z4 z5
      subst z2
      exact Or.inr ⟨w, u, t2, hV.1, hV.2, e, q1.trans z1, hk0, eu, b2, z3, z4, z5⟩
end U5
