/-! ===== conditions: the simulation ===== -/
def claimOK (K : Mem) (T : Nat) (s0 t0 : Mem) (cl : Int32 → Mem → Option (Int32 × Mem)) (o : Nat) : Prop :=
  ∀ (A B : Type) (kC : Int32 × Mem → Option A) (kR : Int32 × Mem → Option B) (Q : A → B → Prop) (b k o' : Nat) (Qs cs : List Int32) (n j : Nat) (s t : Mem),
    o = k + o' → (∀ r, Qs ≠ 9 :: r) → b ≤ o → 1 ≤ j → cs.length + (k + Qs.length) ≤ j → k + Qs.length ≤ 3 * o + 2 → 500 ≤ n + j → stX K T s0 s j cs → stY K T t0 (some (List.replicate k 9 ++ Qs)) o t j cs →
    (∀ n' j' s' t' ds, stX K T s0 s' j' (cs ++ ds) → stY K T t0 (some Qs) o' t' j' (cs ++ ds ++ List.replicate k 20009) → EZ (40 + 2 * o) ds → ds.length + j ≤ j' → j < j' → 500 ≤ n' + j' → ok2 (kC (1, s')) (((it n' fAR (Int32.ofNat b, 0, t')).bind finA).bind kR) Q) →
    (∀ s' t', flR s0 t0 s' t' → ok2 (kC (0, s')) (kR (-1, t')) Q) →
    ok2 ((cl (Int32.ofNat o) s).bind kC) (((it n fAR (Int32.ofNat b, 1, t)).bind finA).bind kR) Q
def fEC (cl : Int32 → Mem → Option (Int32 × Mem)) (o : Nat) (y : Int32 × Int32 × Int32 × Mem) : Option ((Int32 × Int32 × Int32 × Mem) ⊕ (Nat × Mem)) := st_X4_readEither_7 cl (Int32.ofNat o) y.1 y.2.1 y.2.2.1 y.2.2.2
def finE (r13 : Nat × Mem) : Option (Int32 × Mem) :=
  if r13.1 = 0 then some (0, r13.2) else if r13.1 = 1 then some (1, r13.2) else (f_X4_fail 1 r13.2).bind fun r14 =>
  if ¬ (r14.1 = 0 ∨ r14.1 = 1) then none else some (r14.1, r14.2)
def bI (a : Bool) : Int32 := if a then 1 else 0
def bN (a : Bool) : Nat := if a then 1 else 0
def bL (a : Bool) (v : Int32) : List Int32 := if a then [v] else []
theorem bL_len {a : Bool} {v : Int32} : (bL a v).length = bN a := by cases a <;> rfl
theorem bN_le {a : Bool} : bN a ≤ 1 := by cases a <;> decide
theorem EK_and {a : Bool} {m b b' : Nat} {d1 d2 : List Int32} (h1 : EK (bN a + m) b d1) (h2 : EZ b' d2) (hb : bN a + m + b ≤ b') : EK (1 + m) b (d1 ++ d2 ++ bL a 20007) := by
  have h3 := EK_claim h1 h2 hb
  cases a with
  | false =>
    have e : d1 ++ d2 ++ bL false 20007 = d1 ++ d2 := by simp [bL]
    rw [e, Nat.add_comm 1 m]
    have e2 : bN false + m + 1 = m + 1 := by simp [bN]
    rw [e2] at h3
    exact h3
  | true =>
    have e2 : bN true + m + 1 = m + 2 := by simp [bN]; omega
    rw [e2] at h3
    rw [Nat.add_comm 1 m]
    exact EK_op h3 (Or.inl rfl)
theorem EK_or {a : Bool} {b : Nat} {d : List Int32} (h : EK (1 + bN a) b d) : EK 1 b (d ++ bL a 20008) := by
  cases a with
  | false =>
    have e : d ++ bL false 20008 = d := by simp [bL]
    rw [e]
    exact h
  | true => exact EK_op (m := 0) h (Or.inr rfl)
theorem ite_bind {C : Prop} [Decidable C] {A B : Type} {a : A} {o : Option A} {f : A → Option B} : (if C then f a else o.bind f) = (if C then some a else o).bind f := by
  split <;> rfl
section T9
variable {K s0 t0 : Mem} {T : Nat}
theorem out1 {op j : Nat} {s t : Mem} {a : Bool} {w c : Int32} {l W : List Int32} (hc : cdR c w 0) (h9 : w ≠ 9) (hW : ∀ r, W ≠ w :: r) (hX : stX K T s0 s j l) (hY : stY K T t0 (some (bL a w ++ W)) op t j l) (hl : l.length + bN a ≤ 400) (hw : W.length < 40) (hop : op ≤ 40) :
    ∃ s1 t1, (if bI a = 0 then some s else f_X1_emit 178 c s) = some s1 ∧ f_X12_settles w t = some t1 ∧ stX K T s0 s1 j (l ++ bL a c) ∧ stY K T t0 (some W) op t1 j (l ++ bL a c) := by
  cases a with
  | false =>
    obtain ⟨t1, e1, e2⟩ := m_settle0 hc hW (show stY K T t0 (some W) op t j l from hY) (by omega) (by omega) hop
    exact ⟨s, t1, if_pos rfl, e1, by simpa [bL] using hX, by simpa [bL] using e2⟩
  | true =>
    have hl' : l.length < 400 := by
      have : bN true = 1 := rfl
      omega
    obtain ⟨t1, e1, e2⟩ := m_settle1 hc h9 hW (show stY K T t0 (some (w :: W)) op t j l from hY) hl' hw hop
    obtain ⟨s1, f1, f2⟩ := x_emit hX c hl'
    exact ⟨s1, t1, by rw [if_neg (by decide)]; exact f1, e1, f2, e2⟩
theorem either_loop {cl : Int32 → Mem → Option (Int32 × Mem)} {o : Nat} (hcl : claimOK K T s0 t0 cl o) (ho : o ≤ 8) {A B : Type} (kE : Nat × Mem → Option A) (kR : Int32 × Mem → Option B) (Q : A → B → Prop) (b : Nat) (hb : b ≤ o) (Bs : List Int32) (hB : ∀ w r, (w = 9 ∨ w = 10 ∨ w = 11) → Bs ≠ w :: r) (hBl : Bs.length ≤ 3 * o) (j0 : Nat) (cs : List Int32) (hcs : cs.length + Bs.length ≤ j0) (hj0 : 1 ≤ j0)
    (hok : ∀ n' j' s' t' ds, stX K T s0 s' j' (cs ++ ds) → stY K T t0 (some Bs) o t' j' (cs ++ ds) → EZ (38 + 2 * o) ds → ds.length + j0 ≤ j' → j0 < j' → 499 ≤ n' + j' → ok2 (kE (1, s')) (((runO n' fAR (endS (Int32.ofNat b) t')).bind finA).bind kR) Q)
    (hfail : ∀ s' t', flR s0 t0 s' t' → ok2 (kE (0, s')) (kR (-1, t')) Q) :
    ∀ r n2 n i j (ow aw : Bool) s t ds, T ≤ j + r → stX K T s0 s j (cs ++ ds) → stY K T t0 (some (bL aw 10 ++ (bL ow 11 ++ Bs))) o t j (cs ++ ds) → EK (bN aw + bN ow) (38 + 2 * o) ds → ds.length + (bN aw + bN ow) + j0 ≤ j → i < j → 500 ≤ n2 + j → 500 ≤ n + j →
      ok2 ((it n2 (fEC cl o) (bI ow, bI aw, Int32.ofNat i, s)).bind kE) (((it n fAR (Int32.ofNat b, 1, t)).bind finA).bind kR) Q := by
  intro r
  induction r using Nat.strongRecOn with
  | _ r ih =>
    intro n2 n i j ow aw s t ds hr hX hY hE hl hi hn2 hn
    have hjT := hY.1.2.1
    have hT4 := hY.1.1.1
    have bo := bN_le (a := ow)
    have ba := bN_le (a := aw)
    obtain ⟨m2, rfl⟩ : ∃ m2, n2 = m2 + 1 := ⟨n2 - 1, by omega⟩
    have he : fEC cl o (bI ow, bI aw, Int32.ofNat i, s) = (cl (Int32.ofNat o) s).bind fun r2 =>
        if r2.1 = 0 then some (.inr (0, r2.2)) else if bI aw = 0 then jn_X4_readEither_39 cl (Int32.ofNat o) (bI ow) (Int32.ofNat i) r2.2 else (f_X1_emit 178 20007 r2.2).bind fun r12 => jn_X4_readEither_39 cl (Int32.ofNat o) (bI ow) (Int32.ofNat i) r12 := by
      unfold fEC st_X4_readEither_7
      dsimp only
      rw [if_neg (by rw [L_leN (by omega) (by omega)]; omega)]
    rw [it_S, he, runO_b, Option.bind_assoc]
    have hWl : (bL aw 10 ++ (bL ow 11 ++ Bs)).length = bN aw + (bN ow + Bs.length) := by rw [List.length_append, List.length_append, bL_len, bL_len]
    have hW9 : ∀ r, bL aw 10 ++ (bL ow 11 ++ Bs) ≠ 9 :: r := by
      intro r
      cases aw with
      | true => exact fun z => absurd (List.cons.inj z).1 (by decide)
      | false =>
        cases ow with
        | true => exact fun z => absurd (List.cons.inj z).1 (by decide)
        | false => exact hB 9 r (Or.inl rfl)
    refine hcl A B _ kR Q b 0 o (bL aw 10 ++ (bL ow 11 ++ Bs)) (cs ++ ds) n j s t (by omega) hW9 hb (by omega) (by rw [hWl, List.length_append]; omega) (by rw [hWl]; omega) hn hX (by simpa using hY) ?_ ?_
    · intro n' j' s' t' d g1 g2 g3 g4 g5 g6
      have hj'T := g2.1.2.1
      replace g1 : stX K T s0 s' j' (cs ++ (ds ++ d)) := by simpa using g1
      replace g2 : stY K T t0 (some (bL aw 10 ++ (bL ow 11 ++ Bs))) o t' j' (cs ++ (ds ++ d)) := by simpa using g2
      dsimp only
      rw [if_neg (show ¬ (1 : Int32) = 0 by decide), ite_bind (f := fun r12 => jn_X4_readEither_39 cl (Int32.ofNat o) (bI ow) (Int32.ofNat i) r12)]
      have hEA := EK_and hE g3 (by omega)
      have hW10 : ∀ r, bL ow 11 ++ Bs ≠ 10 :: r := by
        intro r
        cases ow with
        | true => exact fun z => absurd (List.cons.inj z).1 (by decide)
        | false => exact hB 10 r (Or.inr (Or.inl rfl))
      obtain ⟨s1, t1, a1, a2, a3, a4⟩ := out1 (cd_op.2.2.2.2.2.2.2.1) (by decide) hW10 g1 g2 (by simp only [List.length_append]; omega) (by rw [List.length_append, bL_len]; omega) (by omega)
      rw [a1]
      dsimp only [Option.bind_some]
      obtain ⟨m, rfl⟩ : ∃ m, n' = m + 1 := ⟨n' - 1, by omega⟩
      rw [it_S]
      have hR : fAR (Int32.ofNat b, 0, t') = (if isW K j' 5 then (f_X12_settles 10 t').bind fun r17 => (f_X12_waits 10 r17).bind fun r18 => (f_X12_reads r18).bind fun r19 => some (.inl (Int32.ofNat b, 1, r19))
          else if isW K j' 4 then (f_X12_settles 10 t').bind fun r13 => (f_X12_settles 11 r13).bind fun r14 => (f_X12_waits 11 r14).bind fun r15 => (f_X12_reads r15).bind fun r16 => some (.inl (Int32.ofNat b, 1, r16))
          else (f_X12_settles 10 t').bind fun r6 => (f_X12_settles 11 r6).bind fun r7 => endS (Int32.ofNat b) r7) := by
        unfold fAR st_X12_readAny_9
        dsimp only
        rw [if_pos rfl, m_isW 5 5 rfl g2.1]
        dsimp only [Option.bind_some]
        by_cases w5 : isW K j' 5
        · rw [if_pos w5, if_pos w5, if_neg (by decide)]
        · rw [if_neg w5, if_neg w5, if_pos rfl, m_isW 4 4 rfl g2.1]
          dsimp only [Option.bind_some]
          by_cases w4 : isW K j' 4
          · rw [if_pos w4, if_pos w4, if_neg (by decide)]
          · rw [if_neg w4, if_neg w4, if_pos rfl]
            rfl
      rw [hR]
      unfold jn_X4_readEither_39
      rw [x_isW 13 5 (by omega) (by decide) a3.1 a4.1]
      dsimp only [Option.bind_some]
      have hr1 : 1 ≤ r := by omega
      by_cases w5 : isW K j' 5
      · rw [if_pos w5, if_pos w5, if_neg (by decide), a2]
        dsimp only [Option.bind_some]
        unfold jn_X4_readEither_83
        have hk2 : K j' 0 ≠ 0 := by rw [w5.1]; decide
        obtain ⟨t2, b1, b2⟩ := m_waits 10 a4 (by rw [List.length_append, bL_len]; omega)
        obtain ⟨s3, t3, c1, c2, c3, c4⟩ := st_next a3 b2 hk2
        rw [b1, c1]
        dsimp only [Option.bind_some]
        rw [c2]
        dsimp only [Option.bind_some]
        rw [runO_l, runO_l, N_addL]
        have e9 : cs ++ (ds ++ d) ++ bL aw 20007 = cs ++ (ds ++ d ++ bL aw 20007) := by simp
        rw [e9] at c3 c4
        have e8 : (ds ++ d ++ bL aw 20007).length = ds.length + d.length + bN aw := by rw [List.length_append, List.length_append, bL_len]
        exact ih (r - 1) (by omega) m2 m (i + 1) (j' + 1) ow true s3 t3 _ (by omega) c3 c4 hEA (by rw [e8]; show _ + (1 + bN ow) + j0 ≤ _; omega) (by omega) (by omega) (by omega)
      · rw [if_neg w5, if_neg w5, if_pos rfl, a2]
        dsimp only [Option.bind_some]
        have hEO := EK_or hEA
        rw [ite_bind (f := fun r11 => jn_X4_readEither_67 cl (Int32.ofNat o) 0 (Int32.ofNat i) r11)]
        have hl2 : (cs ++ (ds ++ d) ++ bL aw 20007).length + bN ow ≤ 400 := by
          simp only [List.length_append, bL_len]; omega
        obtain ⟨s2, t2, b1, b2, b3, b4⟩ := out1 (cd_op.2.2.2.2.2.2.2.2.1) (by decide) (fun r => hB 11 r (Or.inr (Or.inr rfl))) a3 a4 hl2 (by omega) (by omega)
        rw [b1, b2]
        dsimp only [Option.bind_some]
        unfold jn_X4_readEither_67
        rw [x_isW 12 4 (by omega) (by decide) b3.1 b4.1]
        dsimp only [Option.bind_some]
        have e9 : cs ++ (ds ++ d) ++ bL aw 20007 ++ bL ow 20008 = cs ++ (ds ++ d ++ bL aw 20007 ++ bL ow 20008) := by simp
        rw [e9] at b3 b4
        have e8 : (ds ++ d ++ bL aw 20007 ++ bL ow 20008).length = ds.length + d.length + bN aw + bN ow := by rw [List.length_append, List.length_append, List.length_append, bL_len, bL_len]
        by_cases w4 : isW K j' 4
        · rw [if_pos w4, if_pos w4, if_neg (by decide)]
          unfold jn_X4_readEither_83
          have hk2 : K j' 0 ≠ 0 := by rw [w4.1]; decide
          obtain ⟨t3, f1, f2⟩ := m_waits 11 b4 (by omega)
          obtain ⟨s4, t4, c1, c2, c3, c4⟩ := st_next b3 f2 hk2
          rw [f1, c1]
          dsimp only [Option.bind_some]
          rw [c2]
          dsimp only [Option.bind_some]
          rw [runO_l, runO_l, N_addL]
          exact ih (r - 1) (by omega) m2 m (i + 1) (j' + 1) true false s4 t4 _ (by omega) c3 c4 hEO (by rw [e8]; show _ + (0 + 1) + j0 ≤ _; omega) (by omega) (by omega) (by omega)
        · rw [if_neg w4, if_neg w4, if_pos rfl, runO_r]
          dsimp only [Option.bind_some]
          exact hok m j' s2 t2 _ b3 b4 (EK_1 hEO) (by rw [e8]; omega) (by omega) (by omega)
    · intro s' t' g
      dsimp only
      rw [if_pos rfl, runO_r]
      exact hfail s' t' g
theorem either_ok {cl : Int32 → Mem → Option (Int32 × Mem)} {o : Nat} (hcl : claimOK K T s0 t0 cl o) (ho : o ≤ 8) {A B : Type} (kC : Int32 × Mem → Option A) (kR : Int32 × Mem → Option B) (Q : A → B → Prop) (b : Nat) (hb : b ≤ o) (Bs : List Int32) (hB : ∀ w r, (w = 9 ∨ w = 10 ∨ w = 11) → Bs ≠ w :: r) (hBl : Bs.length ≤ 3 * o) (cs : List Int32) (n j : Nat) (s t : Mem) (hcs : cs.length + Bs.length ≤ j) (hj : 1 ≤ j) (hn : 500 ≤ n + j) (hX : stX K T s0 s j cs) (hY : stY K T t0 (some Bs) o t j cs)
    (hok : ∀ n' j' s' t' ds, stX K T s0 s' j' (cs ++ ds) → stY K T t0 (some Bs) o t' j' (cs ++ ds) → EZ (38 + 2 * o) ds → ds.length + j ≤ j' → j < j' → 499 ≤ n' + j' → ok2 (kC (1, s')) (((runO n' fAR (endS (Int32.ofNat b) t')).bind finA).bind kR) Q)
    (hfail : ∀ s' t', flR s0 t0 s' t' → ok2 (kC (0, s')) (kR (-1, t')) Q) :
    ok2 ((f_X4_readEither cl (Int32.ofNat o) s).bind kC) (((it n fAR (Int32.ofNat b, 1, t)).bind finA).bind kR) Q := by
  have e : f_X4_readEither cl (Int32.ofNat o) s = (it FUEL (fEC cl o) (bI false, bI false, Int32.ofNat 0, s)).bind finE := rfl
  rw [e, Option.bind_assoc]
  exact either_loop hcl ho (fun x => (finE x).bind kC) kR Q b hb Bs hB hBl j cs hcs hj hok hfail T FUEL n 0 j false false s t [] (by omega) (by simpa using hX) (by simpa [bL] using hY) EK_0 (by show 0 + (0 + 0) + j ≤ j; omega) (by omega) (by unfold FUEL; omega) hn
theorem claim_ok : ∀ d o, 9 ≤ d + o → o ≤ 8 → claimOK K T s0 t0 (F_claim d) o := by
  intro d
  induction d with
  | zero => intro o h1 h2; omega
  | succ d ih =>
    intro o h1 h2 A B kC kR Q b k o' Qs cs n j s t ho hQ hb hj hc hl hn hX hY hok hfail
    have hjT := hY.1.2.1
    have hT4 := hY.1.1.1
    have ht24 := hY.2.2.1.1
    have hPl : (List.replicate k 9 ++ Qs).length = k + Qs.length := by rw [List.length_append, List.length_replicate]
    show ok2 ((f_X4_readClaim (F_claim d) (f_X4_readEither (F_claim d)) (Int32.ofNat o) s).bind kC) _ _
    obtain ⟨m, rfl⟩ : ∃ m, n = m + 1 := ⟨n - 1, by omega⟩
    unfold f_X4_readClaim
    rw [it_S, x_isW 14 6 (by omega) (by decide) hX.1 hY.1]
    dsimp only [Option.bind_some]
    have hR : fAR (Int32.ofNat b, 1, t) = (if isW K j 6 then jn_X12_readAny_33 (Int32.ofNat b) 1 1 t else if isS K j 40 then jn_X12_readAny_33 (Int32.ofNat b) 1 0 t
        else (f_X12_readCompared t).bind fun r29 => if r29.1 = (-1) then some (.inr (1, r29.2)) else (f_X12_settles 9 r29.2).bind fun r31 => some (.inl (Int32.ofNat b, 0, r31))) := by
      unfold fAR st_X12_readAny_9
      dsimp only
      rw [if_neg (by decide), m_isW 6 6 rfl hY.1]
      dsimp only [Option.bind_some]
      by_cases w6 : isW K j 6
      · rw [if_pos w6, if_pos w6, if_neg (by decide)]
      · rw [if_neg w6, if_neg w6, if_pos rfl, m_isS 40 hY.1]
        dsimp only [Option.bind_some]
        by_cases q : isS K j 40
        · rw [if_pos q, if_pos q, if_neg (by decide)]
        · rw [if_neg q, if_neg q, if_pos rfl]
    rw [hR]
    have deep : ∀ x3 : Int32, o = 8 → ok2 ((jn_X4_readClaim_26 (F_claim d) (f_X4_readEither (F_claim d)) (Int32.ofNat o) x3 s).bind kC) (((runO m fAR (jn_X12_readAny_33 (Int32.ofNat b) 1 x3 t)).bind finA).bind kR) Q := by
      intro x3 h8
      unfold jn_X4_readClaim_26 jn_X12_readAny_33
      rw [ht24, h8, if_neg (by decide), if_pos (by decide), runO_r]
      dsimp only [Option.bind_some]
      unfold finA
      dsimp only
      rw [if_pos rfl]
      obtain ⟨s2, t2, f1, f2, f3⟩ := st_fail hX hY 3
      rw [f1, f2]
      dsimp only [Option.bind_some]
      rw [if_neg (by decide)]
      dsimp only [Option.bind_some]
      exact hfail _ _ f3
    have hY2 : stY K T t0 (some (List.replicate k 9 ++ Qs)) (o + 1) (mset t 0 24 ((t 0 24) + 1)) j cs := by
      refine stY_pnd hY (fun c q1 q2 => m_ne q1) (fun i q1 q2 => by rw [m_eq, u_ne q1]) ⟨?_, fun L hL => ?_⟩
      · rw [m_eq, u_eq, ht24, N_addL]
      · rw [m_eq, u_ne (by omega), m_ne (by omega)]
        exact hY.2.2.1.2 L hL
    by_cases w6 : isW K j 6
    · rw [if_pos w6, if_pos w6, if_neg (by decide)]
      by_cases h8 : o = 8
      · exact deep 1 h8
      · have hk : K j 0 ≠ 0 := by rw [w6.1]; decide
        unfold jn_X4_readClaim_26 jn_X12_readAny_33
        rw [if_pos (by rw [N_ltL (by omega) (by omega)]; omega), if_neg (show ¬ t 0 24 = 8 by rw [ht24, N_eqL (by omega) (by omega)]; exact h8), if_neg (show ¬ (1 : Int32) = 0 by decide)]
        unfold jn_X12_readAny_66 jn_X12_readAny_78
        rw [if_neg (show ¬ (1 : Int32) = 0 by decide)]
        obtain ⟨t2, b1, b2⟩ := m_waits 9 hY2 (by rw [hPl]; omega)
        obtain ⟨s3, t3, c1, c2, c3, c4⟩ := st_next hX b2 hk
        rw [b1, c1]
        dsimp only [Option.bind_some]
        rw [c2]
        dsimp only [Option.bind_some]
        rw [if_neg (show ¬ (1 : Int32) = 0 by decide), runO_l, N_addL, Option.bind_assoc]
        refine ih (o + 1) (by omega) (by omega) A B _ kR Q b (k + 1) o' Qs cs m (j + 1) s3 t3 (by omega) hQ (by omega) (by omega) (by omega) (by omega) (by omega) c3 (by rw [List.replicate_succ]; exact c4) ?_ ?_
        · intro n' j' s' t' ds g1 g2 g3 g4 g5 g6
          have hj'T := g2.1.2.1
          dsimp only
          rw [if_neg (show ¬ (1 : Int32) = 0 by decide)]
          obtain ⟨s4, f1, f2⟩ := x_emit g1 20009 (by rw [List.length_append]; omega)
          rw [f1]
          dsimp only [Option.bind_some]
          have e1 : cs ++ ds ++ [20009] = cs ++ (ds ++ [20009]) := by simp
          have e2 : cs ++ ds ++ List.replicate (k + 1) 20009 = cs ++ (ds ++ [20009]) ++ List.replicate k 20009 := by
            rw [List.replicate_succ]; simp
          rw [e1] at f2
          rw [e2] at g2
          exact hok n' j' s4 t' _ f2 g2 ((EZ_not g3).mono (by omega)) (by rw [List.length_append, List.length_singleton]; omega) (by omega) g6
        · intro s' t' g
          dsimp only
          rw [if_pos rfl]
          exact hfail s' t' g
    · rw [if_neg w6, if_neg w6, if_pos rfl, x_isS 40 hX.1]
      dsimp only [Option.bind_some]
      by_cases q : isS K j 40
      · rw [if_pos q, if_pos q, if_neg (by decide)]
        by_cases h8 : o = 8
        · exact deep 0 h8
        · have hk : K j 0 ≠ 0 := by rw [q.1]; decide
          unfold jn_X4_readClaim_26 jn_X12_readAny_33
          rw [if_pos (by rw [N_ltL (by omega) (by omega)]; omega), if_neg (show ¬ t 0 24 = 8 by rw [ht24, N_eqL (by omega) (by omega)]; exact h8), if_pos (rfl : (0 : Int32) = 0)]
          unfold jn_X12_readAny_66 jn_X12_readAny_78
          rw [if_pos (rfl : (0 : Int32) = 0)]
          obtain ⟨t2, b1, b2⟩ := m_waits 12 hY2 (by rw [hPl]; omega)
          obtain ⟨s3, t3, c1, c2, c3, c4⟩ := st_next hX b2 hk
          rw [b1, c1]
          dsimp only [Option.bind_some]
          rw [c2]
          dsimp only [Option.bind_some]
          rw [if_pos (rfl : (0 : Int32) = 0), runO_l, N_addL, N_addL, Option.bind_assoc]
          refine either_ok (ih (o + 1) (by omega) (by omega)) (by omega) _ kR Q (b + 1) (by omega) (12 :: (List.replicate k 9 ++ Qs)) ?_ (by rw [List.length_cons, hPl]; omega) cs m (j + 1) s3 t3 (by rw [List.length_cons, hPl]; omega) (by omega) (by omega) c3 c4 ?_ ?_
          · intro w r hw z
            have := (List.cons.inj z).1
            rcases hw with rfl | rfl | rfl <;> exact absurd this (by decide)
          · intro n' j' s' t' ds g1 g2 g3 g4 g5 g6
            have hj'T := g2.1.2.1
            dsimp only
            rw [if_neg (show ¬ (1 : Int32) = 0 by decide)]
            unfold f_X4_takeSign endS
            rw [x_isS 41 g1.1, if_neg (show ¬ Int32.ofNat (b + 1) = 0 by rw [N_eqL (by omega) (by omega)]; omega), m_isS 41 g2.1]
            dsimp only [Option.bind_some]
            by_cases q41 : isS K j' 41
            · rw [if_pos q41, if_neg (by decide), if_neg (by decide)]
              have hk2 : K j' 0 ≠ 0 := by rw [q41.1]; decide
              have hlt2 := cur_lt g2.1 hk2
              obtain ⟨s4, f1, f2⟩ := x_stn g1 g2 hk2
              rw [f1]
              dsimp only [Option.bind_some]
              rw [if_neg (by decide)]
              dsimp only [Option.bind_some]
              obtain ⟨p1, p2⟩ := g2.2.2.1.2 _ rfl
              have hpop : stY K T t0 (some (List.replicate k 9 ++ Qs)) o (mset (mset t' 0 26 ((t' 0 26) - 1)) 0 24 (((mset t' 0 26 ((t' 0 26) - 1)) 0 24) - 1)) j' (cs ++ ds) := by
                refine stY_pnd g2 (fun c q1 q2 => by rw [m_ne q1, m_ne q1]) (fun i q1 q2 => by rw [m_eq, u_ne q1, m_eq, u_ne q2]) ⟨?_, fun L hL => ?_⟩
                · rw [m_eq, u_eq, m_eq, u_ne (by omega), g2.2.2.1.1, N_subL (by omega), Nat.add_sub_cancel]
                · cases hL
                  rw [m_eq, u_ne (by omega), m_eq, u_eq, p1, m_ne (by omega), m_ne (by omega)]
                  refine ⟨?_, p2.2⟩
                  rw [N_subL (by simp), List.length_cons, Nat.add_sub_cancel]
              obtain ⟨t4, f3, f4⟩ := m_settle (w := 9) (c := 20009) (op' := o') (cd_op.2.2.2.2.2.2.2.2.2) hQ hpop (by rw [if_pos rfl]; exact ho) (by rw [List.length_append]; omega) (by omega) (by omega)
              rw [f3]
              dsimp only [Option.bind_some]
              obtain ⟨t5, f5, f6⟩ := m_stn f4 hk2
              rw [f5]
              dsimp only [Option.bind_some]
              rw [runO_l]
              have eb : Int32.ofNat (b + 1) - 1 = Int32.ofNat b := by rw [N_subL (by omega), Nat.add_sub_cancel]
              rw [eb]
              exact hok n' (j' + 1) s4 t5 ds f2 f6 (g3.mono (by omega)) (by omega) (by omega) (by omega)
            · rw [if_neg q41, if_pos rfl, if_pos rfl, runO_r]
              dsimp only [Option.bind_some]
              unfold finA
              dsimp only
              rw [if_neg (by decide), if_neg (by decide), if_neg (by decide)]
              obtain ⟨s4, t4, f1, f2, f3⟩ := st_fail g1 g2 1
              rw [f1, f2]
              dsimp only [Option.bind_some]
              rw [if_neg (by decide)]
              dsimp only [Option.bind_some]
              rw [if_pos rfl]
              exact hfail _ _ f3
          · intro s' t' g
            dsimp only
            rw [if_pos rfl]
            exact hfail s' t' g
      · rw [if_neg q, if_neg q, if_pos rfl]
        show ok2 ((cmpC s).bind kC) _ _
        obtain ⟨⟨v, s2⟩, ⟨v', t2⟩, b1, b2, b3⟩ := r_cmp hX hY hj (by omega)
        rw [b1, b2]
        dsimp only [Option.bind_some]
        rcases b3 with ⟨z1, z2, z3⟩ | ⟨z1, z2, j1, d1, g1, g2, g3, g4, g5⟩
        · dsimp only at z1 z2 z3 ⊢
          subst z1 z2
          rw [if_pos rfl, runO_r]
          dsimp only [Option.bind_some]
          unfold finA
          dsimp only
          rw [if_neg (by decide), if_pos rfl]
          dsimp only [Option.bind_some]
          exact hfail _ _ z3
        · dsimp only at z1 z2 g1 g2 ⊢
          subst z1 z2
          have hj1T := g2.1.2.1
          rw [if_neg (by decide)]
          obtain ⟨t4, f3, f4⟩ := m_settle (w := 9) (c := 20009) (op' := o') (cd_op.2.2.2.2.2.2.2.2.2) hQ g2 (by rw [if_pos rfl]; exact ho) (by rw [List.length_append]; omega) (by omega) (by omega)
          rw [f3]
          dsimp only [Option.bind_some]
          rw [runO_l]
          exact hok m j1 s2 t4 d1 g1 f4 (g3.mono (by omega)) g4 g5 (by omega)
/-- a whole condition -/
def anyQ (K : Mem) (T : Nat) (s0 t0 : Mem) (j : Nat) (cs : List Int32) (s' t' : Mem) : Prop := ∃ j' ds, stX K T s0 s' j' (cs ++ ds) ∧ stY K T t0 (some []) 0 t' j' (cs ++ ds) ∧ EZ 38 ds ∧ ds.length + j ≤ j' ∧ j < j'
theorem r_any {s t : Mem} {j : Nat} {cs : List Int32} {P : Option (List Int32)} (hX : stX K T s0 s j cs) (hY : stY K T t0 P 0 t j cs) (hj : 1 ≤ j) (hcs : cs.length ≤ j) : ok2 (f_X4_readEither0 0 s) (f_X12_readAny t) (rdR s0 t0 (anyQ K T s0 t0 j cs)) := by
  have hY2 : stY K T t0 (some []) 0 (mset t 0 26 0) j cs := by
    refine stY_pnd hY (fun c q1 q2 => m_ne q1) (fun i q1 q2 => by rw [m_eq, u_ne q2]) ⟨?_, fun L hL => ?_⟩
    · rw [m_eq, u_ne (by omega)]; exact hY.2.2.1.1
    · cases hL
      rw [m_eq, u_eq]
      exact ⟨rfl, trivial⟩
  have h := either_ok (K := K) (T := T) (s0 := s0) (t0 := t0) (claim_ok 12 0 (by omega) (by omega)) (by omega) (A := Int32 × Mem) (B := Int32 × Mem) some some (rdR s0 t0 (anyQ K T s0 t0 j cs)) 0 (by omega) [] (fun w r _ z => by cases z) (by simp) cs FUEL j s (mset t 0 26 0) (by simpa using hcs) hj (by unfold FUEL; omega) hX hY2
    (by
      intro n' j' s' t' ds g1 g2 g3 g4 g5 g6
      unfold endS
      rw [if_pos (by decide), runO_r]
      dsimp only [Option.bind_some]
      unfold finA
      dsimp only
      rw [if_neg (by decide), if_neg (by decide), if_pos rfl]
      dsimp only [Option.bind_some]
      exact ok2.some (Or.inr ⟨rfl, rfl, j', ds, g1, g2, g3, g4, g5⟩))
    (fun s' t' g => ok2.some (Or.inl ⟨rfl, rfl, g⟩))
  rw [Option.bind_fun_some, Option.bind_fun_some] at h
  exact h
end T9
