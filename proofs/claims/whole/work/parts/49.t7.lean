/-! ===== products, sums, what is compared ===== -/
def fSC (y : Int32 × Int32 × Int32 × Mem) : Option ((Int32 × Int32 × Int32 × Mem) ⊕ (Nat × Mem)) := st_X4_readSum_6 y.1 y.2.1 y.2.2.1 y.2.2.2
def fPR (y : Mem) : Option (Mem ⊕ (Nat × Mem)) := st_X12_readProduct_10 y
def fSR (y : Mem) : Option (Mem ⊕ (Nat × Mem)) := st_X12_readSum_10 y
def finP (r17 : Nat × Mem) : Option (Int32 × Mem) :=
  if r17.1 = 0 then (f_X12_errs 1 r17.2).bind fun r18 =>
  some (r18.1, r18.2) else if r17.1 = 1 then (f_X12_errs 2 r17.2).bind fun r19 =>
  some (r19.1, r19.2) else if r17.1 = 2 then some ((-1), r17.2) else some (0, r17.2)
theorem cd_op : cdR 20000 2 0 ∧ cdR 20001 3 0 ∧ cdR 20002 4 0 ∧ cdR 20003 5 0 ∧ cdR 20004 6 0 ∧ cdR 20005 7 0 ∧ cdR 20006 8 0 ∧ cdR 20007 10 0 ∧ cdR 20008 11 0 ∧ cdR 20009 9 0 := by
  unfold cdR
  refine ⟨?_, ?_, ?_, ?_, ?_, ?_, ?_, ?_, ?_, ?_⟩ <;> decide
theorem op2_20000 : ∀ x y, ∃ v, op2 20000 x y = some v := fun x y => ⟨x + y, rfl⟩
theorem op2_20001 : ∀ x y, ∃ v, op2 20001 x y = some v := fun x y => ⟨x - y, rfl⟩
theorem op2_20002 : ∀ x y, ∃ v, op2 20002 x y = some v := fun x y => ⟨x * y, rfl⟩
section T7
variable {K s0 t0 : Mem} {T op : Nat} {P : Option (List Int32)} {cs : List Int32} {A B : Type}
theorem prod_loop (kC : Nat × Mem → Option A) (kR : Int32 × Mem → Option B) (Q : A → B → Prop) (x1 : Int32) (j0 : Nat) (hcs : cs.length ≤ j0)
    (hok : ∀ n i j s t ds, stX K T s0 s j (cs ++ ds) → stY K T t0 P op t j (cs ++ ds) → ¬ isS K j 42 → ¬ isS K j 47 → EV 58 ds → ds.length + j0 ≤ j → j0 < j → 500 ≤ n + j → i < j → ok2 ((runO n fSC (jn_X4_readSum_47 x1 (Int32.ofNat i) s)).bind kC) (kR (0, t)) Q)
    (hfail : ∀ s t, flR s0 t0 s t → ok2 (kC (0, s)) (kR (-1, t)) Q) :
    ∀ r n m i j s t ds, T ≤ j + r → stX K T s0 s j (cs ++ ds) → stY K T t0 P op t j (cs ++ ds) → EV 58 ds → ds.length + j0 ≤ j → j0 < j → 500 ≤ n + j → 500 ≤ m + j → i < j → ok2 ((runO n fSC (jn_X4_readSum_47 x1 (Int32.ofNat i) s)).bind kC) (((it m fPR t).bind finP).bind kR) Q := by
  intro r
  induction r with
  | zero =>
    intro n m i j s t ds hr hX hY hE hl hlt hn hm hi
    have hjT := hY.1.2.1
    have hT4 := hY.1.1.1
    have hj : j = T := by omega
    have no : ∀ c, ¬ isS K j c := fun c q => by
      have := cur_lt hY.1 (by rw [q.1]; decide)
      omega
    obtain ⟨m', rfl⟩ : ∃ m', m = m' + 1 := ⟨m - 1, by omega⟩
    rw [it_S]
    unfold fPR st_X12_readProduct_10
    rw [m_isS 42 hY.1, if_neg (no 42)]
    dsimp only [Option.bind_some]
    rw [if_pos rfl, m_isS 47 hY.1, if_neg (no 47)]
    dsimp only [Option.bind_some]
    rw [if_pos rfl, runO_r]
    dsimp only [Option.bind_some]
    unfold finP
    dsimp only
    rw [if_neg (by decide), if_neg (by decide), if_neg (by decide)]
    dsimp only [Option.bind_some]
    exact hok n i j s t ds hX hY (no 42) (no 47) hE hl hlt hn hi
  | succ r ih =>
    intro n m i j s t ds hr hX hY hE hl hlt hn hm hi
    have hjT := hY.1.2.1
    have hT4 := hY.1.1.1
    obtain ⟨m', rfl⟩ : ∃ m', m = m' + 1 := ⟨m - 1, by omega⟩
    obtain ⟨n', rfl⟩ : ∃ n', n = n' + 1 := ⟨n - 1, by omega⟩
    by_cases hs : isS K j 42 ∨ isS K j 47
    · have k4 : K j 0 = 4 := by rcases hs with q | q <;> exact q.1
      have hjlt := cur_lt hY.1 (by rw [k4]; decide)
      obtain ⟨s1, t1, a1, a2, a3, a4⟩ := st_next hX hY (by rw [k4]; decide)
      have hlen : (cs ++ ds).length < 400 := by rw [List.length_append]; omega
      -- a product's next unit has been read
      have go : ∀ (x d : Int32) (c2 : Int32), (x = 20002 ∧ d = 0 ∧ c2 = 4) ∨ (x = 20003 ∧ d = 1 ∧ c2 = 5 ∧ K (j + 1) 0 = 3 ∧ K (j + 1) 1 ≠ 0) → f_X4_readUnit d s1 = f_X4_readUnit 0 s1 →
          ok2 ((runO n' fSC (jn_X4_readSum_26 x1 x (Int32.ofNat (i + 1)) d s1)).bind kC) (((runO m' fPR ((f_X12_readUnit t1).bind fun r9 => if r9.1 = (-1) then some (.inr (2, r9.2)) else jn_X12_readProduct_94 c2 r9.2)).bind finP).bind kR) Q := by
        intro x d c2 hx hd
        unfold jn_X4_readSum_26
        rw [hd, runO_b]
        obtain ⟨⟨v, s2⟩, ⟨v', t2⟩, b1, b2, b3⟩ := r_unit a3 a4 hlen
        rw [b1, b2]
        dsimp only [Option.bind_some]
        rcases b3 with ⟨z1, z2, z3⟩ | ⟨z1, z2, c, z3, z4, z5, z6, z7⟩
        · dsimp only at z1 z2 z3 ⊢
          subst z1 z2
          rw [if_pos rfl, if_pos rfl, runO_r, runO_r]
          dsimp only [Option.bind_some]
          unfold finP
          dsimp only
          rw [if_neg (by decide), if_neg (by decide), if_pos rfl]
          dsimp only [Option.bind_some]
          exact hfail _ _ z3
        · dsimp only at z1 z2 z3 z4 ⊢
          subst z1 z2
          have xn : x ≠ -1 := by rcases hx with q | q <;> (rw [q.1]; decide)
          rw [if_neg (by decide), if_neg xn, if_neg (by decide)]
          have hlen2 : (cs ++ ds ++ [c]).length < 400 := by simp only [List.length_append, List.length_singleton]; omega
          have hcd : cdR x c2 0 := by
            rcases hx with ⟨q1, -, q2⟩ | ⟨q1, -, q2, -⟩
            · rw [q1, q2]; exact cd_op.2.2.1
            · rw [q1, q2]; exact cd_op.2.2.2.1
          obtain ⟨s3, g1, g2⟩ := x_emit z3 x hlen2
          obtain ⟨t3, g3, g4⟩ := m_emits z4 hcd hlen2
          unfold jn_X12_readProduct_94
          rw [g1, g3]
          dsimp only [Option.bind_some]
          rw [runO_l]
          have e9 : cs ++ ds ++ [c] ++ [x] = cs ++ (ds ++ ([c] ++ [x])) := by simp
          rw [e9] at g2 g4
          have hEV : EV 58 (ds ++ ([c] ++ [x])) := by
            rcases hx with ⟨q1, -, -⟩ | ⟨q1, -, -, q3, q4⟩
            · rw [q1]; exact EV_bin hE ((EV_unit z5).mono (by omega)) op2_20002
            · obtain ⟨q5, q6⟩ := z6 q3
              rw [q1]; exact EV_div hE (by omega) q6 (by rw [q5]; exact q4)
          exact ih n' m' (i + 1) (j + 1 + 1) s3 t3 _ (by omega) g2 g4 hEV (by simp only [List.length_append, List.length_singleton]; omega) (by omega) (by omega) (by omega) (by omega)
      -- the way to it
      have hC : ∀ x : Int32, x = (if isS K j 42 then 20002 else if isS K j 47 then 20003 else -1) → x ≠ -1 → runO (n' + 1) fSC (jn_X4_readSum_47 x1 (Int32.ofNat i) s) = runO n' fSC (if x = 20003 then jn_X4_readSum_26 x1 x (Int32.ofNat (i + 1)) 1 s1 else jn_X4_readSum_26 x1 x (Int32.ofNat (i + 1)) 0 s1) := by
        intro x hx xn
        unfold jn_X4_readSum_47
        rw [x_either hX.1, ← hx]
        dsimp only [Option.bind_some]
        rw [if_neg xn]
        unfold jn_X4_readSum_102
        rw [a1]
        dsimp only [Option.bind_some]
        rw [runO_l, it_S]
        unfold fSC st_X4_readSum_6
        dsimp only
        rw [N_addL, if_neg (by rw [L_leN (by omega) (by omega)]; omega)]
      rw [it_S]
      have hR : fPR t = jn_X12_readProduct_28 t := by
        unfold fPR st_X12_readProduct_10
        rw [m_isS 42 hY.1]
        dsimp only [Option.bind_some]
        by_cases q : isS K j 42
        · rw [if_pos q, if_neg (by decide)]
        · rw [if_neg q, if_pos rfl, m_isS 47 hY.1, if_pos (hs.resolve_left q)]
          dsimp only [Option.bind_some]
          rw [if_neg (by decide)]
      rw [hR]
      unfold jn_X12_readProduct_28
      rw [m_isS 42 hY.1]
      dsimp only [Option.bind_some]
      rw [a2]
      dsimp only [Option.bind_some]
      by_cases q : isS K j 42
      · rw [if_pos q, if_neg (by decide)]
        rw [hC 20002 (by rw [if_pos q]) (by decide), if_neg (by decide)]
        unfold jn_X12_readProduct_57 jn_X12_readProduct_74
        simp only [if_neg (show ¬ (1 : Int32) = 0 by decide)]
        exact go 20002 0 4 (Or.inl ⟨rfl, rfl, rfl⟩) rfl
      · have q7 : isS K j 47 := hs.resolve_left q
        rw [if_neg q, if_pos rfl]
        rw [hC 20003 (by rw [if_neg q, if_pos q7]) (by decide), if_pos rfl]
        rw [a4.1.2.2.2.2.1]
        by_cases k3 : K (j + 1) 0 = 3
        · rw [if_pos k3]
          unfold jn_X12_readProduct_57
          rw [if_pos rfl]
          obtain ⟨v, hv, e4, e1⟩ := tkF_n (cur_F a4.1 (by rw [k3]; decide)) k3
          rw [a4.1.2.2.2.2.2 (by rw [k3]; decide) (by rw [k3]; decide)]
          by_cases v0 : K (j + 1) 4 = 0
          · rw [if_pos v0]
            unfold jn_X4_readSum_26 f_X4_readUnit
            rw [a3.1.2.2.2.1, if_pos (ckd_2.mpr k3), if_neg (by decide), a3.1.2.2.2.2.1, if_pos (by rw [e1, ← e4, v0])]
            obtain ⟨s2, t2, f1, f2, f3⟩ := st_fail a3 a4 2
            rw [f1]
            dsimp only [Option.bind_some]
            rw [if_neg (by decide)]
            dsimp only [Option.bind_some]
            rw [if_pos rfl, runO_r, runO_r]
            dsimp only [Option.bind_some]
            unfold finP
            dsimp only
            rw [if_neg (by decide), if_pos rfl, f2]
            dsimp only [Option.bind_some]
            exact hfail _ _ f3
          · rw [if_neg v0]
            unfold jn_X12_readProduct_74
            simp only [if_pos (rfl : (0 : Int32) = 0)]
            refine go 20003 1 5 (Or.inr ⟨rfl, rfl, rfl, k3, by rw [e1, ← e4]; exact v0⟩) ?_
            unfold f_X4_readUnit
            rw [a3.1.2.2.2.1, if_pos (ckd_2.mpr k3), if_pos (ckd_2.mpr k3), if_neg (by decide), if_pos rfl, a3.1.2.2.2.2.1, if_neg (by rw [e1, ← e4]; exact v0)]
        · rw [if_neg k3]
          unfold jn_X4_readSum_26 f_X4_readUnit
          rw [a3.1.2.2.2.1, if_neg (fun z => k3 (ckd_2.mp z)), if_neg (by decide)]
          unfold jn_X4_readUnit_82
          obtain ⟨s2, t2, f1, f2, f3⟩ := st_fail a3 a4 1
          rw [f1]
          dsimp only [Option.bind_some]
          rw [if_neg (by decide)]
          dsimp only [Option.bind_some]
          rw [if_pos rfl, runO_r, runO_r]
          dsimp only [Option.bind_some]
          unfold finP
          dsimp only
          rw [if_pos rfl, f2]
          dsimp only [Option.bind_some]
          exact hfail _ _ f3
    · have n42 : ¬ isS K j 42 := fun q => hs (Or.inl q)
      have n47 : ¬ isS K j 47 := fun q => hs (Or.inr q)
      rw [it_S]
      unfold fPR st_X12_readProduct_10
      rw [m_isS 42 hY.1, if_neg n42]
      dsimp only [Option.bind_some]
      rw [if_pos rfl, m_isS 47 hY.1, if_neg n47]
      dsimp only [Option.bind_some]
      rw [if_pos rfl, runO_r]
      dsimp only [Option.bind_some]
      unfold finP
      dsimp only
      rw [if_neg (by decide), if_neg (by decide), if_neg (by decide)]
      dsimp only [Option.bind_some]
      exact hok _ i j s t ds hX hY n42 n47 hE hl hlt hn hi
theorem r_product (kC : Nat × Mem → Option A) (kR : Int32 × Mem → Option B) (Q : A → B → Prop) (x1 : Int32) {s t : Mem} {n i j : Nat} (hcs : cs.length ≤ j) (hX : stX K T s0 s j cs) (hY : stY K T t0 P op t j cs) (hn : 501 ≤ n + j) (hi : i < j)
    (hok : ∀ n i j' s t ds, stX K T s0 s j' (cs ++ ds) → stY K T t0 P op t j' (cs ++ ds) → ¬ isS K j' 42 → ¬ isS K j' 47 → EV 58 ds → ds.length + j ≤ j' → j < j' → 500 ≤ n + j' → i < j' → ok2 ((runO n fSC (jn_X4_readSum_47 x1 (Int32.ofNat i) s)).bind kC) (kR (0, t)) Q)
    (hfail : ∀ s t, flR s0 t0 s t → ok2 (kC (0, s)) (kR (-1, t)) Q) :
    ok2 ((it n fSC (x1, (-1), Int32.ofNat i, s)).bind kC) ((f_X12_readProduct t).bind kR) Q := by
  have hjT := hY.1.2.1
  have hT4 := hY.1.1.1
  obtain ⟨n', rfl⟩ : ∃ n', n = n' + 1 := ⟨n - 1, by omega⟩
  rw [it_S]
  unfold fSC st_X4_readSum_6 f_X12_readProduct
  dsimp only
  rw [if_neg (by rw [L_leN (by omega) (by omega)]; omega), if_neg (by decide)]
  by_cases hend : j = T
  · -- nothing is left
    have k0 : K j 0 = 0 := by rw [hend]; exact hY.1.1.2.2.1
    unfold jn_X4_readSum_26 f_X4_readUnit f_X4_isFact
    rw [hX.1.2.2.2.1, k0, if_neg (by decide), if_pos rfl, if_neg (by decide)]
    dsimp only [Option.bind_some]
    rw [if_pos rfl]
    unfold jn_X4_readUnit_82 f_X12_readUnit jn_X12_readUnit_23 jn_X12_readUnit_24
    rw [hY.1.2.2.2.2.1, k0, if_neg (by decide), if_pos rfl, if_neg (by decide)]
    obtain ⟨s2, t2, f1, f2, f3⟩ := st_fail hX hY 1
    rw [f1, f2]
    dsimp only [Option.bind_some]
    rw [if_neg (by decide)]
    dsimp only [Option.bind_some]
    rw [if_pos rfl, runO_r, if_pos rfl]
    dsimp only [Option.bind_some]
    exact hfail _ _ f3
  · obtain ⟨⟨v, s2⟩, ⟨v', t2⟩, b1, b2, b3⟩ := r_unit hX hY (by omega)
    unfold jn_X4_readSum_26
    rw [b1, b2]
    dsimp only [Option.bind_some]
    rcases b3 with ⟨z1, z2, z3⟩ | ⟨z1, z2, c, z3, z4, z5, z6, z7⟩
    · dsimp only at z1 z2 z3 ⊢
      subst z1 z2
      rw [if_pos rfl, if_pos rfl, runO_r]
      dsimp only [Option.bind_some]
      exact hfail _ _ z3
    · dsimp only at z1 z2 z3 z4 ⊢
      subst z1 z2
      rw [if_neg (by decide), if_pos rfl, if_neg (by decide)]
      exact prod_loop kC kR Q x1 j (cs := cs) hcs hok hfail T n' FUEL i (j + 1) s2 t2 [c] (by omega) z3 z4 ((EV_unit z5).mono (by omega)) (by simp only [List.length_singleton]; omega) (by omega) (by omega) (by unfold FUEL; omega) (by omega)
def fSm (r : Nat × Mem) : Option (Int32 × Mem) :=
  if r.1 = 0 then some (0, r.2) else if r.1 = 1 then some (1, r.2) else (f_X4_fail 1 r.2).bind fun r15 =>
  if ¬ (r15.1 = 0 ∨ r15.1 = 1) then none else some (r15.1, r15.2)
def fSn (r : Nat × Mem) : Option (Int32 × Mem) := if r.1 = 0 then some ((-1), r.2) else some (0, r.2)
/-- what a reader of sums leaves -/
def sumQ (K : Mem) (T : Nat) (s0 t0 : Mem) (P : Option (List Int32)) (op j : Nat) (cs : List Int32) (s' t' : Mem) : Prop := ∃ j' ds, stX K T s0 s' j' (cs ++ ds) ∧ stY K T t0 P op t' j' (cs ++ ds) ∧ EV 57 ds ∧ ds.length + j ≤ j' ∧ j < j'
theorem sum_loop {j0 : Nat} (hcs : cs.length ≤ j0) : ∀ r n m i j s t ds, T ≤ j + r → stX K T s0 s j (cs ++ ds) → stY K T t0 P op t j (cs ++ ds) → ¬ isS K j 42 → ¬ isS K j 47 → EV 57 ds → ds.length + j0 ≤ j → j0 < j → 500 ≤ n + j → 500 ≤ m + j → i < j →
    ok2 ((runO n fSC (jn_X4_readSum_80 (-1) (Int32.ofNat i) s)).bind fSm) ((it m fSR t).bind fSn) (rdR s0 t0 (sumQ K T s0 t0 P op j0 cs)) := by
  intro r
  induction r with
  | zero =>
    intro n m i j s t ds hr hX hY n42 n47 hE hl hlt hn hm hi
    have hjT := hY.1.2.1
    have hT4 := hY.1.1.1
    have no : ∀ c, ¬ isS K j c := fun c q => by
      have := cur_lt hY.1 (by rw [q.1]; decide)
      omega
    obtain ⟨m', rfl⟩ : ∃ m', m = m' + 1 := ⟨m - 1, by omega⟩
    unfold jn_X4_readSum_80
    rw [it_S, x_either hX.1, if_neg (no 43), if_neg (no 45)]
    unfold fSR st_X12_readSum_10
    rw [m_isS 43 hY.1, if_neg (no 43)]
    dsimp only [Option.bind_some]
    rw [if_pos rfl, runO_r, if_pos rfl, m_isS 45 hY.1, if_neg (no 45)]
    dsimp only [Option.bind_some]
    rw [if_pos rfl, runO_r]
    exact ok2.some (Or.inr ⟨rfl, rfl, j, ds, hX, hY, hE, hl, hlt⟩)
  | succ r ih =>
    intro n m i j s t ds hr hX hY n42 n47 hE hl hlt hn hm hi
    have hjT := hY.1.2.1
    have hT4 := hY.1.1.1
    obtain ⟨m', rfl⟩ : ∃ m', m = m' + 1 := ⟨m - 1, by omega⟩
    unfold jn_X4_readSum_80
    rw [it_S, x_either hX.1]
    dsimp only [Option.bind_some]
    by_cases hs : isS K j 43 ∨ isS K j 45
    · have k4 : K j 0 = 4 := by rcases hs with q | q <;> exact q.1
      have hjlt := cur_lt hY.1 (by rw [k4]; decide)
      obtain ⟨s1, t1, a1, a2, a3, a4⟩ := st_next hX hY (by rw [k4]; decide)
      have hlen : (cs ++ ds).length ≤ j + 1 := by rw [List.length_append]; omega
      have hR : fSR t = jn_X12_readSum_28 t := by
        unfold fSR st_X12_readSum_10
        rw [m_isS 43 hY.1]
        dsimp only [Option.bind_some]
        by_cases q : isS K j 43
        · rw [if_pos q, if_neg (by decide)]
        · rw [if_neg q, if_pos rfl, m_isS 45 hY.1, if_pos (hs.resolve_left q)]
          dsimp only [Option.bind_some]
          rw [if_neg (by decide)]
      have v4 : t 0 13 = K j 1 := by
        rw [hY.1.2.2.2.2.2 (by rw [k4]; decide) (by rw [k4]; decide)]
        exact tkF_s (cur_F hY.1 (by rw [k4]; decide)) k4
      have go : ∀ (x c2 : Int32), (x = 20000 ∧ c2 = 2) ∨ (x = 20001 ∧ c2 = 3) →
          ok2 ((runO n fSC (jn_X4_readSum_102 x (-1) (Int32.ofNat i) s)).bind fSm) ((runO m' fSR (jn_X12_readSum_42 c2 t)).bind fSn) (rdR s0 t0 (sumQ K T s0 t0 P op j0 cs)) := by
        intro x c2 hx
        unfold jn_X4_readSum_102 jn_X12_readSum_42
        rw [a1, a2]
        dsimp only [Option.bind_some]
        rw [runO_l, runO_b, N_addL, Option.bind_assoc]
        refine r_product (cs := cs ++ ds) fSm _ _ x hlen a3 a4 (by omega) (by omega) ?_ ?_
        · intro n2 i2 j2 s2 t2 ds2 g1 g2 g3 g4 g5 g6 g7 g8 g9
          dsimp only
          rw [if_neg (by decide)]
          unfold jn_X4_readSum_47
          rw [x_either g1.1, if_neg g3, if_neg g4]
          dsimp only [Option.bind_some]
          rw [if_pos rfl, if_neg (by rcases hx with q | q <;> (rw [q.1]; decide))]
          have hl2 : (cs ++ ds ++ ds2).length < 400 := by
            simp only [List.length_append]
            have := g2.1.2.1
            omega
          have hcd : cdR x c2 0 := by
            rcases hx with ⟨q1, q2⟩ | ⟨q1, q2⟩
            · rw [q1, q2]; exact cd_op.1
            · rw [q1, q2]; exact cd_op.2.1
          obtain ⟨s3, f1, f2⟩ := x_emit g1 x hl2
          obtain ⟨t3, f3, f4⟩ := m_emits g2 hcd hl2
          rw [f1, f3]
          dsimp only [Option.bind_some]
          rw [runO_l]
          have e9 : cs ++ ds ++ ds2 ++ [x] = cs ++ (ds ++ (ds2 ++ [x])) := by simp
          rw [e9] at f2 f4
          have hEV : EV 57 (ds ++ (ds2 ++ [x])) := by
            rcases hx with ⟨q1, -⟩ | ⟨q1, -⟩
            · rw [q1]; exact EV_bin hE g5 op2_20000
            · rw [q1]; exact EV_bin hE g5 op2_20001
          exact ih n2 m' i2 j2 s3 t3 _ (by omega) f2 f4 g3 g4 hEV (by simp only [List.length_append, List.length_singleton]; omega) (by omega) g8 (by omega) g9
        · intro s2 t2 g
          dsimp only
          rw [if_pos rfl, runO_r]
          exact ok2.some (Or.inl ⟨rfl, rfl, g⟩)
      rw [hR]
      unfold jn_X12_readSum_28
      rw [v4]
      by_cases q : isS K j 43
      · rw [if_pos q, if_neg (by decide), if_pos q.2]
        exact go 20000 2 (Or.inl ⟨rfl, rfl⟩)
      · have q7 : isS K j 45 := hs.resolve_left q
        rw [if_neg q, if_pos q7, if_neg (by decide), if_neg (fun z => q ⟨k4, z⟩)]
        exact go 20001 3 (Or.inr ⟨rfl, rfl⟩)
    · have n43 : ¬ isS K j 43 := fun q => hs (Or.inl q)
      have n45 : ¬ isS K j 45 := fun q => hs (Or.inr q)
      rw [if_neg n43, if_neg n45, if_pos rfl, runO_r]
      unfold fSR st_X12_readSum_10
      rw [m_isS 43 hY.1, if_neg n43]
      dsimp only [Option.bind_some]
      rw [if_pos rfl, m_isS 45 hY.1, if_neg n45]
      dsimp only [Option.bind_some]
      rw [if_pos rfl, runO_r]
      exact ok2.some (Or.inr ⟨rfl, rfl, j, ds, hX, hY, hE, hl, hlt⟩)
theorem r_sum {s t : Mem} {j : Nat} (hX : stX K T s0 s j cs) (hY : stY K T t0 P op t j cs) (hj : 1 ≤ j) (hcs : cs.length ≤ j) : ok2 (f_X4_readSum s) (f_X12_readSum t) (rdR s0 t0 (sumQ K T s0 t0 P op j cs)) := by
  have hT4 := hY.1.1.1
  have hjT := hY.1.2.1
  show ok2 ((it FUEL fSC ((-1), (-1), 0, s)).bind fSm) ((f_X12_readProduct t).bind fun r1 => if r1.1 = (-1) then some ((-1), r1.2) else (it FUEL fSR r1.2).bind fSn) _
  refine r_product (cs := cs) (i := 0) fSm _ _ (-1) hcs hX hY (by unfold FUEL; omega) (by omega) ?_ ?_
  · intro n2 i2 j2 s2 t2 ds2 g1 g2 g3 g4 g5 g6 g7 g8 g9
    dsimp only
    rw [if_neg (by decide)]
    unfold jn_X4_readSum_47
    rw [x_either g1.1, if_neg g3, if_neg g4]
    dsimp only [Option.bind_some]
    rw [if_pos rfl, if_pos rfl]
    exact sum_loop hcs T n2 FUEL i2 j2 s2 t2 ds2 (by omega) g1 g2 g3 g4 (g5.mono (by omega)) g6 g7 g8 (by unfold FUEL; omega) g9
  · intro s2 t2 g
    dsimp only
    rw [if_pos rfl]
    exact ok2.some (Or.inl ⟨rfl, rfl, g⟩)
def cmpQ (K : Mem) (T : Nat) (s0 t0 : Mem) (P : Option (List Int32)) (op j : Nat) (cs : List Int32) (s' t' : Mem) : Prop := ∃ j' ds, stX K T s0 s' j' (cs ++ ds) ∧ stY K T t0 P op t' j' (cs ++ ds) ∧ EZ 56 ds ∧ ds.length + j ≤ j' ∧ j < j'
def cmpC (s : Mem) : Option (Int32 × Mem) :=
  (f_X4_readSum s).bind fun r17 =>
  if r17.1 = 0 then
  some (0, r17.2)
  else
  (f_X4_comparing r17.2).bind fun r19 =>
  if r19.1 = (-1) then
  (f_X4_fail 1 r19.2).bind fun r25 =>
  if ¬ (r25.1 = 0 ∨ r25.1 = 1) then none else some (r25.1, r25.2)
  else
  (f_X6_advance r19.2).bind fun r21 =>
  (f_X4_readSum r21).bind fun r22 =>
  if r22.1 = 0 then
  some (0, r22.2)
  else
  (f_X1_emit 178 r19.1 r22.2).bind fun r24 =>
  some (1, r24)
theorem r_cmp {s t : Mem} {j : Nat} (hX : stX K T s0 s j cs) (hY : stY K T t0 P op t j cs) (hj : 1 ≤ j) (hcs : cs.length ≤ j) : ok2 (cmpC s) (f_X12_readCompared t) (rdR s0 t0 (cmpQ K T s0 t0 P op j cs)) := by
  unfold cmpC f_X12_readCompared
  obtain ⟨⟨v, s2⟩, ⟨v', t2⟩, b1, b2, b3⟩ := r_sum hX hY hj hcs
  rw [b1, b2]
  dsimp only [Option.bind_some]
  rcases b3 with ⟨z1, z2, z3⟩ | ⟨z1, z2, j1, d1, g1, g2, g3, g4, g5⟩
  · dsimp only at z1 z2 z3 ⊢
    subst z1 z2
    rw [if_pos rfl, if_pos rfl]
    exact ok2.some (Or.inl ⟨rfl, rfl, z3⟩)
  · dsimp only at z1 z2 g1 g2 ⊢
    subst z1 z2
    rw [if_neg (by decide), if_neg (by decide)]
    have hT4 := hY.1.1.1
    unfold f_X4_comparing
    rw [x_isS 60 g1.1, m_isS 60 g2.1]
    dsimp only [Option.bind_some]
    have go : ∀ x c2 : Int32, (x = 20004 ∧ c2 = 6) ∨ (x = 20005 ∧ c2 = 7) ∨ (x = 20006 ∧ c2 = 8) → K j1 0 = 4 →
        ok2 ((f_X6_advance s2).bind fun r21 => (f_X4_readSum r21).bind fun r22 => if r22.1 = 0 then some (0, r22.2) else (f_X1_emit 178 x r22.2).bind fun r24 => some (1, r24)) (jn_X12_readCompared_73 c2 t2) (rdR s0 t0 (cmpQ K T s0 t0 P op j cs)) := by
      intro x c2 hx k4
      unfold jn_X12_readCompared_73
      have hjlt := cur_lt g2.1 (by rw [k4]; decide)
      obtain ⟨s3, t3, a1, a2, a3, a4⟩ := st_next g1 g2 (by rw [k4]; decide)
      rw [a1, a2]
      dsimp only [Option.bind_some]
      obtain ⟨⟨w, s4⟩, ⟨w', t4⟩, c1, c3, c4⟩ := r_sum a3 a4 (by omega) (by rw [List.length_append]; omega)
      rw [c1, c3]
      dsimp only [Option.bind_some]
      rcases c4 with ⟨z1, z2, z3⟩ | ⟨z1, z2, j2, d2, f1, f2, f3, f4, f5⟩
      · dsimp only at z1 z2 z3 ⊢
        subst z1 z2
        rw [if_pos rfl, if_pos rfl]
        exact ok2.some (Or.inl ⟨rfl, rfl, z3⟩)
      · dsimp only at z1 z2 f1 f2 ⊢
        subst z1 z2
        rw [if_neg (by decide), if_neg (by decide)]
        have hl2 : (cs ++ d1 ++ d2).length < 400 := by
          simp only [List.length_append]
          have := f2.1.2.1
          omega
        have hcd : cdR x c2 0 := by
          rcases hx with ⟨q1, q2⟩ | ⟨q1, q2⟩ | ⟨q1, q2⟩
          · rw [q1, q2]; exact cd_op.2.2.2.2.1
          · rw [q1, q2]; exact cd_op.2.2.2.2.2.1
          · rw [q1, q2]; exact cd_op.2.2.2.2.2.2.1
        obtain ⟨s5, h1, h2⟩ := x_emit f1 x hl2
        obtain ⟨t5, h3, h4⟩ := m_emits f2 hcd hl2
        rw [h1, h3]
        dsimp only [Option.bind_some]
        have e9 : cs ++ d1 ++ d2 ++ [x] = cs ++ (d1 ++ (d2 ++ [x])) := by simp
        rw [e9] at h2 h4
        exact ok2.some (Or.inr ⟨rfl, rfl, j2, _, h2, h4, EZ_cmp (g3.mono (by omega)) f3 (by rcases hx with q | q | q; exact Or.inl q.1; exact Or.inr (Or.inl q.1); exact Or.inr (Or.inr q.1)), by simp only [List.length_append, List.length_singleton]; omega, by omega⟩)
    have v4 : K j1 0 = 4 → t2 0 13 = K j1 1 := by
      intro k4
      rw [g2.1.2.2.2.2.2 (by rw [k4]; decide) (by rw [k4]; decide)]
      exact tkF_s (cur_F g2.1 (by rw [k4]; decide)) k4
    by_cases q60 : isS K j1 60
    · rw [if_pos q60, if_neg (by decide), if_neg (by decide)]
      dsimp only [Option.bind_some]
      rw [if_neg (by decide)]
      unfold jn_X12_readCompared_43
      rw [v4 q60.1, if_pos q60.2]
      exact go 20004 6 (Or.inl ⟨rfl, rfl⟩) q60.1
    · rw [if_neg q60, if_pos rfl, if_pos rfl, x_isS 61 g1.1, m_isS 61 g2.1]
      dsimp only [Option.bind_some]
      by_cases q61 : isS K j1 61
      · rw [if_pos q61, if_neg (by decide), if_neg (by decide)]
        dsimp only [Option.bind_some]
        rw [if_neg (by decide)]
        unfold jn_X12_readCompared_43
        rw [v4 q61.1, if_neg (by rw [q61.2]; decide), if_pos q61.2]
        exact go 20005 7 (Or.inr (Or.inl ⟨rfl, rfl⟩)) q61.1
      · rw [if_neg q61, if_pos rfl, if_pos rfl, x_isS 62 g1.1, m_isS 62 g2.1]
        dsimp only [Option.bind_some]
        by_cases q62 : isS K j1 62
        · rw [if_pos q62, if_neg (by decide), if_neg (by decide)]
          dsimp only [Option.bind_some]
          rw [if_neg (by decide)]
          unfold jn_X12_readCompared_43
          rw [v4 q62.1, if_neg (by rw [q62.2]; decide), if_neg (by rw [q62.2]; decide)]
          exact go 20006 8 (Or.inr (Or.inr ⟨rfl, rfl⟩)) q62.1
        · rw [if_neg q62, if_pos rfl, if_pos rfl]
          dsimp only [Option.bind_some]
          rw [if_pos rfl]
          obtain ⟨s5, t5, f1, f2, f3⟩ := st_fail g1 g2 1
          rw [f1, f2]
          dsimp only [Option.bind_some]
          rw [if_neg (by decide)]
          exact ok2.some (Or.inl ⟨rfl, rfl, f3⟩)
end T7
