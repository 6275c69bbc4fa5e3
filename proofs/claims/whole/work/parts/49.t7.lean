/-! ===== products, sums, what is compared ===== -/
def fSC (y : Int32 × Int32 × Int32 × Mem) : Option ((Int32 × Int32 × Int32 × Mem) ⊕ (Nat × Mem)) := st_X4_readSum_6 y.1 y.2.1 y.2.2.1 y.2.2.2
def fPR (y : Mem) : Option (Mem ⊕ (Nat × Mem)) := st_X12_readProduct_10 y
def fSR (y : Mem) : Option (Mem ⊕ (Nat × Mem)) := st_X12_readSum_10 y
def finP (r17 : Nat × Mem) : Option (Int32 × Mem) :=
  if r17.1 = 0 then (f_X12_errs 1 r17.2).bind fun r18 =>
  some (r18.1, r18.2) else if r17.1 = 1 then (f_X12_errs 2 r17.2).bind fun r19 =>
  some (r19.1, r19.2) else if r17.1 = 2 then some ((-1), r17.2) else some (0, r17.2)
theorem cd_op : cdR 20000 2 0 ∧ cdR 20001 3 0 ∧ cdR 20002 4 0 ∧ cdR 20003 5 0 ∧ cdR 20004 6 0 ∧ cdR 20005 7 0 ∧ cdR 20006 8 0 ∧ cdR 20007 10 0 ∧ cdR 20008 11 0 ∧ cdR 20009 9 0 := by
  unfold cdR
  refine ⟨?_, ?_, ?_, ?_, ?_, ?_, ?_, ?_, ?_, ?_⟩ <;> decide
theorem op2_20000 : ∀ x y, ∃ v, op2 20000 x y = some v := fun x y => ⟨x + y, rfl⟩
theorem op2_20001 : ∀ x y, ∃ v, op2 20001 x y = some v := fun x y => ⟨x - y, rfl⟩
theorem op2_20002 : ∀ x y, ∃ v, op2 20002 x y = some v := fun x y => ⟨x * y, rfl⟩
section T7
variable {K s0 t0 : Mem} {T op : Nat} {P cs : List Int32} {A B : Type}
theorem prod_loop (kC : Nat × Mem → Option A) (kR : Int32 × Mem → Option B) (Q : A → B → Prop) (x1 : Int32) (j0 : Nat) (hcs : cs.length ≤ j0)
    (hok : ∀ n i j s t ds, stX K T s0 s j (cs ++ ds) → stY K T t0 P op t j (cs ++ ds) → ¬ isS K j 42 → ¬ isS K j 47 → EV 58 ds → ds.length + j0 ≤ j → 500 ≤ n + j → i < j → ok2 ((runO n fSC (jn_X4_readSum_47 x1 (Int32.ofNat i) s)).bind kC) (kR (0, t)) Q)
    (hfail : ∀ s t, flR s0 t0 s t → ok2 (kC (0, s)) (kR (-1, t)) Q) :
    ∀ r n m i j s t ds, T ≤ j + r → stX K T s0 s j (cs ++ ds) → stY K T t0 P op t j (cs ++ ds) → EV 58 ds → ds.length + j0 ≤ j → 500 ≤ n + j → 500 ≤ m + j → i < j → ok2 ((runO n fSC (jn_X4_readSum_47 x1 (Int32.ofNat i) s)).bind kC) (((it m fPR t).bind finP).bind kR) Q := by
  intro r
  induction r with
  | zero =>
    intro n m i j s t ds hr hX hY hE hl hn hm hi
    have hjT := hY.1.2.1
    have hT4 := hY.1.1.1
    have hj : j = T := by omega
    have no : ∀ c, ¬ isS K j c := fun c q => by
      have := cur_lt hY.1 (by rw [q.1]; decide)
      omega
    obtain ⟨m', rfl⟩ : ∃ m', m = m' + 1 := ⟨m - 1, by omega⟩
    rw [it_S]
    unfold fPR st_X12_readProduct_10
    rw [m_isS 42 hY.1, if_neg (no 42)]
    dsimp only [Option.bind_some]
    rw [if_pos rfl, m_isS 47 hY.1, if_neg (no 47)]
    dsimp only [Option.bind_some]
    rw [if_pos rfl, runO_r]
    dsimp only [Option.bind_some]
    unfold finP
    dsimp only
    rw [if_neg (by decide), if_neg (by decide), if_neg (by decide)]
    dsimp only [Option.bind_some]
    exact hok n i j s t ds hX hY (no 42) (no 47) hE hl hn hi
  | succ r ih =>
    intro n m i j s t ds hr hX hY hE hl hn hm hi
    have hjT := hY.1.2.1
    have hT4 := hY.1.1.1
    obtain ⟨m', rfl⟩ : ∃ m', m = m' + 1 := ⟨m - 1, by omega⟩
    obtain ⟨n', rfl⟩ : ∃ n', n = n' + 1 := ⟨n - 1, by omega⟩
    by_cases hs : isS K j 42 ∨ isS K j 47
    · have k4 : K j 0 = 4 := by rcases hs with q | q <;> exact q.1
      have hjlt := cur_lt hY.1 (by rw [k4]; decide)
      obtain ⟨s1, t1, a1, a2, a3, a4⟩ := st_next hX hY (by rw [k4]; decide)
      have hlen : (cs ++ ds).length < 400 := by rw [List.length_append]; omega
      -- a product's next unit has been read
      have go : ∀ (x d : Int32) (c2 : Int32), (x = 20002 ∧ d = 0 ∧ c2 = 4) ∨ (x = 20003 ∧ d = 1 ∧ c2 = 5 ∧ K (j + 1) 0 = 3 ∧ K (j + 1) 1 ≠ 0) → f_X4_readUnit d s1 = f_X4_readUnit 0 s1 →
          ok2 ((runO n' fSC (jn_X4_readSum_26 x1 x (Int32.ofNat (i + 1)) d s1)).bind kC) (((runO m' fPR ((f_X12_readUnit t1).bind fun r9 => if r9.1 = (-1) then some (.inr (2, r9.2)) else jn_X12_readProduct_94 c2 r9.2)).bind finP).bind kR) Q := by
        intro x d c2 hx hd
        unfold jn_X4_readSum_26
        rw [hd, runO_b]
        obtain ⟨⟨v, s2⟩, ⟨v', t2⟩, b1, b2, b3⟩ := r_unit a3 a4 hlen
        rw [b1, b2]
        dsimp only [Option.bind_some]
        rcases b3 with ⟨z1, z2, z3⟩ | ⟨z1, z2, c, z3, z4, z5, z6, z7⟩
        · dsimp only at z1 z2 z3 ⊢
          subst z1 z2
          rw [if_pos rfl, if_pos rfl, runO_r, runO_r]
          dsimp only [Option.bind_some]
          unfold finP
          dsimp only
          rw [if_neg (by decide), if_neg (by decide), if_pos rfl]
          dsimp only [Option.bind_some]
          exact hfail _ _ z3
        · dsimp only at z1 z2 z3 z4 ⊢
          subst z1 z2
          have xn : x ≠ -1 := by rcases hx with q | q <;> (rw [q.1]; decide)
          rw [if_neg (by decide), if_neg xn, if_neg (by decide)]
          have hlen2 : (cs ++ ds ++ [c]).length < 400 := by simp only [List.length_append, List.length_singleton]; omega
          have hcd : cdR x c2 0 := by
            rcases hx with ⟨q1, -, q2⟩ | ⟨q1, -, q2, -⟩
            · rw [q1, q2]; exact cd_op.2.2.1
            · rw [q1, q2]; exact cd_op.2.2.2.1
          obtain ⟨s3, g1, g2⟩ := x_emit z3 x hlen2
          obtain ⟨t3, g3, g4⟩ := m_emits z4 hcd hlen2
          unfold jn_X12_readProduct_94
          rw [g1, g3]
          dsimp only [Option.bind_some]
          rw [runO_l]
          have e9 : cs ++ ds ++ [c] ++ [x] = cs ++ (ds ++ ([c] ++ [x])) := by simp
          rw [e9] at g2 g4
          have hEV : EV 58 (ds ++ ([c] ++ [x])) := by
            rcases hx with ⟨q1, -, -⟩ | ⟨q1, -, -, q3, q4⟩
            · rw [q1]; exact EV_bin hE ((EV_unit z5).mono (by omega)) op2_20002
            · obtain ⟨q5, q6⟩ := z6 q3
              rw [q1]; exact EV_div hE (by omega) q6 (by rw [q5]; exact q4)
          exact ih n' m' (i + 1) (j + 1 + 1) s3 t3 _ (by omega) g2 g4 hEV (by simp only [List.length_append, List.length_singleton]; omega) (by omega) (by omega) (by omega)
      -- the way to it
      have hC : ∀ x : Int32, x = (if isS K j 42 then 20002 else if isS K j 47 then 20003 else -1) → x ≠ -1 → runO (n' + 1) fSC (jn_X4_readSum_47 x1 (Int32.ofNat i) s) = runO n' fSC (if x = 20003 then jn_X4_readSum_26 x1 x (Int32.ofNat (i + 1)) 1 s1 else jn_X4_readSum_26 x1 x (Int32.ofNat (i + 1)) 0 s1) := by
        intro x hx xn
        unfold jn_X4_readSum_47
        rw [x_either hX.1, ← hx]
        dsimp only [Option.bind_some]
        rw [if_neg xn]
        unfold jn_X4_readSum_102
        rw [a1]
        dsimp only [Option.bind_some]
        rw [runO_l, it_S]
        unfold fSC st_X4_readSum_6
        dsimp only
        rw [N_addL, if_neg (by rw [L_leN (by omega) (by omega)]; omega)]
        rfl
      rw [it_S]
      have hR : fPR t = jn_X12_readProduct_28 t := by
        unfold fPR st_X12_readProduct_10
        rw [m_isS 42 hY.1]
        dsimp only [Option.bind_some]
        by_cases q : isS K j 42
        · rw [if_pos q, if_neg (by decide)]
        · rw [if_neg q, if_pos rfl, m_isS 47 hY.1, if_pos (hs.resolve_left q)]
          dsimp only [Option.bind_some]
          rw [if_neg (by decide)]
      rw [hR]
      unfold jn_X12_readProduct_28
      rw [m_isS 42 hY.1]
      dsimp only [Option.bind_some]
      rw [a2]
      dsimp only [Option.bind_some]
      by_cases q : isS K j 42
      · rw [if_pos q, if_neg (by decide)]
        rw [hC 20002 (by rw [if_pos q]) (by decide), if_neg (by decide)]
        unfold jn_X12_readProduct_57 jn_X12_readProduct_74
        rw [if_neg (by decide), if_neg (by decide)]
        exact go 20002 0 4 (Or.inl ⟨rfl, rfl, rfl⟩) rfl
      · have q7 : isS K j 47 := hs.resolve_left q
        rw [if_neg q, if_pos rfl]
        rw [hC 20003 (by rw [if_neg q, if_pos q7]) (by decide), if_pos rfl]
        rw [a4.1.2.2.2.2.1]
        by_cases k3 : K (j + 1) 0 = 3
        · rw [if_pos k3]
          unfold jn_X12_readProduct_57
          rw [if_pos rfl]
          obtain ⟨v, hv, e4, e1⟩ := tkF_n (cur_F a4.1 (by rw [k3]; decide)) k3
          rw [a4.1.2.2.2.2.2 (by rw [k3]; decide) (by rw [k3]; decide)]
          by_cases v0 : K (j + 1) 4 = 0
          · rw [if_pos v0]
            unfold jn_X4_readSum_26 f_X4_readUnit
            rw [a3.1.2.2.2.1, if_pos (ckd_2.mpr k3), if_neg (by decide), a3.1.2.2.2.2.1, if_pos (by rw [e1, ← e4, v0])]
            obtain ⟨s2, t2, f1, f2, f3⟩ := st_fail a3 a4 2
            rw [f1]
            dsimp only [Option.bind_some]
            rw [if_neg (by decide)]
            dsimp only [Option.bind_some]
            rw [if_pos rfl, runO_r, runO_r]
            dsimp only [Option.bind_some]
            unfold finP
            dsimp only
            rw [if_neg (by decide), if_pos rfl, f2]
            dsimp only [Option.bind_some]
            exact hfail _ _ f3
          · rw [if_neg v0]
            unfold jn_X12_readProduct_74
            rw [if_pos rfl]
            refine go 20003 1 5 (Or.inr ⟨rfl, rfl, rfl, k3, by rw [e1, ← e4]; exact v0⟩) ?_
            unfold f_X4_readUnit
            rw [a3.1.2.2.2.1, if_pos (ckd_2.mpr k3), if_pos (ckd_2.mpr k3), if_neg (by decide), if_pos rfl, a3.1.2.2.2.2.1, if_neg (by rw [e1, ← e4]; exact v0)]
        · rw [if_neg k3]
          unfold jn_X4_readSum_26 f_X4_readUnit
          rw [a3.1.2.2.2.1, if_neg (fun z => k3 (ckd_2.mp z)), if_neg (by decide)]
          unfold jn_X4_readUnit_82
          obtain ⟨s2, t2, f1, f2, f3⟩ := st_fail a3 a4 1
          rw [f1]
          dsimp only [Option.bind_some]
          rw [if_neg (by decide)]
          dsimp only [Option.bind_some]
          rw [if_pos rfl, runO_r, runO_r]
          dsimp only [Option.bind_some]
          unfold finP
          dsimp only
          rw [if_pos rfl, f2]
          dsimp only [Option.bind_some]
          exact hfail _ _ f3
    · have n42 : ¬ isS K j 42 := fun q => hs (Or.inl q)
      have n47 : ¬ isS K j 47 := fun q => hs (Or.inr q)
      rw [it_S]
      unfold fPR st_X12_readProduct_10
      rw [m_isS 42 hY.1, if_neg n42]
      dsimp only [Option.bind_some]
      rw [if_pos rfl, m_isS 47 hY.1, if_neg n47]
      dsimp only [Option.bind_some]
      rw [if_pos rfl, runO_r]
      dsimp only [Option.bind_some]
      unfold finP
      dsimp only
      rw [if_neg (by decide), if_neg (by decide), if_neg (by decide)]
      dsimp only [Option.bind_some]
      exact hok _ i j s t ds hX hY n42 n47 hE hl hn hi
theorem r_product (kC : Nat × Mem → Option A) (kR : Int32 × Mem → Option B) (Q : A → B → Prop) (x1 : Int32) {s t : Mem} {n i j : Nat} (hcs : cs.length ≤ j) (hX : stX K T s0 s j cs) (hY : stY K T t0 P op t j cs) (hn : 501 ≤ n + j) (hi : i < j)
    (hok : ∀ n i j' s t ds, stX K T s0 s j' (cs ++ ds) → stY K T t0 P op t j' (cs ++ ds) → ¬ isS K j' 42 → ¬ isS K j' 47 → EV 58 ds → ds.length + j ≤ j' → j < j' → 500 ≤ n + j' → i < j' → ok2 ((runO n fSC (jn_X4_readSum_47 x1 (Int32.ofNat i) s)).bind kC) (kR (0, t)) Q)
    (hfail : ∀ s t, flR s0 t0 s t → ok2 (kC (0, s)) (kR (-1, t)) Q) :
    ok2 ((it n fSC (x1, (-1), Int32.ofNat i, s)).bind kC) ((f_X12_readProduct t).bind kR) Q := by
  have hjT := hY.1.2.1
  have hT4 := hY.1.1.1
  obtain ⟨n', rfl⟩ : ∃ n', n = n' + 1 := ⟨n - 1, by omega⟩
  rw [it_S]
  unfold fSC st_X4_readSum_6 f_X12_readProduct
  dsimp only
  rw [if_neg (by rw [L_leN (by omega) (by omega)]; omega), if_neg (by decide)]
  by_cases hend : j = T
  · -- nothing is left
    have k0 : K j 0 = 0 := by rw [hend]; exact hY.1.1.2.2.1
    unfold jn_X4_readSum_26 f_X4_readUnit f_X4_isFact
    rw [hX.1.2.2.2.1, k0, if_neg (by decide), if_pos rfl, if_neg (by decide)]
    dsimp only [Option.bind_some]
    rw [if_pos rfl]
    unfold jn_X4_readUnit_82 f_X12_readUnit jn_X12_readUnit_23 jn_X12_readUnit_24
    rw [hY.1.2.2.2.2.1, k0, if_neg (by decide), if_pos rfl, if_neg (by decide)]
    obtain ⟨s2, t2, f1, f2, f3⟩ := st_fail hX hY 1
    rw [f1, f2]
    dsimp only [Option.bind_some]
    rw [if_neg (by decide)]
    dsimp only [Option.bind_some]
    rw [if_pos rfl, runO_r, if_pos rfl]
    dsimp only [Option.bind_some]
    exact hfail _ _ f3
  · obtain ⟨⟨v, s2⟩, ⟨v', t2⟩, b1, b2, b3⟩ := r_unit hX hY (by omega)
    unfold jn_X4_readSum_26
    rw [b1, b2]
    dsimp only [Option.bind_some]
    rcases b3 with ⟨z1, z2, z3⟩ | ⟨z1, z2, c, z3, z4, z5, z6, z7⟩
    · dsimp only at z1 z2 z3 ⊢
      subst z1 z2
      rw [if_pos rfl, if_pos rfl, runO_r]
      dsimp only [Option.bind_some]
      exact hfail _ _ z3
    · dsimp only at z1 z2 z3 z4 ⊢
      subst z1 z2
      rw [if_neg (by decide), if_pos rfl, if_neg (by decide)]
      exact prod_loop kC kR Q x1 (j + 1) (cs := cs) (by omega) (fun n i j' s t ds g1 g2 g3 g4 g5 g6 g7 g8 => hok n i j' s t ds g1 g2 g3 g4 g5 (by omega) (by omega) g7 g8) hfail T n' FUEL i (j + 1) s2 t2 [c] (by omega) z3 z4 ((EV_unit z5).mono (by omega)) sorry (by omega) (by unfold FUEL; omega) (by omega)
end T7
