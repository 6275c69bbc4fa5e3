/-! ===== the table of tokens ===== -/
def ckd (k : Int32) : Int32 := if k = 0 then 0 else if k = 2 then 1 else if k = 3 then 2 else if k = 4 then 3 else 4
/-- a token's row: 0 its kind in the reference, 1 its value here, 2 its place, 3 where the reference begins to look for it, 4 its value there -/
def tkA (K : Mem) (m : Nat) (s : Mem) : Prop := s 173 4 = Int32.ofNat m ∧ ∀ j, j < m → s 175 j = ckd (K j 0) ∧ s 176 j = K j 1 ∧ s 177 j = K j 2
def tkF (k : Nat → Int32) : Prop := k 0 = 1 ∨ (k 0 = 2 ∧ ∃ q, q < 23 ∧ k 4 = Int32.ofNat q ∧ k 1 = Int32.ofNat (cw q)) ∨ (k 0 = 3 ∧ ∃ v, v < 10000 ∧ k 4 = Int32.ofNat v ∧ k 1 = Int32.ofNat v) ∨ (k 0 = 4 ∧ k 4 = k 1)
def tkR (K : Mem) (t : Mem) (j : Nat) : Prop := rdC t (K j 3) (K (j + 1) 3) (K j 0) (K j 2) (K j 4)
def addK (K : Mem) (m : Nat) (kd cv pl rv e : Int32) : Mem := mset (mset (mset (mset (mset K m 0 kd) m 1 cv) m 2 pl) m 4 rv) (m + 1) 3 e
theorem addK_lt {K : Mem} {m j : Nat} {kd cv pl rv e : Int32} (h : j < m) : addK K m kd cv pl rv e j = K j := by
  unfold addK
  simp (disch := omega) only [m_ne]
theorem addK_m {K : Mem} {m : Nat} {kd cv pl rv e : Int32} : addK K m kd cv pl rv e m 0 = kd ∧ addK K m kd cv pl rv e m 1 = cv ∧ addK K m kd cv pl rv e m 2 = pl ∧ addK K m kd cv pl rv e m 3 = K m 3 ∧ addK K m kd cv pl rv e m 4 = rv ∧ addK K m kd cv pl rv e (m + 1) 3 = e := by
  unfold addK
  refine ⟨?_, ?_, ?_, ?_, ?_, ?_⟩
  all_goals simp (disch := omega) only [m_eq, m_ne, u_eq, u_ne]
theorem addK_s {K : Mem} {m j : Nat} {kd cv pl rv e : Int32} (h : j ≤ m) : addK K m kd cv pl rv e j 3 = K j 3 := by
  by_cases q : j = m
  · rw [q]; exact addK_m.2.2.2.1
  · rw [addK_lt (by omega)]
theorem tk_add {K t : Mem} {m : Nat} {kd cv pl rv e : Int32} (h : ∀ j, j < m → tkF (K j) ∧ tkR K t j) (hF : tkF (addK K m kd cv pl rv e m)) (hR : rdC t (K m 3) e kd pl rv) : ∀ j, j < m + 1 → tkF (addK K m kd cv pl rv e j) ∧ tkR (addK K m kd cv pl rv e) t j := by
  intro j hj
  have ha := addK_m (K := K) (m := m) (kd := kd) (cv := cv) (pl := pl) (rv := rv) (e := e)
  by_cases q : j = m
  · subst q
    refine ⟨hF, ?_⟩
    unfold tkR
    rw [ha.1, ha.2.2.1, ha.2.2.2.1, ha.2.2.2.2.1, ha.2.2.2.2.2]
    exact hR
  · obtain ⟨h1, h2⟩ := h j (by omega)
    refine ⟨by rw [addK_lt (by omega)]; exact h1, ?_⟩
    unfold tkR
    rw [addK_lt (show j < m by omega), addK_s (show j + 1 ≤ m by omega)]
    exact h2
theorem x_addToken {s : Mem} {m : Nat} {x y z : Int32} (h : s 173 4 = Int32.ofNat m) (hm : m < 400) : f_X6_addToken x y z s = some (mset (mset (mset (mset s 175 m x) 176 m y) 177 m z) 173 4 (Int32.ofNat (m + 1))) := by
  unfold f_X6_addToken
  rw [h, if_neg (by rw [L_leN (by omega) (by omega)]; omega), wr_N hm (by omega)]
  dsimp only [Option.bind_some]
  rw [m_ne (by omega), h, wr_N hm (by omega)]
  dsimp only [Option.bind_some]
  rw [m_ne (by omega), m_ne (by omega), h, wr_N hm (by omega)]
  dsimp only [Option.bind_some]
  rw [m_ne (by omega), m_ne (by omega), m_ne (by omega), h, N_addL]
def tkG (s s' : Mem) : Prop := (∀ c, c ≠ 173 → c ≠ 175 → c ≠ 176 → c ≠ 177 → s' c = s c) ∧ ∀ j, j ≠ 4 → s' 173 j = s 173 j
theorem tkG_add {s s' : Mem} {m : Nat} {x y z w : Int32} (h : tkG s s') : tkG s (mset (mset (mset (mset s' 175 m x) 176 m y) 177 m z) 173 4 w) := by
  refine ⟨fun c h1 h2 h3 h4 => ?_, fun j hj => ?_⟩
  · rw [m_ne h1, m_ne h4, m_ne h3, m_ne h2, h.1 c h1 h2 h3 h4]
  · rw [m_eq, u_ne hj]
    simp (disch := omega) only [m_ne]
    exact h.2 j hj
theorem tkA_add {K s : Mem} {m : Nat} {kd cv pl rv e : Int32} (h : tkA K m s) : tkA (addK K m kd cv pl rv e) (m + 1) (mset (mset (mset (mset s 175 m (ckd kd)) 176 m cv) 177 m pl) 173 4 (Int32.ofNat (m + 1))) := by
  have ha := addK_m (K := K) (m := m) (kd := kd) (cv := cv) (pl := pl) (rv := rv) (e := e)
  refine ⟨by rw [m_eq, u_eq], fun j hj => ?_⟩
  simp (disch := omega) only [m_eq, m_ne]
  by_cases q : j = m
  · subst q
    rw [u_eq, u_eq, u_eq, ha.1, ha.2.1, ha.2.2.1]
    exact ⟨rfl, rfl, rfl⟩
  · rw [u_ne q, u_ne q, u_ne q, addK_lt (by omega)]
    exact h.2 j (by omega)
/-- a text's row of tokens: how many, and what each of them is -/
def tkT (K : Mem) (T : Nat) (t : Mem) : Prop := T ≤ 400 ∧ K 0 3 = 0 ∧ K T 0 = 0 ∧ K T 1 = -1 ∧ (∀ j, j < T → tkF (K j)) ∧ (∀ j, j ≤ T → tkR K t j) ∧ 0 ≤ K T 2
theorem x_tokens {s t : Mem} {L : Nat} (hw : wrdR t) (hL4 : L ≤ 400) (hs : s 173 0 = Int32.ofNat L) (ht : t 0 9 = Int32.ofNat L) (hb : ∀ i, i < L → s 174 i = t 5 i ∧ 0 ≤ t 5 i ∧ t 5 i ≤ 255) (h0 : s 173 4 = 0) :
    ok (it FUEL (fun y => st_X6_begin_9 y.1 y.2.1 y.2.2) (0, 0, s)) (fun s' => tkG s s' ∧ ∃ K T, tkA K T s' ∧ tkT K T t ∧ K T 2 = Int32.ofNat L) := by
  refine it_ok1 400 (by omega) (fun k y => ∃ K m p a s', y = (Int32.ofNat a, Int32.ofNat k, s') ∧ k ≤ a ∧ a ≤ L ∧ m ≤ k ∧ p ≤ a ∧ K m 3 = Int32.ofNat p ∧ K 0 3 = 0 ∧ (∀ i, p ≤ i → i < a → blan (t 5 i)) ∧ tkG s s' ∧ tkA K m s' ∧ ∀ j, j < m → tkF (K j) ∧ tkR K t j)
    ⟨fun _ _ => 0, 0, 0, 0, s, rfl, by omega, by omega, by omega, by omega, rfl, rfl, fun i h1 h2 => by omega, ⟨fun _ _ _ _ _ => rfl, fun _ _ => rfl⟩, ⟨h0, fun j hj => by omega⟩, fun j hj => by omega⟩ (fun k y q => by obtain ⟨_, _, _, _, _, -, q1, q2, -⟩ := q; omega) ?_
  rintro k y ⟨K, m, p, a, s', rfl, hka, haL, hmk, hpa, hKp, hK0, hbl, hG, hA, hK⟩
  try dsimp only
  have s0 : s' 173 0 = Int32.ofNat L := by rw [hG.2 0 (by omega)]; exact hs
  have s174 : s' 174 = s 174 := hG.1 174 (by omega) (by omega) (by omega) (by omega)
  unfold st_X6_begin_9
  by_cases haeq : a = L
  · have fin : tkG s s' ∧ ∃ K T, tkA K T s' ∧ tkT K T t ∧ K T 2 = Int32.ofNat L := by
      have ha := addK_m (K := K) (m := m) (kd := 0) (cv := -1) (pl := Int32.ofNat L) (rv := 0) (e := Int32.ofNat L)
      refine ⟨hG, addK K m 0 (-1) (Int32.ofNat L) 0 (Int32.ofNat L), m, ⟨hA.1, fun j hj => by rw [addK_lt hj]; exact hA.2 j hj⟩, ⟨by omega, by rw [addK_s (by omega)]; exact hK0, ha.1, ha.2.1, fun j hj => by rw [addK_lt hj]; exact (hK j hj).1, fun j hj => ?_, by rw [ha.2.2.1, N_0le (by omega)]; trivial⟩, ha.2.2.1⟩
      by_cases q : j = m
      · subst q
        unfold tkR
        rw [ha.1, ha.2.2.1, ha.2.2.2.1, ha.2.2.2.2.1, ha.2.2.2.2.2, hKp]
        exact rdC_end ht hL4 (by omega) (fun i h1 h2 => hbl i h1 (by omega))
      · unfold tkR
        rw [addK_lt (show j < m by omega), addK_s (show j + 1 ≤ m by omega)]
        exact (hK j (by omega)).2
    refine Or.inr ⟨s', ?_, fin⟩
    rw [s0]
    by_cases q : (400 : Int32) ≤ Int32.ofNat k
    · rw [if_pos q]
    · rw [if_neg q, if_pos (by rw [N_le (by omega) (by omega)]; omega)]
  · refine Or.inl ?_
    rw [s0, if_neg (by rw [L_leN (by omega) (by omega)]; omega), if_neg (by rw [N_le (by omega) (by omega)]; omega), rd_N (by omega) (by omega)]
    dsimp only [Option.bind_some]
    obtain ⟨b1, b2, b3⟩ := hb a (by omega)
    rw [s174, b1, x_isLetter]
    dsimp only [Option.bind_some]
    have hbs : ∀ i, i < L → s' 174 i = t 5 i := fun i hi => by rw [s174]; exact (hb i hi).1
    by_cases hl : lett (t 5 a)
    · rw [if_pos hl, if_neg (by decide)]
      obtain ⟨e, e1, e2, e3, e4⟩ := run_end lett (t 5) L L a (by omega) (by omega)
      have hae : a < e := by
        by_cases q : e = a
        · subst q
          rcases e4 with q2 | q2
          · omega
          · exact absurd hl q2
        · omega
      rw [x_lettersEnd s0 hL4 (by omega) e2 (fun i g1 g2 => by rw [hbs i (by omega)]; exact e3 i g1 g2) (by
        rcases e4 with q | q
        · exact Or.inl q
        · by_cases q2 : e = L
          · exact Or.inl q2
          · exact Or.inr (by rw [hbs e (by omega)]; exact q))]
      dsimp only [Option.bind_some]
      obtain ⟨⟨n, s2⟩, g0, g1, g2⟩ := x_keyword (s := s') hae (by omega)
      dsimp only at g1 g2
      subst g1
      rw [g0]
      dsimp only [Option.bind_some]
      obtain ⟨rw1, rw2⟩ := rdC_word (p := p) hw ht hL4 hpa hae e2 hbl b2 e3 e4
      have hitE : ∀ q, hitR (s2 174) a e q ↔ hitR (t 5) a e q := by
        intro q
        unfold hitR
        constructor
        · rintro ⟨h1, h2⟩
          exact ⟨h1, fun i hi => by rw [← hbs (a + i) (by omega)]; exact h2 i hi⟩
        · rintro ⟨h1, h2⟩
          exact ⟨h1, fun i hi => by rw [hbs (a + i) (by omega)]; exact h2 i hi⟩
      unfold jn_X6_begin_71
      rcases g2 with ⟨rfl, g3⟩ | ⟨q, hq, g3, rfl⟩
      · rw [if_pos rfl, x_addToken hA.1 (by omega)]
        dsimp only [Option.bind_some]
        refine ⟨_, rfl, addK K m 1 (-1) (Int32.ofNat a) 0 (Int32.ofNat e), m + 1, e, e, _, by rw [N_addL]; rfl, by omega, e2, by omega, by omega, addK_m.2.2.2.2.2, by rw [addK_s (by omega)]; exact hK0, fun i h1 h2 => by omega, tkG_add hG, tkA_add (kd := 1) hA, tk_add hK (Or.inl addK_m.1) ?_⟩
        rw [hKp]
        exact rw1 (fun q hq hh => g3 q hq ((hitE q).mpr hh)) 0
      · have hcq := cw_lt q hq
        rw [if_neg (by rw [N_neg (by omega)]; exact fun q => q), x_addToken hA.1 (by omega)]
        dsimp only [Option.bind_some]
        refine ⟨_, rfl, addK K m 2 (Int32.ofNat (cw q)) (Int32.ofNat a) (Int32.ofNat q) (Int32.ofNat e), m + 1, e, e, _, by rw [N_addL]; rfl, by omega, e2, by omega, by omega, addK_m.2.2.2.2.2, by rw [addK_s (by omega)]; exact hK0, fun i h1 h2 => by omega, tkG_add hG, tkA_add (kd := 2) hA, tk_add hK (Or.inr (Or.inl ⟨addK_m.1, q, hq, addK_m.2.2.2.2.1, addK_m.2.1⟩)) ?_⟩
        rw [hKp]
        exact rw2 q hq ((hitE q).mp g3)
    · rw [if_neg hl, if_pos rfl, x_isDigit]
      dsimp only [Option.bind_some]
      by_cases hd : digi (t 5 a)
      · rw [if_pos hd, if_neg (by decide)]
        obtain ⟨e, e1, e2, e3, e4⟩ := run_end digi (t 5) L L a (by omega) (by omega)
        have hae : a < e := by
          by_cases q : e = a
          · subst q
            rcases e4 with q2 | q2
            · omega
            · exact absurd hd q2
          · omega
        rw [x_digitsEnd s0 hL4 (by omega) e2 (fun i g1 g2 => by rw [hbs i (by omega)]; exact e3 i g1 g2) (by
          rcases e4 with q | q
          · exact Or.inl q
          · by_cases q2 : e = L
            · exact Or.inl q2
            · exact Or.inr (by rw [hbs e (by omega)]; exact q))]
        dsimp only [Option.bind_some]
        have hR := rdC_num (p := p) ht hL4 hpa hae e2 hbl e3 e4
        rw [N_sub (by omega)]
        unfold jn_X6_begin_108
        rw [x_number (by omega) (by omega)]
        dsimp only [Option.bind_some]
        have hnm : e - a ≤ 4 → nmi (s' 174) a (e - a) = Int32.ofNat (nmv (t 5) a (e - a)) ∧ nmv (t 5) a (e - a) < 10000 := by
          intro h4
          have q1 : ∀ k, k ≤ e - a → nmi (s' 174) a k = nmi (t 5) a k := by
            intro k
            induction k with
            | zero => intro _; rfl
            | succ k ih =>
              intro hk
              unfold nmi
              rw [ih (by omega), hbs (a + k) (by omega)]
          have q2 := nmi_N (f := t 5) (a := a) (e - a) h4 (fun i hi => e3 _ (by omega) (by omega))
          have q3 := nmv_lt (f := t 5) (a := a) (e - a) (fun i hi => e3 _ (by omega) (by omega))
          have q4 : 10 ^ (e - a) ≤ 10 ^ 4 := Nat.pow_le_pow_right (by omega) h4
          exact ⟨by rw [q1 _ (Nat.le_refl _), q2], by omega⟩
        by_cases h4 : e - a ≤ 4
        · rw [if_neg (by rw [L_ltN (by omega) (by omega)]; omega), x_addToken hA.1 (by omega)]
          dsimp only [Option.bind_some]
          obtain ⟨q1, q2⟩ := hnm h4
          rw [q1]
          rw [if_pos h4] at hR
          refine ⟨_, rfl, addK K m 3 (Int32.ofNat (nmv (t 5) a (e - a))) (Int32.ofNat a) (Int32.ofNat (nmv (t 5) a (e - a))) (Int32.ofNat e), m + 1, e, e, _, by rw [N_addL]; rfl, by omega, e2, by omega, by omega, addK_m.2.2.2.2.2, by rw [addK_s (by omega)]; exact hK0, fun i h1 h2 => by omega, tkG_add hG, tkA_add (kd := 3) hA, tk_add hK (Or.inr (Or.inr (Or.inl ⟨addK_m.1, _, q2, addK_m.2.2.2.2.1, addK_m.2.1⟩))) ?_⟩
          rw [hKp]
          exact hR
        · rw [if_pos (by rw [L_ltN (by omega) (by omega)]; omega), x_addToken hA.1 (by omega)]
          dsimp only [Option.bind_some]
          rw [if_neg h4] at hR
          refine ⟨_, rfl, addK K m 1 (nmi (s' 174) a (e - a)) (Int32.ofNat a) (Int32.ofNat (nmv (t 5) a (e - a))) (Int32.ofNat e), m + 1, e, e, _, by rw [N_addL]; rfl, by omega, e2, by omega, by omega, addK_m.2.2.2.2.2, by rw [addK_s (by omega)]; exact hK0, fun i h1 h2 => by omega, tkG_add hG, tkA_add (kd := 1) hA, tk_add hK (Or.inl addK_m.1) ?_⟩
          rw [hKp]
          exact hR
      · rw [if_neg hd, if_pos rfl]
        by_cases h32 : t 5 a = 32
        · rw [if_pos h32, N_addL, N_addL]
          refine ⟨_, rfl, K, m, p, a + 1, s', rfl, by omega, by omega, by omega, by omega, hKp, hK0, fun i h1 h2 => ?_, hG, hA, hK⟩
          by_cases q : i = a
          · rw [q]; exact Or.inl h32
          · exact hbl i h1 (by omega)
        · rw [if_neg h32]
          by_cases h10 : t 5 a = 10
          · rw [if_pos h10, N_addL, N_addL]
            refine ⟨_, rfl, K, m, p, a + 1, s', rfl, by omega, by omega, by omega, by omega, hKp, hK0, fun i h1 h2 => ?_, hG, hA, hK⟩
            by_cases q : i = a
            · rw [q]; exact Or.inr h10
            · exact hbl i h1 (by omega)
          · rw [if_neg h10]
            have hR := rdC_sign (p := p) ht hL4 hpa (show a < L by omega) hbl b2 hl hd (by rintro (q | q); exact h32 q; exact h10 q)
            obtain ⟨c, ec, hc⟩ := N_of (x := t 5 a) (m := 255) b2 (by
              have e : Int32.ofNat 255 = 255 := rfl
              rw [e]; exact b3) (by omega)
            obtain ⟨⟨n, s2⟩, g0, g1, g2⟩ := x_signAt (c := c) (s := s') (by omega)
            dsimp only at g1 g2
            subst g1
            rw [ec] at hR ⊢
            rw [g0]
            dsimp only [Option.bind_some]
            unfold jn_X6_begin_150
            by_cases hm : mark (Int32.ofNat c)
            · rw [if_neg (fun q => g2.mp q hm), x_addToken hA.1 (by omega)]
              dsimp only [Option.bind_some]
              rw [if_pos hm] at hR
              refine ⟨_, rfl, addK K m 4 (Int32.ofNat c) (Int32.ofNat a) (Int32.ofNat c) (Int32.ofNat (a + 1)), m + 1, a + 1, a + 1, _, by rw [N_addL, N_addL]; rfl, by omega, by omega, by omega, by omega, addK_m.2.2.2.2.2, by rw [addK_s (by omega)]; exact hK0, fun i h1 h2 => by omega, tkG_add hG, tkA_add (kd := 4) hA, tk_add hK (Or.inr (Or.inr (Or.inr ⟨addK_m.1, by rw [addK_m.2.2.2.2.1, addK_m.2.1]⟩))) ?_⟩
              rw [hKp]
              exact hR
            · rw [if_pos (g2.mpr hm), x_addToken hA.1 (by omega)]
              dsimp only [Option.bind_some]
              rw [if_neg hm] at hR
              refine ⟨_, rfl, addK K m 1 (Int32.ofNat c) (Int32.ofNat a) (Int32.ofNat c) (Int32.ofNat (a + 1)), m + 1, a + 1, a + 1, _, by rw [N_addL, N_addL]; rfl, by omega, by omega, by omega, by omega, addK_m.2.2.2.2.2, by rw [addK_s (by omega)]; exact hK0, fun i h1 h2 => by omega, tkG_add hG, tkA_add (kd := 1) hA, tk_add hK (Or.inl addK_m.1) ?_⟩
              rw [hKp]
              exact hR
