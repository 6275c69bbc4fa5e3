/-! ===== a world copied ===== -/
theorem cpy_eq {n0 n1 m : Nat} {σ : Mem} {a b : Nat} (h0 : m ≤ n0) (h1 : m ≤ n1) (hm : m < 1000) : cpy n0 n1 σ a 0 b 0 (Int32.ofNat m) = some (cpM σ a 0 b 0 m) := by
  unfold cpy
  have e0 : (0 : Int32).toNatClampNeg = 0 := rfl
  rw [if_neg (by
    rw [N_nat (by omega), e0, N_nlt0 (by omega)]
    have z : ¬ ((0 : Int32) < 0) := by decide
    simp only [z, false_or]
    omega)]
  congr 1
  funext c j
  rw [N_nat (by omega), e0]
  unfold cpM va_cpy
  by_cases hc : c = b
  · subst hc
    simp only [if_pos, true_and]
  · rw [if_neg hc, if_neg (by omega)]
theorem cpM_all {t : Mem} {A B m j : Nat} (h : j < m) : cpM t A 0 B 0 m B j = t A j := by
  have := cpM_in (t := t) (A := A) (oa := 0) (B := B) (ob := 0) (m := m) h
  simpa only [Nat.zero_add] using this
theorem evn_congr {F f g : Nat → Int32} : ∀ (n a : Nat) (st : List Int32), (∀ i, a ≤ i → i < a + n → f i = g i) → evn F f a n st = evn F g a n st := by
  intro n
  induction n with
  | zero => intro a st _; rfl
  | succ n ih =>
    intro a st h
    show (ev1 F (f a) st).bind (evn F f (a + 1) n) = (ev1 F (g a) st).bind (evn F g (a + 1) n)
    have e : f a = g a := h a (by omega) (by omega)
    have e2 : evn F f (a + 1) n = evn F g (a + 1) n := funext fun st' => ih (a + 1) st' (fun i h1 h2 => h i (by omega) (by omega))
    rw [e, e2]
theorem x_copyLaw {s m : Mem} {d e : Nat} (hde : d + 6 < e ∨ e + 6 < d) (h : lawR s e m) : ∃ s', f_X1_copyFrom d e s = some s' ∧ lawR s' d m ∧ ∀ c, (c < d ∨ d + 5 < c) → s' c = s c := by
  obtain ⟨cnt, sz, h16, h400, q1, q2, q3, q4, q5⟩ := h
  unfold f_X1_copyFrom
  have c16 : ∀ (σ : Mem) (a b : Nat), cpy 16 16 σ a 0 b 0 16 = some (cpM σ a 0 b 0 16) := fun σ a b => cpy_eq (m := 16) (by omega) (by omega) (by omega)
  simp only [c16, Option.bind_some]
  have esz : cpM (cpM (cpM (cpM (mset (mset s d 0 (s e 0)) d 1 (mset s d 0 (s e 0) e 1)) (e + 1) 0 (d + 1) 0 16) (e + 2) 0 (d + 2) 0 16) (e + 3) 0 (d + 3) 0 16) (e + 4) 0 (d + 4) 0 16 d 1 = Int32.ofNat sz := by
    rw [cpM_ne (by omega), cpM_ne (by omega), cpM_ne (by omega), cpM_ne (by omega), m_eq, u_eq, m_ne (by omega)]
    exact q3
  rw [esz, cpy_eq (by omega) (by omega) (by omega)]
  refine ⟨_, rfl, ⟨cnt, sz, h16, h400, ?_, q2, ?_, fun i hi => ?_, fun l hl => ?_⟩, fun c hc => ?_⟩
  · rw [cpM_ne (by omega), cpM_ne (by omega), cpM_ne (by omega), cpM_ne (by omega), cpM_ne (by omega), m_eq, u_ne (by omega), m_eq, u_eq]
    exact q1
  · rw [cpM_ne (by omega), esz]
  · rw [cpM_all hi, cpM_ne (by omega), cpM_ne (by omega), cpM_ne (by omega), cpM_ne (by omega), m_ne (by omega), m_ne (by omega)]
    exact q4 i hi
  · obtain ⟨fr, wh, ti, p1, p2, p3, p4, p5, p6, p7, p8, p9, p10, p11, p12⟩ := q5 l hl
    refine ⟨fr, wh, ti, p1, p2, p3, ?_, ?_, p6, ?_, p8, ?_, p10, fun F => ?_, fun q F => ?_⟩
    · rw [cpM_ne (by omega), cpM_ne (by omega), cpM_ne (by omega), cpM_ne (by omega), cpM_all (by omega), m_ne (by omega), m_ne (by omega)]
      exact p4
    · rw [cpM_ne (by omega), cpM_ne (by omega), cpM_ne (by omega), cpM_all (by omega), cpM_ne (by omega), m_ne (by omega), m_ne (by omega)]
      exact p5
    · rw [cpM_ne (by omega), cpM_ne (by omega), cpM_all (by omega), cpM_ne (by omega), cpM_ne (by omega), m_ne (by omega), m_ne (by omega)]
      exact p7
    · rw [cpM_ne (by omega), cpM_all (by omega), cpM_ne (by omega), cpM_ne (by omega), cpM_ne (by omega), m_ne (by omega), m_ne (by omega)]
      exact p9
    · obtain ⟨v, hv⟩ := p11 F
      refine ⟨v, ?_⟩
      rw [← hv]
      refine evn_congr _ _ _ (fun i h1 h2 => ?_)
      rw [cpM_all (by omega), cpM_ne (by omega), cpM_ne (by omega), cpM_ne (by omega), cpM_ne (by omega), m_ne (by omega), m_ne (by omega)]
    · obtain ⟨v, hv⟩ := p12 q F
      refine ⟨v, ?_⟩
      rw [← hv]
      refine evn_congr _ _ _ (fun i h1 h2 => ?_)
      rw [cpM_all (by omega), cpM_ne (by omega), cpM_ne (by omega), cpM_ne (by omega), cpM_ne (by omega), m_ne (by omega), m_ne (by omega)]
  · rw [cpM_ne (by omega), cpM_ne (by omega), cpM_ne (by omega), cpM_ne (by omega), cpM_ne (by omega), m_ne (by omega), m_ne (by omega)]
theorem x_copyPlan {s : Mem} {d e : Nat} (hde : d + 6 < e ∨ e + 6 < d) : ∃ s', f_X5_copyFrom d e s = some s' ∧ s' d 0 = s e 0 ∧ (∀ f l, 1 ≤ f → f < 5 → l < 16 → s' (d + f) l = s (e + f) l) ∧ ∀ c, (c < d ∨ d + 4 < c) → s' c = s c := by
  unfold f_X5_copyFrom
  have c16 : ∀ (σ : Mem) (a b : Nat), cpy 16 16 σ a 0 b 0 16 = some (cpM σ a 0 b 0 16) := fun σ a b => cpy_eq (m := 16) (by omega) (by omega) (by omega)
  simp only [c16, Option.bind_some]
  refine ⟨_, rfl, ?_, fun f l h1 h2 hl => ?_, fun c hc => ?_⟩
  · rw [cpM_ne (by omega), cpM_ne (by omega), cpM_ne (by omega), cpM_ne (by omega), m_eq, u_eq]
  · have : f = 1 ∨ f = 2 ∨ f = 3 ∨ f = 4 := by omega
    rcases this with rfl | rfl | rfl | rfl
    · rw [cpM_ne (by omega), cpM_ne (by omega), cpM_ne (by omega), cpM_all hl, m_ne (by omega)]
    · rw [cpM_ne (by omega), cpM_ne (by omega), cpM_all hl, cpM_ne (by omega), m_ne (by omega)]
    · rw [cpM_ne (by omega), cpM_all hl, cpM_ne (by omega), cpM_ne (by omega), m_ne (by omega)]
    · rw [cpM_all hl, cpM_ne (by omega), cpM_ne (by omega), cpM_ne (by omega), m_ne (by omega)]
  · rw [cpM_ne (by omega), cpM_ne (by omega), cpM_ne (by omega), cpM_ne (by omega), m_ne (by omega)]
theorem planT_cp {n : Nat} {s s' m : Mem} {d e : Nat} (h : planT n s e m) (h0 : s' d 0 = s e 0) (hf : ∀ f l, 1 ≤ f → f < 5 → l < 16 → s' (d + f) l = s (e + f) l) : planT n s' d m := by
  obtain ⟨cnt, q1, q2, q3, q4⟩ := h
  refine ⟨cnt, q1, h0.trans q2, q3, fun l hl => ?_⟩
  rw [hf 1 l (by omega) (by omega) (by omega), hf 3 l (by omega) (by omega) (by omega), hf 4 l (by omega) (by omega) (by omega)]
  exact q4 l hl
theorem planC_cp {n : Nat} {s s' m : Mem} {d e : Nat} (h : planC n s e m) (h0 : s' d 0 = s e 0) (hf : ∀ f l, 1 ≤ f → f < 5 → l < 16 → s' (d + f) l = s (e + f) l) : planC n s' d m := by
  obtain ⟨cnt, q1, q2, q3, q4⟩ := h
  refine ⟨cnt, q1, h0.trans q2, q3, fun l hl => ?_⟩
  rw [hf 1 l (by omega) (by omega) (by omega), hf 2 l (by omega) (by omega) (by omega), hf 3 l (by omega) (by omega) (by omega), hf 4 l (by omega) (by omega) (by omega)]
  exact q4 l hl
theorem x_copyOrd {s m : Mem} {d e n : Nat} (hde : d + 6 < e ∨ e + 6 < d) (h : ordR n s e m) : ∃ s', f_X3_copyFrom d e s = some s' ∧ ordR n s' d m ∧ ∀ c, (c < d ∨ d + 3 < c) → s' c = s c := by
  unfold f_X3_copyFrom
  have c16 : ∀ (σ : Mem) (a b : Nat), cpy 16 16 σ a 0 b 0 16 = some (cpM σ a 0 b 0 16) := fun σ a b => cpy_eq (m := 16) (by omega) (by omega) (by omega)
  have c96 : ∀ (σ : Mem) (a b : Nat), cpy 96 96 σ a 0 b 0 96 = some (cpM σ a 0 b 0 96) := fun σ a b => cpy_eq (m := 96) (by omega) (by omega) (by omega)
  simp only [c16, c96, Option.bind_some]
  obtain ⟨cnt, q1, q2, q3, q4⟩ := h
  refine ⟨_, rfl, ⟨cnt, q1, ?_, q3, fun p hp => ?_⟩, fun c hc => ?_⟩
  · rw [cpM_ne (by omega), cpM_ne (by omega), cpM_ne (by omega), m_eq, u_eq]
    exact q2
  · obtain ⟨k, nm, p1, p2, p3, p4⟩ := q4 p hp
    have e1 : ∀ l, l < 16 → cpM (cpM (cpM (mset s d 0 (s e 0)) (e + 1) 0 (d + 1) 0 16) (e + 2) 0 (d + 2) 0 16) (e + 3) 0 (d + 3) 0 96 (d + 1) l = s (e + 1) l := fun l hl => by rw [cpM_ne (by omega), cpM_ne (by omega), cpM_all hl, m_ne (by omega)]
    have e2 : ∀ l, l < 16 → cpM (cpM (cpM (mset s d 0 (s e 0)) (e + 1) 0 (d + 1) 0 16) (e + 2) 0 (d + 2) 0 16) (e + 3) 0 (d + 3) 0 96 (d + 2) l = s (e + 2) l := fun l hl => by rw [cpM_ne (by omega), cpM_all hl, cpM_ne (by omega), m_ne (by omega)]
    have e3 : ∀ l, l < 96 → cpM (cpM (cpM (mset s d 0 (s e 0)) (e + 1) 0 (d + 1) 0 16) (e + 2) 0 (d + 2) 0 16) (e + 3) 0 (d + 3) 0 96 (d + 3) l = s (e + 3) l := fun l hl => by rw [cpM_all hl, cpM_ne (by omega), cpM_ne (by omega), m_ne (by omega)]
    refine ⟨k, nm, p1, p2, p3, ?_⟩
    rcases p4 with ⟨h1, h2⟩ | ⟨l, h1, h2, h3, h4, h5⟩
    · exact Or.inl ⟨h1, fun l hl => by rw [e1 l (by omega)]; exact h2 l hl⟩
    · exact Or.inr ⟨l, h1, by rw [e1 l (by omega)]; exact h2, fun l' q5 q6 => by rw [e1 l' (by omega)]; exact h3 l' q5 q6, by rw [e2 l (by omega)]; exact h4, fun i hi => by rw [e3 _ (by omega)]; exact h5 i hi⟩
  · rw [cpM_ne (by omega), cpM_ne (by omega), cpM_ne (by omega), m_ne (by omega)]
theorem x_copyRow {s : Mem} {d e cap : Nat} {x lo hi : Int32} {m : Nat → Int32} (hde : d + 1 < e ∨ e + 1 < d) (hd : gL 0 (d + 1) = cap) (he : gL 0 (e + 1) = cap) (hcap : cap ≤ 16) (h : rowR cap s e x m lo hi) :
    ∃ s', f_X7_copyFrom d e s = some s' ∧ rowR cap s' d x m lo hi ∧ ∀ c, (c < d ∨ d + 1 < c) → s' c = s c := by
  obtain ⟨n, q1, q2, q3, q4⟩ := h
  have key : ok (it FUEL (fun y => st_X7_copyFrom_2 d e y.1 y.2) (0, s)) (fun s' => (∀ c, c ≠ d + 1 → s' c = s c) ∧ ∀ i, i < n → s' (d + 1) i = s (e + 1) i) := by
    refine it_ok1 16 (by omega) (fun k y => ∃ s', y = (Int32.ofNat k, s') ∧ k ≤ n ∧ (∀ c, c ≠ d + 1 → s' c = s c) ∧ ∀ i, i < k → s' (d + 1) i = s (e + 1) i) ⟨s, rfl, by omega, fun _ _ => rfl, fun i hi => by omega⟩ (fun k y q => by obtain ⟨_, _, q, _⟩ := q; omega) ?_
    rintro k y ⟨s', rfl, hk, hf, hi⟩
    dsimp only
    unfold st_X7_copyFrom_2
    simp only [hf e (by omega), q2, hd, he]
    by_cases hkn : k = n
    · subst hkn
      rw [if_pos (by rw [N_le (by omega) (by omega)]; omega)]
      exact Or.inr ⟨_, rfl, hf, hi⟩
    · rw [if_neg (by rw [N_le (by omega) (by omega)]; omega), if_neg (by rw [N_le (by omega) (by omega)]; omega)]
      simp (disch := omega) only [rd_N, wr_N, Option.bind_some, N_addL, hf (e + 1) (by omega)]
      refine Or.inl ⟨_, rfl, _, rfl, by omega, fun c hc => ?_, fun i hik => ?_⟩
      · rw [m_ne hc]
        exact hf c hc
      · rw [m_eq]
        by_cases hik2 : i = k
        · subst hik2
          rw [u_eq]
        · rw [u_ne hik2]
          exact hi i (by omega)
  unfold f_X7_copyFrom jn_X7_copyFrom_37
  obtain ⟨s', e1, hf, hi⟩ := key
  rw [e1]
  dsimp only [Option.bind_some]
  have em : jmmin (s' e 1) (Int32.ofNat (gL 0 (d + 1))) = Int32.ofNat n := by
    rw [hf e (by omega), q2, hd]
    unfold jmmin
    rw [if_neg (by rw [N_lt (by omega) (by omega)]; omega)]
  rw [em]
  refine ⟨_, rfl, ⟨n, q1, by rw [m_eq, u_eq], q3, fun i hin => ?_⟩, fun c hc => ?_⟩
  · rw [m_ne (by omega), hi i hin]
    exact q4 i hin
  · rw [m_ne (by omega)]
    exact hf c (by omega)
theorem rowR_fr {cap : Nat} {s s' : Mem} {rc : Nat} {x : Int32} {m : Nat → Int32} {lo hi : Int32} (h : rowR cap s rc x m lo hi) (e0 : s' rc = s rc) (e1 : s' (rc + 1) = s (rc + 1)) : rowR cap s' rc x m lo hi := rowR_eq h e0 e1 rfl (fun _ _ => rfl)
theorem x_copyRows {s m : Mem} {d e : Nat} (hde : (d = 89 ∧ e = 32) ∨ (d = 32 ∧ e = 89)) (h : rowsR s e m) : ∃ s', f_X8_copyFrom d e s = some s' ∧ rowsR s' d m ∧ ∀ c, (c < d + 1 ∨ d + 24 < c) → s' c = s c := by
  obtain ⟨a1, ⟨a2, a3, a4, a5⟩, ⟨a6, a7, a8⟩, ⟨a9, a10⟩, a11, a12, a13⟩ := h
  have g : gL 0 (d + 1 + 1) = 16 ∧ gL 0 (d + 3 + 1) = 10 ∧ gL 0 (d + 5 + 1) = 10 ∧ gL 0 (d + 7 + 1) = 10 ∧ gL 0 (d + 9 + 1) = 14 ∧ gL 0 (d + 11 + 1) = 14 ∧ gL 0 (d + 13 + 1) = 14 ∧ gL 0 (d + 15 + 1) = 6 ∧ gL 0 (d + 17 + 1) = 6 ∧ gL 0 (d + 19 + 1) = 6 ∧ gL 0 (d + 21 + 1) = 8 ∧ gL 0 (d + 23 + 1) = 4 := by
    rcases hde with ⟨rfl, -⟩ | ⟨rfl, -⟩ <;> decide +kernel
  have g' : gL 0 (e + 1 + 1) = 16 ∧ gL 0 (e + 3 + 1) = 10 ∧ gL 0 (e + 5 + 1) = 10 ∧ gL 0 (e + 7 + 1) = 10 ∧ gL 0 (e + 9 + 1) = 14 ∧ gL 0 (e + 11 + 1) = 14 ∧ gL 0 (e + 13 + 1) = 14 ∧ gL 0 (e + 15 + 1) = 6 ∧ gL 0 (e + 17 + 1) = 6 ∧ gL 0 (e + 19 + 1) = 6 ∧ gL 0 (e + 21 + 1) = 8 ∧ gL 0 (e + 23 + 1) = 4 := by
    rcases hde with ⟨-, rfl⟩ | ⟨-, rfl⟩ <;> decide +kernel
  obtain ⟨g1, g2, g3, g4, g5, g6, g7, g8, g9, g10, g11, g12⟩ := g
  obtain ⟨k1, k2, k3, k4, k5, k6, k7, k8, k9, k10, k11, k12⟩ := g'
  have hde' : d + 25 < e ∨ e + 25 < d := by omega
  clear hde
  unfold f_X8_copyFrom
  obtain ⟨s1, e1, b1, f1⟩ := x_copyRow (d := d + 1) (e := e + 1) (by omega) g1 k1 (by omega) a1
  obtain ⟨s2, e2, b2, f2⟩ := x_copyRow (d := d + 3) (e := e + 3) (by omega) g2 k2 (by omega) (rowR_fr a2 (f1 _ (by omega)) (f1 _ (by omega)))
  obtain ⟨s3, e3, b3, f3⟩ := x_copyRow (d := d + 5) (e := e + 5) (by omega) g3 k3 (by omega) (rowR_fr (rowR_fr a3 (f1 _ (by omega)) (f1 _ (by omega))) (f2 _ (by omega)) (f2 _ (by omega)))
  obtain ⟨s4, e4, b4, f4⟩ := x_copyRow (d := d + 7) (e := e + 7) (by omega) g4 k4 (by omega) (rowR_fr (rowR_fr (rowR_fr a4 (f1 _ (by omega)) (f1 _ (by omega))) (f2 _ (by omega)) (f2 _ (by omega))) (f3 _ (by omega)) (f3 _ (by omega)))
  obtain ⟨s5, e5, b5, f5⟩ := x_copyRow (d := d + 9) (e := e + 9) (by omega) g5 k5 (by omega) (rowR_fr (rowR_fr (rowR_fr (rowR_fr a6 (f1 _ (by omega)) (f1 _ (by omega))) (f2 _ (by omega)) (f2 _ (by omega))) (f3 _ (by omega)) (f3 _ (by omega))) (f4 _ (by omega)) (f4 _ (by omega)))
  obtain ⟨s6, e6, b6, f6⟩ := x_copyRow (d := d + 11) (e := e + 11) (by omega) g6 k6 (by omega) (rowR_fr (rowR_fr (rowR_fr (rowR_fr (rowR_fr a7 (f1 _ (by omega)) (f1 _ (by omega))) (f2 _ (by omega)) (f2 _ (by omega))) (f3 _ (by omega)) (f3 _ (by omega))) (f4 _ (by omega)) (f4 _ (by omega))) (f5 _ (by omega)) (f5 _ (by omega)))
  obtain ⟨s7, e7, b7, f7⟩ := x_copyRow (d := d + 13) (e := e + 13) (by omega) g7 k7 (by omega) (rowR_fr (rowR_fr (rowR_fr (rowR_fr (rowR_fr (rowR_fr a8 (f1 _ (by omega)) (f1 _ (by omega))) (f2 _ (by omega)) (f2 _ (by omega))) (f3 _ (by omega)) (f3 _ (by omega))) (f4 _ (by omega)) (f4 _ (by omega))) (f5 _ (by omega)) (f5 _ (by omega))) (f6 _ (by omega)) (f6 _ (by omega)))
  obtain ⟨s8, e8, b8, f8⟩ := x_copyRow (d := d + 15) (e := e + 15) (by omega) g8 k8 (by omega) (rowR_fr (rowR_fr (rowR_fr (rowR_fr (rowR_fr (rowR_fr (rowR_fr a9 (f1 _ (by omega)) (f1 _ (by omega))) (f2 _ (by omega)) (f2 _ (by omega))) (f3 _ (by omega)) (f3 _ (by omega))) (f4 _ (by omega)) (f4 _ (by omega))) (f5 _ (by omega)) (f5 _ (by omega))) (f6 _ (by omega)) (f6 _ (by omega))) (f7 _ (by omega)) (f7 _ (by omega)))
  obtain ⟨s9, e9, b9, f9⟩ := x_copyRow (d := d + 17) (e := e + 17) (by omega) g9 k9 (by omega) (rowR_fr (rowR_fr (rowR_fr (rowR_fr (rowR_fr (rowR_fr (rowR_fr (rowR_fr a10 (f1 _ (by omega)) (f1 _ (by omega))) (f2 _ (by omega)) (f2 _ (by omega))) (f3 _ (by omega)) (f3 _ (by omega))) (f4 _ (by omega)) (f4 _ (by omega))) (f5 _ (by omega)) (f5 _ (by omega))) (f6 _ (by omega)) (f6 _ (by omega))) (f7 _ (by omega)) (f7 _ (by omega))) (f8 _ (by omega)) (f8 _ (by omega)))
  obtain ⟨s10, e10, b10, f10⟩ := x_copyRow (d := d + 19) (e := e + 19) (by omega) g10 k10 (by omega) (rowR_fr (rowR_fr (rowR_fr (rowR_fr (rowR_fr (rowR_fr (rowR_fr (rowR_fr (rowR_fr a11 (f1 _ (by omega)) (f1 _ (by omega))) (f2 _ (by omega)) (f2 _ (by omega))) (f3 _ (by omega)) (f3 _ (by omega))) (f4 _ (by omega)) (f4 _ (by omega))) (f5 _ (by omega)) (f5 _ (by omega))) (f6 _ (by omega)) (f6 _ (by omega))) (f7 _ (by omega)) (f7 _ (by omega))) (f8 _ (by omega)) (f8 _ (by omega))) (f9 _ (by omega)) (f9 _ (by omega)))
  obtain ⟨s11, e11, b11, f11⟩ := x_copyRow (d := d + 21) (e := e + 21) (by omega) g11 k11 (by omega) (rowR_fr (rowR_fr (rowR_fr (rowR_fr (rowR_fr (rowR_fr (rowR_fr (rowR_fr (rowR_fr (rowR_fr a12 (f1 _ (by omega)) (f1 _ (by omega))) (f2 _ (by omega)) (f2 _ (by omega))) (f3 _ (by omega)) (f3 _ (by omega))) (f4 _ (by omega)) (f4 _ (by omega))) (f5 _ (by omega)) (f5 _ (by omega))) (f6 _ (by omega)) (f6 _ (by omega))) (f7 _ (by omega)) (f7 _ (by omega))) (f8 _ (by omega)) (f8 _ (by omega))) (f9 _ (by omega)) (f9 _ (by omega))) (f10 _ (by omega)) (f10 _ (by omega)))
  obtain ⟨s12, e12, b12, f12⟩ := x_copyRow (d := d + 23) (e := e + 23) (by omega) g12 k12 (by omega) (rowR_fr (rowR_fr (rowR_fr (rowR_fr (rowR_fr (rowR_fr (rowR_fr (rowR_fr (rowR_fr (rowR_fr (rowR_fr a13 (f1 _ (by omega)) (f1 _ (by omega))) (f2 _ (by omega)) (f2 _ (by omega))) (f3 _ (by omega)) (f3 _ (by omega))) (f4 _ (by omega)) (f4 _ (by omega))) (f5 _ (by omega)) (f5 _ (by omega))) (f6 _ (by omega)) (f6 _ (by omega))) (f7 _ (by omega)) (f7 _ (by omega))) (f8 _ (by omega)) (f8 _ (by omega))) (f9 _ (by omega)) (f9 _ (by omega))) (f10 _ (by omega)) (f10 _ (by omega))) (f11 _ (by omega)) (f11 _ (by omega)))
  simp only [e1, e2, e3, e4, e5, e6, e7, e8, e9, e10, e11, e12, Option.bind_some]
  refine ⟨s12, rfl, ⟨(rowR_fr (rowR_fr (rowR_fr (rowR_fr (rowR_fr (rowR_fr (rowR_fr (rowR_fr (rowR_fr (rowR_fr (rowR_fr b1 (f2 _ (by omega)) (f2 _ (by omega))) (f3 _ (by omega)) (f3 _ (by omega))) (f4 _ (by omega)) (f4 _ (by omega))) (f5 _ (by omega)) (f5 _ (by omega))) (f6 _ (by omega)) (f6 _ (by omega))) (f7 _ (by omega)) (f7 _ (by omega))) (f8 _ (by omega)) (f8 _ (by omega))) (f9 _ (by omega)) (f9 _ (by omega))) (f10 _ (by omega)) (f10 _ (by omega))) (f11 _ (by omega)) (f11 _ (by omega))) (f12 _ (by omega)) (f12 _ (by omega))), ⟨(rowR_fr (rowR_fr (rowR_fr (rowR_fr (rowR_fr (rowR_fr (rowR_fr (rowR_fr (rowR_fr (rowR_fr b2 (f3 _ (by omega)) (f3 _ (by omega))) (f4 _ (by omega)) (f4 _ (by omega))) (f5 _ (by omega)) (f5 _ (by omega))) (f6 _ (by omega)) (f6 _ (by omega))) (f7 _ (by omega)) (f7 _ (by omega))) (f8 _ (by omega)) (f8 _ (by omega))) (f9 _ (by omega)) (f9 _ (by omega))) (f10 _ (by omega)) (f10 _ (by omega))) (f11 _ (by omega)) (f11 _ (by omega))) (f12 _ (by omega)) (f12 _ (by omega))), (rowR_fr (rowR_fr (rowR_fr (rowR_fr (rowR_fr (rowR_fr (rowR_fr (rowR_fr (rowR_fr b3 (f4 _ (by omega)) (f4 _ (by omega))) (f5 _ (by omega)) (f5 _ (by omega))) (f6 _ (by omega)) (f6 _ (by omega))) (f7 _ (by omega)) (f7 _ (by omega))) (f8 _ (by omega)) (f8 _ (by omega))) (f9 _ (by omega)) (f9 _ (by omega))) (f10 _ (by omega)) (f10 _ (by omega))) (f11 _ (by omega)) (f11 _ (by omega))) (f12 _ (by omega)) (f12 _ (by omega))), (rowR_fr (rowR_fr (rowR_fr (rowR_fr (rowR_fr (rowR_fr (rowR_fr (rowR_fr b4 (f5 _ (by omega)) (f5 _ (by omega))) (f6 _ (by omega)) (f6 _ (by omega))) (f7 _ (by omega)) (f7 _ (by omega))) (f8 _ (by omega)) (f8 _ (by omega))) (f9 _ (by omega)) (f9 _ (by omega))) (f10 _ (by omega)) (f10 _ (by omega))) (f11 _ (by omega)) (f11 _ (by omega))) (f12 _ (by omega)) (f12 _ (by omega))), a5⟩, ⟨(rowR_fr (rowR_fr (rowR_fr (rowR_fr (rowR_fr (rowR_fr (rowR_fr b5 (f6 _ (by omega)) (f6 _ (by omega))) (f7 _ (by omega)) (f7 _ (by omega))) (f8 _ (by omega)) (f8 _ (by omega))) (f9 _ (by omega)) (f9 _ (by omega))) (f10 _ (by omega)) (f10 _ (by omega))) (f11 _ (by omega)) (f11 _ (by omega))) (f12 _ (by omega)) (f12 _ (by omega))), (rowR_fr (rowR_fr (rowR_fr (rowR_fr (rowR_fr (rowR_fr b6 (f7 _ (by omega)) (f7 _ (by omega))) (f8 _ (by omega)) (f8 _ (by omega))) (f9 _ (by omega)) (f9 _ (by omega))) (f10 _ (by omega)) (f10 _ (by omega))) (f11 _ (by omega)) (f11 _ (by omega))) (f12 _ (by omega)) (f12 _ (by omega))), (rowR_fr (rowR_fr (rowR_fr (rowR_fr (rowR_fr b7 (f8 _ (by omega)) (f8 _ (by omega))) (f9 _ (by omega)) (f9 _ (by omega))) (f10 _ (by omega)) (f10 _ (by omega))) (f11 _ (by omega)) (f11 _ (by omega))) (f12 _ (by omega)) (f12 _ (by omega)))⟩, ⟨(rowR_fr (rowR_fr (rowR_fr (rowR_fr b8 (f9 _ (by omega)) (f9 _ (by omega))) (f10 _ (by omega)) (f10 _ (by omega))) (f11 _ (by omega)) (f11 _ (by omega))) (f12 _ (by omega)) (f12 _ (by omega))), (rowR_fr (rowR_fr (rowR_fr b9 (f10 _ (by omega)) (f10 _ (by omega))) (f11 _ (by omega)) (f11 _ (by omega))) (f12 _ (by omega)) (f12 _ (by omega)))⟩, (rowR_fr (rowR_fr b10 (f11 _ (by omega)) (f11 _ (by omega))) (f12 _ (by omega)) (f12 _ (by omega))), (rowR_fr b11 (f12 _ (by omega)) (f12 _ (by omega))), b12⟩, fun c hc => ?_⟩
  rw [f12 c (by omega), f11 c (by omega), f10 c (by omega), f9 c (by omega), f8 c (by omega), f7 c (by omega), f6 c (by omega), f5 c (by omega), f4 c (by omega), f3 c (by omega), f2 c (by omega), f1 c (by omega)]
theorem c600 (σ : Mem) (a b : Nat) : cpy 600 600 σ a 0 b 0 600 = some (cpM σ a 0 b 0 600) := by
  rw [show (600 : Int32) = Int32.ofNat 600 from rfl]
  exact cpy_eq (Nat.le_refl _) (Nat.le_refl _) (by decide)
theorem x_copyWorld {n : Nat} {s m : Mem} {d e : Nat} (hde : (d = 58 ∧ e = 1) ∨ (d = 1 ∧ e = 58)) (h : WR n e s m) : ∃ s', f_X10_copyFrom d e s = some s' ∧ WR n d s' m ∧ (∀ c, (c ≤ d ∨ d + 56 < c) → s' c = s c) ∧ s' (d + 1) 0 = s (d + 1) 0 := by
  obtain ⟨⟨hn, ⟨hR, hB, hC, hm⟩, h6⟩, ⟨w1, w2, w3, w4⟩, hr, hb⟩ := h
  have hde' : d + 56 < e ∨ e + 56 < d := by omega
  unfold f_X10_copyFrom
  obtain ⟨s1, e1, f1, z1, b1⟩ := nR_copy (d := d + 1) (e := e + 1) (by omega) hn hR
  have w1' := lawR_eq w1 (s' := s1) (L' := e + 9) (fun j hj => f1 _ (by omega)) (fun _ _ _ => rfl)
  obtain ⟨s2, e2, b2, f2⟩ := x_copyLaw (d := d + 9) (e := e + 9) (by omega) w1'
  obtain ⟨s3, e3, p0, pf, f3⟩ := x_copyPlan (s := s2) (d := d + 16) (e := e + 16) (by omega)
  obtain ⟨s4, e4, r0, rf, f4⟩ := x_copyPlan (s := s3) (d := d + 21) (e := e + 21) (by omega)
  have w2' := ordR_eq w2 (s' := s4) (L' := e + 26) (fun j hj => by rw [f4 _ (by omega), f3 _ (by omega), f2 _ (by omega), f1 _ (by omega)]) rfl rfl rfl
  obtain ⟨s5, e5, b5, f5⟩ := x_copyOrd (d := d + 26) (e := e + 26) (by omega) w2'
  have hr' := rowsR_eq hr (s' := s5) (r' := e + 31) (m' := m) (fun j q1 q2 => by rw [f5 _ (by omega), f4 _ (by omega), f3 _ (by omega), f2 _ (by omega), f1 _ (by omega)]) ⟨rfl, rfl, rfl, rfl, rfl, rfl⟩ (fun _ _ => rfl) (fun _ _ => ⟨rfl, rfl, rfl⟩) (fun _ _ => ⟨rfl, rfl, rfl⟩) ⟨rfl, rfl⟩ (fun _ _ => rfl) (fun _ _ => rfl) (fun _ _ => rfl) (fun _ _ => rfl)
  obtain ⟨s6, e6, b6, f6⟩ := x_copyRows (d := d + 31) (e := e + 31) (by omega) hr'
  have e7 := c600 s6 (e + 56) (d + 56)
  rw [e1, Option.bind_some]
  rw [e2, Option.bind_some]
  rw [e3, Option.bind_some]
  rw [e4, Option.bind_some]
  rw [e5, Option.bind_some]
  rw [e6, Option.bind_some]
  rw [e7, Option.bind_some]
  have w3' : planT n s3 (d + 16) m := planT_cp (planT_eq w3 (s' := s2) (L' := e + 16) (fun j hj => by rw [f2 _ (by omega), f1 _ (by omega)]) rfl rfl) p0 pf
  have w4' : planC n s4 (d + 21) m := planC_cp (planC_eq w4 (s' := s3) (L' := e + 21) (fun j hj => by rw [f3 _ (by omega), f2 _ (by omega), f1 _ (by omega)]) rfl rfl) r0 rf
  refine ⟨_, rfl, ⟨⟨hn, ⟨nR_eq b1 (fun f hf => ?_) (fun _ _ => rfl) hn, hB, hC, hm⟩, h6⟩, ⟨lawR_eq b2 (fun j hj => ?_) (fun _ _ _ => rfl), ordR_eq b5 (fun j hj => ?_) rfl rfl rfl, planT_eq w3' (fun j hj => ?_) rfl rfl, planC_eq w4' (fun j hj => ?_) rfl rfl⟩, rowsR_eq b6 (fun j q1 q2 => ?_) ⟨rfl, rfl, rfl, rfl, rfl, rfl⟩ (fun _ _ => rfl) (fun _ _ => ⟨rfl, rfl, rfl⟩) (fun _ _ => ⟨rfl, rfl, rfl⟩) ⟨rfl, rfl⟩ (fun _ _ => rfl) (fun _ _ => rfl) (fun _ _ => rfl) (fun _ _ => rfl), fun i hi => ?_⟩, fun c hc => ?_, ?_⟩
  · rw [cpM_ne (by omega), f6 _ (by omega), f5 _ (by omega), f4 _ (by omega), f3 _ (by omega), f2 _ (by omega)]
  · rw [cpM_ne (by omega), f6 _ (by omega), f5 _ (by omega), f4 _ (by omega), f3 _ (by omega)]
  · rw [cpM_ne (by omega), f6 _ (by omega)]
  · rw [cpM_ne (by omega), f6 _ (by omega), f5 _ (by omega), f4 _ (by omega)]
  · rw [cpM_ne (by omega), f6 _ (by omega), f5 _ (by omega)]
  · rw [cpM_ne (by omega)]
  · rw [cpM_all hi, f6 _ (by omega), f5 _ (by omega), f4 _ (by omega), f3 _ (by omega), f2 _ (by omega), f1 _ (by omega)]
    exact hb i hi
  · rw [cpM_ne (by omega), f6 _ (by omega), f5 _ (by omega), f4 _ (by omega), f3 _ (by omega), f2 _ (by omega), f1 _ (by omega)]
  · rw [cpM_ne (by omega), f6 _ (by omega), f5 _ (by omega), f4 _ (by omega), f3 _ (by omega), f2 _ (by omega)]
    exact z1
