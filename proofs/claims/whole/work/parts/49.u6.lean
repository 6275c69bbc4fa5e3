/-! ===== ROWS: a line, all of them ===== -/
section U6
variable {K s0 t0 : Mem} {T n : Nat}
theorem nmR_eq {s s' m m' : Mem} {k p kk : Nat} {nm : Nat → Nat} (h : nmR n s 190 m k p kk nm) (h17 : m' 17 p = m 17 p) (h18 : ∀ i, i < 6 → m' 18 (6 * p + i) = m 18 (6 * p + i)) (h1 : ∀ l, l < k → s' 191 l = s 191 l) (h2 : ∀ l, l < k → s' 192 l = s 192 l) (h3 : ∀ x, x < 6 * k → s' 193 x = s 193 x) : nmR n s' 190 m' k p kk nm := by
  obtain ⟨a1, a2, a3, a4⟩ := h
  refine ⟨a1, h17.trans a2, fun i hi => ⟨(a3 i hi).1, by rw [h18 i (by omega)]; exact (a3 i hi).2⟩, ?_⟩
  rcases a4 with ⟨b1, b2⟩ | ⟨l, b1, b2, b3, b4, b5⟩
  · exact Or.inl ⟨b1, fun l hl => by rw [show s' (190 + 1) l = s (190 + 1) l from h1 l hl]; exact b2 l hl⟩
  · refine Or.inr ⟨l, b1, by rw [show s' (190 + 1) l = s (190 + 1) l from h1 l b1]; exact b2, fun l' q1 q2 => by rw [show s' (190 + 1) l' = s (190 + 1) l' from h1 l' q2]; exact b3 l' q1 q2, by rw [show s' (190 + 2) l = s (190 + 2) l from h2 l b1]; exact b4, fun i hi => ?_⟩
    rw [show s' (190 + 3) (6 * l + i) = s (190 + 3) (6 * l + i) from h3 _ (by omega)]
    exact b5 i hi
/-- one more line: of another PERSON -/
theorem nmR_more {s m : Mem} {k p kk : Nat} {nm : Nat → Nat} (h : nmR n s 190 m k p kk nm) (h1 : s 191 k ≠ Int32.ofNat p) : nmR n s 190 m (k + 1) p kk nm := by
  obtain ⟨a1, a2, a3, a4⟩ := h
  refine ⟨a1, a2, a3, ?_⟩
  rcases a4 with ⟨b1, b2⟩ | ⟨l, b1, b2, b3, b4, b5⟩
  · refine Or.inl ⟨b1, fun l hl => ?_⟩
    by_cases q : l = k
    · rw [q]; exact h1
    · exact b2 l (by omega)
  · refine Or.inr ⟨l, by omega, b2, fun l' q1 q2 => ?_, b4, b5⟩
    by_cases q : l' = k
    · rw [q]; exact h1
    · exact b3 l' q1 (by omega)
def namI (K : Mem) (T n : Nat) (s0 t0 : Mem) (k p : Nat) (s t : Mem) (i : Nat) (s' t' : Mem) : Prop :=
  i ≤ 6 ∧ (∃ j, pS K T s0 t0 j s' t') ∧ s' 190 = s 190 ∧ s' 191 = s 191 ∧ s' 192 k = Int32.ofNat i ∧ (∀ l, l < k → s' 192 l = s 192 l) ∧ (∀ x, x < 6 * k → s' 193 x = s 193 x) ∧ (∀ c, c ≠ 0 → c ≠ 18 → t' c = t c) ∧ (∀ x, x < 84 + 6 * p ∨ 84 + 6 * p + 6 ≤ x → t' 18 x = t 18 x) ∧
  ∃ nm : Nat → Nat, ∀ i', i' < i → nm i' < n ∧ s' 193 (6 * k + i') = Int32.ofNat (nm i') ∧ t' 18 (84 + 6 * p + i') = Int32.ofNat (nm i')
theorem r_names {s t : Mem} {j k p : Nat} (hn : n ≤ 14) (h172 : s0 172 3 = Int32.ofNat n) (h6 : t0 0 6 = Int32.ofNat n) (hk : k < 16) (hp : p < 14) (h : pS K T s0 t0 j s t) (h190 : s 190 0 = Int32.ofNat k) (h192 : s 192 k = 0) :
    ok2 (it FUEL (fun y => st_X4_readOrdersLine_39 (Int32.ofNat p) y.1 y.2) (0, s)) (it FUEL (fun y => st_X12_readRow_42 (Int32.ofNat p) y.1 y.2) (0, t))
      (fun b b' => (b.1 = 0 ∧ b'.1 = 0 ∧ badR s0 t0 b.2 b'.2.2.2) ∨ (b.1 = 1 ∧ b'.1 = 1 ∧ ∃ s' t', f_X4_fail 3 b.2 = some (0, s') ∧ mset (mset b'.2.2.2 0 28 b'.2.2.1) 0 27 3 = t' ∧ badR s0 t0 s' t') ∨ (b.1 = 2 ∧ b'.1 = 2 ∧ ∃ i, b'.2.1 = Int32.ofNat i ∧ namI K T n s0 t0 k p s t i b.2 b'.2.2.2)) := by
  refine it_ok2 7 (by omega) (fun i y z => i ≤ 6 ∧ ∃ s' t', y = (Int32.ofNat i, s') ∧ z = (Int32.ofNat i, t') ∧ namI K T n s0 t0 k p s t i s' t') ⟨by omega, s, t, rfl, rfl, by omega, ⟨j, h⟩, rfl, rfl, h192, fun _ _ => rfl, fun _ _ => rfl, fun _ _ _ => rfl, fun _ _ => rfl, fun _ => 0, fun i' hi' => by omega⟩ (fun k y z q => by omega) ?_
  rintro i y z ⟨hi, s', t', rfl, rfl, hI⟩
  have hI' := hI
  obtain ⟨-, ⟨j', hS⟩, q1, q2, q3, q4, q5, q6, q7, nm, q8⟩ := hI
  dsimp only
  unfold st_X4_readOrdersLine_39 st_X12_readRow_42
  have main : ok2 (jn_X4_readOrdersLine_60 (Int32.ofNat p) (Int32.ofNat i) s') (jn_X12_readRow_54 (Int32.ofNat p) (Int32.ofNat i) t') (fun q q' => (∃ s'' t'', q = Sum.inl s'' ∧ q' = Sum.inl t'' ∧ i + 1 ≤ 6 ∧ ∃ s3 t3, s'' = (Int32.ofNat (i + 1), s3) ∧ t'' = (Int32.ofNat (i + 1), t3) ∧ namI K T n s0 t0 k p s t (i + 1) s3 t3) ∨
      ∃ b b', q = Sum.inr b ∧ q' = Sum.inr b' ∧ ((b.1 = 0 ∧ b'.1 = 0 ∧ badR s0 t0 b.2 b'.2.2.2) ∨ (b.1 = 1 ∧ b'.1 = 1 ∧ ∃ s' t', f_X4_fail 3 b.2 = some (0, s') ∧ mset (mset b'.2.2.2 0 28 b'.2.2.1) 0 27 3 = t' ∧ badR s0 t0 s' t') ∨ (b.1 = 2 ∧ b'.1 = 2 ∧ ∃ i, b'.2.1 = Int32.ofNat i ∧ namI K T n s0 t0 k p s t i b.2 b'.2.2.2))) := by
    unfold jn_X4_readOrdersLine_60 jn_X12_readRow_54
    rcases r_isP hS hn (by rw [hS.2.2.1.2]; exact h172) (by rw [hS.2.2.2.2.1 6 (by omega)]; exact h6) hp with ⟨s2, t2, e1, e2, e3⟩ | ⟨v, s2, t2, hv, hvp, e1, e2, e3, e4, e5, e6, e7, e8⟩
    · rw [e1, e2]
      dsimp only [Option.bind_some]
      rw [if_pos rfl, if_pos rfl]
      exact ok2.some (Or.inr ⟨_, _, rfl, rfl, Or.inl ⟨rfl, rfl, e3⟩⟩)
    · rw [e1, e5]
      dsimp only [Option.bind_some]
      rw [if_neg (by decide), if_neg (N_nn (show v < 10000 by omega))]
      by_cases i6 : i = 6
      · subst i6
        rw [if_pos (by decide), if_pos (by decide)]
        obtain ⟨s3, t3, f1, f2, f3⟩ := p_fail hS 3
        refine ok2.some (Or.inr ⟨_, _, rfl, rfl, Or.inr (Or.inl ⟨rfl, rfl, s3, _, f1, rfl, ?_⟩)⟩)
        rw [x_fail] at f1
        have f1' := (Prod.mk.inj (Option.some.inj f1)).2
        subst f1'
        refine ⟨f3.1, ?_, ?_, ?_, f3.2.2.2.2⟩
        · obtain ⟨a1, a2, a3, a4, a5, a6, a7, a8⟩ := e6.2.2.2
          refine ⟨fun c z1 z2 => ?_, fun l hl => ?_, ?_, ?_, ?_, ?_, ?_, ?_⟩
          · rw [m_ne z1, m_ne z1]; exact a1 c z1 z2
          · rw [m_eq, u_ne (by omega), m_eq, u_ne (by omega)]; exact a2 l hl
          · simp (disch := omega) only [m_ne]; exact a3
          · simp (disch := omega) only [m_ne]; exact a4
          · simp (disch := omega) only [m_ne]; exact a5
          · simp (disch := omega) only [m_ne]; exact a6
          · simp (disch := omega) only [m_ne]; exact a7
          · simp (disch := omega) only [m_ne]; exact a8
        · rw [m_eq, u_ne (by omega), m_eq, u_eq, m_eq, u_eq]
        · rw [m_eq, u_eq, m_eq, u_ne (by omega), m_eq, u_eq, hS.1.2.2.2.2.2.1, hS.2.1.2.2.2.1]
      · rw [if_neg (by rw [N_eqL (by omega) (by omega)]; exact i6), if_neg (by rw [N_eqL (by omega) (by omega)]; exact i6), e2]
        unfold f_X3_addName
        have hc : s' 190 0 = Int32.ofNat k := by rw [q1]; exact h190
        have h192e : s' (190 + 2) k = Int32.ofNat i := q3
        rw [hc, if_neg (by rw [L_leN (by omega) (by omega)]; omega), rd_N hk (by omega), h192e]
        dsimp only [Option.bind_some]
        rw [if_neg (by rw [L_leN (by omega) (by omega)]; omega), N_mulL, N_add, wr_N (by omega) (by omega)]
        dsimp only [Option.bind_some]
        rw [m_ne (show (190 : Nat) + 2 ≠ 190 + 3 by omega), m_ne (show (190 : Nat) ≠ 190 + 3 by omega), hc, rd_N hk (by omega), h192e]
        dsimp only [Option.bind_some]
        rw [wr_N hk (by omega), N_addL]
        dsimp only [Option.bind_some]
        have hS2 : pS K T s0 t0 j' (mset (mset s' (190 + 3) (k * 6 + i) (Int32.ofNat v)) (190 + 2) k (Int32.ofNat (i + 1))) t' := pS_x hS (fun c hc => by rw [m_ne (by omega), m_ne (by omega)])
        have hj'lt := cur_lt hS.2.1 e3
        have hT := hS.2.1.1
        obtain ⟨s3, g1, g2, g3⟩ := x_next hS2.1 hj'lt hT.1 hT.2.2.1 hT.2.2.2.1
        rw [g1]
        dsimp only [Option.bind_some]
        have eidx : (6 * (14 + Int32.ofNat p)) + Int32.ofNat i = Int32.ofNat (84 + 6 * p + i) := by
          rw [L_addN, L_mulN, N_add]
          congr 1
          omega
        rw [eidx, wr_N (by omega) (by omega)]
        dsimp only [Option.bind_some]
        have hS3 : pS K T s0 t0 (j' + 1) s3 t2 := ⟨g2, e6.2.1, ⟨fun c z1 z2 z3 => by rw [g3 c z2, m_ne (by omega), m_ne (by omega)]; exact hS.2.2.1.1 c z1 z2 z3, by rw [g3 172 (by omega), m_ne (by omega), m_ne (by omega)]; exact hS.2.2.1.2⟩, e6.2.2.2⟩
        have hS4 : pS K T s0 t0 (j' + 1) s3 (mset t2 18 (84 + 6 * p + i) (Int32.ofNat v)) := pS_m hS3 (by omega)
        refine ok2.some (Or.inl ⟨_, _, rfl, rfl, by omega, s3, _, rfl, rfl, by omega, ⟨_, hS4⟩, ?_, ?_, ?_, fun l hl => ?_, fun x hx => ?_, fun c z1 z2 => ?_, fun x hx => ?_, fun z => if z = i then v else nm z, fun i' hi' => ?_⟩)
        · rw [g3 190 (by omega), m_ne (by omega), m_ne (by omega)]; exact q1
        · rw [g3 191 (by omega), m_ne (by omega), m_ne (by omega)]; exact q2
        · rw [g3 192 (by omega), m_eq, u_eq]
        · rw [g3 192 (by omega), m_eq, u_ne (by omega), m_ne (by omega)]; exact q4 l hl
        · rw [g3 193 (by omega), m_ne (by omega), m_eq, u_ne (by omega)]; exact q5 x hx
        · rw [m_ne z2, e8 c z1]; exact q6 c z1 z2
        · rw [m_eq, u_ne (by omega), e8 18 (by omega)]; exact q7 x hx
        · rw [g3 193 (by omega), m_ne (by omega), m_eq, m_eq, e8 18 (by omega)]
          dsimp only
          by_cases z : i' = i
          · subst z
            rw [if_pos rfl, show k * 6 + i' = 6 * k + i' by omega, u_eq, u_eq]
            exact ⟨by omega, rfl, rfl⟩
          · rw [if_neg z, u_ne (by omega), u_ne (by omega)]
            exact q8 i' (by omega)
  by_cases i0 : i = 0
  · rw [if_pos (by rw [i0]; rfl), if_pos (by rw [i0]; rfl)]
    exact main
  · have z0 : ¬ Int32.ofNat i = 0 := by rw [N_eqL (by omega) (by omega)]; exact i0
    have z6 : ¬ 6 < Int32.ofNat i := by rw [L_ltN (by omega) (by omega)]; omega
    simp only [if_neg z0, if_neg z6]
    rw [hS.1.2.2.2.1, hS.2.1.2.2.2.2.1]
    by_cases k3 : K j' 0 = 3
    · rw [if_pos (ckd_2.mpr k3), if_pos k3]
      exact main
    · rw [if_neg (fun z => k3 (ckd_2.mp z)), if_neg k3]
      exact ok2.some (Or.inr ⟨_, _, rfl, rfl, Or.inr (Or.inr ⟨rfl, rfl, i, rfl, hI'⟩)⟩)
theorem r_rowLine {s t : Mem} {j k : Nat} (h : pS K T s0 t0 j s t) (hn : n ≤ 14) (h172 : s0 172 3 = Int32.ofNat n) (h6 : t0 0 6 = Int32.ofNat n) (hk : k < 16) (hw : isW K j 16) (hP : plR n k s t) :
    ok2 (f_X4_readOrdersLine s) (f_X12_readRow t) (linR K T s0 t0 (plR n (k + 1))) := by
  have k0 : K j 0 ≠ 0 := by rw [hw.1]; decide
  unfold f_X4_readOrdersLine f_X12_readRow f_X12_readTold
  obtain ⟨s1, t1, c1, c2, c3, c4, c5⟩ := p_next h k0
  rw [c1, m_isW 16 16 rfl h.2.1, if_pos hw]
  dsimp only [Option.bind_some]
  rw [if_neg (by decide), c2]
  dsimp only [Option.bind_some]
  rw [show t 0 6 = Int32.ofNat n by rw [h.2.2.2.2.1 6 (by omega)]; exact h6]
  obtain ⟨⟨v, s2⟩, ⟨v', t2⟩, b1, b2, b3⟩ := r_person0 (n := n) c3 hn (by rw [c3.2.2.1.2]; exact h172)
  rw [b1, b2]
  dsimp only [Option.bind_some]
  rcases b3 with ⟨z1, z2, z3⟩ | ⟨p, hp, hpn, z1, z2, z3, z4, z5⟩
  · dsimp only at z1 z2 z3
    subst z1 z2
    rw [if_pos rfl, if_pos rfl]
    exact ok2.some (Or.inl ⟨rfl, rfl, z3⟩)
  · dsimp only at z1 z2 z3 z4 z5
    subst z1 z2
    rw [if_neg (N_nn hp), if_neg (N_nn hp)]
    unfold f_X4_takeWord
    rw [x_isW 22 22 (by omega) (by decide) z3.1 z3.2.1, m_isW 22 22 rfl z3.2.1]
    dsimp only [Option.bind_some]
    by_cases w22 : isW K (j + 1 + 1) 22
    · rw [if_pos w22, if_neg (by decide), if_neg (by decide)]
      obtain ⟨s3, t3, d1, d2, d3, d4, d5⟩ := p_next z3 (by rw [w22.1]; decide)
      rw [d1, d2]
      dsimp only [Option.bind_some]
      rw [if_neg (by decide)]
      have same : ∀ c, c ≠ 173 → s3 c = s c := fun c q => by rw [d4 c q, z4 c q, c4 c q]
      have tame : ∀ c, c ≠ 0 → t3 c = t c := fun c q => by rw [d5 c q, z5 c q, c5 c q]
      have hc3 : s3 190 0 = Int32.ofNat k := by rw [same 190 (by omega)]; exact hP.1
      unfold f_X3_beginLine
      rw [hc3, if_neg (by rw [L_leN (by omega) (by omega)]; omega), wr_N hk (by omega)]
      dsimp only [Option.bind_some]
      rw [m_ne (by omega), hc3, wr_N hk (by omega)]
      dsimp only [Option.bind_some]
      have hS4 : pS K T s0 t0 (j + 1 + 1 + 1) (mset (mset s3 (190 + 1) k (Int32.ofNat p)) (190 + 2) k 0) t3 := pS_x d3 (fun c hc => by rw [m_ne (by omega), m_ne (by omega)])
      have e190 : (mset (mset s3 (190 + 1) k (Int32.ofNat p)) (190 + 2) k 0) 190 = s 190 := by rw [m_ne (by omega), m_ne (by omega), same 190 (by omega)]
      have e191 : ∀ l, (mset (mset s3 (190 + 1) k (Int32.ofNat p)) (190 + 2) k 0) 191 l = if l = k then Int32.ofNat p else s 191 l := by
        intro l
        rw [m_ne (by omega), m_eq]
        by_cases q : l = k
        · rw [q, u_eq, if_pos rfl]
        · rw [u_ne q, if_neg q, same 191 (by omega)]
      have e192 : ∀ l, (mset (mset s3 (190 + 1) k (Int32.ofNat p)) (190 + 2) k 0) 192 l = if l = k then 0 else s 192 l := by
        intro l
        rw [m_eq, m_ne (by omega)]
        by_cases q : l = k
        · rw [q, u_eq, if_pos rfl]
        · rw [u_ne q, if_neg q, same 192 (by omega)]
      have e193 : (mset (mset s3 (190 + 1) k (Int32.ofNat p)) (190 + 2) k 0) 193 = s 193 := by rw [m_ne (by omega), m_ne (by omega), same 193 (by omega)]
      generalize mset (mset s3 (190 + 1) k (Int32.ofNat p)) (190 + 2) k 0 = s4 at *
      obtain ⟨⟨d, s5⟩, ⟨d', x', y', t5⟩, i1, i2, i3⟩ := r_names (k := k) (p := p) hn h172 h6 hk (by omega) hS4 (by rw [e190]; exact hP.1) (by rw [e192, if_pos rfl])
      rw [i1, i2]
      dsimp only [Option.bind_some]
      rcases i3 with ⟨g1, g2, g3⟩ | ⟨g1, g2, s6, t6, g3, g4, g5⟩ | ⟨g1, g2, i, g3, g4⟩
      · dsimp only at g1 g2 g3
        subst g1 g2
        rw [if_pos rfl, if_pos rfl]
        exact ok2.some (Or.inl ⟨rfl, rfl, g3⟩)
      · dsimp only at g1 g2 g3 g4
        subst g1 g2
        rw [if_neg (by decide), if_pos rfl, if_neg (by decide), if_pos rfl, g3, g4]
        dsimp only [Option.bind_some]
        rw [if_neg (by decide)]
        exact ok2.some (Or.inl ⟨rfl, rfl, g5⟩)
      · dsimp only at g1 g2 g3 g4
        subst g1 g2 g3
        obtain ⟨hi, ⟨j5, hS5⟩, q1, q2, q3, q4, q5, q6, q7, nm, q8⟩ := g4
        rw [if_neg (by decide), if_neg (by decide), if_neg (by decide), if_neg (by decide)]
        unfold jn_X4_readOrdersLine_109 f_X3_endLine
        have hc5 : s5 190 0 = Int32.ofNat k := by rw [q1, e190]; exact hP.1
        rw [hc5, if_neg (by rw [L_leN (by omega) (by omega)]; omega), N_addL, L_addN, wr_N (by omega) (by omega)]
        dsimp only [Option.bind_some]
        have hS6 : pS K T s0 t0 j5 (mset s5 190 0 (Int32.ofNat (k + 1))) (mset t5 17 (14 + p) (Int32.ofNat i)) := pS_m (pS_x hS5 (fun c hc => m_ne (by omega))) (by omega)
        obtain ⟨⟨w, s7⟩, ⟨w', t7⟩, l1, l2, l3⟩ := r_mark 59 hS6
        rw [l1, l2]
        dsimp only [Option.bind_some]
        rcases l3 with ⟨z1, z2, zc⟩ | ⟨z1, z2, zc, zd, ze⟩
        · dsimp only at z1 z2 zc
          subst z1 z2
          rw [if_neg (by decide)]
          exact ok2.some (Or.inl ⟨rfl, rfl, zc⟩)
        · dsimp only at z1 z2 zc zd ze
          subst z1 z2
          rw [if_neg (by decide)]
          refine ok2.some (Or.inr ⟨rfl, rfl, _, zc, ?_, fun pp hpp => ?_⟩)
          · show s7 190 0 = _
            rw [zd 190 (by omega), m_eq, u_eq]
          · show ∃ kk nm, nmR n s7 190 (shm t7) (k + 1) pp kk nm
            have u1 : ∀ l, l < k → s7 191 l = s 191 l := fun l hl => by rw [zd 191 (by omega), m_ne (by omega), q2, e191, if_neg (by omega)]
            have u1k : s7 191 k = Int32.ofNat p := by rw [zd 191 (by omega), m_ne (by omega), q2, e191, if_pos rfl]
            have u2 : ∀ l, l < k → s7 192 l = s 192 l := fun l hl => by rw [zd 192 (by omega), m_ne (by omega), q4 l hl, e192, if_neg (by omega)]
            have u2k : s7 192 k = Int32.ofNat i := by rw [zd 192 (by omega), m_ne (by omega), q3]
            have u3 : ∀ x, x < 6 * k → s7 193 x = s 193 x := fun x hx => by rw [zd 193 (by omega), m_ne (by omega), q5 x hx, e193]
            have u17 : ∀ l, t7 17 l = if l = 14 + p then Int32.ofNat i else t 17 l := by
              intro l
              rw [ze 17 (by omega), m_eq]
              by_cases q : l = 14 + p
              · rw [q, u_eq, if_pos rfl]
              · rw [u_ne q, if_neg q, q6 17 (by omega) (by omega), tame 17 (by omega)]
            have u18 : ∀ x, x < 84 + 6 * p ∨ 84 + 6 * p + 6 ≤ x → t7 18 x = t 18 x := fun x hx => by rw [ze 18 (by omega), m_ne (by omega), q7 x hx, tame 18 (by omega)]
            by_cases hpp2 : pp = p
            · subst hpp2
              refine ⟨i, nm, hi, by rw [shm_17, u17, if_pos rfl], fun i' hi' => ⟨(q8 i' hi').1, ?_⟩, Or.inr ⟨k, by omega, u1k, fun l' y1 y2 => by omega, u2k, fun i' hi' => ?_⟩⟩
              · rw [shm_18, ze 18 (by omega), m_ne (by omega), show 84 + (6 * pp + i') = 84 + 6 * pp + i' by omega]
                exact (q8 i' hi').2.2
              · show s7 193 _ = _
                rw [zd 193 (by omega), m_ne (by omega)]
                exact (q8 i' hi').2.1
            · obtain ⟨kk, nm2, hnm⟩ := hP.2 pp hpp
              refine ⟨kk, nm2, nmR_more (nmR_eq hnm ?_ (fun i' hi' => ?_) u1 u2 u3) ?_⟩
              · rw [shm_17, shm_17, u17, if_neg (by omega)]
              · rw [shm_18, shm_18, u18 _ (by omega)]
              · rw [u1k, ne_eq, N_eq (by omega) (by omega)]
                exact fun z => hpp2 z.symm
    · rw [if_neg w22, if_pos rfl, if_pos rfl]
      obtain ⟨s3, t3, g1, g2, g3⟩ := p_fail z3 1
      rw [g1, g2]
      dsimp only [Option.bind_some]
      rw [if_neg (by decide)]
      dsimp only [Option.bind_some]
      rw [if_pos rfl]
      exact ok2.some (Or.inl ⟨rfl, rfl, g3⟩)
theorem m_rows0 {t : Mem} : ok (it FUEL (fun y => st_X12_readRows_2 y.1 y.2) (0, t)) (fun r => (∀ c, c ≠ 17 → r c = t c) ∧ (∀ l, l < 14 → r 17 (14 + l) = 0) ∧ ∀ l, l < 14 → r 17 l = t 17 l) := by
  refine it_ok1 14 (by omega) (fun l y => ∃ t', y = (Int32.ofNat l, t') ∧ l ≤ 14 ∧ (∀ c, c ≠ 17 → t' c = t c) ∧ (∀ i, i < l → t' 17 (14 + i) = 0) ∧ ∀ i, i < 14 → t' 17 i = t 17 i) ⟨t, rfl, by omega, fun _ _ => rfl, fun i q => by omega, fun _ _ => rfl⟩ (fun l y q => by obtain ⟨_, _, q, _⟩ := q; exact q) ?_
  rintro l y ⟨t', rfl, hl, q1, q2, q3⟩
  dsimp only
  unfold st_X12_readRows_2
  by_cases h14 : l = 14
  · subst h14
    rw [if_pos (by decide)]
    exact Or.inr ⟨_, rfl, q1, q2, q3⟩
  · rw [if_neg (by rw [L_leN (by omega) (by omega)]; omega), L_addN, wr_N (by omega) (by omega), N_addL]
    refine Or.inl ⟨_, rfl, _, rfl, by omega, fun c hc => by rw [m_ne hc]; exact q1 c hc, fun i hi => ?_, fun i hi => by rw [m_eq, u_ne (by omega)]; exact q3 i hi⟩
    rw [m_eq]
    by_cases q : i = l
    · rw [q, u_eq]
    · rw [u_ne (by omega)]; exact q2 i (by omega)
/-- ROWS as they are taken over -/
def rowsQ (n : Nat) (s0 t0 : Mem) (r r' : Int32 × Mem) : Prop := (r.1 = -1 ∧ r'.1 = -1 ∧ badR s0 t0 r.2 r'.2) ∨ ∃ k, k ≤ 16 ∧ r.1 = Int32.ofNat k ∧ r'.1 = Int32.ofNat k ∧ tgY t0 r'.2 ∧ ∃ s', plR n k s' r'.2 ∧ (tgX s0 s' ∧ 0 ≤ s' 173 0 ∧ s' 172 1 = 0 ∧ s' 172 2 = -1) ∧ f_X3_copyFrom 27 190 s' = some r.2
theorem r_readRows {s t : Mem} {j : Nat} (h : pS K T s0 t0 j s t) (hn : n ≤ 14) (h172 : s0 172 3 = Int32.ofNat n) (h6 : t0 0 6 = Int32.ofNat n) : ok2 (f_X4_readOrders 27 s) (f_X12_readRows t) (rowsQ n s0 t0) := by
  obtain ⟨t1, a1, a2, a3, a4⟩ := m_rows0 (t := t)
  have h0 : pS K T s0 t0 j (mset s 190 0 0) t := pS_x h (fun c hc => m_ne (by omega))
  have h1 : pS K T s0 t0 j (mset s 190 0 0) t1 := by
    obtain ⟨b1, b2, b3, b4⟩ := h0
    refine ⟨b1, cuR_eq b2 (a2 5 (by omega)) (a2 6 (by omega)) (fun i _ _ => by rw [a2 0 (by omega)]), b3, ?_⟩
    obtain ⟨d1, d2, d3, d4, d5, d6, d7, d8⟩ := b4
    refine ⟨fun c z1 z2 => (a2 c (by omega)).trans (d1 c z1 z2), fun i hi => by rw [a2 0 (by omega)]; exact d2 i hi, ?_, ?_, ?_, ?_, fun i hi => (a4 i hi).trans (d7 i hi), ?_⟩
    · rw [a2 8 (by omega), a2 9 (by omega), a2 10 (by omega), a2 11 (by omega)]; exact d3
    · rw [a2 12 (by omega), a2 13 (by omega)]; exact d4
    · rw [a2 15 (by omega)]; exact d5
    · rw [a2 16 (by omega)]; exact d6
    · rw [a2 18 (by omega)]; exact d8
  obtain ⟨b, b', e1, e2, e3⟩ := r_lines (q := 16) (w := 16) (by omega) rfl (by decide) (plR n) f_X4_readOrdersLine (fun _ => f_X12_readRow) (fun k hk j s t g1 g2 g3 => r_rowLine g1 hn h172 h6 hk g2 g3) h1
    ⟨by rw [m_eq, u_eq]; rfl, fun p hp => ⟨0, fun _ => 0, by omega, by rw [shm_17, a3 p hp]; rfl, fun i hi => by omega, Or.inl ⟨rfl, fun l hl => by omega⟩⟩⟩
  have e1' : it FUEL (fun y => st_X4_readOrders_10 27 y.1 y.2) (0, mset s 190 0 0) = some b := e1
  have e2' : it FUEL (fun y => st_X12_readRows_26 y.1 y.2) (0, t1) = some b' := e2
  unfold f_X4_readOrders
  have e4 : f_X12_readRows t = finT b' := by
    unfold f_X12_readRows
    rw [a1]
    dsimp only [Option.bind_some]
    rw [e2']
    rfl
  rw [e1', e4]
  dsimp only [Option.bind_some]
  rcases e3 with ⟨z1, t', z2, z3⟩ | ⟨z1, k, t', hk, z2, z3, z4, z5⟩
  · rw [if_pos z1, z2]
    exact ok2.some (Or.inl ⟨rfl, rfl, z3⟩)
  · rw [if_neg (by rw [z1]; decide), z2]
    unfold jn_X4_readOrders_58
    have hO : ordR n b.2 190 (mset (shm t') 0 35 (Int32.ofNat k)) := by
      refine ⟨k, hk, z3.1, by rw [m_eq, u_eq], fun p hp => ?_⟩
      obtain ⟨kk, nm, hnm⟩ := z3.2 p hp
      refine ⟨kk, nm, ?_⟩
      unfold nmR
      rw [m_ne (by omega), m_ne (by omega)]
      exact hnm
    obtain ⟨s3, f1, f2, f3⟩ := x_copyOrd (s := b.2) (d := 27) (e := 190) (Or.inl (by omega)) hO
    rw [f1]
    dsimp only [Option.bind_some]
    refine ok2.some (Or.inr ⟨k, hk, ?_, rfl, z5, b.2, z3, z4, f1⟩)
    show s3 190 0 = _
    rw [f3 190 (by omega)]
    exact z3.1
end U6
