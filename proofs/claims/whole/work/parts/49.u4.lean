/-! ===== TALK, CURES: line by line ===== -/
def plT (n k : Nat) (s t : Mem) : Prop := s 185 0 = Int32.ofNat k ∧ ∀ l, l < k → s 186 l = t 15 (48 + 3 * l) ∧ ∃ x y, x < n ∧ y < n ∧ x ≠ y ∧ s 188 l = Int32.ofNat x ∧ t 15 (48 + 3 * l + 1) = Int32.ofNat x ∧ s 189 l = Int32.ofNat y ∧ t 15 (48 + 3 * l + 2) = Int32.ofNat y
def plC (n k : Nat) (s t : Mem) : Prop := s 185 0 = Int32.ofNat k ∧ ∀ l, l < k → s 186 l = t 16 (64 + 4 * l) ∧ ∃ kd x, kd < 4 ∧ x < n ∧ s 187 l = Int32.ofNat (kd + 1) ∧ t 16 (64 + 4 * l + 1) = Int32.ofNat kd ∧ s 188 l = Int32.ofNat x ∧ t 16 (64 + 4 * l + 2) = Int32.ofNat x ∧
  s 189 l = t 16 (64 + 4 * l + 3) ∧ (kd = 1 → 0 ≤ t 16 (64 + 4 * l + 3) ∧ t 16 (64 + 4 * l + 3) ≤ 99) ∧ (kd = 2 → ∃ y, y < n ∧ y ≠ x ∧ t 16 (64 + 4 * l + 3) = Int32.ofNat y)
def linR (K : Mem) (T : Nat) (s0 t0 : Mem) (Pl : Mem → Mem → Prop) (r r' : Int32 × Mem) : Prop := (r.1 = 0 ∧ r'.1 = -1 ∧ badR s0 t0 r.2 r'.2) ∨ (r.1 = 1 ∧ r'.1 = 0 ∧ ∃ j, pS K T s0 t0 j r.2 r'.2 ∧ Pl r.2 r'.2)
section U4
variable {K s0 t0 : Mem} {T n : Nat}
theorem bz_r {r : Int32 × Mem} (h : r.1 = 0 ∨ r.1 = 1) : (if ¬ (r.1 = 0 ∨ r.1 = 1) then none else some (r.1, r.2)) = some r := by
  rw [if_neg (fun q => q h)]
theorem N_nn {v : Nat} (h : v < 10000) : ¬ Int32.ofNat v = -1 := by
  rw [N_neg (by omega)]
  exact fun z => z
theorem cw_same : ∀ q, 15 ≤ q → q < 23 → cw q = q := by
  intro q h1 h2
  have : ∀ q, q < 23 → 15 ≤ q → cw q = q := by decide +kernel
  exact this q h2 h1
theorem r_talkLine {s t : Mem} {j k : Nat} (h : pS K T s0 t0 j s t) (hn : n ≤ 14) (h172 : s0 172 3 = Int32.ofNat n) (h6 : t0 0 6 = Int32.ofNat n) (hk : k < 16) (hw : isW K j 15) (hP : plT n k s t) :
    ok2 (f_X4_readPlanLine 0 s) (f_X12_readTalkLine (Int32.ofNat (48 + 3 * k)) t) (linR K T s0 t0 (plT n (k + 1))) := by
  have k0 : K j 0 ≠ 0 := by rw [hw.1]; decide
  unfold f_X4_readPlanLine f_X12_readTalkLine f_X12_readTold
  obtain ⟨s1, t1, c1, c2, c3, c4, c5⟩ := p_next h k0
  rw [c1, m_isW 15 15 rfl h.2.1, if_pos hw]
  dsimp only [Option.bind_some]
  rw [if_neg (by decide), c2]
  dsimp only [Option.bind_some]
  obtain ⟨⟨v, s2⟩, ⟨v', t2⟩, b1, b2, b3⟩ := r_num 0 999 c3
  rw [b1, b2]
  dsimp only [Option.bind_some]
  rw [wr_N (by omega) (by omega)]
  dsimp only [Option.bind_some]
  rw [rd_N (by omega) (by omega), m_eq, u_eq]
  dsimp only [Option.bind_some]
  rcases b3 with ⟨z1, z2, z3⟩ | ⟨m, hm, -, z1, z2, z3, z4, z5⟩
  · dsimp only at z1 z2 z3
    subst z1 z2
    rw [if_pos rfl, if_pos rfl]
    exact ok2.some (Or.inl ⟨rfl, rfl, badR_m z3 (by omega)⟩)
  · dsimp only at z1 z2 z3 z4 z5
    subst z1 z2
    rw [if_neg (N_nn hm), if_pos rfl, if_neg (N_nn hm)]
    unfold f_X4_readNaming f_X4_takeWord
    have hq2 : pS K T s0 t0 (j + 1 + 1) s2 (mset t2 15 (48 + 3 * k) (Int32.ofNat m)) := pS_m z3 (by omega)
    rw [x_isW 16 16 (by omega) (by decide) hq2.1 hq2.2.1, m_isW 16 16 rfl hq2.2.1]
    dsimp only [Option.bind_some]
    by_cases w16 : isW K (j + 1 + 1) 16
    · rw [if_pos w16, if_neg (by decide), if_neg (by decide)]
      obtain ⟨s3, t3, d1, d2, d3, d4, d5⟩ := p_next hq2 (by rw [w16.1]; decide)
      rw [d1, d2]
      dsimp only [Option.bind_some]
      rw [if_neg (by decide)]
      have e6 : (mset t2 15 (48 + 3 * k) (Int32.ofNat m)) 0 6 = Int32.ofNat n := by rw [hq2.2.2.2.2.1 6 (by omega)]; exact h6
      rw [e6]
      obtain ⟨⟨v, s4⟩, ⟨v', t4⟩, f1, f2, f3⟩ := r_person0 (n := n) d3 hn (by rw [d3.2.2.1.2]; exact h172)
      rw [f1, f2]
      dsimp only [Option.bind_some]
      rw [N_addL, wr_N (by omega) (by omega)]
      dsimp only [Option.bind_some]
      rw [rd_N (by omega) (by omega), m_eq, u_eq]
      dsimp only [Option.bind_some]
      rcases f3 with ⟨z1, z2, z6⟩ | ⟨x, hx, hxn, z1, z2, z6, z7, z8⟩
      · dsimp only at z1 z2 z6
        subst z1 z2
        rw [if_pos rfl, if_pos rfl]
        dsimp only [Option.bind_some]
        rw [if_neg (by decide)]
        exact ok2.some (Or.inl ⟨rfl, rfl, badR_m z6 (by omega)⟩)
      · dsimp only at z1 z2 z6 z7 z8
        subst z1 z2
        rw [if_neg (by rw [N_neg (by omega)]; exact fun z => z), if_neg (by rw [N_neg (by omega)]; exact fun z => z)]
        have hq4 : pS K T s0 t0 (j + 1 + 1 + 1 + 1) s4 (mset t4 15 (48 + 3 * k + 1) (Int32.ofNat x)) := pS_m z6 (by omega)
        rw [x_isW 17 17 (by omega) (by decide) hq4.1 hq4.2.1, m_isW 17 17 rfl hq4.2.1]
        dsimp only [Option.bind_some]
        by_cases w17 : isW K (j + 1 + 1 + 1 + 1) 17
        · rw [if_pos w17, if_neg (by decide), if_neg (by decide)]
          obtain ⟨s5, t5, g1, g2, g3, g4, g5⟩ := p_next hq4 (by rw [w17.1]; decide)
          rw [g1, g2]
          dsimp only [Option.bind_some]
          rw [if_neg (by decide), rd_N (by omega) (by omega), g5 15 (by omega), m_eq, u_eq]
          dsimp only [Option.bind_some]
          obtain ⟨⟨v, s6⟩, ⟨v', t6⟩, i1, i2, i3⟩ := r_other (n := n) (p := x) g3 hn (by rw [g3.2.2.1.2]; exact h172) (by rw [g3.2.2.2.2.1 6 (by omega)]; exact h6) (by omega)
          rw [i1, i2]
          dsimp only [Option.bind_some]
          rw [N_addL, wr_N (by omega) (by omega)]
          dsimp only [Option.bind_some]
          rw [rd_N (by omega) (by omega), m_eq, u_eq]
          dsimp only [Option.bind_some]
          rcases i3 with ⟨z1, z2, z9⟩ | ⟨y, hy, hyn, z1, z2, z9, za, zb⟩
          · dsimp only at z1 z2 z9
            subst z1 z2
            rw [if_pos rfl, if_pos rfl]
            dsimp only [Option.bind_some]
            rw [if_neg (by decide)]
            exact ok2.some (Or.inl ⟨rfl, rfl, badR_m z9 (by omega)⟩)
          · dsimp only at z1 z2 z9 za zb
            subst z1 z2
            rw [if_neg (by rw [N_neg (by omega)]; exact fun z => z), if_neg (by rw [N_neg (by omega)]; exact fun z => z)]
            have same : ∀ c, c ≠ 173 → s6 c = s c := fun c q => by rw [za c q, g4 c q, z7 c q, d4 c q, z4 c q, c4 c q]
            rw [x_addLine (by rw [same 185 (by omega)]; exact hP.1) hk]
            dsimp only [Option.bind_some]
            have hq6 : pS K T s0 t0 (j + 1 + 1 + 1 + 1 + 1 + 1) (mset (mset (mset (mset (mset s6 186 k (Int32.ofNat m)) 187 k 0) 188 k (Int32.ofNat x)) 189 k (Int32.ofNat y)) 185 0 (Int32.ofNat (k + 1))) (mset t6 15 (48 + 3 * k + 2) (Int32.ofNat y)) :=
              pS_m (pS_x z9 (fun c hc => by simp (disch := omega) only [m_ne])) (by omega)
            obtain ⟨⟨w, s7⟩, ⟨w', t7⟩, l1, l2, l3⟩ := r_mark 59 hq6
            rw [l1, l2]
            dsimp only [Option.bind_some]
            rcases l3 with ⟨z1, z2, zc⟩ | ⟨z1, z2, zc, zd, ze⟩
            · dsimp only at z1 z2 zc
              subst z1 z2
              rw [if_neg (by decide)]
              dsimp only [Option.bind_some]
              rw [if_neg (by decide)]
              exact ok2.some (Or.inl ⟨rfl, rfl, zc⟩)
            · dsimp only at z1 z2 zc zd ze
              subst z1 z2
              rw [if_neg (by decide)]
              dsimp only [Option.bind_some]
              rw [if_neg (by decide)]
              refine ok2.some (Or.inr ⟨rfl, rfl, _, zc, ?_, fun l hl => ?_⟩)
              · show s7 185 0 = _
                rw [zd 185 (by omega), m_eq, u_eq]
              · show s7 186 l = t7 15 _ ∧ ∃ x y, _ ∧ _ ∧ _ ∧ s7 188 l = _ ∧ t7 15 _ = _ ∧ s7 189 l = _ ∧ t7 15 _ = _
                rw [zd 186 (by omega), zd 188 (by omega), zd 189 (by omega), ze 15 (by omega)]
                simp (disch := omega) only [m_eq, m_ne]
                by_cases q : l = k
                · subst q
                  simp (disch := omega) only [u_eq, u_ne, zb, g5, m_eq, z8, d5]
                  exact ⟨trivial, x, y, hxn, hyn.1, fun z => hyn.2 z.symm, rfl, rfl, rfl, rfl⟩
                · have old := hP.2 l (by omega)
                  simp (disch := omega) only [u_ne, zb, g5, m_eq, z8, d5, z5, c5, same]
                  exact old
        · rw [if_neg w17, if_pos rfl, if_pos rfl]
          obtain ⟨s5, t5, g1, g2, g3⟩ := p_fail hq4 1
          rw [g1, g2]
          dsimp only [Option.bind_some]
          rw [if_neg (by decide)]
          dsimp only [Option.bind_some]
          rw [if_pos rfl]
          dsimp only [Option.bind_some]
          rw [if_neg (by decide)]
          exact ok2.some (Or.inl ⟨rfl, rfl, g3⟩)
    · rw [if_neg w16, if_pos rfl, if_pos rfl]
      obtain ⟨s3, t3, g1, g2, g3⟩ := p_fail hq2 1
      rw [g1, g2]
      dsimp only [Option.bind_some]
      rw [if_neg (by decide)]
      dsimp only [Option.bind_some]
      rw [if_pos rfl]
      dsimp only [Option.bind_some]
      rw [if_neg (by decide), N_addL, wr_N (by omega) (by omega)]
      dsimp only [Option.bind_some]
      rw [rd_N (by omega) (by omega), m_eq, u_eq]
      dsimp only [Option.bind_some]
      rw [if_pos rfl]
      exact ok2.some (Or.inl ⟨rfl, rfl, badR_m g3 (by omega)⟩)
/-- the end of a line of CURES -/
theorem r_cureEnd {s t : Mem} {j k kd m x : Nat} {w : Int32} (hk : k < 16) (h : pS K T s0 t0 j s t) (hd : kd < 4) (hxn : x < n) (hP : plC n k s t) (h1 : t 16 (64 + 4 * k) = Int32.ofNat m) (h2 : t 16 (64 + 4 * k + 1) = Int32.ofNat kd) (h3 : t 16 (64 + 4 * k + 2) = Int32.ofNat x) (hw : w ≠ -1)
    (hk1 : kd = 1 → 0 ≤ w ∧ w ≤ 99) (hk2 : kd = 2 → ∃ y, y < n ∧ y ≠ x ∧ w = Int32.ofNat y) :
    ok2 (jn_X4_readCure_91 (Int32.ofNat m) (Int32.ofNat (18 + kd)) (Int32.ofNat x) w s) (jn_X12_readCure_154 (Int32.ofNat (64 + 4 * k)) (Int32.ofNat (64 + 4 * k + 3)) w t) (linR K T s0 t0 (plC n (k + 1))) := by
  unfold jn_X4_readCure_91 jn_X12_readCure_154
  rw [if_neg hw, wr_N (by omega) (by omega)]
  dsimp only [Option.bind_some]
  rw [N_addL, rd_N (by omega) (by omega), m_eq, u_eq]
  dsimp only [Option.bind_some]
  rw [if_neg hw]
  have ek : f_X4_cureKind (Int32.ofNat (18 + kd)) s = some (Int32.ofNat (kd + 1), s) := by
    have : kd = 0 ∨ kd = 1 ∨ kd = 2 ∨ kd = 3 := by omega
    rcases this with rfl | rfl | rfl | rfl <;> rfl
  rw [ek]
  dsimp only [Option.bind_some]
  rw [x_addLine hP.1 hk]
  dsimp only [Option.bind_some]
  have hq6 : pS K T s0 t0 j (mset (mset (mset (mset (mset s 186 k (Int32.ofNat m)) 187 k (Int32.ofNat (kd + 1))) 188 k (Int32.ofNat x)) 189 k w) 185 0 (Int32.ofNat (k + 1))) (mset t 16 (64 + 4 * k + 3) w) :=
    pS_m (pS_x h (fun c hc => by simp (disch := omega) only [m_ne])) (by omega)
  obtain ⟨⟨v, s7⟩, ⟨v', t7⟩, l1, l2, l3⟩ := r_mark 59 hq6
  rw [l1, l2]
  dsimp only [Option.bind_some]
  rcases l3 with ⟨z1, z2, zc⟩ | ⟨z1, z2, zc, zd, ze⟩
  · dsimp only at z1 z2 zc
    subst z1 z2
    rw [if_neg (by decide)]
    exact ok2.some (Or.inl ⟨rfl, rfl, zc⟩)
  · dsimp only at z1 z2 zc zd ze
    subst z1 z2
    rw [if_neg (by decide)]
    refine ok2.some (Or.inr ⟨rfl, rfl, _, zc, ?_, fun l hl => ?_⟩)
    · show s7 185 0 = _
      rw [zd 185 (by omega), m_eq, u_eq]
    · show s7 186 l = t7 16 _ ∧ ∃ kd x, _ ∧ _ ∧ s7 187 l = _ ∧ t7 16 _ = _ ∧ s7 188 l = _ ∧ t7 16 _ = _ ∧ s7 189 l = t7 16 _ ∧ (kd = 1 → 0 ≤ t7 16 _ ∧ t7 16 _ ≤ 99) ∧ (kd = 2 → ∃ y, _ ∧ _ ∧ t7 16 _ = _)
      rw [zd 186 (by omega), zd 187 (by omega), zd 188 (by omega), zd 189 (by omega), ze 16 (by omega)]
      simp (disch := omega) only [m_eq, m_ne]
      by_cases q : l = k
      · subst q
        simp (disch := omega) only [u_eq, u_ne]
        exact ⟨h1.symm, kd, x, hd, hxn, rfl, h2, rfl, h3, trivial, hk1, hk2⟩
      · have old := hP.2 l (by omega)
        simp (disch := omega) only [u_ne]
        exact old
theorem r_cureLine {s t : Mem} {j k : Nat} (h : pS K T s0 t0 j s t) (hn : n ≤ 14) (h172 : s0 172 3 = Int32.ofNat n) (h6 : t0 0 6 = Int32.ofNat n) (hk : k < 16) (hw : isW K j 15) (hP : plC n k s t) :
    ok2 (f_X4_readPlanLine 1 s) (f_X12_readCure (Int32.ofNat (64 + 4 * k)) t) (linR K T s0 t0 (plC n (k + 1))) := by
  have k0 : K j 0 ≠ 0 := by rw [hw.1]; decide
  unfold f_X4_readPlanLine f_X12_readCure f_X12_readTold
  obtain ⟨s1, t1, c1, c2, c3, c4, c5⟩ := p_next h k0
  rw [c1, m_isW 15 15 rfl h.2.1, if_pos hw]
  dsimp only [Option.bind_some]
  rw [if_neg (by decide), c2]
  dsimp only [Option.bind_some]
  obtain ⟨⟨v, s2⟩, ⟨v', t2⟩, b1, b2, b3⟩ := r_num 0 999 c3
  rw [b1, b2]
  dsimp only [Option.bind_some]
  rw [wr_N (by omega) (by omega)]
  dsimp only [Option.bind_some]
  rw [rd_N (by omega) (by omega), m_eq, u_eq]
  dsimp only [Option.bind_some]
  rcases b3 with ⟨z1, z2, z3⟩ | ⟨m, hm, -, z1, z2, z3, z4, z5⟩
  · dsimp only at z1 z2 z3
    subst z1 z2
    rw [if_pos rfl, if_pos rfl]
    exact ok2.some (Or.inl ⟨rfl, rfl, badR_m z3 (by omega)⟩)
  · dsimp only at z1 z2 z3 z4 z5
    subst z1 z2
    rw [if_neg (N_nn hm), if_neg (show ¬ (1 : Int32) = 0 by decide), if_neg (N_nn hm)]
    have hq2 : pS K T s0 t0 (j + 1 + 1) s2 (mset t2 16 (64 + 4 * k) (Int32.ofNat m)) := pS_m z3 (by omega)
    have wrap : ∀ {o : Option (Int32 × Mem)} {o' : Option (Int32 × Mem)}, ok2 o o' (linR K T s0 t0 (plC n (k + 1))) → ok2 (o.bind fun r7 => if ¬ (r7.1 = 0 ∨ r7.1 = 1) then none else some (r7.1, r7.2)) o' (linR K T s0 t0 (plC n (k + 1))) := by
      rintro o o' ⟨r, r', e1, e2, e3⟩
      refine ⟨r, r', ?_, e2, e3⟩
      rw [e1]
      exact bz_r (by rcases e3 with ⟨q, -⟩ | ⟨q, -⟩; exact Or.inl q; exact Or.inr q)
    refine wrap ?_
    unfold f_X4_readCure
    rw [hq2.1.2.2.2.1, hq2.2.1.2.2.2.2.1]
    have bad : ok2 (jn_X4_readCure_31 s2) (jn_X12_readCure_51 (mset t2 16 (64 + 4 * k) (Int32.ofNat m))) (linR K T s0 t0 (plC n (k + 1))) := by
      unfold jn_X4_readCure_31 jn_X12_readCure_51
      obtain ⟨s3, t3, g1, g2, g3⟩ := p_fail hq2 1
      rw [g1, g2]
      dsimp only [Option.bind_some]
      rw [if_neg (by decide)]
      exact ok2.some (Or.inl ⟨rfl, rfl, g3⟩)
    by_cases k2 : K (j + 1 + 1) 0 = 2
    · have k20 : K (j + 1 + 1) 0 ≠ 0 := by rw [k2]; decide
      obtain ⟨q, hq, e4, e1⟩ := tkF_w (cur_F hq2.2.1 k20) k2
      have hcq := cw_lt q hq
      have hcw : ∀ q, q < 23 → ((18 ≤ cw q ∧ cw q ≤ 21) ↔ (18 ≤ q ∧ q ≤ 21)) := by decide +kernel
      have s173 : s2 173 2 = Int32.ofNat (cw q) := hq2.1.2.2.2.2.1.trans e1
      have t013 : (mset t2 16 (64 + 4 * k) (Int32.ofNat m)) 0 13 = Int32.ofNat q := (hq2.2.1.2.2.2.2.2 k20 (by rw [k2]; decide)).trans e4
      rw [if_pos (ckd_1.mpr k2), if_pos k2, s173, t013, m_isIn]
      dsimp only [Option.bind_some]
      by_cases hr : 18 ≤ q ∧ q ≤ 21
      · have hr2 := (hcw q hq).mpr hr
        have hcs := cw_same q (by omega) hq
        obtain ⟨kd, rfl⟩ : ∃ kd, q = 18 + kd := ⟨q - 18, by omega⟩
        rw [if_neg (by rw [N_ltL (by omega) (by omega)]; omega), if_pos (by rw [N_leL (by omega) (by omega)]; omega), if_pos (show (18 : Int32) ≤ Int32.ofNat (18 + kd) ∧ Int32.ofNat (18 + kd) ≤ 21 by rw [L_leN (by omega) (by omega), N_leL (by omega) (by omega)]; omega), if_neg (by decide)]
        obtain ⟨s3, t3, d1, d2, d3, d4, d5⟩ := p_next hq2 k20
        rw [d1, d2]
        dsimp only [Option.bind_some]
        simp only [t013]
        rw [N_addL, N_subL (by omega), Nat.add_sub_cancel_left, wr_N (by omega) (by omega)]
        dsimp only [Option.bind_some]
        have hq3 : pS K T s0 t0 (j + 1 + 1 + 1) s3 (mset t3 16 (64 + 4 * k + 1) (Int32.ofNat kd)) := pS_m d3 (by omega)
        have e6 : (mset t3 16 (64 + 4 * k + 1) (Int32.ofNat kd)) 0 6 = Int32.ofNat n := by rw [hq3.2.2.2.2.1 6 (by omega)]; exact h6
        rw [e6]
        obtain ⟨⟨v, s4⟩, ⟨v', t4⟩, f1, f2, f3⟩ := r_person0 (n := n) hq3 hn (by rw [hq3.2.2.1.2]; exact h172)
        rw [f1, f2]
        dsimp only [Option.bind_some]
        rw [N_addL, wr_N (by omega) (by omega)]
        dsimp only [Option.bind_some]
        rw [rd_N (by omega) (by omega), m_eq, u_eq]
        dsimp only [Option.bind_some]
        rcases f3 with ⟨z1, z2, z6⟩ | ⟨x, hx, hxn, z1, z2, z6, z7, z8⟩
        · dsimp only at z1 z2 z6
          subst z1 z2
          rw [if_pos rfl, if_pos rfl]
          exact ok2.some (Or.inl ⟨rfl, rfl, badR_m z6 (by omega)⟩)
        · dsimp only at z1 z2 z6 z7 z8
          subst z1 z2
          simp only [if_neg (N_nn hx)]
          rw [hcs]
          have hq4 : pS K T s0 t0 (j + 1 + 1 + 1 + 1) s4 (mset t4 16 (64 + 4 * k + 2) (Int32.ofNat x)) := pS_m z6 (by omega)
          have same : ∀ c, c ≠ 173 → s4 c = s c := fun c q => by rw [z7 c q, d4 c q, z4 c q, c4 c q]
          have tk : ∀ l, l ≠ 64 + 4 * k → l ≠ 64 + 4 * k + 1 → l ≠ 64 + 4 * k + 2 → (mset t4 16 (64 + 4 * k + 2) (Int32.ofNat x)) 16 l = t 16 l := fun l q1 q2 q3 => by
            rw [m_eq, u_ne q3, z8 16 (by omega), m_eq, u_ne q2, d5 16 (by omega), m_eq, u_ne q1, z5 16 (by omega), c5 16 (by omega)]
          have t1e : (mset t4 16 (64 + 4 * k + 2) (Int32.ofNat x)) 16 (64 + 4 * k) = Int32.ofNat m := by
            rw [m_eq, u_ne (by omega), z8 16 (by omega), m_eq, u_ne (by omega), d5 16 (by omega), m_eq, u_eq]
          have t2e : (mset t4 16 (64 + 4 * k + 2) (Int32.ofNat x)) 16 (64 + 4 * k + 1) = Int32.ofNat kd := by
            rw [m_eq, u_ne (by omega), z8 16 (by omega), m_eq, u_eq]
          have t3e : (mset t4 16 (64 + 4 * k + 2) (Int32.ofNat x)) 16 (64 + 4 * k + 2) = Int32.ofNat x := by rw [m_eq, u_eq]
          have hP4 : plC n k s4 (mset t4 16 (64 + 4 * k + 2) (Int32.ofNat x)) := by
            refine ⟨by rw [same 185 (by omega)]; exact hP.1, fun l hl => ?_⟩
            have old := hP.2 l hl
            rw [same 186 (by omega), same 187 (by omega), same 188 (by omega), same 189 (by omega), tk _ (by omega) (by omega) (by omega), tk _ (by omega) (by omega) (by omega), tk _ (by omega) (by omega) (by omega), tk _ (by omega) (by omega) (by omega)]
            exact old
          generalize mset t4 16 (64 + 4 * k + 2) (Int32.ofNat x) = t5 at *
          have pl5 : ∀ {s' t' : Mem}, (∀ c, c ≠ 173 → s' c = s4 c) → (∀ c, c ≠ 0 → t' c = t5 c) → plC n k s' t' ∧ t' 16 (64 + 4 * k) = Int32.ofNat m ∧ t' 16 (64 + 4 * k + 1) = Int32.ofNat kd ∧ t' 16 (64 + 4 * k + 2) = Int32.ofNat x := by
            intro s' t' hs ht
            unfold plC
            rw [hs 185 (by omega), hs 186 (by omega), hs 187 (by omega), hs 188 (by omega), hs 189 (by omega), ht 16 (by omega)]
            exact ⟨hP4, t1e, t2e, t3e⟩
          -- breath
          by_cases kd1 : kd = 1
          · subst kd1
            rw [if_pos (by decide), if_pos (by decide)]
            obtain ⟨⟨v, s6⟩, ⟨v', t6⟩, i1, i2, i3⟩ := r_num 1 99 hq4
            rw [i1, i2]
            dsimp only [Option.bind_some]
            rw [N_addL]
            rcases i3 with ⟨z1, z2, z9⟩ | ⟨y, hy, hyb, z1, z2, z9, za, zb⟩
            · dsimp only at z1 z2 z9
              subst z1 z2
              unfold jn_X4_readCure_91 jn_X12_readCure_154
              rw [if_pos rfl, wr_N (by omega) (by omega)]
              dsimp only [Option.bind_some]
              rw [N_addL, rd_N (by omega) (by omega), m_eq, u_eq]
              dsimp only [Option.bind_some]
              rw [if_pos rfl]
              exact ok2.some (Or.inl ⟨rfl, rfl, badR_m z9 (by omega)⟩)
            · dsimp only at z1 z2 z9 za zb
              subst z1 z2
              obtain ⟨p1, p2, p3, p4⟩ := pl5 za zb
              exact r_cureEnd (kd := 1) hk z9 (by omega) hxn p1 p2 p3 p4 (by rw [ne_eq, N_neg (by omega)]; exact fun z => z) (fun _ => ⟨by rw [N_0le (by omega)]; trivial, hyb.2⟩) (fun z => by omega)
          · rw [if_neg (show ¬ Int32.ofNat (18 + kd) = 19 by rw [N_eqL (by omega) (by omega)]; omega), if_neg (show ¬ Int32.ofNat kd = 1 by rw [N_eqL (by omega) (by omega)]; omega)]
            by_cases kd2 : kd = 2
            · subst kd2
              rw [if_pos (by decide), if_pos (by decide)]
              obtain ⟨⟨v, s6⟩, ⟨v', t6⟩, i1, i2, i3⟩ := r_other (n := n) (p := x) hq4 hn (by rw [hq4.2.2.1.2]; exact h172) (by rw [hq4.2.2.2.2.1 6 (by omega)]; exact h6) (by omega)
              rw [i1, i2]
              dsimp only [Option.bind_some]
              rw [N_addL]
              rcases i3 with ⟨z1, z2, z9⟩ | ⟨y, hy, hyb, z1, z2, z9, za, zb⟩
              · dsimp only at z1 z2 z9
                subst z1 z2
                unfold jn_X4_readCure_91 jn_X12_readCure_154
                rw [if_pos rfl, wr_N (by omega) (by omega)]
                dsimp only [Option.bind_some]
                rw [N_addL, rd_N (by omega) (by omega), m_eq, u_eq]
                dsimp only [Option.bind_some]
                rw [if_pos rfl]
                exact ok2.some (Or.inl ⟨rfl, rfl, badR_m z9 (by omega)⟩)
              · dsimp only at z1 z2 z9 za zb
                subst z1 z2
                obtain ⟨p1, p2, p3, p4⟩ := pl5 za zb
                exact r_cureEnd (kd := 2) hk z9 (by omega) hxn p1 p2 p3 p4 (by rw [ne_eq, N_neg (by omega)]; exact fun z => z) (fun z => by omega) (fun _ => ⟨y, hyb.1, hyb.2, rfl⟩)
            · rw [if_neg (show ¬ Int32.ofNat (18 + kd) = 20 by rw [N_eqL (by omega) (by omega)]; omega), if_neg (show ¬ Int32.ofNat kd = 2 by rw [N_eqL (by omega) (by omega)]; omega), N_addL]
              exact r_cureEnd (kd := kd) hk hq4 (by omega) hxn hP4 t1e t2e t3e (by decide) (fun z => absurd z kd1) (fun z => absurd z kd2)
      · have hr2 : ¬ (18 ≤ cw q ∧ cw q ≤ 21) := fun z => hr ((hcw q hq).mp z)
        rw [if_neg (show ¬ ((18 : Int32) ≤ Int32.ofNat q ∧ Int32.ofNat q ≤ 21) by rw [L_leN (by omega) (by omega), N_leL (by omega) (by omega)]; exact hr), if_pos rfl]
        by_cases q1 : cw q < 18
        · rw [if_pos (by rw [N_ltL (by omega) (by omega)]; exact q1)]
          exact bad
        · rw [if_neg (by rw [N_ltL (by omega) (by omega)]; exact q1), if_neg (by rw [N_leL (by omega) (by omega)]; omega)]
          exact bad
    · rw [if_neg (fun z => k2 (ckd_1.mp z)), if_neg k2]
      exact bad
end U4
