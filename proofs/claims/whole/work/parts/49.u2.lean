/-! ===== THE LAW: all its lines, taken over ===== -/
section U2
variable {K s0 t0 : Mem} {T : Nat}
def lawQ (K : Mem) (T : Nat) (s0 t0 : Mem) (b : Nat × Mem) (b' : Nat × Int32 × Mem) : Prop :=
  (b.1 = 0 ∧ ∃ t', finL b' = some (-1, t') ∧ badR s0 t0 b.2 t') ∨ (b.1 = 1 ∧ ∃ k j cs t', k ≤ 16 ∧ finL b' = some (Int32.ofNat k, t') ∧ lawI K T s0 t0 k j cs b.2 t')
theorem r_lawLoop {a1 : Nat} {s t : Mem} (h : lawI K T s0 t0 0 0 [] s t) : ok2 (it FUEL (fun y => st_X4_readLaw_9 a1 y.1 y.2) (0, s)) (it FUEL (fun y => st_X12_readLaw_2 y.1 y.2) (0, t)) (lawQ K T s0 t0) := by
  refine it_ok2 16 (by omega) (fun k y z => k ≤ 16 ∧ ∃ s' t' j cs, y = (Int32.ofNat k, s') ∧ z = (Int32.ofNat k, t') ∧ lawI K T s0 t0 k j cs s' t') ⟨by omega, s, t, 0, [], rfl, rfl, h⟩ (fun k y z q => q.1) ?_
  rintro k y z ⟨hk, s', t', j, cs, rfl, rfl, hI⟩
  dsimp only
  have hI' := hI
  obtain ⟨⟨hX, hY⟩, ⟨hgX, hgY⟩, hc, hln, hj⟩ := hI
  unfold st_X4_readLaw_9 st_X12_readLaw_2 f_X12_isLineWord
  rw [if_neg (by rw [L_ltN (by omega) (by omega)]; omega), hX.1.2.2.2.1, hY.1.2.2.2.2.1]
  have other : K j 0 ≠ 0 → ok2 (jn_X4_readLaw_52 a1 (Int32.ofNat k) 0 s') (some (.inr (4, Int32.ofNat k, t'))) (fun q q' => (∃ s'' t'', q = Sum.inl s'' ∧ q' = Sum.inl t'' ∧ k + 1 ≤ 16 ∧ ∃ s3 t3 j cs, s'' = (Int32.ofNat (k + 1), s3) ∧ t'' = (Int32.ofNat (k + 1), t3) ∧ lawI K T s0 t0 (k + 1) j cs s3 t3) ∨ ∃ b b', q = Sum.inr b ∧ q' = Sum.inr b' ∧ lawQ K T s0 t0 b b') := by
    intro hk0
    unfold jn_X4_readLaw_52 f_X4_beginsLine
    rw [if_pos rfl]
    obtain ⟨s2, t2, f1, f2, f3⟩ := st_fail hX hY 1
    rw [f1]
    dsimp only [Option.bind_some]
    rw [if_neg (by decide)]
    dsimp only [Option.bind_some]
    rw [if_pos rfl]
    refine ok2.some (Or.inr ⟨_, _, rfl, rfl, Or.inl ⟨rfl, t2, ?_, badR_f hgX hgY f3⟩⟩)
    unfold finL
    dsimp only
    rw [if_neg (by decide), if_neg (by decide), if_neg (by decide), if_neg (by decide), if_neg (show ¬ t' 0 12 = 0 by rw [hY.1.2.2.2.2.1]; exact hk0), f2]
    rfl
  by_cases k0 : K j 0 = 0
  · rw [k0, if_pos (by decide), if_neg (by decide)]
    dsimp only [Option.bind_some]
    rw [if_pos rfl]
    refine ok2.some (Or.inr ⟨_, _, rfl, rfl, Or.inr ⟨rfl, k, j, cs, t', hk, ?_, hI'⟩⟩)
    unfold finL
    dsimp only
    rw [if_neg (by decide), if_neg (by decide), if_neg (by decide), if_neg (by decide), if_pos (show t' 0 12 = 0 by rw [hY.1.2.2.2.2.1]; exact k0)]
  · rw [if_neg (fun z => k0 (ckd_0.mp z))]
    by_cases k2 : K j 0 = 2
    · obtain ⟨q, hq, e4, e1⟩ := tkF_w (cur_F hY.1 k0) k2
      have hcq := cw_lt q hq
      have hcw : ∀ q, q < 23 → (cw q ≤ 2 ↔ q ≤ 2) ∧ (q ≤ 2 → cw q = q) := by decide +kernel
      obtain ⟨w1, w2⟩ := hcw q hq
      rw [if_pos (ckd_1.mpr k2), if_pos k2, hX.1.2.2.2.2.1, hY.1.2.2.2.2.2 k0 (by rw [k2]; decide), e1, e4, m_isIn]
      dsimp only [Option.bind_some]
      by_cases q2 : q ≤ 2
      · have hcond : (0 : Int32) ≤ Int32.ofNat q ∧ Int32.ofNat q ≤ 2 := ⟨by rw [N_0le (by omega)]; trivial, by rw [N_leL (by omega) (by omega)]; exact q2⟩
        rw [if_neg (by rw [L_ltN (by omega) (by omega)]; omega), if_pos hcond, if_neg (by decide)]
        dsimp only [Option.bind_some]
        rw [if_neg (by decide)]
        unfold jn_X4_readLaw_52 f_X4_beginsLine
        rw [if_neg (show ¬ (1 : Int32) = 0 by decide)]
        by_cases h16 : k = 16
        · subst h16
          rw [if_neg (by decide), if_pos (by decide)]
          obtain ⟨s2, t2, f1, f2, f3⟩ := st_fail hX hY 3
          rw [f1]
          dsimp only [Option.bind_some]
          rw [if_pos rfl]
          dsimp only [Option.bind_some]
          rw [if_pos rfl]
          refine ok2.some (Or.inr ⟨_, _, rfl, rfl, Or.inl ⟨rfl, t2, ?_, badR_f hgX hgY f3⟩⟩)
          unfold finL
          dsimp only
          rw [if_pos rfl, f2]
          rfl
        · rw [if_pos (by rw [N_ltL (by omega) (by omega)]; omega), if_neg (by rw [N_eqL (by omega) (by omega)]; exact h16)]
          unfold jn_X4_beginsLine_24
          dsimp only [Option.bind_some]
          rw [if_neg (by decide)]
          obtain ⟨r, q', b1, b2, b3⟩ := r_lawLine (show k < 16 by omega) hI' k2 (w := q) ⟨by rw [e1, w2 q2], e4⟩
          have b2' : lawT (Int32.ofNat k) t' = some q' := b2
          unfold lawT at b2'
          rw [b1]
          dsimp only [Option.bind_some]
          rw [hY.1.2.2.2.2.2 k0 (by rw [k2]; decide)] at b2'
          rw [hY.1.2.2.2.2.2 k0 (by rw [k2]; decide), b2']
          obtain ⟨v, s2⟩ := r
          rcases b3 with ⟨z1, b, rfl, t2, z2, z3⟩ | ⟨z1, t2, rfl, j2, cs2, z3⟩
          · dsimp only at z1 z3 ⊢
            subst z1
            rw [if_pos rfl]
            exact ok2.some (Or.inr ⟨_, _, rfl, rfl, Or.inl ⟨rfl, t2, z2, z3⟩⟩)
          · dsimp only at z1 z3 ⊢
            subst z1
            rw [if_neg (by decide), N_addL]
            exact ok2.some (Or.inl ⟨_, _, rfl, rfl, by omega, s2, t2, j2, cs2, rfl, rfl, z3⟩)
      · have hcond : ¬ ((0 : Int32) ≤ Int32.ofNat q ∧ Int32.ofNat q ≤ 2) := fun z => q2 (by have := z.2; rw [N_leL (by omega) (by omega)] at this; exact this)
        rw [if_pos (by rw [L_ltN (by omega) (by omega)]; omega), if_neg hcond, if_pos rfl]
        dsimp only [Option.bind_some]
        rw [if_pos rfl]
        exact other k0
    · rw [if_neg (fun z => k2 (ckd_1.mp z)), if_neg k2]
      dsimp only [Option.bind_some]
      rw [if_pos rfl]
      exact other k0
theorem m_takesLaw {t : Mem} {k sz : Nat} (h22 : t 0 22 = 0) (h23 : t 0 23 = Int32.ofNat sz) (hk : k ≤ 16) (hsz : sz ≤ 400) :
    ok (f_X12_takesLaw (Int32.ofNat k) t) (fun t' => t' 7 0 = Int32.ofNat k ∧ (∀ c, c < 7 ∨ 13 < c → t' c = t c) ∧ (∀ c l, 8 ≤ c → c ≤ 11 → l < k → t' c l = t c (32 + l)) ∧ ∀ i, i < sz → t' 12 i = t 12 (800 + i) ∧ t' 13 i = t 13 (800 + i)) := by
  have z16 : ∀ x : Int32, 16 * 0 + x = x := by intro x; grind
  have z400 : ∀ x : Int32, 400 * 0 + x = x := by intro x; grind
  have l1 : ok (it FUEL (fun y => st_X12_takesLaw_2 (Int32.ofNat k) y.1 y.2) (0, t)) (fun r => (∀ c, c < 8 ∨ 11 < c → r c = t c) ∧ ∀ c l, 8 ≤ c → c ≤ 11 → l < k → r c l = t c (32 + l)) := by
    refine it_ok1 16 (by omega) (fun l y => ∃ t', y = (Int32.ofNat l, t') ∧ l ≤ k ∧ (∀ c, c < 8 ∨ 11 < c → t' c = t c) ∧ (∀ c i, 8 ≤ c → c ≤ 11 → i < l → t' c i = t c (32 + i)) ∧ ∀ c i, 8 ≤ c → c ≤ 11 → l ≤ i → t' c i = t c i) ⟨t, rfl, by omega, fun _ _ => rfl, fun c i _ _ q => by omega, fun _ _ _ _ _ => rfl⟩ (fun l y q => by obtain ⟨_, _, q, _⟩ := q; omega) ?_
    rintro l y ⟨t', rfl, hl, q1, q2, q3⟩
    dsimp only
    unfold st_X12_takesLaw_2
    by_cases hlk : l = k
    · subst hlk
      rw [if_pos (by rw [N_le (by omega) (by omega)]; omega)]
      exact Or.inr ⟨_, rfl, q1, fun c i h1 h2 h3 => q2 c i h1 h2 h3⟩
    · have h22' : t' 0 22 = 0 := by rw [q1 0 (by omega)]; exact h22
      rw [if_neg (by rw [N_le (by omega) (by omega)]; omega)]
      simp (disch := omega) only [L_addN, rd_N, Option.bind_some, h22', z16, wr_N, m_ne, N_addL]
      refine Or.inl ⟨_, rfl, _, rfl, by omega, fun c hc => ?_, fun c i h1 h2 h3 => ?_, fun c i h1 h2 h3 => ?_⟩
      · rw [m_ne (by omega), m_ne (by omega), m_ne (by omega), m_ne (by omega), q1 c hc]
      · have hc4 : c = 8 ∨ c = 9 ∨ c = 10 ∨ c = 11 := by omega
        by_cases q : i = l
        · subst q
          rcases hc4 with rfl | rfl | rfl | rfl
          all_goals (simp (disch := omega) only [m_ne, m_eq, u_eq]; exact q3 _ _ (by omega) (by omega) (by omega))
        · rcases hc4 with rfl | rfl | rfl | rfl
          all_goals (simp (disch := omega) only [m_ne, m_eq, u_ne]; exact q2 _ _ (by omega) (by omega) (by omega))
      · have hc4 : c = 8 ∨ c = 9 ∨ c = 10 ∨ c = 11 := by omega
        rcases hc4 with rfl | rfl | rfl | rfl
        all_goals (simp (disch := omega) only [m_ne, m_eq, u_ne]; exact q3 _ _ (by omega) (by omega) (by omega))
  obtain ⟨r, e1, g1, g2⟩ := l1
  have l2 : ok (it FUEL (fun y => st_X12_takesLaw_107 (Int32.ofNat k) y.1 y.2) (0, r)) (fun r' => (∀ c, c ≠ 12 → c ≠ 13 → r' c = r c) ∧ ∀ i, i < sz → r' 12 i = r 12 (800 + i) ∧ r' 13 i = r 13 (800 + i)) := by
    refine it_ok1 400 (by omega) (fun l y => ∃ t', y = (Int32.ofNat l, t') ∧ l ≤ sz ∧ (∀ c, c ≠ 12 → c ≠ 13 → t' c = r c) ∧ (∀ i, i < l → t' 12 i = r 12 (800 + i) ∧ t' 13 i = r 13 (800 + i)) ∧ ∀ i, l ≤ i → t' 12 i = r 12 i ∧ t' 13 i = r 13 i) ⟨r, rfl, by omega, fun _ _ _ => rfl, fun i q => by omega, fun _ _ => ⟨rfl, rfl⟩⟩ (fun l y q => by obtain ⟨_, _, q, _⟩ := q; omega) ?_
    rintro l y ⟨t', rfl, hl, q1, q2, q3⟩
    dsimp only
    have h22' : t' 0 22 = 0 := by rw [q1 0 (by omega) (by omega), g1 0 (by omega)]; exact h22
    have h23' : t' 0 23 = Int32.ofNat sz := by rw [q1 0 (by omega) (by omega), g1 0 (by omega)]; exact h23
    unfold st_X12_takesLaw_107
    rw [h23']
    by_cases hlk : l = sz
    · subst hlk
      rw [if_pos (by rw [N_le (by omega) (by omega)]; omega)]
      exact Or.inr ⟨_, rfl, q1, q2⟩
    · rw [if_neg (by rw [N_le (by omega) (by omega)]; omega)]
      simp (disch := omega) only [L_addN, rd_N, Option.bind_some, h22', z400, wr_N, m_ne, N_addL]
      refine Or.inl ⟨_, rfl, _, rfl, by omega, fun c h1 h2 => ?_, fun i h3 => ?_, fun i h3 => ?_⟩
      · rw [m_ne (by omega), m_ne (by omega), q1 c h1 h2]
      · by_cases q : i = l
        · subst q
          simp (disch := omega) only [m_ne, m_eq, u_eq]
          exact q3 _ (by omega)
        · simp (disch := omega) only [m_ne, m_eq, u_ne]
          exact q2 _ (by omega)
      · simp (disch := omega) only [m_ne, m_eq, u_ne]
        exact q3 _ (by omega)
  obtain ⟨r', e2, g3, g4⟩ := l2
  unfold f_X12_takesLaw
  rw [e1]
  dsimp only [Option.bind_some]
  rw [e2]
  dsimp only [Option.bind_some]
  rw [g3 0 (by omega) (by omega), g1 0 (by omega), h22, show (0 : Int32) = Int32.ofNat 0 from rfl, wr_N (by omega) (by omega)]
  refine ⟨_, rfl, by rw [m_eq, u_eq], fun c hc => ?_, fun c l h1 h2 h3 => ?_, fun i hi => ?_⟩
  · rw [m_ne (by omega), g3 c (by omega) (by omega), g1 c (by omega)]
  · rw [m_ne (by omega), g3 c (by omega) (by omega)]
    exact g2 c l h1 h2 h3
  · rw [m_ne (by omega), m_ne (by omega)]
    have := g4 i hi
    rw [g1 12 (by omega), g1 13 (by omega)] at this
    exact this
theorem gd_app {a d r : List Int32} {i : Nat} (h : i < d.length) : (a ++ (d ++ r)).getD (a.length + i) 0 = d.getD i 0 := by
  rw [List.getD_eq_getElem?_getD, List.getD_eq_getElem?_getD, List.getElem?_append_right (by omega), List.getElem?_append_left (by omega)]
  rw [show a.length + i - a.length = i by omega]
/-- what was read is THE LAW of both -/
theorem lawR_of {s t t' : Mem} {k j : Nat} {cs : List Int32} (h : lawI K T s0 t0 k j cs s t) (hk : k ≤ 16) (h7 : t' 7 0 = Int32.ofNat k) (hl : ∀ c l, 8 ≤ c → c ≤ 11 → l < k → t' c l = t c (32 + l)) (hc : ∀ i, i < cs.length → t' 12 i = t 12 (800 + i) ∧ t' 13 i = t 13 (800 + i)) : lawR s 178 t' := by
  obtain ⟨⟨hX, hY⟩, -, hc0, hln, hj⟩ := h
  have hT4 := hY.1.1.1
  have hjT := hY.1.2.1
  refine ⟨k, cs.length, hk, by omega, hc0, h7, hX.2.2.1, fun i hi => ?_, fun l hl' => ?_⟩
  · rw [(hc i hi).1, (hc i hi).2, hX.2.2.2 i hi]
    exact hY.2.2.2.2 i hi
  · obtain ⟨a, d1, d2, r, e, q1, q2, q3, q4, q5, q6, q7, q8, q9⟩ := hln l hl'
    have hlen : cs.length = a.length + (d1.length + (d2.length + r.length)) := by rw [e]; simp only [List.length_append]
    refine ⟨a.length, a.length + d1.length, a.length + d1.length + d2.length, by omega, by omega, by omega, ?_, q2, ?_, q4, ?_, q6, ?_, fun F => ?_, fun hlt F => ?_⟩
    · rw [hl 8 l (by omega) (by omega) hl']; exact q1
    · rw [hl 9 l (by omega) (by omega) hl']; exact q3
    · rw [hl 10 l (by omega) (by omega) hl']; exact q5
    · rw [hl 11 l (by omega) (by omega) hl']; exact q7
    · obtain ⟨v, hv⟩ := q8 F [] (by simp)
      refine ⟨v, ?_⟩
      rw [show a.length + d1.length - a.length = d1.length by omega, evn_L d1 a.length [] (fun i hi => ?_)]
      · exact hv
      · rw [show s (178 + 5) (a.length + i) = cs.getD (a.length + i) 0 from hX.2.2.2 _ (by omega), e]
        exact gd_app hi
    · rcases q9 with q9 | q9
      · rw [q9] at hlt
        simp at hlt
      · obtain ⟨v, hv⟩ := q9 F [] (by simp)
        refine ⟨v, ?_⟩
        rw [show a.length + d1.length + d2.length - (a.length + d1.length) = d2.length by omega, evn_L d2 (a.length + d1.length) [] (fun i hi => ?_)]
        · exact hv
        · rw [show s (178 + 5) (a.length + d1.length + i) = cs.getD (a.length + d1.length + i) 0 from hX.2.2.2 _ (by omega), e, ← List.append_assoc, ← List.length_append]
          exact gd_app hi
end U2
