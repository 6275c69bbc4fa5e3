/-! ===== standing at a token, here and in the reference ===== -/
def cuC (K : Mem) (T : Nat) (s : Mem) (j : Nat) : Prop := tkA K T s ∧ s 173 0 = K T 2 ∧ s 173 5 = Int32.ofNat j ∧ s 173 1 = ckd (K j 0) ∧ s 173 2 = K j 1 ∧ s 173 3 = K j 2 ∧ s 172 1 = 0 ∧ s 172 2 = -1
def cuR (K : Mem) (T : Nat) (t : Mem) (j : Nat) : Prop := tkT K T t ∧ j ≤ T ∧ t 0 10 = K (j + 1) 3 ∧ t 0 11 = K j 2 ∧ t 0 12 = K j 0 ∧ (K j 0 ≠ 0 → K j 0 ≠ 1 → t 0 13 = K j 4)
theorem cuC_eq {K s s' : Mem} {T j : Nat} (h : cuC K T s j) (h1 : s' 173 = s 173) (h2 : s' 175 = s 175) (h3 : s' 176 = s 176) (h4 : s' 177 = s 177) (h5 : s' 172 = s 172) : cuC K T s' j := by
  unfold cuC tkA at *
  rw [h1, h2, h3, h4, h5]
  exact h
theorem tkT_eq {K t t' : Mem} {T : Nat} (h : tkT K T t) (h5 : t' 5 = t 5) (h6 : t' 6 = t 6) (h9 : t' 0 9 = t 0 9) : tkT K T t' := by
  obtain ⟨a1, a2, a3, a4, a5, a6, a7⟩ := h
  refine ⟨a1, a2, a3, a4, a5, fun j hj u u5 u6 u9 u10 => ?_, a7⟩
  exact a6 j hj u (u5.trans h5) (u6.trans h6) (u9.trans h9) u10
theorem cuR_eq {K t t' : Mem} {T j : Nat} (h : cuR K T t j) (h5 : t' 5 = t 5) (h6 : t' 6 = t 6) (h0 : ∀ i, 9 ≤ i → i ≤ 13 → t' 0 i = t 0 i) : cuR K T t' j := by
  obtain ⟨a1, a2, a3, a4, a5, a6⟩ := h
  refine ⟨tkT_eq a1 h5 h6 (h0 _ (by omega) (by omega)), a2, ?_, ?_, ?_, ?_⟩
  · rw [h0 _ (by omega) (by omega)]; exact a3
  · rw [h0 _ (by omega) (by omega)]; exact a4
  · rw [h0 _ (by omega) (by omega)]; exact a5
  · rw [h0 _ (by omega) (by omega)]; exact a6
theorem x_adv {K s : Mem} {T j : Nat} (hA : tkA K T s) (h0 : s 173 0 = K T 2) (h5 : s 173 5 + 1 = Int32.ofNat j) (hlt : ¬ s 173 4 ≤ s 173 5) (hj : j ≤ T) (hT : T ≤ 400) (k0 : K T 0 = 0) (k1 : K T 1 = -1) (h172 : s 172 1 = 0 ∧ s 172 2 = -1) :
    ∃ s', f_X6_advance s = some s' ∧ cuC K T s' j ∧ ∀ c, c ≠ 173 → s' c = s c := by
  have key : ∀ u : Mem, (∀ c, c ≠ 173 → u c = s c) → u 173 0 = s 173 0 → u 173 4 = s 173 4 → u 173 5 = Int32.ofNat j → ∃ s', jn_X6_advance_21 u = some s' ∧ cuC K T s' j ∧ ∀ c, c ≠ 173 → s' c = s c := by
    intro u u1 u2 u3 u4
    have uA : ∀ u' : Mem, (∀ c, c ≠ 173 → u' c = s c) → u' 173 4 = s 173 4 → tkA K T u' := by
      intro u' q1 q2
      unfold tkA
      rw [q2, q1 175 (by omega), q1 176 (by omega), q1 177 (by omega)]
      exact hA
    unfold jn_X6_advance_21
    rw [u3, u4, hA.1]
    by_cases q : j = T
    · rw [if_neg (by rw [N_lt (by omega) (by omega)]; omega)]
      unfold jn_X6_advance_37
      rw [if_neg (by decide)]
      unfold jn_X6_advance_56
      rw [if_neg (by decide)]
      unfold jn_X6_advance_77
      rw [if_neg (by decide)]
      refine ⟨_, rfl, ⟨uA _ (fun c hc => by rw [m_ne hc, m_ne hc, m_ne hc, u1 c hc]) (by simp (disch := omega) only [m_eq, u_ne]; exact u3), ?_, ?_, ?_, ?_, ?_, by rw [m_ne (by omega), m_ne (by omega), m_ne (by omega), u1 172 (by omega)]; exact h172⟩, fun c hc => by rw [m_ne hc, m_ne hc, m_ne hc, u1 c hc]⟩
      · simp (disch := omega) only [m_eq, u_ne]
        exact u2.trans h0
      · simp (disch := omega) only [m_eq, u_ne]
        exact u4
      · simp (disch := omega) only [m_eq, u_ne, u_eq]
        rw [q, k0]; rfl
      · simp (disch := omega) only [m_eq, u_ne, u_eq]
        rw [q, k1]
      · simp (disch := omega) only [m_eq, u_ne, u_eq]
        rw [q]; exact u2.trans h0
    · obtain ⟨b1, b2, b3⟩ := hA.2 j (by omega)
      rw [if_pos (by rw [N_lt (by omega) (by omega)]; omega)]
      unfold jn_X6_advance_37
      rw [if_pos rfl, u4, u1 175 (by omega), rd_N (by omega) (by omega)]
      dsimp only [Option.bind_some]
      unfold jn_X6_advance_56
      rw [if_pos rfl]
      simp (disch := omega) only [m_eq, m_ne, u_ne]
      rw [u4, u1 176 (by omega), rd_N (by omega) (by omega)]
      dsimp only [Option.bind_some]
      unfold jn_X6_advance_77
      rw [if_pos rfl]
      simp (disch := omega) only [m_eq, m_ne, u_ne]
      rw [u4, u1 177 (by omega), rd_N (by omega) (by omega)]
      dsimp only [Option.bind_some]
      refine ⟨_, rfl, ⟨uA _ (fun c hc => by rw [m_ne hc, m_ne hc, m_ne hc, u1 c hc]) (by simp (disch := omega) only [m_eq, u_ne]; exact u3), ?_, ?_, ?_, ?_, ?_, by rw [m_ne (by omega), m_ne (by omega), m_ne (by omega), u1 172 (by omega)]; exact h172⟩, fun c hc => by rw [m_ne hc, m_ne hc, m_ne hc, u1 c hc]⟩
      · simp (disch := omega) only [m_eq, u_ne]
        exact u2.trans h0
      · simp (disch := omega) only [m_eq, u_ne]
        exact u4
      · simp (disch := omega) only [m_eq, u_ne, u_eq]
        exact b1
      · simp (disch := omega) only [m_eq, u_ne, u_eq]
        exact b2
      · simp (disch := omega) only [m_eq, u_ne, u_eq]
        exact b3
  unfold f_X6_advance
  rw [if_neg hlt]
  exact key _ (fun c hc => m_ne hc) (by rw [m_eq, u_ne (by omega)]) (by rw [m_eq, u_ne (by omega)]) (by rw [m_eq, u_eq, h5])
/-- both go on to the next token -/
theorem x_next {K s : Mem} {T j : Nat} (h : cuC K T s j) (hj : j < T) (hT : T ≤ 400) (k0 : K T 0 = 0) (k1 : K T 1 = -1) : ∃ s', f_X6_advance s = some s' ∧ cuC K T s' (j + 1) ∧ ∀ c, c ≠ 173 → s' c = s c := by
  obtain ⟨a1, a2, a3, a4, a5, a6⟩ := h
  exact x_adv a1 a2 (by rw [a3, N_addL]) (by rw [a3, a1.1, N_le (by omega) (by omega)]; omega) (by omega) hT k0 k1 a6.2
theorem m_next {K t : Mem} {T j : Nat} (h : cuR K T t j) (hj : j < T) : ∃ t', f_X12_reads t = some t' ∧ cuR K T t' (j + 1) ∧ (∀ c, c ≠ 0 → t' c = t c) ∧ ∀ i, i < 10 ∨ 13 < i → t' 0 i = t 0 i := by
  obtain ⟨a1, a2, a3, a4, a5, a6⟩ := h
  obtain ⟨t', e1, e2, e3, e4, e5, e6, e7⟩ := a1.2.2.2.2.2.1 (j + 1) (by omega) t rfl rfl rfl a3
  exact ⟨t', e1, ⟨tkT_eq a1 (e2 5 (by omega)) (e2 6 (by omega)) (e3 9 (by omega)), by omega, e4, e5, e6, e7⟩, e2, e3⟩
theorem cur_lt {K t : Mem} {T j : Nat} (h : cuR K T t j) (hk : K j 0 ≠ 0) : j < T := by
  have := h.2.1
  by_cases q : j = T
  · subst q; exact absurd h.1.2.2.1 hk
  · omega
theorem cur_F {K t : Mem} {T j : Nat} (h : cuR K T t j) (hk : K j 0 ≠ 0) : tkF (K j) := h.1.2.2.2.2.1 j (cur_lt h hk)
abbrev isW (K : Mem) (j q : Nat) : Prop := K j 0 = 2 ∧ K j 4 = Int32.ofNat q
abbrev isS (K : Mem) (j : Nat) (c : Int32) : Prop := K j 0 = 4 ∧ K j 1 = c
theorem ckd_1 {k : Int32} : ckd k = 1 ↔ k = 2 := by unfold ckd; constructor <;> intro h <;> grind
theorem ckd_2 {k : Int32} : ckd k = 2 ↔ k = 3 := by unfold ckd; constructor <;> intro h <;> grind
theorem ckd_3 {k : Int32} : ckd k = 3 ↔ k = 4 := by unfold ckd; constructor <;> intro h <;> grind
theorem ckd_0 {k : Int32} : ckd k = 0 ↔ k = 0 := by unfold ckd; constructor <;> intro h <;> grind
theorem tkF_w {k : Nat → Int32} (h : tkF k) (h2 : k 0 = 2) : ∃ q, q < 23 ∧ k 4 = Int32.ofNat q ∧ k 1 = Int32.ofNat (cw q) := by
  rcases h with q | ⟨-, q⟩ | ⟨q, -⟩ | ⟨q, -⟩
  · rw [h2] at q; exact absurd q (by decide)
  · exact q
  · rw [h2] at q; exact absurd q (by decide)
  · rw [h2] at q; exact absurd q (by decide)
theorem tkF_n {k : Nat → Int32} (h : tkF k) (h2 : k 0 = 3) : ∃ v, v < 10000 ∧ k 4 = Int32.ofNat v ∧ k 1 = Int32.ofNat v := by
  rcases h with q | ⟨q, -⟩ | ⟨-, q⟩ | ⟨q, -⟩
  · rw [h2] at q; exact absurd q (by decide)
  · rw [h2] at q; exact absurd q (by decide)
  · exact q
  · rw [h2] at q; exact absurd q (by decide)
theorem tkF_s {k : Nat → Int32} (h : tkF k) (h2 : k 0 = 4) : k 4 = k 1 := by
  rcases h with q | ⟨q, -⟩ | ⟨q, -⟩ | ⟨-, q⟩
  · rw [h2] at q; exact absurd q (by decide)
  · rw [h2] at q; exact absurd q (by decide)
  · rw [h2] at q; exact absurd q (by decide)
  · exact q
theorem x_isW {K s t : Mem} {T j : Nat} (c : Int32) (q : Nat) (hq : q < 23) (hc : c = Int32.ofNat (cw q)) (h : cuC K T s j) (h' : cuR K T t j) : f_X6_isWord c s = some (if isW K j q then 1 else 0, s) := by
  obtain ⟨a1, a2, a3, a4, a5, a6⟩ := h
  unfold f_X6_isWord
  rw [a4, a5]
  by_cases h2 : K j 0 = 2
  · obtain ⟨q', hq', e4, e1⟩ := tkF_w (cur_F h' (by rw [h2]; decide)) h2
    have c1 := cw_lt q hq
    have c2 := cw_lt q' hq'
    rw [if_pos (ckd_1.mpr h2), e1, hc]
    by_cases q2 : q' = q
    · rw [if_pos (by rw [q2]), if_pos ⟨h2, by rw [e4, q2]⟩]
    · rw [if_neg (by rw [N_eq (by omega) (by omega)]; exact fun z => q2 (cw_inj q' hq' q hq z)), if_neg (fun z => q2 (by have := z.2; rw [e4, N_eq (by omega) (by omega)] at this; exact this))]
  · rw [if_neg (fun z => h2 (ckd_1.mp z)), if_neg (fun z => h2 z.1)]
theorem m_isW {K t : Mem} {T j : Nat} (w : Int32) (q : Nat) (hw : w = Int32.ofNat q) (h : cuR K T t j) : f_X12_isWord w t = some (if isW K j q then 1 else 0, t) := by
  obtain ⟨a1, a2, a3, a4, a5, a6⟩ := h
  unfold f_X12_isWord
  rw [a5]
  by_cases h2 : K j 0 = 2
  · rw [if_pos h2, a6 (by rw [h2]; decide) (by rw [h2]; decide), hw]
    by_cases q2 : K j 4 = Int32.ofNat q
    · rw [if_pos q2, if_pos ⟨h2, q2⟩]
    · rw [if_neg q2, if_neg (fun z => q2 z.2)]
  · rw [if_neg h2, if_neg (fun z => h2 z.1)]
theorem x_isS {K s : Mem} {T j : Nat} (c : Int32) (h : cuC K T s j) : f_X6_isSign c s = some (if isS K j c then 1 else 0, s) := by
  obtain ⟨a1, a2, a3, a4, a5, a6⟩ := h
  unfold f_X6_isSign
  rw [a4, a5]
  by_cases h2 : K j 0 = 4
  · rw [if_pos (ckd_3.mpr h2)]
    by_cases q2 : K j 1 = c
    · rw [if_pos q2, if_pos ⟨h2, q2⟩]
    · rw [if_neg q2, if_neg (fun z => q2 z.2)]
  · rw [if_neg (fun z => h2 (ckd_3.mp z)), if_neg (fun z => h2 z.1)]
theorem m_isS {K t : Mem} {T j : Nat} (c : Int32) (h : cuR K T t j) : f_X12_isSign c t = some (if isS K j c then 1 else 0, t) := by
  have hF := fun z => cur_F h z
  obtain ⟨a1, a2, a3, a4, a5, a6⟩ := h
  unfold f_X12_isSign
  rw [a5]
  by_cases h2 : K j 0 = 4
  · rw [if_pos h2, a6 (by rw [h2]; decide) (by rw [h2]; decide), tkF_s (hF (by rw [h2]; decide)) h2]
    by_cases q2 : K j 1 = c
    · rw [if_pos q2, if_pos ⟨h2, q2⟩]
    · rw [if_neg q2, if_neg (fun z => q2 z.2)]
  · rw [if_neg h2, if_neg (fun z => h2 z.1)]
theorem x_fail {s : Mem} {k : Int32} : f_X4_fail k s = some (0, mset (mset s 172 1 k) 172 2 (s 173 3)) := by
  unfold f_X4_fail
  rw [m_ne (by omega)]
theorem m_errs {t : Mem} {k : Int32} : f_X12_errs k t = some (-1, mset (mset t 0 27 k) 0 28 (t 0 11)) := by
  unfold f_X12_errs
  rw [m_eq, u_ne (by omega)]
/-- lists of codes, counted out -/
def evL (F : Nat → Int32) : List Int32 → List Int32 → Option (List Int32)
  | [], st => some st
  | c :: r, st => (ev1 F c st).bind (evL F r)
theorem evL_app {F : Nat → Int32} : ∀ (a b st : List Int32), evL F (a ++ b) st = (evL F a st).bind (evL F b)
  | [], b, st => rfl
  | c :: r, b, st => by
    show (ev1 F c st).bind (evL F (r ++ b)) = ((ev1 F c st).bind (evL F r)).bind (evL F b)
    rw [Option.bind_assoc]
    congr 1
    funext x
    exact evL_app r b x
theorem evn_L {F f : Nat → Int32} : ∀ (l : List Int32) (a : Nat) (st : List Int32), (∀ i, i < l.length → f (a + i) = l.getD i 0) → evn F f a l.length st = evL F l st
  | [], a, st, _ => rfl
  | c :: r, a, st, h => by
    have h0 : f a = c := h 0 (by simp)
    show (ev1 F (f a) st).bind (evn F f (a + 1) r.length) = (ev1 F c st).bind (evL F r)
    rw [h0]
    congr 1
    funext x
    exact evn_L r (a + 1) x (fun i hi => by
      have := h (i + 1) (by simp; omega)
      rw [show a + 1 + i = a + (i + 1) by omega, this]
      rfl)
/-- such codes leave one value on what stood; a truth -/
def EV (b : Nat) (d : List Int32) : Prop := ∀ (F : Nat → Int32) (st : List Int32), st.length ≤ b → ∃ v, evL F d st = some (v :: st)
def EZ (b : Nat) (d : List Int32) : Prop := ∀ (F : Nat → Int32) (st : List Int32), st.length ≤ b → ∃ v, isB v ∧ evL F d st = some (v :: st)
theorem EV.mono {b b' : Nat} {d : List Int32} (h : EV b d) (hb : b' ≤ b) : EV b' d := fun F st hs => h F st (by omega)
theorem EZ.mono {b b' : Nat} {d : List Int32} (h : EZ b d) (hb : b' ≤ b) : EZ b' d := fun F st hs => h F st (by omega)
theorem EV_num {c : Int32} (h : 0 ≤ c ∧ c < 10000) {F : Nat → Int32} {st : List Int32} (hs : st.length < 60) : evL F [c] st = some (c :: st) := by
  show (ev1 F c st).bind (evL F []) = _
  unfold ev1
  rw [if_pos h, if_pos hs]
  rfl
theorem EV_unit {c : Int32} (h : (0 ≤ c ∧ c < 10000) ∨ (10000 ≤ c ∧ c < 10008)) : EV 59 [c] := by
  intro F st hs
  rcases h with h | h
  · exact ⟨c, EV_num h (by omega)⟩
  · refine ⟨F (c - 10000).toNatClampNeg, ?_⟩
    show (ev1 F c st).bind (evL F []) = _
    unfold ev1
    rw [if_neg (by grind), if_pos h, if_pos (by omega)]
    rfl
theorem evL_op {F : Nat → Int32} {c x y v : Int32} {r : List Int32} (h : op2 c x y = some v) : evL F [c] (y :: x :: r) = some (v :: r) := by
  have hc := op2_c h
  show (ev1 F c (y :: x :: r)).bind (evL F []) = _
  unfold ev1
  rw [if_neg (by grind), if_neg (by grind), if_neg (by grind)]
  dsimp only
  rw [h]
  rfl
theorem evL_not {F : Nat → Int32} {v : Int32} {r : List Int32} (h : isB v) : ∃ w, isB w ∧ evL F [20009] (v :: r) = some (w :: r) := by
  refine ⟨if v = 0 then 1 else 0, isB_ite, ?_⟩
  show (ev1 F 20009 (v :: r)).bind (evL F []) = _
  unfold ev1
  rw [if_neg (by decide), if_neg (by decide), if_pos rfl]
  dsimp only
  rw [if_pos (show v = 0 ∨ v = 1 from h)]
  rfl
theorem EV_bin {b : Nat} {d1 d2 : List Int32} {c : Int32} (h1 : EV b d1) (h2 : EV (b + 1) d2) (hc : ∀ x y, ∃ v, op2 c x y = some v) : EV b (d1 ++ (d2 ++ [c])) := by
  intro F st hs
  obtain ⟨x, e1⟩ := h1 F st hs
  obtain ⟨y, e2⟩ := h2 F (x :: st) (by simp; omega)
  obtain ⟨v, e3⟩ := hc x y
  refine ⟨v, ?_⟩
  rw [evL_app, e1, Option.bind_some, evL_app, e2, Option.bind_some]
  exact evL_op e3
theorem EV_div {b : Nat} {d1 : List Int32} {w : Int32} (h1 : EV b d1) (hb : b < 59) (hw : 0 ≤ w ∧ w < 10000) (h0 : w ≠ 0) : EV b (d1 ++ ([w] ++ [20003])) := by
  intro F st hs
  obtain ⟨x, e1⟩ := h1 F st hs
  refine ⟨x / w, ?_⟩
  rw [evL_app, e1, Option.bind_some, evL_app, EV_num hw (by simp; omega), Option.bind_some]
  apply evL_op
  unfold op2
  rw [if_neg (by decide), if_neg (by decide), if_neg (by decide), if_pos rfl, if_neg h0]
theorem EZ_cmp {b : Nat} {d1 d2 : List Int32} {c : Int32} (h1 : EV b d1) (h2 : EV (b + 1) d2) (hc : c = 20004 ∨ c = 20005 ∨ c = 20006) : EZ b (d1 ++ (d2 ++ [c])) := by
  intro F st hs
  obtain ⟨x, e1⟩ := h1 F st hs
  obtain ⟨y, e2⟩ := h2 F (x :: st) (by simp; omega)
  have : ∃ v, isB v ∧ op2 c x y = some v := by
    rcases hc with rfl | rfl | rfl
    · exact ⟨if x < y then 1 else 0, isB_ite, rfl⟩
    · exact ⟨if x = y then 1 else 0, isB_ite, rfl⟩
    · exact ⟨if y < x then 1 else 0, isB_ite, rfl⟩
  obtain ⟨v, hv, e3⟩ := this
  refine ⟨v, hv, ?_⟩
  rw [evL_app, e1, Option.bind_some, evL_app, e2, Option.bind_some]
  exact evL_op e3
theorem EZ_bin {b : Nat} {d1 d2 : List Int32} {c : Int32} (h1 : EZ b d1) (h2 : EZ (b + 1) d2) (hc : c = 20007 ∨ c = 20008) : EZ b (d1 ++ (d2 ++ [c])) := by
  intro F st hs
  obtain ⟨x, hx, e1⟩ := h1 F st hs
  obtain ⟨y, hy, e2⟩ := h2 F (x :: st) (by simp; omega)
  have : ∃ v, isB v ∧ op2 c x y = some v := by
    rcases hc with rfl | rfl <;> rcases hx with rfl | rfl <;> rcases hy with rfl | rfl
    · exact ⟨0, Or.inl rfl, by decide⟩
    · exact ⟨0, Or.inl rfl, by decide⟩
    · exact ⟨0, Or.inl rfl, by decide⟩
    · exact ⟨1, Or.inr rfl, by decide⟩
    · exact ⟨0, Or.inl rfl, by decide⟩
    · exact ⟨1, Or.inr rfl, by decide⟩
    · exact ⟨1, Or.inr rfl, by decide⟩
    · exact ⟨1, Or.inr rfl, by decide⟩
  obtain ⟨v, hv, e3⟩ := this
  refine ⟨v, hv, ?_⟩
  rw [evL_app, e1, Option.bind_some, evL_app, e2, Option.bind_some]
  exact evL_op e3
theorem EZ_not {b : Nat} {d : List Int32} (h : EZ b d) : EZ b (d ++ [20009]) := by
  intro F st hs
  obtain ⟨x, hx, e1⟩ := h F st hs
  obtain ⟨w, hw, e2⟩ := evL_not (F := F) (r := st) hx
  refine ⟨w, hw, ?_⟩
  rw [evL_app, e1, Option.bind_some, e2]
