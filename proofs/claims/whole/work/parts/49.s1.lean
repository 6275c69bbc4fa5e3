/-! ===== the tree, whole ===== -/
theorem r_tree {n : Nat} {f : Nat → Nat} {s t : Mem} (h : rwB s t n f) : (f_X9_growTree 51 s = some (0, s) ∧ f_X12_growsTree t = some (0, t)) ∨
    ∃ g F s' t', f_X9_growTree 51 s = some (1, s') ∧ f_X12_growsTree t = some (1, t') ∧ St (n + 2) g F ∧ up (n + 2) g F s' ∧ (∀ x y, x < n + 2 → y < n + 2 → t' 31 (8 * x + y) = Int32.ofNat (Dt (n + 2) g F x y)) ∧ (∀ c, c ≠ 199 → s' c = s c) ∧ ∀ c, c ≠ 31 → t' c = t c := by
  have h' := h
  obtain ⟨hn, ⟨h1, h2⟩, h3⟩ := h'
  unfold f_X9_growTree f_X12_growsTree
  rw [h1, h2, N_addL, if_neg (by rw [L_ltN (by omega) (by omega)]; omega)]
  rcases r_below h with ⟨hall, e1, e2⟩ | ⟨e1, e2⟩
  · rw [e1, e2, Option.bind_some, Option.bind_some]
    dsimp only
    rw [if_neg (show ¬ (1 : Int32) = 0 by decide), if_neg (show ¬ (1 : Nat) = 0 by decide), L_shl (by omega), N_subL (Nat.pow_pos (by decide))]
    obtain ⟨t1, e3, mat1, f1⟩ := m_blank (t := t) (z := Int32.ofNat (n + 2)) (g := fun _ => 0) (f := f)
    rw [e3, Option.bind_some]
    have hX : rwX s n f := ⟨hn, h1, fun j hj => ⟨(h3 j hj).1, hall j hj⟩⟩
    have hM : rwM t1 n f := rwM_t (t := t) ⟨hn, h2, fun j hj => ⟨(h3 j hj).2.1, hall j hj⟩⟩ f1
    obtain ⟨⟨fl, mm, s2⟩, ⟨mm', t2⟩, e4, e5, g, m, r1, r2, hI, sf, sv, tf, tm⟩ := r_grow (z := Int32.ofNat (n + 2)) hX hM (grI_0 hn) mat1
    dsimp only at r1 r2 sf sv tf tm
    have r1' := congrArg Prod.fst r1
    have r1'' := congrArg (fun w => w.2.1) r1
    have r2' := congrArg Prod.fst r2
    dsimp only at r1' r1'' r2'
    subst r1' r1'' r2'
    rw [e4, e5, Option.bind_some, Option.bind_some]
    dsimp only
    obtain ⟨a, b, hab, hb, ma, mb, la, lb2, hJ, x1, x2⟩ := x_two (rwX_s hX sf) hI
    obtain ⟨c1, -, -⟩ := clr_N hI.1 (show a < 8 by omega)
    rw [if_neg (show ¬ (1 : Nat) = 0 by decide), (rwX_s hX sf).2.1, x1, Option.bind_some]
    dsimp only
    rw [if_neg (by rw [N_neg (by omega)]; exact fun w => w), (rwX_s hX sf).2.1, c1, x2, Option.bind_some]
    dsimp only
    rw [if_neg (by rw [N_neg (by omega)]; exact fun w => w), wr_N (by omega) (by omega), Option.bind_some, wr_N (by omega) (by omega), Option.bind_some]
    have y1 := m_first (t := t2) (z := Int32.ofNat (n + 2)) hI.1 (show a < 8 by omega) ma la
    have y2 := m_second (t := t2) (z := Int32.ofNat (n + 2)) (z' := Int32.ofNat a) hI.1 (show b < 8 by omega) hab mb lb2
    rw [y1, Option.bind_some]
    dsimp only
    rw [N_addL, y2, Option.bind_some]
    dsimp only
    have tm' : matI (xt g n a) (xt f n b) n t2 := fun x y hx hy => by
      rw [tm x y hx hy, EB_congr (g' := xt g n a) (f' := xt f n b) n (fun q hq => ⟨xt_ne (by omega), xt_ne (by omega)⟩)]
    obtain ⟨t3, y3, tm3, tf3⟩ := m_joins tm' (by rw [xt_eq]; omega) (by rw [xt_eq]; omega) (by rw [xt_eq, xt_eq]; omega)
    rw [xt_eq, xt_eq] at y3
    rw [y3, Option.bind_some]
    have hSt := St_of (g := xt (xt g n a) (n + 1) b) (b := b) hn hall hJ xt_eq
    have tm4 : matI (xt (xt g n a) (n + 1) b) (xt f n b) (n + 2 - 1) t3 := fun x y hx hy => by
      rw [tm3 x y hx hy, show n + 2 - 1 = n + 1 by omega, EB_congr (g' := xt (xt g n a) (n + 1) b) (f' := xt f n b) (n + 1) (fun q hq => ⟨xt_ne (by omega), rfl⟩)]
    obtain ⟨t4, y4, dist, tf4⟩ := fw_all (show n + 2 ≤ 8 by omega) (Dt_mtr hSt) (fw_start hSt tm4)
    rw [y4, Option.bind_some]
    refine Or.inr ⟨_, _, _, _, rfl, rfl, hSt, ⟨fun q hq => ?_, ?_⟩, dist, fun c hc => ?_, fun c hc => ?_⟩
    · rw [xt_ne (by omega), m_eq]
      by_cases hqn : q = n
      · subst hqn
        rw [xt_eq, xt_eq, u_ne (by omega), m_eq, u_eq]
      · rw [xt_ne hqn, xt_ne hqn]
        have ha' := ((hI.2.1 a (by omega)).mp ma).2 q (by omega)
        have hb' := ((hI.2.1 b (by omega)).mp mb).2 q (by omega)
        rw [u_ne hb', m_eq, u_ne ha']
        exact sv q (by omega)
    · rw [show n + 2 - 1 = n + 1 by omega, xt_eq, m_eq, u_eq]
    · rw [m_ne hc, m_ne hc]
      exact sf c hc
    · rw [tf4 c hc, tf3 c hc, tf c hc, f1 c hc]
  · rw [e1, e2, Option.bind_some, Option.bind_some]
    exact Or.inl ⟨rfl, rfl⟩
