/-! ===== walks: X0_copyFrom .. X2_evenTurnedAbove ===== -/
theorem dX0_copyFrom_0 : decode cX0_copyFrom 0 = .ok (.aload_n 0, 1) := by decide +kernel
theorem dX0_copyFrom_1 : decode cX0_copyFrom 1 = .ok (.aload_n 1, 1) := by decide +kernel
theorem dX0_copyFrom_2 : decode cX0_copyFrom 2 = .ok (.getfield 15, 3) := by decide +kernel
theorem dX0_copyFrom_5 : decode cX0_copyFrom 5 = .ok (.putfield 15, 3) := by decide +kernel
theorem dX0_copyFrom_8 : decode cX0_copyFrom 8 = .ok (.iconst 0, 1) := by decide +kernel
theorem dX0_copyFrom_9 : decode cX0_copyFrom 9 = .ok (.istore_n 2, 1) := by decide +kernel
theorem dX0_copyFrom_10 : decode cX0_copyFrom 10 = .ok (.iload_n 2, 1) := by decide +kernel
theorem dX0_copyFrom_11 : decode cX0_copyFrom 11 = .ok (.aload_n 0, 1) := by decide +kernel
theorem dX0_copyFrom_12 : decode cX0_copyFrom 12 = .ok (.getfield 15, 3) := by decide +kernel
theorem dX0_copyFrom_15 : decode cX0_copyFrom 15 = .ok (.if_icmp .ge 93, 3) := by decide +kernel
theorem dX0_copyFrom_18 : decode cX0_copyFrom 18 = .ok (.aload_n 0, 1) := by decide +kernel
theorem dX0_copyFrom_19 : decode cX0_copyFrom 19 = .ok (.getfield 19, 3) := by decide +kernel
theorem dX0_copyFrom_22 : decode cX0_copyFrom 22 = .ok (.iload_n 2, 1) := by decide +kernel
theorem dX0_copyFrom_23 : decode cX0_copyFrom 23 = .ok (.aload_n 1, 1) := by decide +kernel
theorem dX0_copyFrom_24 : decode cX0_copyFrom 24 = .ok (.getfield 19, 3) := by decide +kernel
theorem dX0_copyFrom_27 : decode cX0_copyFrom 27 = .ok (.iload_n 2, 1) := by decide +kernel
theorem dX0_copyFrom_28 : decode cX0_copyFrom 28 = .ok (.iaload, 1) := by decide +kernel
theorem dX0_copyFrom_29 : decode cX0_copyFrom 29 = .ok (.iastore, 1) := by decide +kernel
theorem dX0_copyFrom_30 : decode cX0_copyFrom 30 = .ok (.aload_n 0, 1) := by decide +kernel
theorem dX0_copyFrom_31 : decode cX0_copyFrom 31 = .ok (.getfield 23, 3) := by decide +kernel
theorem dX0_copyFrom_34 : decode cX0_copyFrom 34 = .ok (.iload_n 2, 1) := by decide +kernel
theorem dX0_copyFrom_35 : decode cX0_copyFrom 35 = .ok (.aload_n 1, 1) := by decide +kernel
theorem dX0_copyFrom_36 : decode cX0_copyFrom 36 = .ok (.getfield 23, 3) := by decide +kernel
theorem dX0_copyFrom_39 : decode cX0_copyFrom 39 = .ok (.iload_n 2, 1) := by decide +kernel
theorem dX0_copyFrom_40 : decode cX0_copyFrom 40 = .ok (.iaload, 1) := by decide +kernel
theorem dX0_copyFrom_41 : decode cX0_copyFrom 41 = .ok (.iastore, 1) := by decide +kernel
theorem dX0_copyFrom_42 : decode cX0_copyFrom 42 = .ok (.aload_n 0, 1) := by decide +kernel
theorem dX0_copyFrom_43 : decode cX0_copyFrom 43 = .ok (.getfield 26, 3) := by decide +kernel
theorem dX0_copyFrom_46 : decode cX0_copyFrom 46 = .ok (.iload_n 2, 1) := by decide +kernel
theorem dX0_copyFrom_47 : decode cX0_copyFrom 47 = .ok (.aload_n 1, 1) := by decide +kernel
theorem dX0_copyFrom_48 : decode cX0_copyFrom 48 = .ok (.getfield 26, 3) := by decide +kernel
theorem dX0_copyFrom_51 : decode cX0_copyFrom 51 = .ok (.iload_n 2, 1) := by decide +kernel
theorem dX0_copyFrom_52 : decode cX0_copyFrom 52 = .ok (.iaload, 1) := by decide +kernel
theorem dX0_copyFrom_53 : decode cX0_copyFrom 53 = .ok (.iastore, 1) := by decide +kernel
theorem dX0_copyFrom_54 : decode cX0_copyFrom 54 = .ok (.aload_n 0, 1) := by decide +kernel
theorem dX0_copyFrom_55 : decode cX0_copyFrom 55 = .ok (.getfield 29, 3) := by decide +kernel
theorem dX0_copyFrom_58 : decode cX0_copyFrom 58 = .ok (.iload_n 2, 1) := by decide +kernel
theorem dX0_copyFrom_59 : decode cX0_copyFrom 59 = .ok (.aload_n 1, 1) := by decide +kernel
theorem dX0_copyFrom_60 : decode cX0_copyFrom 60 = .ok (.getfield 29, 3) := by decide +kernel
theorem dX0_copyFrom_63 : decode cX0_copyFrom 63 = .ok (.iload_n 2, 1) := by decide +kernel
theorem dX0_copyFrom_64 : decode cX0_copyFrom 64 = .ok (.iaload, 1) := by decide +kernel
theorem dX0_copyFrom_65 : decode cX0_copyFrom 65 = .ok (.iastore, 1) := by decide +kernel
theorem dX0_copyFrom_66 : decode cX0_copyFrom 66 = .ok (.aload_n 0, 1) := by decide +kernel
theorem dX0_copyFrom_67 : decode cX0_copyFrom 67 = .ok (.getfield 32, 3) := by decide +kernel
theorem dX0_copyFrom_70 : decode cX0_copyFrom 70 = .ok (.iload_n 2, 1) := by decide +kernel
theorem dX0_copyFrom_71 : decode cX0_copyFrom 71 = .ok (.aload_n 1, 1) := by decide +kernel
theorem dX0_copyFrom_72 : decode cX0_copyFrom 72 = .ok (.getfield 32, 3) := by decide +kernel
theorem dX0_copyFrom_75 : decode cX0_copyFrom 75 = .ok (.iload_n 2, 1) := by decide +kernel
theorem dX0_copyFrom_76 : decode cX0_copyFrom 76 = .ok (.iaload, 1) := by decide +kernel
theorem dX0_copyFrom_77 : decode cX0_copyFrom 77 = .ok (.iastore, 1) := by decide +kernel
theorem dX0_copyFrom_78 : decode cX0_copyFrom 78 = .ok (.aload_n 0, 1) := by decide +kernel
theorem dX0_copyFrom_79 : decode cX0_copyFrom 79 = .ok (.getfield 35, 3) := by decide +kernel
theorem dX0_copyFrom_82 : decode cX0_copyFrom 82 = .ok (.iload_n 2, 1) := by decide +kernel
theorem dX0_copyFrom_83 : decode cX0_copyFrom 83 = .ok (.aload_n 1, 1) := by decide +kernel
theorem dX0_copyFrom_84 : decode cX0_copyFrom 84 = .ok (.getfield 35, 3) := by decide +kernel
theorem dX0_copyFrom_87 : decode cX0_copyFrom 87 = .ok (.iload_n 2, 1) := by decide +kernel
theorem dX0_copyFrom_88 : decode cX0_copyFrom 88 = .ok (.iaload, 1) := by decide +kernel
theorem dX0_copyFrom_89 : decode cX0_copyFrom 89 = .ok (.iastore, 1) := by decide +kernel
theorem dX0_copyFrom_90 : decode cX0_copyFrom 90 = .ok (.aload_n 0, 1) := by decide +kernel
theorem dX0_copyFrom_91 : decode cX0_copyFrom 91 = .ok (.getfield 38, 3) := by decide +kernel
theorem dX0_copyFrom_94 : decode cX0_copyFrom 94 = .ok (.iload_n 2, 1) := by decide +kernel
theorem dX0_copyFrom_95 : decode cX0_copyFrom 95 = .ok (.aload_n 1, 1) := by decide +kernel
theorem dX0_copyFrom_96 : decode cX0_copyFrom 96 = .ok (.getfield 38, 3) := by decide +kernel
theorem dX0_copyFrom_99 : decode cX0_copyFrom 99 = .ok (.iload_n 2, 1) := by decide +kernel
theorem dX0_copyFrom_100 : decode cX0_copyFrom 100 = .ok (.iaload, 1) := by decide +kernel
theorem dX0_copyFrom_101 : decode cX0_copyFrom 101 = .ok (.iastore, 1) := by decide +kernel
theorem dX0_copyFrom_102 : decode cX0_copyFrom 102 = .ok (.iinc 2 1, 3) := by decide +kernel
theorem dX0_copyFrom_105 : decode cX0_copyFrom 105 = .ok (.goto (-95), 3) := by decide +kernel
theorem dX0_copyFrom_108 : decode cX0_copyFrom 108 = .ok (.aload_n 0, 1) := by decide +kernel
theorem dX0_copyFrom_109 : decode cX0_copyFrom 109 = .ok (.aload_n 1, 1) := by decide +kernel
theorem dX0_copyFrom_110 : decode cX0_copyFrom 110 = .ok (.getfield 41, 3) := by decide +kernel
theorem dX0_copyFrom_113 : decode cX0_copyFrom 113 = .ok (.putfield 41, 3) := by decide +kernel
theorem dX0_copyFrom_116 : decode cX0_copyFrom 116 = .ok (.aload_n 0, 1) := by decide +kernel
theorem dX0_copyFrom_117 : decode cX0_copyFrom 117 = .ok (.aload_n 1, 1) := by decide +kernel
theorem dX0_copyFrom_118 : decode cX0_copyFrom 118 = .ok (.getfield 44, 3) := by decide +kernel
theorem dX0_copyFrom_121 : decode cX0_copyFrom 121 = .ok (.putfield 44, 3) := by decide +kernel
theorem dX0_copyFrom_124 : decode cX0_copyFrom 124 = .ok (.aload_n 0, 1) := by decide +kernel
theorem dX0_copyFrom_125 : decode cX0_copyFrom 125 = .ok (.aload_n 1, 1) := by decide +kernel
theorem dX0_copyFrom_126 : decode cX0_copyFrom 126 = .ok (.getfield 47, 3) := by decide +kernel
theorem dX0_copyFrom_129 : decode cX0_copyFrom 129 = .ok (.putfield 47, 3) := by decide +kernel
theorem dX0_copyFrom_132 : decode cX0_copyFrom 132 = .ok (.aload_n 0, 1) := by decide +kernel
theorem dX0_copyFrom_133 : decode cX0_copyFrom 133 = .ok (.aload_n 1, 1) := by decide +kernel
theorem dX0_copyFrom_134 : decode cX0_copyFrom 134 = .ok (.getfield 50, 3) := by decide +kernel
theorem dX0_copyFrom_137 : decode cX0_copyFrom 137 = .ok (.putfield 50, 3) := by decide +kernel
theorem dX0_copyFrom_140 : decode cX0_copyFrom 140 = .ok (.return_, 1) := by decide +kernel
set_option maxRecDepth 100000 in
set_option maxHeartbeats 4000000 in
theorem so_X0_copyFrom_10 {fr : Nat} (hfr : 0 ≤ fr) (Z : AZ) (X : AX Z cX0_copyFrom 3 RX0 none 0 fr) (a0 : Nat) (a1 : Nat) (h0 : IO 0 a0 0) (h1 : IO 0 a1 0) (x2 : Int32) (s : Mem) (q : (Int32 × Mem) ⊕ (Mem)) (h : st_X0_copyFrom_10 a0 a1 x2 s = some q) (hi : ∀ y : Int32 × Mem, q = .inl y → AW Z y.2 10 [some (.ref (zr Z a0)), some (.ref (zr Z a1)), some (.int y.1)] []) (he : ∀ b : Mem, q = .inr b → AW Z b 108 [some (.ref (zr Z a0)), some (.ref (zr Z a1)), none] []) : AW Z s 10 [some (.ref (zr Z a0)), some (.ref (zr Z a1)), some (.int x2)] [] := by
  unfold st_X0_copyFrom_10 at h
  refine aw_iload_n X dX0_copyFrom_10 rfl ?_
  refine aw_aload_n X dX0_copyFrom_11 rfl ?_
  refine aw_geti X dX0_copyFrom_12 fl_RX0_15 h0 (gt_RX0_1 h0) ?_
  refine aw_icmp_ge (tgt := 108) X dX0_copyFrom_15 (by decide) (fun c1 => ?_) (fun c1 => ?_)
  · rw [if_pos c1] at h
    cases h
    refine aw_msk [true, true, false] ?_
    exact he _ rfl
  · rw [if_neg c1] at h
    refine aw_aload_n X dX0_copyFrom_18 rfl ?_
    refine aw_getr X dX0_copyFrom_19 fl_RX0_19 h0 (gt_RX0_2 h0) ?_
    refine aw_iload_n X dX0_copyFrom_22 rfl ?_
    refine aw_aload_n X dX0_copyFrom_23 rfl ?_
    refine aw_getr X dX0_copyFrom_24 fl_RX0_19 h1 (gt_RX0_2 h1) ?_
    refine aw_iload_n X dX0_copyFrom_27 rfl ?_
    obtain ⟨v2, ev2, h⟩ := bnd h
    refine aw_iald X dX0_copyFrom_28 (it_RX0_2 h1) ev2 ?_
    obtain ⟨s3, es3, h⟩ := bnd h
    refine aw_iast X dX0_copyFrom_29 (it_RX0_2 h0) es3 ?_
    refine aw_aload_n X dX0_copyFrom_30 rfl ?_
    refine aw_getr X dX0_copyFrom_31 fl_RX0_23 h0 (gt_RX0_3 h0) ?_
    refine aw_iload_n X dX0_copyFrom_34 rfl ?_
    refine aw_aload_n X dX0_copyFrom_35 rfl ?_
    refine aw_getr X dX0_copyFrom_36 fl_RX0_23 h1 (gt_RX0_3 h1) ?_
    refine aw_iload_n X dX0_copyFrom_39 rfl ?_
    obtain ⟨v4, ev4, h⟩ := bnd h
    refine aw_iald X dX0_copyFrom_40 (it_RX0_3 h1) ev4 ?_
    obtain ⟨s5, es5, h⟩ := bnd h
    refine aw_iast X dX0_copyFrom_41 (it_RX0_3 h0) es5 ?_
    refine aw_aload_n X dX0_copyFrom_42 rfl ?_
    refine aw_getr X dX0_copyFrom_43 fl_RX0_26 h0 (gt_RX0_4 h0) ?_
    refine aw_iload_n X dX0_copyFrom_46 rfl ?_
    refine aw_aload_n X dX0_copyFrom_47 rfl ?_
    refine aw_getr X dX0_copyFrom_48 fl_RX0_26 h1 (gt_RX0_4 h1) ?_
    refine aw_iload_n X dX0_copyFrom_51 rfl ?_
    obtain ⟨v6, ev6, h⟩ := bnd h
    refine aw_iald X dX0_copyFrom_52 (it_RX0_4 h1) ev6 ?_
    obtain ⟨s7, es7, h⟩ := bnd h
    refine aw_iast X dX0_copyFrom_53 (it_RX0_4 h0) es7 ?_
    refine aw_aload_n X dX0_copyFrom_54 rfl ?_
    refine aw_getr X dX0_copyFrom_55 fl_RX0_29 h0 (gt_RX0_5 h0) ?_
    refine aw_iload_n X dX0_copyFrom_58 rfl ?_
    refine aw_aload_n X dX0_copyFrom_59 rfl ?_
    refine aw_getr X dX0_copyFrom_60 fl_RX0_29 h1 (gt_RX0_5 h1) ?_
    refine aw_iload_n X dX0_copyFrom_63 rfl ?_
    obtain ⟨v8, ev8, h⟩ := bnd h
    refine aw_iald X dX0_copyFrom_64 (it_RX0_5 h1) ev8 ?_
    obtain ⟨s9, es9, h⟩ := bnd h
    refine aw_iast X dX0_copyFrom_65 (it_RX0_5 h0) es9 ?_
    refine aw_aload_n X dX0_copyFrom_66 rfl ?_
    refine aw_getr X dX0_copyFrom_67 fl_RX0_32 h0 (gt_RX0_6 h0) ?_
    refine aw_iload_n X dX0_copyFrom_70 rfl ?_
    refine aw_aload_n X dX0_copyFrom_71 rfl ?_
    refine aw_getr X dX0_copyFrom_72 fl_RX0_32 h1 (gt_RX0_6 h1) ?_
    refine aw_iload_n X dX0_copyFrom_75 rfl ?_
    obtain ⟨v10, ev10, h⟩ := bnd h
    refine aw_iald X dX0_copyFrom_76 (it_RX0_6 h1) ev10 ?_
    obtain ⟨s11, es11, h⟩ := bnd h
    refine aw_iast X dX0_copyFrom_77 (it_RX0_6 h0) es11 ?_
    refine aw_aload_n X dX0_copyFrom_78 rfl ?_
    refine aw_getr X dX0_copyFrom_79 fl_RX0_35 h0 (gt_RX0_7 h0) ?_
    refine aw_iload_n X dX0_copyFrom_82 rfl ?_
    refine aw_aload_n X dX0_copyFrom_83 rfl ?_
    refine aw_getr X dX0_copyFrom_84 fl_RX0_35 h1 (gt_RX0_7 h1) ?_
    refine aw_iload_n X dX0_copyFrom_87 rfl ?_
    obtain ⟨v12, ev12, h⟩ := bnd h
    refine aw_iald X dX0_copyFrom_88 (it_RX0_7 h1) ev12 ?_
    obtain ⟨s13, es13, h⟩ := bnd h
    refine aw_iast X dX0_copyFrom_89 (it_RX0_7 h0) es13 ?_
    refine aw_aload_n X dX0_copyFrom_90 rfl ?_
    refine aw_getr X dX0_copyFrom_91 fl_RX0_38 h0 (gt_RX0_8 h0) ?_
    refine aw_iload_n X dX0_copyFrom_94 rfl ?_
    refine aw_aload_n X dX0_copyFrom_95 rfl ?_
    refine aw_getr X dX0_copyFrom_96 fl_RX0_38 h1 (gt_RX0_8 h1) ?_
    refine aw_iload_n X dX0_copyFrom_99 rfl ?_
    obtain ⟨v14, ev14, h⟩ := bnd h
    refine aw_iald X dX0_copyFrom_100 (it_RX0_8 h1) ev14 ?_
    obtain ⟨s15, es15, h⟩ := bnd h
    refine aw_iast X dX0_copyFrom_101 (it_RX0_8 h0) es15 ?_
    refine aw_iinc (v := (x2 + 1)) (L' := [some (.ref (zr Z a0)), some (.ref (zr Z a1)), some (.int (x2 + 1))]) X dX0_copyFrom_102 rfl rfl (by decide) rfl ?_
    refine aw_goto (tgt := 10) X dX0_copyFrom_105 (by decide) ?_
    cases h
    refine aw_msk [true, true, true] ?_
    exact hi _ rfl
set_option maxRecDepth 100000 in
set_option maxHeartbeats 4000000 in
theorem w_X0_copyFrom {fr : Nat} (hfr : 0 ≤ fr) (Z : AZ) (X : AX Z cX0_copyFrom 3 RX0 none 0 fr) (a0 : Nat) (a1 : Nat) (h0 : IO 0 a0 0) (h1 : IO 0 a1 0) (s : Mem) (r : Mem) (hz : zres Z = (none, r)) (h : f_X0_copyFrom a0 a1 s = some r) : AW Z s 0 [some (.ref (zr Z a0)), some (.ref (zr Z a1)), none] [] := by
  unfold f_X0_copyFrom at h
  refine aw_aload_n X dX0_copyFrom_0 rfl ?_
  refine aw_aload_n X dX0_copyFrom_1 rfl ?_
  refine aw_geti X dX0_copyFrom_2 fl_RX0_15 h1 (gt_RX0_1 h1) ?_
  refine aw_put X dX0_copyFrom_5 fp_RX0_15 h0 (gt_RX0_1 h0) rfl rfl ?_
  refine aw_iconst (v := 0) X dX0_copyFrom_8 (by decide) ?_
  refine aw_istore_n (L' := [some (.ref (zr Z a0)), some (.ref (zr Z a1)), some (.int 0)]) X dX0_copyFrom_9 (by decide) rfl ?_
  obtain ⟨r16, er16, h⟩ := bnd h
  refine aw_msk [true, true, true] ?_
  refine it_ok (P := fun y : Int32 × Mem => AW Z y.2 10 [some (.ref (zr Z a0)), some (.ref (zr Z a1)), some (.int y.1)] []) (Q := fun b : Mem => AW Z b 108 [some (.ref (zr Z a0)), some (.ref (zr Z a1)), none] []) (fun y q hq hi he => so_X0_copyFrom_10 hfr Z X a0 a1 h0 h1 y.1 y.2 q hq hi he) FUEL _ _ er16 ?_
  refine aw_aload_n X dX0_copyFrom_108 rfl ?_
  refine aw_aload_n X dX0_copyFrom_109 rfl ?_
  refine aw_geti X dX0_copyFrom_110 fl_RX0_41 h1 (gt_RX0_9 h1) ?_
  refine aw_put X dX0_copyFrom_113 fp_RX0_41 h0 (gt_RX0_9 h0) rfl rfl ?_
  refine aw_aload_n X dX0_copyFrom_116 rfl ?_
  refine aw_aload_n X dX0_copyFrom_117 rfl ?_
  refine aw_geti X dX0_copyFrom_118 fl_RX0_44 h1 (gt_RX0_10 h1) ?_
  refine aw_put X dX0_copyFrom_121 fp_RX0_44 h0 (gt_RX0_10 h0) rfl rfl ?_
  refine aw_aload_n X dX0_copyFrom_124 rfl ?_
  refine aw_aload_n X dX0_copyFrom_125 rfl ?_
  refine aw_geti X dX0_copyFrom_126 fl_RX0_47 h1 (gt_RX0_11 h1) ?_
  refine aw_put X dX0_copyFrom_129 fp_RX0_47 h0 (gt_RX0_11 h0) rfl rfl ?_
  refine aw_aload_n X dX0_copyFrom_132 rfl ?_
  refine aw_aload_n X dX0_copyFrom_133 rfl ?_
  refine aw_geti X dX0_copyFrom_134 fl_RX0_50 h1 (gt_RX0_12 h1) ?_
  refine aw_put X dX0_copyFrom_137 fp_RX0_50 h0 (gt_RX0_12 h0) rfl rfl ?_
  cases h
  exact aw_vret X dX0_copyFrom_140 rfl hz.symm
set_option maxRecDepth 100000 in
set_option maxHeartbeats 4000000 in
theorem ok_X0_copyFrom {a0 : Nat} {a1 : Nat} (h0 : IO 0 a0 0) (h1 : IO 0 a1 0) {s : Mem} {r : Mem} (h : f_X0_copyFrom a0 a1 s = some r) (l : Launch) (D : va_G) (ρ : Nat → Nat) (cA : ClassId × ClassId × ClassId) (τ : AT) : AM l D ρ cA 0 τ yX0_copyFrom cX0_copyFrom 3 none 0 [.ref (ρ a0), .ref (ρ a1)] none s r := by
  refine AM_of (L := [some (.ref (ρ a0)), some (.ref (ρ a1)), none]) (by decide) (by simp [Value.category]) (Nat.le_of_ble_eq_true rfl) (fun j v q => ?_) (fun Z X hρ hz hτ => ?_)
  · exact aL_ok (n := 1) [.ref (ρ a0), .ref (ρ a1)] j v q
  · subst hρ
    subst hτ
    exact w_X0_copyFrom (Nat.le_refl _) Z X a0 a1 h0 h1 s r hz h

theorem dX0_has_0 : decode cX0_has 0 = .ok (.iload_n 1, 1) := by decide +kernel
theorem dX0_has_1 : decode cX0_has 1 = .ok (.ifCond .lt 15, 3) := by decide +kernel
theorem dX0_has_4 : decode cX0_has 4 = .ok (.iload_n 1, 1) := by decide +kernel
theorem dX0_has_5 : decode cX0_has 5 = .ok (.aload_n 0, 1) := by decide +kernel
theorem dX0_has_6 : decode cX0_has 6 = .ok (.getfield 15, 3) := by decide +kernel
theorem dX0_has_9 : decode cX0_has 9 = .ok (.if_icmp .ge 7, 3) := by decide +kernel
theorem dX0_has_12 : decode cX0_has 12 = .ok (.iconst 1, 1) := by decide +kernel
theorem dX0_has_13 : decode cX0_has 13 = .ok (.goto 4, 3) := by decide +kernel
theorem dX0_has_16 : decode cX0_has 16 = .ok (.iconst 0, 1) := by decide +kernel
theorem dX0_has_17 : decode cX0_has 17 = .ok (.ireturn, 1) := by decide +kernel
set_option maxRecDepth 100000 in
set_option maxHeartbeats 4000000 in
theorem w_X0_has {fr : Nat} (hfr : 0 ≤ fr) (Z : AZ) (X : AX Z cX0_has 2 RX0 (some .boolean) 0 fr) (a0 : Nat) (h0 : IO 0 a0 0) (x1 : Int32) (s : Mem) (r : Int32 × Mem) (hz : zres Z = (some (.int r.1), r.2)) (h : f_X0_has a0 x1 s = some r) : AW Z s 0 [some (.ref (zr Z a0)), some (.int x1)] [] := by
  unfold f_X0_has at h
  refine aw_iload_n X dX0_has_0 rfl ?_
  refine aw_if_lt (tgt := 16) X dX0_has_1 (by decide) (fun c1 => ?_) (fun c1 => ?_)
  · rw [if_pos c1] at h
    refine aw_iconst (v := 0) X dX0_has_16 (by decide) ?_
    cases h
    exact aw_zret X dX0_has_17 rfl rfl hz.symm
  · rw [if_neg c1] at h
    refine aw_iload_n X dX0_has_4 rfl ?_
    refine aw_aload_n X dX0_has_5 rfl ?_
    refine aw_geti X dX0_has_6 fl_RX0_15 h0 (gt_RX0_1 h0) ?_
    refine aw_icmp_ge (tgt := 16) X dX0_has_9 (by decide) (fun c2 => ?_) (fun c2 => ?_)
    · rw [if_pos c2] at h
      refine aw_iconst (v := 0) X dX0_has_16 (by decide) ?_
      cases h
      exact aw_zret X dX0_has_17 rfl rfl hz.symm
    · rw [if_neg c2] at h
      refine aw_iconst (v := 1) X dX0_has_12 (by decide) ?_
      refine aw_goto (tgt := 17) X dX0_has_13 (by decide) ?_
      cases h
      exact aw_zret X dX0_has_17 rfl rfl hz.symm
set_option maxRecDepth 100000 in
set_option maxHeartbeats 4000000 in
theorem ok_X0_has {a0 : Nat} (h0 : IO 0 a0 0) {x1 : Int32} {s : Mem} {r : Int32 × Mem} (h : f_X0_has a0 x1 s = some r) (l : Launch) (D : va_G) (ρ : Nat → Nat) (cA : ClassId × ClassId × ClassId) (τ : AT) : AM l D ρ cA 0 τ yX0_has cX0_has 2 (some .boolean) 0 [.ref (ρ a0), .int x1] (some (.int r.1)) s r.2 := by
  refine AM_of (L := [some (.ref (ρ a0)), some (.int x1)]) (by decide) (by simp [Value.category]) (Nat.le_of_ble_eq_true rfl) (fun j v q => ?_) (fun Z X hρ hz hτ => ?_)
  · exact aL_ok (n := 0) [.ref (ρ a0), .int x1] j v q
  · subst hρ
    subst hτ
    exact w_X0_has (Nat.le_refl _) Z X a0 h0 x1 s r hz h

theorem dX0_welcome_0 : decode cX0_welcome 0 = .ok (.aload_n 0, 1) := by decide +kernel
theorem dX0_welcome_1 : decode cX0_welcome 1 = .ok (.getfield 15, 3) := by decide +kernel
theorem dX0_welcome_4 : decode cX0_welcome 4 = .ok (.istore_n 2, 1) := by decide +kernel
theorem dX0_welcome_5 : decode cX0_welcome 5 = .ok (.iload_n 2, 1) := by decide +kernel
theorem dX0_welcome_6 : decode cX0_welcome 6 = .ok (.bipush 14, 2) := by decide +kernel
theorem dX0_welcome_8 : decode cX0_welcome 8 = .ok (.if_icmp .lt 5, 3) := by decide +kernel
theorem dX0_welcome_11 : decode cX0_welcome 11 = .ok (.iconst (-1), 1) := by decide +kernel
theorem dX0_welcome_12 : decode cX0_welcome 12 = .ok (.ireturn, 1) := by decide +kernel
theorem dX0_welcome_13 : decode cX0_welcome 13 = .ok (.aload_n 0, 1) := by decide +kernel
theorem dX0_welcome_14 : decode cX0_welcome 14 = .ok (.getfield 19, 3) := by decide +kernel
theorem dX0_welcome_17 : decode cX0_welcome 17 = .ok (.iload_n 2, 1) := by decide +kernel
theorem dX0_welcome_18 : decode cX0_welcome 18 = .ok (.iload_n 1, 1) := by decide +kernel
theorem dX0_welcome_19 : decode cX0_welcome 19 = .ok (.iastore, 1) := by decide +kernel
theorem dX0_welcome_20 : decode cX0_welcome 20 = .ok (.aload_n 0, 1) := by decide +kernel
theorem dX0_welcome_21 : decode cX0_welcome 21 = .ok (.getfield 23, 3) := by decide +kernel
theorem dX0_welcome_24 : decode cX0_welcome 24 = .ok (.iload_n 2, 1) := by decide +kernel
theorem dX0_welcome_25 : decode cX0_welcome 25 = .ok (.iconst 0, 1) := by decide +kernel
theorem dX0_welcome_26 : decode cX0_welcome 26 = .ok (.iastore, 1) := by decide +kernel
theorem dX0_welcome_27 : decode cX0_welcome 27 = .ok (.aload_n 0, 1) := by decide +kernel
theorem dX0_welcome_28 : decode cX0_welcome 28 = .ok (.getfield 26, 3) := by decide +kernel
theorem dX0_welcome_31 : decode cX0_welcome 31 = .ok (.iload_n 2, 1) := by decide +kernel
theorem dX0_welcome_32 : decode cX0_welcome 32 = .ok (.iconst (-1), 1) := by decide +kernel
theorem dX0_welcome_33 : decode cX0_welcome 33 = .ok (.iastore, 1) := by decide +kernel
theorem dX0_welcome_34 : decode cX0_welcome 34 = .ok (.aload_n 0, 1) := by decide +kernel
theorem dX0_welcome_35 : decode cX0_welcome 35 = .ok (.getfield 29, 3) := by decide +kernel
theorem dX0_welcome_38 : decode cX0_welcome 38 = .ok (.iload_n 2, 1) := by decide +kernel
theorem dX0_welcome_39 : decode cX0_welcome 39 = .ok (.iconst 0, 1) := by decide +kernel
theorem dX0_welcome_40 : decode cX0_welcome 40 = .ok (.iastore, 1) := by decide +kernel
theorem dX0_welcome_41 : decode cX0_welcome 41 = .ok (.aload_n 0, 1) := by decide +kernel
theorem dX0_welcome_42 : decode cX0_welcome 42 = .ok (.getfield 32, 3) := by decide +kernel
theorem dX0_welcome_45 : decode cX0_welcome 45 = .ok (.iload_n 2, 1) := by decide +kernel
theorem dX0_welcome_46 : decode cX0_welcome 46 = .ok (.iconst 0, 1) := by decide +kernel
theorem dX0_welcome_47 : decode cX0_welcome 47 = .ok (.iastore, 1) := by decide +kernel
theorem dX0_welcome_48 : decode cX0_welcome 48 = .ok (.aload_n 0, 1) := by decide +kernel
theorem dX0_welcome_49 : decode cX0_welcome 49 = .ok (.getfield 35, 3) := by decide +kernel
theorem dX0_welcome_52 : decode cX0_welcome 52 = .ok (.iload_n 2, 1) := by decide +kernel
theorem dX0_welcome_53 : decode cX0_welcome 53 = .ok (.iconst 0, 1) := by decide +kernel
theorem dX0_welcome_54 : decode cX0_welcome 54 = .ok (.iastore, 1) := by decide +kernel
theorem dX0_welcome_55 : decode cX0_welcome 55 = .ok (.aload_n 0, 1) := by decide +kernel
theorem dX0_welcome_56 : decode cX0_welcome 56 = .ok (.getfield 38, 3) := by decide +kernel
theorem dX0_welcome_59 : decode cX0_welcome 59 = .ok (.iload_n 2, 1) := by decide +kernel
theorem dX0_welcome_60 : decode cX0_welcome 60 = .ok (.iconst 0, 1) := by decide +kernel
theorem dX0_welcome_61 : decode cX0_welcome 61 = .ok (.iastore, 1) := by decide +kernel
theorem dX0_welcome_62 : decode cX0_welcome 62 = .ok (.aload_n 0, 1) := by decide +kernel
theorem dX0_welcome_63 : decode cX0_welcome 63 = .ok (.dup, 1) := by decide +kernel
theorem dX0_welcome_64 : decode cX0_welcome 64 = .ok (.getfield 15, 3) := by decide +kernel
theorem dX0_welcome_67 : decode cX0_welcome 67 = .ok (.iconst 1, 1) := by decide +kernel
theorem dX0_welcome_68 : decode cX0_welcome 68 = .ok (.iadd, 1) := by decide +kernel
theorem dX0_welcome_69 : decode cX0_welcome 69 = .ok (.putfield 15, 3) := by decide +kernel
theorem dX0_welcome_72 : decode cX0_welcome 72 = .ok (.iload_n 2, 1) := by decide +kernel
theorem dX0_welcome_73 : decode cX0_welcome 73 = .ok (.ireturn, 1) := by decide +kernel
set_option maxRecDepth 100000 in
set_option maxHeartbeats 4000000 in
theorem w_X0_welcome {fr : Nat} (hfr : 0 ≤ fr) (Z : AZ) (X : AX Z cX0_welcome 3 RX0 (some .int) 0 fr) (a0 : Nat) (h0 : IO 0 a0 0) (x1 : Int32) (s : Mem) (r : Int32 × Mem) (hz : zres Z = (some (.int r.1), r.2)) (h : f_X0_welcome a0 x1 s = some r) : AW Z s 0 [some (.ref (zr Z a0)), some (.int x1), none] [] := by
  unfold f_X0_welcome at h
  refine aw_aload_n X dX0_welcome_0 rfl ?_
  refine aw_geti X dX0_welcome_1 fl_RX0_15 h0 (gt_RX0_1 h0) ?_
  refine aw_istore_n (L' := [some (.ref (zr Z a0)), some (.int x1), some (.int (s a0 1))]) X dX0_welcome_4 (by decide) rfl ?_
  refine aw_iload_n X dX0_welcome_5 rfl ?_
  refine aw_bipush (v := 14) X dX0_welcome_6 (by decide) ?_
  refine aw_icmp_lt (tgt := 13) X dX0_welcome_8 (by decide) (fun c1 => ?_) (fun c1 => ?_)
  · rw [if_pos c1] at h
    refine aw_aload_n X dX0_welcome_13 rfl ?_
    refine aw_getr X dX0_welcome_14 fl_RX0_19 h0 (gt_RX0_2 h0) ?_
    refine aw_iload_n X dX0_welcome_17 rfl ?_
    refine aw_iload_n X dX0_welcome_18 rfl ?_
    obtain ⟨s2, es2, h⟩ := bnd h
    refine aw_iast X dX0_welcome_19 (it_RX0_2 h0) es2 ?_
    refine aw_aload_n X dX0_welcome_20 rfl ?_
    refine aw_getr X dX0_welcome_21 fl_RX0_23 h0 (gt_RX0_3 h0) ?_
    refine aw_iload_n X dX0_welcome_24 rfl ?_
    refine aw_iconst (v := 0) X dX0_welcome_25 (by decide) ?_
    obtain ⟨s3, es3, h⟩ := bnd h
    refine aw_iast X dX0_welcome_26 (it_RX0_3 h0) es3 ?_
    refine aw_aload_n X dX0_welcome_27 rfl ?_
    refine aw_getr X dX0_welcome_28 fl_RX0_26 h0 (gt_RX0_4 h0) ?_
    refine aw_iload_n X dX0_welcome_31 rfl ?_
    refine aw_iconst (v := (-1)) X dX0_welcome_32 (by decide) ?_
    obtain ⟨s4, es4, h⟩ := bnd h
    refine aw_iast X dX0_welcome_33 (it_RX0_4 h0) es4 ?_
    refine aw_aload_n X dX0_welcome_34 rfl ?_
    refine aw_getr X dX0_welcome_35 fl_RX0_29 h0 (gt_RX0_5 h0) ?_
    refine aw_iload_n X dX0_welcome_38 rfl ?_
    refine aw_iconst (v := 0) X dX0_welcome_39 (by decide) ?_
    obtain ⟨s5, es5, h⟩ := bnd h
    refine aw_iast X dX0_welcome_40 (it_RX0_5 h0) es5 ?_
    refine aw_aload_n X dX0_welcome_41 rfl ?_
    refine aw_getr X dX0_welcome_42 fl_RX0_32 h0 (gt_RX0_6 h0) ?_
    refine aw_iload_n X dX0_welcome_45 rfl ?_
    refine aw_iconst (v := 0) X dX0_welcome_46 (by decide) ?_
    obtain ⟨s6, es6, h⟩ := bnd h
    refine aw_iast X dX0_welcome_47 (it_RX0_6 h0) es6 ?_
    refine aw_aload_n X dX0_welcome_48 rfl ?_
    refine aw_getr X dX0_welcome_49 fl_RX0_35 h0 (gt_RX0_7 h0) ?_
    refine aw_iload_n X dX0_welcome_52 rfl ?_
    refine aw_iconst (v := 0) X dX0_welcome_53 (by decide) ?_
    obtain ⟨s7, es7, h⟩ := bnd h
    refine aw_iast X dX0_welcome_54 (it_RX0_7 h0) es7 ?_
    refine aw_aload_n X dX0_welcome_55 rfl ?_
    refine aw_getr X dX0_welcome_56 fl_RX0_38 h0 (gt_RX0_8 h0) ?_
    refine aw_iload_n X dX0_welcome_59 rfl ?_
    refine aw_iconst (v := 0) X dX0_welcome_60 (by decide) ?_
    obtain ⟨s8, es8, h⟩ := bnd h
    refine aw_iast X dX0_welcome_61 (it_RX0_8 h0) es8 ?_
    refine aw_aload_n X dX0_welcome_62 rfl ?_
    refine aw_dup X dX0_welcome_63 rfl ?_
    refine aw_geti X dX0_welcome_64 fl_RX0_15 h0 (gt_RX0_1 h0) ?_
    refine aw_iconst (v := 1) X dX0_welcome_67 (by decide) ?_
    refine aw_iadd X dX0_welcome_68 ?_
    refine aw_put X dX0_welcome_69 fp_RX0_15 h0 (gt_RX0_1 h0) rfl rfl ?_
    refine aw_iload_n X dX0_welcome_72 rfl ?_
    cases h
    exact aw_iret X dX0_welcome_73 rfl hz.symm
  · rw [if_neg c1] at h
    refine aw_iconst (v := (-1)) X dX0_welcome_11 (by decide) ?_
    cases h
    exact aw_iret X dX0_welcome_12 rfl hz.symm
set_option maxRecDepth 100000 in
set_option maxHeartbeats 4000000 in
theorem ok_X0_welcome {a0 : Nat} (h0 : IO 0 a0 0) {x1 : Int32} {s : Mem} {r : Int32 × Mem} (h : f_X0_welcome a0 x1 s = some r) (l : Launch) (D : va_G) (ρ : Nat → Nat) (cA : ClassId × ClassId × ClassId) (τ : AT) : AM l D ρ cA 0 τ yX0_welcome cX0_welcome 3 (some .int) 0 [.ref (ρ a0), .int x1] (some (.int r.1)) s r.2 := by
  refine AM_of (L := [some (.ref (ρ a0)), some (.int x1), none]) (by decide) (by simp [Value.category]) (Nat.le_of_ble_eq_true rfl) (fun j v q => ?_) (fun Z X hρ hz hτ => ?_)
  · exact aL_ok (n := 1) [.ref (ρ a0), .int x1] j v q
  · subst hρ
    subst hτ
    exact w_X0_welcome (Nat.le_refl _) Z X a0 h0 x1 s r hz h

theorem dX0_hiccup_0 : decode cX0_hiccup 0 = .ok (.aload_n 0, 1) := by decide +kernel
theorem dX0_hiccup_1 : decode cX0_hiccup 1 = .ok (.getfield 23, 3) := by decide +kernel
theorem dX0_hiccup_4 : decode cX0_hiccup 4 = .ok (.iload_n 1, 1) := by decide +kernel
theorem dX0_hiccup_5 : decode cX0_hiccup 5 = .ok (.iconst 0, 1) := by decide +kernel
theorem dX0_hiccup_6 : decode cX0_hiccup 6 = .ok (.bipush 99, 2) := by decide +kernel
theorem dX0_hiccup_8 : decode cX0_hiccup 8 = .ok (.iload_n 2, 1) := by decide +kernel
theorem dX0_hiccup_9 : decode cX0_hiccup 9 = .ok (.invokestatic 53, 3) := by decide +kernel
theorem dX0_hiccup_12 : decode cX0_hiccup 12 = .ok (.invokestatic 59, 3) := by decide +kernel
theorem dX0_hiccup_15 : decode cX0_hiccup 15 = .ok (.iastore, 1) := by decide +kernel
theorem dX0_hiccup_16 : decode cX0_hiccup 16 = .ok (.aload_n 0, 1) := by decide +kernel
theorem dX0_hiccup_17 : decode cX0_hiccup 17 = .ok (.getfield 23, 3) := by decide +kernel
theorem dX0_hiccup_20 : decode cX0_hiccup 20 = .ok (.iload_n 1, 1) := by decide +kernel
theorem dX0_hiccup_21 : decode cX0_hiccup 21 = .ok (.iaload, 1) := by decide +kernel
theorem dX0_hiccup_22 : decode cX0_hiccup 22 = .ok (.ifCond .ne 17, 3) := by decide +kernel
theorem dX0_hiccup_25 : decode cX0_hiccup 25 = .ok (.aload_n 0, 1) := by decide +kernel
theorem dX0_hiccup_26 : decode cX0_hiccup 26 = .ok (.getfield 26, 3) := by decide +kernel
theorem dX0_hiccup_29 : decode cX0_hiccup 29 = .ok (.iload_n 1, 1) := by decide +kernel
theorem dX0_hiccup_30 : decode cX0_hiccup 30 = .ok (.iconst (-1), 1) := by decide +kernel
theorem dX0_hiccup_31 : decode cX0_hiccup 31 = .ok (.iastore, 1) := by decide +kernel
theorem dX0_hiccup_32 : decode cX0_hiccup 32 = .ok (.aload_n 0, 1) := by decide +kernel
theorem dX0_hiccup_33 : decode cX0_hiccup 33 = .ok (.getfield 29, 3) := by decide +kernel
theorem dX0_hiccup_36 : decode cX0_hiccup 36 = .ok (.iload_n 1, 1) := by decide +kernel
theorem dX0_hiccup_37 : decode cX0_hiccup 37 = .ok (.iconst 0, 1) := by decide +kernel
theorem dX0_hiccup_38 : decode cX0_hiccup 38 = .ok (.iastore, 1) := by decide +kernel
theorem dX0_hiccup_39 : decode cX0_hiccup 39 = .ok (.return_, 1) := by decide +kernel
set_option maxRecDepth 100000 in
set_option maxHeartbeats 4000000 in
theorem w_X0_hiccup {fr : Nat} (hfr : 1 ≤ fr) (Z : AZ) (X : AX Z cX0_hiccup 3 RX0 none 0 fr) (a0 : Nat) (h0 : IO 0 a0 0) (x1 : Int32) (x2 : Int32) (s : Mem) (r : Mem) (hz : zres Z = (none, r)) (h : f_X0_hiccup a0 x1 x2 s = some r) : AW Z s 0 [some (.ref (zr Z a0)), some (.int x1), some (.int x2)] [] := by
  unfold f_X0_hiccup at h
  refine aw_aload_n X dX0_hiccup_0 rfl ?_
  refine aw_getr X dX0_hiccup_1 fl_RX0_23 h0 (gt_RX0_3 h0) ?_
  refine aw_iload_n X dX0_hiccup_4 rfl ?_
  refine aw_iconst (v := 0) X dX0_hiccup_5 (by decide) ?_
  refine aw_bipush (v := 99) X dX0_hiccup_6 (by decide) ?_
  refine aw_iload_n X dX0_hiccup_8 rfl ?_
  refine aw_mmin X (Nat.le_trans (by decide) hfr) dX0_hiccup_9 mc_RX0_53 rfl ?_
  refine aw_mmax X (Nat.le_trans (by decide) hfr) dX0_hiccup_12 mc_RX0_59 rfl ?_
  obtain ⟨s1, es1, h⟩ := bnd h
  refine aw_iast X dX0_hiccup_15 (it_RX0_3 h0) es1 ?_
  refine aw_aload_n X dX0_hiccup_16 rfl ?_
  refine aw_getr X dX0_hiccup_17 fl_RX0_23 h0 (gt_RX0_3 h0) ?_
  refine aw_iload_n X dX0_hiccup_20 rfl ?_
  obtain ⟨v2, ev2, h⟩ := bnd h
  refine aw_iald X dX0_hiccup_21 (it_RX0_3 h0) ev2 ?_
  refine aw_if_ne (tgt := 39) X dX0_hiccup_22 (by decide) (fun c3 => ?_) (fun c3 => ?_)
  · rw [if_neg c3] at h
    cases h
    exact aw_vret X dX0_hiccup_39 rfl hz.symm
  · rw [if_pos c3] at h
    refine aw_aload_n X dX0_hiccup_25 rfl ?_
    refine aw_getr X dX0_hiccup_26 fl_RX0_26 h0 (gt_RX0_4 h0) ?_
    refine aw_iload_n X dX0_hiccup_29 rfl ?_
    refine aw_iconst (v := (-1)) X dX0_hiccup_30 (by decide) ?_
    obtain ⟨s4, es4, h⟩ := bnd h
    refine aw_iast X dX0_hiccup_31 (it_RX0_4 h0) es4 ?_
    refine aw_aload_n X dX0_hiccup_32 rfl ?_
    refine aw_getr X dX0_hiccup_33 fl_RX0_29 h0 (gt_RX0_5 h0) ?_
    refine aw_iload_n X dX0_hiccup_36 rfl ?_
    refine aw_iconst (v := 0) X dX0_hiccup_37 (by decide) ?_
    obtain ⟨s5, es5, h⟩ := bnd h
    refine aw_iast X dX0_hiccup_38 (it_RX0_5 h0) es5 ?_
    cases h
    exact aw_vret X dX0_hiccup_39 rfl hz.symm
set_option maxRecDepth 100000 in
set_option maxHeartbeats 4000000 in
theorem ok_X0_hiccup {a0 : Nat} (h0 : IO 0 a0 0) {x1 x2 : Int32} {s : Mem} {r : Mem} (h : f_X0_hiccup a0 x1 x2 s = some r) (l : Launch) (D : va_G) (ρ : Nat → Nat) (cA : ClassId × ClassId × ClassId) (τ : AT) : AM l D ρ cA 0 τ yX0_hiccup cX0_hiccup 3 none 1 [.ref (ρ a0), .int x1, .int x2] none s r := by
  refine AM_of (L := [some (.ref (ρ a0)), some (.int x1), some (.int x2)]) (by decide) (by simp [Value.category]) (Nat.le_of_ble_eq_true rfl) (fun j v q => ?_) (fun Z X hρ hz hτ => ?_)
  · exact aL_ok (n := 0) [.ref (ρ a0), .int x1, .int x2] j v q
  · subst hρ
    subst hτ
    exact w_X0_hiccup (Nat.le_refl _) Z X a0 h0 x1 x2 s r hz h

theorem dX0_blame_0 : decode cX0_blame 0 = .ok (.aload_n 0, 1) := by decide +kernel
theorem dX0_blame_1 : decode cX0_blame 1 = .ok (.getfield 26, 3) := by decide +kernel
theorem dX0_blame_4 : decode cX0_blame 4 = .ok (.iload_n 1, 1) := by decide +kernel
theorem dX0_blame_5 : decode cX0_blame 5 = .ok (.iload_n 2, 1) := by decide +kernel
theorem dX0_blame_6 : decode cX0_blame 6 = .ok (.iastore, 1) := by decide +kernel
theorem dX0_blame_7 : decode cX0_blame 7 = .ok (.aload_n 0, 1) := by decide +kernel
theorem dX0_blame_8 : decode cX0_blame 8 = .ok (.getfield 29, 3) := by decide +kernel
theorem dX0_blame_11 : decode cX0_blame 11 = .ok (.iload_n 1, 1) := by decide +kernel
theorem dX0_blame_12 : decode cX0_blame 12 = .ok (.iconst 0, 1) := by decide +kernel
theorem dX0_blame_13 : decode cX0_blame 13 = .ok (.iastore, 1) := by decide +kernel
theorem dX0_blame_14 : decode cX0_blame 14 = .ok (.return_, 1) := by decide +kernel
set_option maxRecDepth 100000 in
set_option maxHeartbeats 4000000 in
theorem w_X0_blame {fr : Nat} (hfr : 0 ≤ fr) (Z : AZ) (X : AX Z cX0_blame 3 RX0 none 0 fr) (a0 : Nat) (h0 : IO 0 a0 0) (x1 : Int32) (x2 : Int32) (s : Mem) (r : Mem) (hz : zres Z = (none, r)) (h : f_X0_blame a0 x1 x2 s = some r) : AW Z s 0 [some (.ref (zr Z a0)), some (.int x1), some (.int x2)] [] := by
  unfold f_X0_blame at h
  refine aw_aload_n X dX0_blame_0 rfl ?_
  refine aw_getr X dX0_blame_1 fl_RX0_26 h0 (gt_RX0_4 h0) ?_
  refine aw_iload_n X dX0_blame_4 rfl ?_
  refine aw_iload_n X dX0_blame_5 rfl ?_
  obtain ⟨s1, es1, h⟩ := bnd h
  refine aw_iast X dX0_blame_6 (it_RX0_4 h0) es1 ?_
  refine aw_aload_n X dX0_blame_7 rfl ?_
  refine aw_getr X dX0_blame_8 fl_RX0_29 h0 (gt_RX0_5 h0) ?_
  refine aw_iload_n X dX0_blame_11 rfl ?_
  refine aw_iconst (v := 0) X dX0_blame_12 (by decide) ?_
  obtain ⟨s2, es2, h⟩ := bnd h
  refine aw_iast X dX0_blame_13 (it_RX0_5 h0) es2 ?_
  cases h
  exact aw_vret X dX0_blame_14 rfl hz.symm
set_option maxRecDepth 100000 in
set_option maxHeartbeats 4000000 in
theorem ok_X0_blame {a0 : Nat} (h0 : IO 0 a0 0) {x1 x2 : Int32} {s : Mem} {r : Mem} (h : f_X0_blame a0 x1 x2 s = some r) (l : Launch) (D : va_G) (ρ : Nat → Nat) (cA : ClassId × ClassId × ClassId) (τ : AT) : AM l D ρ cA 0 τ yX0_blame cX0_blame 3 none 0 [.ref (ρ a0), .int x1, .int x2] none s r := by
  refine AM_of (L := [some (.ref (ρ a0)), some (.int x1), some (.int x2)]) (by decide) (by simp [Value.category]) (Nat.le_of_ble_eq_true rfl) (fun j v q => ?_) (fun Z X hρ hz hτ => ?_)
  · exact aL_ok (n := 0) [.ref (ρ a0), .int x1, .int x2] j v q
  · subst hρ
    subst hτ
    exact w_X0_blame (Nat.le_refl _) Z X a0 h0 x1 x2 s r hz h

theorem dX0_havers_0 : decode cX0_havers 0 = .ok (.iconst 0, 1) := by decide +kernel
theorem dX0_havers_1 : decode cX0_havers 1 = .ok (.istore_n 1, 1) := by decide +kernel
theorem dX0_havers_2 : decode cX0_havers 2 = .ok (.iconst 0, 1) := by decide +kernel
theorem dX0_havers_3 : decode cX0_havers 3 = .ok (.istore_n 2, 1) := by decide +kernel
theorem dX0_havers_4 : decode cX0_havers 4 = .ok (.iload_n 2, 1) := by decide +kernel
theorem dX0_havers_5 : decode cX0_havers 5 = .ok (.aload_n 0, 1) := by decide +kernel
theorem dX0_havers_6 : decode cX0_havers 6 = .ok (.getfield 15, 3) := by decide +kernel
theorem dX0_havers_9 : decode cX0_havers 9 = .ok (.if_icmp .ge 24, 3) := by decide +kernel
theorem dX0_havers_12 : decode cX0_havers 12 = .ok (.aload_n 0, 1) := by decide +kernel
theorem dX0_havers_13 : decode cX0_havers 13 = .ok (.getfield 23, 3) := by decide +kernel
theorem dX0_havers_16 : decode cX0_havers 16 = .ok (.iload_n 2, 1) := by decide +kernel
theorem dX0_havers_17 : decode cX0_havers 17 = .ok (.iaload, 1) := by decide +kernel
theorem dX0_havers_18 : decode cX0_havers 18 = .ok (.ifCond .le 9, 3) := by decide +kernel
theorem dX0_havers_21 : decode cX0_havers 21 = .ok (.iload_n 1, 1) := by decide +kernel
theorem dX0_havers_22 : decode cX0_havers 22 = .ok (.iconst 1, 1) := by decide +kernel
theorem dX0_havers_23 : decode cX0_havers 23 = .ok (.iload_n 2, 1) := by decide +kernel
theorem dX0_havers_24 : decode cX0_havers 24 = .ok (.ishl, 1) := by decide +kernel
theorem dX0_havers_25 : decode cX0_havers 25 = .ok (.ior, 1) := by decide +kernel
theorem dX0_havers_26 : decode cX0_havers 26 = .ok (.istore_n 1, 1) := by decide +kernel
theorem dX0_havers_27 : decode cX0_havers 27 = .ok (.iinc 2 1, 3) := by decide +kernel
theorem dX0_havers_30 : decode cX0_havers 30 = .ok (.goto (-26), 3) := by decide +kernel
theorem dX0_havers_33 : decode cX0_havers 33 = .ok (.iload_n 1, 1) := by decide +kernel
theorem dX0_havers_34 : decode cX0_havers 34 = .ok (.ireturn, 1) := by decide +kernel
set_option maxRecDepth 100000 in
set_option maxHeartbeats 4000000 in
theorem so_X0_havers_4 {fr : Nat} (hfr : 0 ≤ fr) (Z : AZ) (X : AX Z cX0_havers 3 RX0 (some .int) 0 fr) (a0 : Nat) (h0 : IO 0 a0 0) (x1 : Int32) (x2 : Int32) (s : Mem) (q : (Int32 × Int32 × Mem) ⊕ (Int32 × Mem)) (h : st_X0_havers_4 a0 x1 x2 s = some q) (hi : ∀ y : Int32 × Int32 × Mem, q = .inl y → AW Z y.2.2 4 [some (.ref (zr Z a0)), some (.int y.1), some (.int y.2.1)] []) (he : ∀ b : Int32 × Mem, q = .inr b → AW Z b.2 33 [none, some (.int b.1), none] []) : AW Z s 4 [some (.ref (zr Z a0)), some (.int x1), some (.int x2)] [] := by
  unfold st_X0_havers_4 at h
  refine aw_iload_n X dX0_havers_4 rfl ?_
  refine aw_aload_n X dX0_havers_5 rfl ?_
  refine aw_geti X dX0_havers_6 fl_RX0_15 h0 (gt_RX0_1 h0) ?_
  refine aw_icmp_ge (tgt := 33) X dX0_havers_9 (by decide) (fun c1 => ?_) (fun c1 => ?_)
  · rw [if_pos c1] at h
    cases h
    refine aw_msk [false, true, false] ?_
    exact he _ rfl
  · rw [if_neg c1] at h
    refine aw_aload_n X dX0_havers_12 rfl ?_
    refine aw_getr X dX0_havers_13 fl_RX0_23 h0 (gt_RX0_3 h0) ?_
    refine aw_iload_n X dX0_havers_16 rfl ?_
    obtain ⟨v2, ev2, h⟩ := bnd h
    refine aw_iald X dX0_havers_17 (it_RX0_3 h0) ev2 ?_
    refine aw_if_le (tgt := 27) X dX0_havers_18 (by decide) (fun c3 => ?_) (fun c3 => ?_)
    · rw [if_pos c3] at h
      refine aw_iinc (v := (x2 + 1)) (L' := [some (.ref (zr Z a0)), some (.int x1), some (.int (x2 + 1))]) X dX0_havers_27 rfl rfl (by decide) rfl ?_
      refine aw_goto (tgt := 4) X dX0_havers_30 (by decide) ?_
      cases h
      refine aw_msk [true, true, true] ?_
      exact hi _ rfl
    · rw [if_neg c3] at h
      refine aw_iload_n X dX0_havers_21 rfl ?_
      refine aw_iconst (v := 1) X dX0_havers_22 (by decide) ?_
      refine aw_iload_n X dX0_havers_23 rfl ?_
      refine aw_ishl X dX0_havers_24 ?_
      refine aw_ior X dX0_havers_25 ?_
      refine aw_istore_n (L' := [some (.ref (zr Z a0)), some (.int (x1 ||| (1 <<< (x2 &&& 31)))), some (.int x2)]) X dX0_havers_26 (by decide) rfl ?_
      refine aw_iinc (v := (x2 + 1)) (L' := [some (.ref (zr Z a0)), some (.int (x1 ||| (1 <<< (x2 &&& 31)))), some (.int (x2 + 1))]) X dX0_havers_27 rfl rfl (by decide) rfl ?_
      refine aw_goto (tgt := 4) X dX0_havers_30 (by decide) ?_
      cases h
      refine aw_msk [true, true, true] ?_
      exact hi _ rfl
set_option maxRecDepth 100000 in
set_option maxHeartbeats 4000000 in
theorem w_X0_havers {fr : Nat} (hfr : 0 ≤ fr) (Z : AZ) (X : AX Z cX0_havers 3 RX0 (some .int) 0 fr) (a0 : Nat) (h0 : IO 0 a0 0) (s : Mem) (r : Int32 × Mem) (hz : zres Z = (some (.int r.1), r.2)) (h : f_X0_havers a0 s = some r) : AW Z s 0 [some (.ref (zr Z a0)), none, none] [] := by
  unfold f_X0_havers at h
  refine aw_iconst (v := 0) X dX0_havers_0 (by decide) ?_
  refine aw_istore_n (L' := [some (.ref (zr Z a0)), some (.int 0), none]) X dX0_havers_1 (by decide) rfl ?_
  refine aw_iconst (v := 0) X dX0_havers_2 (by decide) ?_
  refine aw_istore_n (L' := [some (.ref (zr Z a0)), some (.int 0), some (.int 0)]) X dX0_havers_3 (by decide) rfl ?_
  obtain ⟨r4, er4, h⟩ := bnd h
  refine aw_msk [true, true, true] ?_
  refine it_ok (P := fun y : Int32 × Int32 × Mem => AW Z y.2.2 4 [some (.ref (zr Z a0)), some (.int y.1), some (.int y.2.1)] []) (Q := fun b : Int32 × Mem => AW Z b.2 33 [none, some (.int b.1), none] []) (fun y q hq hi he => so_X0_havers_4 hfr Z X a0 h0 y.1 y.2.1 y.2.2 q hq hi he) FUEL _ _ er4 ?_
  refine aw_iload_n X dX0_havers_33 rfl ?_
  cases h
  exact aw_iret X dX0_havers_34 rfl hz.symm
set_option maxRecDepth 100000 in
set_option maxHeartbeats 4000000 in
theorem ok_X0_havers {a0 : Nat} (h0 : IO 0 a0 0) {s : Mem} {r : Int32 × Mem} (h : f_X0_havers a0 s = some r) (l : Launch) (D : va_G) (ρ : Nat → Nat) (cA : ClassId × ClassId × ClassId) (τ : AT) : AM l D ρ cA 0 τ yX0_havers cX0_havers 3 (some .int) 0 [.ref (ρ a0)] (some (.int r.1)) s r.2 := by
  refine AM_of (L := [some (.ref (ρ a0)), none, none]) (by decide) (by simp [Value.category]) (Nat.le_of_ble_eq_true rfl) (fun j v q => ?_) (fun Z X hρ hz hτ => ?_)
  · exact aL_ok (n := 2) [.ref (ρ a0)] j v q
  · subst hρ
    subst hτ
    exact w_X0_havers (Nat.le_refl _) Z X a0 h0 s r hz h

theorem dX0_sum_0 : decode cX0_sum 0 = .ok (.iconst 0, 1) := by decide +kernel
theorem dX0_sum_1 : decode cX0_sum 1 = .ok (.istore_n 2, 1) := by decide +kernel
theorem dX0_sum_2 : decode cX0_sum 2 = .ok (.iconst 0, 1) := by decide +kernel
theorem dX0_sum_3 : decode cX0_sum 3 = .ok (.istore_n 3, 1) := by decide +kernel
theorem dX0_sum_4 : decode cX0_sum 4 = .ok (.iload_n 3, 1) := by decide +kernel
theorem dX0_sum_5 : decode cX0_sum 5 = .ok (.aload_n 0, 1) := by decide +kernel
theorem dX0_sum_6 : decode cX0_sum 6 = .ok (.getfield 15, 3) := by decide +kernel
theorem dX0_sum_9 : decode cX0_sum 9 = .ok (.if_icmp .ge 21, 3) := by decide +kernel
theorem dX0_sum_12 : decode cX0_sum 12 = .ok (.iload_n 3, 1) := by decide +kernel
theorem dX0_sum_13 : decode cX0_sum 13 = .ok (.aload_n 1, 1) := by decide +kernel
theorem dX0_sum_14 : decode cX0_sum 14 = .ok (.arraylength, 1) := by decide +kernel
theorem dX0_sum_15 : decode cX0_sum 15 = .ok (.if_icmp .ge 15, 3) := by decide +kernel
theorem dX0_sum_18 : decode cX0_sum 18 = .ok (.iload_n 2, 1) := by decide +kernel
theorem dX0_sum_19 : decode cX0_sum 19 = .ok (.aload_n 1, 1) := by decide +kernel
theorem dX0_sum_20 : decode cX0_sum 20 = .ok (.iload_n 3, 1) := by decide +kernel
theorem dX0_sum_21 : decode cX0_sum 21 = .ok (.iaload, 1) := by decide +kernel
theorem dX0_sum_22 : decode cX0_sum 22 = .ok (.iadd, 1) := by decide +kernel
theorem dX0_sum_23 : decode cX0_sum 23 = .ok (.istore_n 2, 1) := by decide +kernel
theorem dX0_sum_24 : decode cX0_sum 24 = .ok (.iinc 3 1, 3) := by decide +kernel
theorem dX0_sum_27 : decode cX0_sum 27 = .ok (.goto (-23), 3) := by decide +kernel
theorem dX0_sum_30 : decode cX0_sum 30 = .ok (.iload_n 2, 1) := by decide +kernel
theorem dX0_sum_31 : decode cX0_sum 31 = .ok (.ireturn, 1) := by decide +kernel
set_option maxRecDepth 100000 in
set_option maxHeartbeats 4000000 in
theorem so_X0_sum_4 {fr : Nat} (hfr : 0 ≤ fr) (Z : AZ) (X : AX Z cX0_sum 4 RX0 (some .int) 0 fr) (a0 : Nat) (a1 : Nat) (n1 : Nat) (h0 : IO 0 a0 0) (h1 : IA 0 a1 n1) (x2 : Int32) (x3 : Int32) (s : Mem) (q : (Int32 × Int32 × Mem) ⊕ (Int32 × Mem)) (h : st_X0_sum_4 a0 a1 n1 x2 x3 s = some q) (hi : ∀ y : Int32 × Int32 × Mem, q = .inl y → AW Z y.2.2 4 [some (.ref (zr Z a0)), some (.ref (zr Z a1)), some (.int y.1), some (.int y.2.1)] []) (he : ∀ b : Int32 × Mem, q = .inr b → AW Z b.2 30 [none, none, some (.int b.1), none] []) : AW Z s 4 [some (.ref (zr Z a0)), some (.ref (zr Z a1)), some (.int x2), some (.int x3)] [] := by
  unfold st_X0_sum_4 at h
  refine aw_iload_n X dX0_sum_4 rfl ?_
  refine aw_aload_n X dX0_sum_5 rfl ?_
  refine aw_geti X dX0_sum_6 fl_RX0_15 h0 (gt_RX0_1 h0) ?_
  refine aw_icmp_ge (tgt := 30) X dX0_sum_9 (by decide) (fun c1 => ?_) (fun c1 => ?_)
  · rw [if_pos c1] at h
    cases h
    refine aw_msk [false, false, true, false] ?_
    exact he _ rfl
  · rw [if_neg c1] at h
    refine aw_iload_n X dX0_sum_12 rfl ?_
    refine aw_aload_n X dX0_sum_13 rfl ?_
    refine aw_alen (v := (Int32.ofNat n1)) X dX0_sum_14 h1 rfl ?_
    refine aw_icmp_ge (tgt := 30) X dX0_sum_15 (by decide) (fun c2 => ?_) (fun c2 => ?_)
    · rw [if_pos c2] at h
      cases h
      refine aw_msk [false, false, true, false] ?_
      exact he _ rfl
    · rw [if_neg c2] at h
      refine aw_iload_n X dX0_sum_18 rfl ?_
      refine aw_aload_n X dX0_sum_19 rfl ?_
      refine aw_iload_n X dX0_sum_20 rfl ?_
      obtain ⟨v3, ev3, h⟩ := bnd h
      refine aw_iald X dX0_sum_21 h1 ev3 ?_
      refine aw_iadd X dX0_sum_22 ?_
      refine aw_istore_n (L' := [some (.ref (zr Z a0)), some (.ref (zr Z a1)), some (.int (x2 + v3)), some (.int x3)]) X dX0_sum_23 (by decide) rfl ?_
      refine aw_iinc (v := (x3 + 1)) (L' := [some (.ref (zr Z a0)), some (.ref (zr Z a1)), some (.int (x2 + v3)), some (.int (x3 + 1))]) X dX0_sum_24 rfl rfl (by decide) rfl ?_
      refine aw_goto (tgt := 4) X dX0_sum_27 (by decide) ?_
      cases h
      refine aw_msk [true, true, true, true] ?_
      exact hi _ rfl
set_option maxRecDepth 100000 in
set_option maxHeartbeats 4000000 in
theorem w_X0_sum {fr : Nat} (hfr : 0 ≤ fr) (Z : AZ) (X : AX Z cX0_sum 4 RX0 (some .int) 0 fr) (a0 : Nat) (a1 : Nat) (n1 : Nat) (h0 : IO 0 a0 0) (h1 : IA 0 a1 n1) (s : Mem) (r : Int32 × Mem) (hz : zres Z = (some (.int r.1), r.2)) (h : f_X0_sum a0 a1 n1 s = some r) : AW Z s 0 [some (.ref (zr Z a0)), some (.ref (zr Z a1)), none, none] [] := by
  unfold f_X0_sum at h
  refine aw_iconst (v := 0) X dX0_sum_0 (by decide) ?_
  refine aw_istore_n (L' := [some (.ref (zr Z a0)), some (.ref (zr Z a1)), some (.int 0), none]) X dX0_sum_1 (by decide) rfl ?_
  refine aw_iconst (v := 0) X dX0_sum_2 (by decide) ?_
  refine aw_istore_n (L' := [some (.ref (zr Z a0)), some (.ref (zr Z a1)), some (.int 0), some (.int 0)]) X dX0_sum_3 (by decide) rfl ?_
  obtain ⟨r4, er4, h⟩ := bnd h
  refine aw_msk [true, true, true, true] ?_
  refine it_ok (P := fun y : Int32 × Int32 × Mem => AW Z y.2.2 4 [some (.ref (zr Z a0)), some (.ref (zr Z a1)), some (.int y.1), some (.int y.2.1)] []) (Q := fun b : Int32 × Mem => AW Z b.2 30 [none, none, some (.int b.1), none] []) (fun y q hq hi he => so_X0_sum_4 hfr Z X a0 a1 n1 h0 h1 y.1 y.2.1 y.2.2 q hq hi he) FUEL _ _ er4 ?_
  refine aw_iload_n X dX0_sum_30 rfl ?_
  cases h
  exact aw_iret X dX0_sum_31 rfl hz.symm
set_option maxRecDepth 100000 in
set_option maxHeartbeats 4000000 in
theorem ok_X0_sum {a0 : Nat} {a1 : Nat} {n1 : Nat} (h0 : IO 0 a0 0) (h1 : IA 0 a1 n1) {s : Mem} {r : Int32 × Mem} (h : f_X0_sum a0 a1 n1 s = some r) (l : Launch) (D : va_G) (ρ : Nat → Nat) (cA : ClassId × ClassId × ClassId) (τ : AT) : AM l D ρ cA 0 τ yX0_sum cX0_sum 4 (some .int) 0 [.ref (ρ a0), .ref (ρ a1)] (some (.int r.1)) s r.2 := by
  refine AM_of (L := [some (.ref (ρ a0)), some (.ref (ρ a1)), none, none]) (by decide) (by simp [Value.category]) (Nat.le_of_ble_eq_true rfl) (fun j v q => ?_) (fun Z X hρ hz hτ => ?_)
  · exact aL_ok (n := 2) [.ref (ρ a0), .ref (ρ a1)] j v q
  · subst hρ
    subst hτ
    exact w_X0_sum (Nat.le_refl _) Z X a0 a1 n1 h0 h1 s r hz h

theorem dX0_stepsBack_0 : decode cX0_stepsBack 0 = .ok (.iconst 0, 1) := by decide +kernel
theorem dX0_stepsBack_1 : decode cX0_stepsBack 1 = .ok (.istore_n 2, 1) := by decide +kernel
theorem dX0_stepsBack_2 : decode cX0_stepsBack 2 = .ok (.iload_n 1, 1) := by decide +kernel
theorem dX0_stepsBack_3 : decode cX0_stepsBack 3 = .ok (.istore_n 3, 1) := by decide +kernel
theorem dX0_stepsBack_4 : decode cX0_stepsBack 4 = .ok (.iconst 1, 1) := by decide +kernel
theorem dX0_stepsBack_5 : decode cX0_stepsBack 5 = .ok (.iload_n 1, 1) := by decide +kernel
theorem dX0_stepsBack_6 : decode cX0_stepsBack 6 = .ok (.ishl, 1) := by decide +kernel
theorem dX0_stepsBack_7 : decode cX0_stepsBack 7 = .ok (.istore 4, 2) := by decide +kernel
theorem dX0_stepsBack_9 : decode cX0_stepsBack 9 = .ok (.iconst 0, 1) := by decide +kernel
theorem dX0_stepsBack_10 : decode cX0_stepsBack 10 = .ok (.istore 5, 2) := by decide +kernel
theorem dX0_stepsBack_12 : decode cX0_stepsBack 12 = .ok (.iload 5, 2) := by decide +kernel
theorem dX0_stepsBack_14 : decode cX0_stepsBack 14 = .ok (.bipush 14, 2) := by decide +kernel
theorem dX0_stepsBack_16 : decode cX0_stepsBack 16 = .ok (.if_icmp .ge 52, 3) := by decide +kernel
theorem dX0_stepsBack_19 : decode cX0_stepsBack 19 = .ok (.aload_n 0, 1) := by decide +kernel
theorem dX0_stepsBack_20 : decode cX0_stepsBack 20 = .ok (.aload_n 0, 1) := by decide +kernel
theorem dX0_stepsBack_21 : decode cX0_stepsBack 21 = .ok (.getfield 26, 3) := by decide +kernel
theorem dX0_stepsBack_24 : decode cX0_stepsBack 24 = .ok (.iload_n 3, 1) := by decide +kernel
theorem dX0_stepsBack_25 : decode cX0_stepsBack 25 = .ok (.iaload, 1) := by decide +kernel
theorem dX0_stepsBack_26 : decode cX0_stepsBack 26 = .ok (.invokevirtual 62, 3) := by decide +kernel
theorem dX0_stepsBack_29 : decode cX0_stepsBack 29 = .ok (.ifCond .eq 39, 3) := by decide +kernel
theorem dX0_stepsBack_32 : decode cX0_stepsBack 32 = .ok (.aload_n 0, 1) := by decide +kernel
theorem dX0_stepsBack_33 : decode cX0_stepsBack 33 = .ok (.getfield 26, 3) := by decide +kernel
theorem dX0_stepsBack_36 : decode cX0_stepsBack 36 = .ok (.iload_n 3, 1) := by decide +kernel
theorem dX0_stepsBack_37 : decode cX0_stepsBack 37 = .ok (.iaload, 1) := by decide +kernel
theorem dX0_stepsBack_38 : decode cX0_stepsBack 38 = .ok (.istore_n 3, 1) := by decide +kernel
theorem dX0_stepsBack_39 : decode cX0_stepsBack 39 = .ok (.iinc 2 1, 3) := by decide +kernel
theorem dX0_stepsBack_42 : decode cX0_stepsBack 42 = .ok (.iload 4, 2) := by decide +kernel
theorem dX0_stepsBack_44 : decode cX0_stepsBack 44 = .ok (.iload_n 3, 1) := by decide +kernel
theorem dX0_stepsBack_45 : decode cX0_stepsBack 45 = .ok (.ishr, 1) := by decide +kernel
theorem dX0_stepsBack_46 : decode cX0_stepsBack 46 = .ok (.iconst 1, 1) := by decide +kernel
theorem dX0_stepsBack_47 : decode cX0_stepsBack 47 = .ok (.iand, 1) := by decide +kernel
theorem dX0_stepsBack_48 : decode cX0_stepsBack 48 = .ok (.iconst 1, 1) := by decide +kernel
theorem dX0_stepsBack_49 : decode cX0_stepsBack 49 = .ok (.if_icmp .ne 5, 3) := by decide +kernel
theorem dX0_stepsBack_52 : decode cX0_stepsBack 52 = .ok (.iload_n 2, 1) := by decide +kernel
theorem dX0_stepsBack_53 : decode cX0_stepsBack 53 = .ok (.ireturn, 1) := by decide +kernel
theorem dX0_stepsBack_54 : decode cX0_stepsBack 54 = .ok (.iload 4, 2) := by decide +kernel
theorem dX0_stepsBack_56 : decode cX0_stepsBack 56 = .ok (.iconst 1, 1) := by decide +kernel
theorem dX0_stepsBack_57 : decode cX0_stepsBack 57 = .ok (.iload_n 3, 1) := by decide +kernel
theorem dX0_stepsBack_58 : decode cX0_stepsBack 58 = .ok (.ishl, 1) := by decide +kernel
theorem dX0_stepsBack_59 : decode cX0_stepsBack 59 = .ok (.ior, 1) := by decide +kernel
theorem dX0_stepsBack_60 : decode cX0_stepsBack 60 = .ok (.istore 4, 2) := by decide +kernel
theorem dX0_stepsBack_62 : decode cX0_stepsBack 62 = .ok (.iinc 5 1, 3) := by decide +kernel
theorem dX0_stepsBack_65 : decode cX0_stepsBack 65 = .ok (.goto (-53), 3) := by decide +kernel
theorem dX0_stepsBack_68 : decode cX0_stepsBack 68 = .ok (.iload_n 2, 1) := by decide +kernel
theorem dX0_stepsBack_69 : decode cX0_stepsBack 69 = .ok (.ireturn, 1) := by decide +kernel
set_option maxRecDepth 100000 in
set_option maxHeartbeats 4000000 in
theorem so_X0_stepsBack_12 {fr : Nat} (hfr : 1 ≤ fr) (Z : AZ) (X : AX Z cX0_stepsBack 6 RX0 (some .int) 0 fr) (a0 : Nat) (h0 : IO 0 a0 0) (x2 : Int32) (x3 : Int32) (x4 : Int32) (x5 : Int32) (s : Mem) (q : (Int32 × Int32 × Int32 × Int32 × Mem) ⊕ (Nat × Int32 × Mem)) (h : st_X0_stepsBack_12 a0 x2 x3 x4 x5 s = some q) (hi : ∀ y : Int32 × Int32 × Int32 × Int32 × Mem, q = .inl y → AW Z y.2.2.2.2 12 [some (.ref (zr Z a0)), none, some (.int y.1), some (.int y.2.1), some (.int y.2.2.1), some (.int y.2.2.2.1)] []) (he : ∀ b : Nat × Int32 × Mem, q = .inr b → (b.1 = 0 → AW Z b.2.2 52 [none, none, some (.int b.2.1), none, none, none] []) ∧ (b.1 = 1 → AW Z b.2.2 68 [none, none, some (.int b.2.1), none, none, none] [])) : AW Z s 12 [some (.ref (zr Z a0)), none, some (.int x2), some (.int x3), some (.int x4), some (.int x5)] [] := by
  unfold st_X0_stepsBack_12 at h
  refine aw_iload X dX0_stepsBack_12 rfl ?_
  refine aw_bipush (v := 14) X dX0_stepsBack_14 (by decide) ?_
  refine aw_icmp_ge (tgt := 68) X dX0_stepsBack_16 (by decide) (fun c1 => ?_) (fun c1 => ?_)
  · rw [if_pos c1] at h
    cases h
    refine aw_msk [false, false, true, false, false, false] ?_
    exact (he _ rfl).2 rfl
  · rw [if_neg c1] at h
    refine aw_aload_n X dX0_stepsBack_19 rfl ?_
    refine aw_aload_n X dX0_stepsBack_20 rfl ?_
    refine aw_getr X dX0_stepsBack_21 fl_RX0_26 h0 (gt_RX0_4 h0) ?_
    refine aw_iload_n X dX0_stepsBack_24 rfl ?_
    obtain ⟨v2, ev2, h⟩ := bnd h
    refine aw_iald X dX0_stepsBack_25 (it_RX0_4 h0) ev2 ?_
    obtain ⟨r3, er3, h⟩ := bnd h
    refine aw_callV X dX0_stepsBack_26 cv_RX0_62 (ok_X0_has h0 er3 _ _ _ _ _) h0 rfl (Nat.le_trans (by decide) hfr) (by decide) rfl rfl (Nat.le_of_ble_eq_true rfl) ?_
    refine aw_if_eq (tgt := 68) X dX0_stepsBack_29 (by decide) (fun c4 => ?_) (fun c4 => ?_)
    · rw [if_pos c4] at h
      cases h
      refine aw_msk [false, false, true, false, false, false] ?_
      exact (he _ rfl).2 rfl
    · rw [if_neg c4] at h
      refine aw_aload_n X dX0_stepsBack_32 rfl ?_
      refine aw_getr X dX0_stepsBack_33 fl_RX0_26 h0 (gt_RX0_4 h0) ?_
      refine aw_iload_n X dX0_stepsBack_36 rfl ?_
      obtain ⟨v5, ev5, h⟩ := bnd h
      refine aw_iald X dX0_stepsBack_37 (it_RX0_4 h0) ev5 ?_
      refine aw_istore_n (L' := [some (.ref (zr Z a0)), none, some (.int x2), some (.int v5), some (.int x4), some (.int x5)]) X dX0_stepsBack_38 (by decide) rfl ?_
      refine aw_iinc (v := (x2 + 1)) (L' := [some (.ref (zr Z a0)), none, some (.int (x2 + 1)), some (.int v5), some (.int x4), some (.int x5)]) X dX0_stepsBack_39 rfl rfl (by decide) rfl ?_
      refine aw_iload X dX0_stepsBack_42 rfl ?_
      refine aw_iload_n X dX0_stepsBack_44 rfl ?_
      refine aw_ishr X dX0_stepsBack_45 ?_
      refine aw_iconst (v := 1) X dX0_stepsBack_46 (by decide) ?_
      refine aw_iand X dX0_stepsBack_47 ?_
      refine aw_iconst (v := 1) X dX0_stepsBack_48 (by decide) ?_
      refine aw_icmp_ne (tgt := 54) X dX0_stepsBack_49 (by decide) (fun c6 => ?_) (fun c6 => ?_)
      · rw [if_neg c6] at h
        refine aw_iload X dX0_stepsBack_54 rfl ?_
        refine aw_iconst (v := 1) X dX0_stepsBack_56 (by decide) ?_
        refine aw_iload_n X dX0_stepsBack_57 rfl ?_
        refine aw_ishl X dX0_stepsBack_58 ?_
        refine aw_ior X dX0_stepsBack_59 ?_
        refine aw_istore (L' := [some (.ref (zr Z a0)), none, some (.int (x2 + 1)), some (.int v5), some (.int (x4 ||| (1 <<< (v5 &&& 31)))), some (.int x5)]) X dX0_stepsBack_60 (by decide) rfl ?_
        refine aw_iinc (v := (x5 + 1)) (L' := [some (.ref (zr Z a0)), none, some (.int (x2 + 1)), some (.int v5), some (.int (x4 ||| (1 <<< (v5 &&& 31)))), some (.int (x5 + 1))]) X dX0_stepsBack_62 rfl rfl (by decide) rfl ?_
        refine aw_goto (tgt := 12) X dX0_stepsBack_65 (by decide) ?_
        cases h
        refine aw_msk [true, false, true, true, true, true] ?_
        exact hi _ rfl
      · rw [if_pos c6] at h
        cases h
        refine aw_msk [false, false, true, false, false, false] ?_
        exact (he _ rfl).1 rfl
set_option maxRecDepth 100000 in
set_option maxHeartbeats 4000000 in
theorem w_X0_stepsBack {fr : Nat} (hfr : 1 ≤ fr) (Z : AZ) (X : AX Z cX0_stepsBack 6 RX0 (some .int) 0 fr) (a0 : Nat) (h0 : IO 0 a0 0) (x1 : Int32) (s : Mem) (r : Int32 × Mem) (hz : zres Z = (some (.int r.1), r.2)) (h : f_X0_stepsBack a0 x1 s = some r) : AW Z s 0 [some (.ref (zr Z a0)), some (.int x1), none, none, none, none] [] := by
  unfold f_X0_stepsBack at h
  refine aw_iconst (v := 0) X dX0_stepsBack_0 (by decide) ?_
  refine aw_istore_n (L' := [some (.ref (zr Z a0)), some (.int x1), some (.int 0), none, none, none]) X dX0_stepsBack_1 (by decide) rfl ?_
  refine aw_iload_n X dX0_stepsBack_2 rfl ?_
  refine aw_istore_n (L' := [some (.ref (zr Z a0)), some (.int x1), some (.int 0), some (.int x1), none, none]) X dX0_stepsBack_3 (by decide) rfl ?_
  refine aw_iconst (v := 1) X dX0_stepsBack_4 (by decide) ?_
  refine aw_iload_n X dX0_stepsBack_5 rfl ?_
  refine aw_ishl X dX0_stepsBack_6 ?_
  refine aw_istore (L' := [some (.ref (zr Z a0)), some (.int x1), some (.int 0), some (.int x1), some (.int (1 <<< (x1 &&& 31))), none]) X dX0_stepsBack_7 (by decide) rfl ?_
  refine aw_iconst (v := 0) X dX0_stepsBack_9 (by decide) ?_
  refine aw_istore (L' := [some (.ref (zr Z a0)), some (.int x1), some (.int 0), some (.int x1), some (.int (1 <<< (x1 &&& 31))), some (.int 0)]) X dX0_stepsBack_10 (by decide) rfl ?_
  obtain ⟨r7, er7, h⟩ := bnd h
  refine aw_msk [true, false, true, true, true, true] ?_
  refine it_ok (P := fun y : Int32 × Int32 × Int32 × Int32 × Mem => AW Z y.2.2.2.2 12 [some (.ref (zr Z a0)), none, some (.int y.1), some (.int y.2.1), some (.int y.2.2.1), some (.int y.2.2.2.1)] []) (Q := fun b : Nat × Int32 × Mem => (b.1 = 0 → AW Z b.2.2 52 [none, none, some (.int b.2.1), none, none, none] []) ∧ (b.1 = 1 → AW Z b.2.2 68 [none, none, some (.int b.2.1), none, none, none] [])) (fun y q hq hi he => so_X0_stepsBack_12 hfr Z X a0 h0 y.1 y.2.1 y.2.2.1 y.2.2.2.1 y.2.2.2.2 q hq hi he) FUEL _ _ er7 ?_
  refine ⟨fun c0 => ?_, fun c1 => ?_⟩
  · rw [if_pos c0] at h
    refine aw_iload_n X dX0_stepsBack_52 rfl ?_
    cases h
    exact aw_iret X dX0_stepsBack_53 rfl hz.symm
  · rw [if_neg (by rw [c1]; decide)] at h
    refine aw_iload_n X dX0_stepsBack_68 rfl ?_
    cases h
    exact aw_iret X dX0_stepsBack_69 rfl hz.symm
set_option maxRecDepth 100000 in
set_option maxHeartbeats 4000000 in
theorem ok_X0_stepsBack {a0 : Nat} (h0 : IO 0 a0 0) {x1 : Int32} {s : Mem} {r : Int32 × Mem} (h : f_X0_stepsBack a0 x1 s = some r) (l : Launch) (D : va_G) (ρ : Nat → Nat) (cA : ClassId × ClassId × ClassId) (τ : AT) : AM l D ρ cA 0 τ yX0_stepsBack cX0_stepsBack 6 (some .int) 1 [.ref (ρ a0), .int x1] (some (.int r.1)) s r.2 := by
  refine AM_of (L := [some (.ref (ρ a0)), some (.int x1), none, none, none, none]) (by decide) (by simp [Value.category]) (Nat.le_of_ble_eq_true rfl) (fun j v q => ?_) (fun Z X hρ hz hτ => ?_)
  · exact aL_ok (n := 4) [.ref (ρ a0), .int x1] j v q
  · subst hρ
    subst hτ
    exact w_X0_stepsBack (Nat.le_refl _) Z X a0 h0 x1 s r hz h

theorem dX0_told_0 : decode cX0_told 0 = .ok (.iload_n 2, 1) := by decide +kernel
theorem dX0_told_1 : decode cX0_told 1 = .ok (.tableswitch 81 0 5 #[39, 46, 53, 60, 67, 74], 39) := by decide +kernel
theorem dX0_told_40 : decode cX0_told 40 = .ok (.aload_n 0, 1) := by decide +kernel
theorem dX0_told_41 : decode cX0_told 41 = .ok (.getfield 19, 3) := by decide +kernel
theorem dX0_told_44 : decode cX0_told 44 = .ok (.iload_n 1, 1) := by decide +kernel
theorem dX0_told_45 : decode cX0_told 45 = .ok (.iaload, 1) := by decide +kernel
theorem dX0_told_46 : decode cX0_told 46 = .ok (.ireturn, 1) := by decide +kernel
theorem dX0_told_47 : decode cX0_told 47 = .ok (.aload_n 0, 1) := by decide +kernel
theorem dX0_told_48 : decode cX0_told 48 = .ok (.getfield 23, 3) := by decide +kernel
theorem dX0_told_51 : decode cX0_told 51 = .ok (.iload_n 1, 1) := by decide +kernel
theorem dX0_told_52 : decode cX0_told 52 = .ok (.iaload, 1) := by decide +kernel
theorem dX0_told_53 : decode cX0_told 53 = .ok (.ireturn, 1) := by decide +kernel
theorem dX0_told_54 : decode cX0_told 54 = .ok (.aload_n 0, 1) := by decide +kernel
theorem dX0_told_55 : decode cX0_told 55 = .ok (.getfield 26, 3) := by decide +kernel
theorem dX0_told_58 : decode cX0_told 58 = .ok (.iload_n 1, 1) := by decide +kernel
theorem dX0_told_59 : decode cX0_told 59 = .ok (.iaload, 1) := by decide +kernel
theorem dX0_told_60 : decode cX0_told 60 = .ok (.ireturn, 1) := by decide +kernel
theorem dX0_told_61 : decode cX0_told 61 = .ok (.aload_n 0, 1) := by decide +kernel
theorem dX0_told_62 : decode cX0_told 62 = .ok (.getfield 29, 3) := by decide +kernel
theorem dX0_told_65 : decode cX0_told 65 = .ok (.iload_n 1, 1) := by decide +kernel
theorem dX0_told_66 : decode cX0_told 66 = .ok (.iaload, 1) := by decide +kernel
theorem dX0_told_67 : decode cX0_told 67 = .ok (.ireturn, 1) := by decide +kernel
theorem dX0_told_68 : decode cX0_told 68 = .ok (.aload_n 0, 1) := by decide +kernel
theorem dX0_told_69 : decode cX0_told 69 = .ok (.getfield 32, 3) := by decide +kernel
theorem dX0_told_72 : decode cX0_told 72 = .ok (.iload_n 1, 1) := by decide +kernel
theorem dX0_told_73 : decode cX0_told 73 = .ok (.iaload, 1) := by decide +kernel
theorem dX0_told_74 : decode cX0_told 74 = .ok (.ireturn, 1) := by decide +kernel
theorem dX0_told_75 : decode cX0_told 75 = .ok (.aload_n 0, 1) := by decide +kernel
theorem dX0_told_76 : decode cX0_told 76 = .ok (.getfield 35, 3) := by decide +kernel
theorem dX0_told_79 : decode cX0_told 79 = .ok (.iload_n 1, 1) := by decide +kernel
theorem dX0_told_80 : decode cX0_told 80 = .ok (.iaload, 1) := by decide +kernel
theorem dX0_told_81 : decode cX0_told 81 = .ok (.ireturn, 1) := by decide +kernel
theorem dX0_told_82 : decode cX0_told 82 = .ok (.aload_n 0, 1) := by decide +kernel
theorem dX0_told_83 : decode cX0_told 83 = .ok (.getfield 38, 3) := by decide +kernel
theorem dX0_told_86 : decode cX0_told 86 = .ok (.iload_n 1, 1) := by decide +kernel
theorem dX0_told_87 : decode cX0_told 87 = .ok (.iaload, 1) := by decide +kernel
theorem dX0_told_88 : decode cX0_told 88 = .ok (.ireturn, 1) := by decide +kernel
set_option maxRecDepth 100000 in
set_option maxHeartbeats 4000000 in
theorem w_X0_told {fr : Nat} (hfr : 0 ≤ fr) (Z : AZ) (X : AX Z cX0_told 3 RX0 (some .int) 0 fr) (a0 : Nat) (h0 : IO 0 a0 0) (x1 : Int32) (x2 : Int32) (s : Mem) (r : Int32 × Mem) (hz : zres Z = (some (.int r.1), r.2)) (h : f_X0_told a0 x1 x2 s = some r) : AW Z s 0 [some (.ref (zr Z a0)), some (.int x1), some (.int x2)] [] := by
  unfold f_X0_told at h
  refine aw_iload_n X dX0_told_0 rfl ?_
  by_cases c1 : x2 = 0
  · rw [if_pos c1] at h
    refine aw_tsw (tgt := 40) X dX0_told_1 (by rw [c1]; decide) ?_
    refine aw_aload_n X dX0_told_40 rfl ?_
    refine aw_getr X dX0_told_41 fl_RX0_19 h0 (gt_RX0_2 h0) ?_
    refine aw_iload_n X dX0_told_44 rfl ?_
    obtain ⟨v2, ev2, h⟩ := bnd h
    refine aw_iald X dX0_told_45 (it_RX0_2 h0) ev2 ?_
    cases h
    exact aw_iret X dX0_told_46 rfl hz.symm
  rw [if_neg c1] at h
  by_cases c3 : x2 = 1
  · rw [if_pos c3] at h
    refine aw_tsw (tgt := 47) X dX0_told_1 (by rw [c3]; decide) ?_
    refine aw_aload_n X dX0_told_47 rfl ?_
    refine aw_getr X dX0_told_48 fl_RX0_23 h0 (gt_RX0_3 h0) ?_
    refine aw_iload_n X dX0_told_51 rfl ?_
    obtain ⟨v4, ev4, h⟩ := bnd h
    refine aw_iald X dX0_told_52 (it_RX0_3 h0) ev4 ?_
    cases h
    exact aw_iret X dX0_told_53 rfl hz.symm
  rw [if_neg c3] at h
  by_cases c5 : x2 = 2
  · rw [if_pos c5] at h
    refine aw_tsw (tgt := 54) X dX0_told_1 (by rw [c5]; decide) ?_
    refine aw_aload_n X dX0_told_54 rfl ?_
    refine aw_getr X dX0_told_55 fl_RX0_26 h0 (gt_RX0_4 h0) ?_
    refine aw_iload_n X dX0_told_58 rfl ?_
    obtain ⟨v6, ev6, h⟩ := bnd h
    refine aw_iald X dX0_told_59 (it_RX0_4 h0) ev6 ?_
    cases h
    exact aw_iret X dX0_told_60 rfl hz.symm
  rw [if_neg c5] at h
  by_cases c7 : x2 = 3
  · rw [if_pos c7] at h
    refine aw_tsw (tgt := 61) X dX0_told_1 (by rw [c7]; decide) ?_
    refine aw_aload_n X dX0_told_61 rfl ?_
    refine aw_getr X dX0_told_62 fl_RX0_29 h0 (gt_RX0_5 h0) ?_
    refine aw_iload_n X dX0_told_65 rfl ?_
    obtain ⟨v8, ev8, h⟩ := bnd h
    refine aw_iald X dX0_told_66 (it_RX0_5 h0) ev8 ?_
    cases h
    exact aw_iret X dX0_told_67 rfl hz.symm
  rw [if_neg c7] at h
  by_cases c9 : x2 = 4
  · rw [if_pos c9] at h
    refine aw_tsw (tgt := 68) X dX0_told_1 (by rw [c9]; decide) ?_
    refine aw_aload_n X dX0_told_68 rfl ?_
    refine aw_getr X dX0_told_69 fl_RX0_32 h0 (gt_RX0_6 h0) ?_
    refine aw_iload_n X dX0_told_72 rfl ?_
    obtain ⟨v10, ev10, h⟩ := bnd h
    refine aw_iald X dX0_told_73 (it_RX0_6 h0) ev10 ?_
    cases h
    exact aw_iret X dX0_told_74 rfl hz.symm
  rw [if_neg c9] at h
  by_cases c11 : x2 = 5
  · rw [if_pos c11] at h
    refine aw_tsw (tgt := 75) X dX0_told_1 (by rw [c11]; decide) ?_
    refine aw_aload_n X dX0_told_75 rfl ?_
    refine aw_getr X dX0_told_76 fl_RX0_35 h0 (gt_RX0_7 h0) ?_
    refine aw_iload_n X dX0_told_79 rfl ?_
    obtain ⟨v12, ev12, h⟩ := bnd h
    refine aw_iald X dX0_told_80 (it_RX0_7 h0) ev12 ?_
    cases h
    exact aw_iret X dX0_told_81 rfl hz.symm
  rw [if_neg c11] at h
  refine aw_tswd (tgt := 82) X dX0_told_1 (by decide) (fun z h1 h2 => ?_) ?_
  · have hz9 : z = 0 ∨ z = 1 ∨ z = 2 ∨ z = 3 ∨ z = 4 ∨ z = 5 := by omega
    rcases hz9 with rfl | rfl | rfl | rfl | rfl | rfl
    · exact c1
    · exact c3
    · exact c5
    · exact c7
    · exact c9
    · exact c11
  refine aw_aload_n X dX0_told_82 rfl ?_
  refine aw_getr X dX0_told_83 fl_RX0_38 h0 (gt_RX0_8 h0) ?_
  refine aw_iload_n X dX0_told_86 rfl ?_
  obtain ⟨v13, ev13, h⟩ := bnd h
  refine aw_iald X dX0_told_87 (it_RX0_8 h0) ev13 ?_
  cases h
  exact aw_iret X dX0_told_88 rfl hz.symm
set_option maxRecDepth 100000 in
set_option maxHeartbeats 4000000 in
theorem ok_X0_told {a0 : Nat} (h0 : IO 0 a0 0) {x1 x2 : Int32} {s : Mem} {r : Int32 × Mem} (h : f_X0_told a0 x1 x2 s = some r) (l : Launch) (D : va_G) (ρ : Nat → Nat) (cA : ClassId × ClassId × ClassId) (τ : AT) : AM l D ρ cA 0 τ yX0_told cX0_told 3 (some .int) 0 [.ref (ρ a0), .int x1, .int x2] (some (.int r.1)) s r.2 := by
  refine AM_of (L := [some (.ref (ρ a0)), some (.int x1), some (.int x2)]) (by decide) (by simp [Value.category]) (Nat.le_of_ble_eq_true rfl) (fun j v q => ?_) (fun Z X hρ hz hτ => ?_)
  · exact aL_ok (n := 0) [.ref (ρ a0), .int x1, .int x2] j v q
  · subst hρ
    subst hτ
    exact w_X0_told (Nat.le_refl _) Z X a0 h0 x1 x2 s r hz h

theorem dX0_draw_0 : decode cX0_draw 0 = .ok (.aload_n 0, 1) := by decide +kernel
theorem dX0_draw_1 : decode cX0_draw 1 = .ok (.aload_n 0, 1) := by decide +kernel
theorem dX0_draw_2 : decode cX0_draw 2 = .ok (.getfield 47, 3) := by decide +kernel
theorem dX0_draw_5 : decode cX0_draw 5 = .ok (.ldc 66, 2) := by decide +kernel
theorem dX0_draw_7 : decode cX0_draw 7 = .ok (.imul, 1) := by decide +kernel
theorem dX0_draw_8 : decode cX0_draw 8 = .ok (.ldc 67, 2) := by decide +kernel
theorem dX0_draw_10 : decode cX0_draw 10 = .ok (.iadd, 1) := by decide +kernel
theorem dX0_draw_11 : decode cX0_draw 11 = .ok (.putfield 47, 3) := by decide +kernel
theorem dX0_draw_14 : decode cX0_draw 14 = .ok (.iload_n 1, 1) := by decide +kernel
theorem dX0_draw_15 : decode cX0_draw 15 = .ok (.ifCond .le 15, 3) := by decide +kernel
theorem dX0_draw_18 : decode cX0_draw 18 = .ok (.aload_n 0, 1) := by decide +kernel
theorem dX0_draw_19 : decode cX0_draw 19 = .ok (.getfield 47, 3) := by decide +kernel
theorem dX0_draw_22 : decode cX0_draw 22 = .ok (.bipush 8, 2) := by decide +kernel
theorem dX0_draw_24 : decode cX0_draw 24 = .ok (.iushr, 1) := by decide +kernel
theorem dX0_draw_25 : decode cX0_draw 25 = .ok (.iload_n 1, 1) := by decide +kernel
theorem dX0_draw_26 : decode cX0_draw 26 = .ok (.irem, 1) := by decide +kernel
theorem dX0_draw_27 : decode cX0_draw 27 = .ok (.goto 4, 3) := by decide +kernel
theorem dX0_draw_30 : decode cX0_draw 30 = .ok (.iconst 0, 1) := by decide +kernel
theorem dX0_draw_31 : decode cX0_draw 31 = .ok (.ireturn, 1) := by decide +kernel
set_option maxRecDepth 100000 in
set_option maxHeartbeats 4000000 in
theorem w_X0_draw {fr : Nat} (hfr : 0 ≤ fr) (Z : AZ) (X : AX Z cX0_draw 2 RX0 (some .int) 0 fr) (a0 : Nat) (h0 : IO 0 a0 0) (x1 : Int32) (s : Mem) (r : Int32 × Mem) (hz : zres Z = (some (.int r.1), r.2)) (h : f_X0_draw a0 x1 s = some r) : AW Z s 0 [some (.ref (zr Z a0)), some (.int x1)] [] := by
  unfold f_X0_draw at h
  refine aw_aload_n X dX0_draw_0 rfl ?_
  refine aw_aload_n X dX0_draw_1 rfl ?_
  refine aw_geti X dX0_draw_2 fl_RX0_47 h0 (gt_RX0_11 h0) ?_
  refine aw_ldc X dX0_draw_5 kc_RX0_66 ?_
  refine aw_imul X dX0_draw_7 ?_
  refine aw_ldc X dX0_draw_8 kc_RX0_67 ?_
  refine aw_iadd X dX0_draw_10 ?_
  refine aw_put X dX0_draw_11 fp_RX0_47 h0 (gt_RX0_11 h0) rfl rfl ?_
  refine aw_iload_n X dX0_draw_14 rfl ?_
  refine aw_if_le (tgt := 30) X dX0_draw_15 (by decide) (fun c1 => ?_) (fun c1 => ?_)
  · rw [if_pos c1] at h
    refine aw_iconst (v := 0) X dX0_draw_30 (by decide) ?_
    cases h
    exact aw_iret X dX0_draw_31 rfl hz.symm
  · rw [if_neg c1] at h
    refine aw_aload_n X dX0_draw_18 rfl ?_
    refine aw_geti X dX0_draw_19 fl_RX0_47 h0 (gt_RX0_11 h0) ?_
    refine aw_bipush (v := 8) X dX0_draw_22 (by decide) ?_
    refine aw_iushr X dX0_draw_24 ?_
    refine aw_iload_n X dX0_draw_25 rfl ?_
    by_cases c2 : x1 = 0
    · rw [if_pos c2] at h
      cases h
    rw [if_neg c2] at h
    refine aw_irem X dX0_draw_26 c2 ?_
    refine aw_goto (tgt := 31) X dX0_draw_27 (by decide) ?_
    cases h
    exact aw_iret X dX0_draw_31 rfl hz.symm
set_option maxRecDepth 100000 in
set_option maxHeartbeats 4000000 in
theorem ok_X0_draw {a0 : Nat} (h0 : IO 0 a0 0) {x1 : Int32} {s : Mem} {r : Int32 × Mem} (h : f_X0_draw a0 x1 s = some r) (l : Launch) (D : va_G) (ρ : Nat → Nat) (cA : ClassId × ClassId × ClassId) (τ : AT) : AM l D ρ cA 0 τ yX0_draw cX0_draw 2 (some .int) 0 [.ref (ρ a0), .int x1] (some (.int r.1)) s r.2 := by
  refine AM_of (L := [some (.ref (ρ a0)), some (.int x1)]) (by decide) (by simp [Value.category]) (Nat.le_of_ble_eq_true rfl) (fun j v q => ?_) (fun Z X hρ hz hτ => ?_)
  · exact aL_ok (n := 0) [.ref (ρ a0), .int x1] j v q
  · subst hρ
    subst hτ
    exact w_X0_draw (Nat.le_refl _) Z X a0 h0 x1 s r hz h

theorem dX1_copyFrom_0 : decode cX1_copyFrom 0 = .ok (.aload_n 0, 1) := by decide +kernel
theorem dX1_copyFrom_1 : decode cX1_copyFrom 1 = .ok (.aload_n 1, 1) := by decide +kernel
theorem dX1_copyFrom_2 : decode cX1_copyFrom 2 = .ok (.getfield 9, 3) := by decide +kernel
theorem dX1_copyFrom_5 : decode cX1_copyFrom 5 = .ok (.putfield 9, 3) := by decide +kernel
theorem dX1_copyFrom_8 : decode cX1_copyFrom 8 = .ok (.aload_n 0, 1) := by decide +kernel
theorem dX1_copyFrom_9 : decode cX1_copyFrom 9 = .ok (.aload_n 1, 1) := by decide +kernel
theorem dX1_copyFrom_10 : decode cX1_copyFrom 10 = .ok (.getfield 15, 3) := by decide +kernel
theorem dX1_copyFrom_13 : decode cX1_copyFrom 13 = .ok (.putfield 15, 3) := by decide +kernel
theorem dX1_copyFrom_16 : decode cX1_copyFrom 16 = .ok (.aload_n 1, 1) := by decide +kernel
theorem dX1_copyFrom_17 : decode cX1_copyFrom 17 = .ok (.getfield 18, 3) := by decide +kernel
theorem dX1_copyFrom_20 : decode cX1_copyFrom 20 = .ok (.iconst 0, 1) := by decide +kernel
theorem dX1_copyFrom_21 : decode cX1_copyFrom 21 = .ok (.aload_n 0, 1) := by decide +kernel
theorem dX1_copyFrom_22 : decode cX1_copyFrom 22 = .ok (.getfield 18, 3) := by decide +kernel
theorem dX1_copyFrom_25 : decode cX1_copyFrom 25 = .ok (.iconst 0, 1) := by decide +kernel
theorem dX1_copyFrom_26 : decode cX1_copyFrom 26 = .ok (.bipush 16, 2) := by decide +kernel
theorem dX1_copyFrom_28 : decode cX1_copyFrom 28 = .ok (.invokestatic 37, 3) := by decide +kernel
theorem dX1_copyFrom_31 : decode cX1_copyFrom 31 = .ok (.aload_n 1, 1) := by decide +kernel
theorem dX1_copyFrom_32 : decode cX1_copyFrom 32 = .ok (.getfield 22, 3) := by decide +kernel
theorem dX1_copyFrom_35 : decode cX1_copyFrom 35 = .ok (.iconst 0, 1) := by decide +kernel
theorem dX1_copyFrom_36 : decode cX1_copyFrom 36 = .ok (.aload_n 0, 1) := by decide +kernel
theorem dX1_copyFrom_37 : decode cX1_copyFrom 37 = .ok (.getfield 22, 3) := by decide +kernel
theorem dX1_copyFrom_40 : decode cX1_copyFrom 40 = .ok (.iconst 0, 1) := by decide +kernel
theorem dX1_copyFrom_41 : decode cX1_copyFrom 41 = .ok (.bipush 16, 2) := by decide +kernel
theorem dX1_copyFrom_43 : decode cX1_copyFrom 43 = .ok (.invokestatic 37, 3) := by decide +kernel
theorem dX1_copyFrom_46 : decode cX1_copyFrom 46 = .ok (.aload_n 1, 1) := by decide +kernel
theorem dX1_copyFrom_47 : decode cX1_copyFrom 47 = .ok (.getfield 25, 3) := by decide +kernel
theorem dX1_copyFrom_50 : decode cX1_copyFrom 50 = .ok (.iconst 0, 1) := by decide +kernel
theorem dX1_copyFrom_51 : decode cX1_copyFrom 51 = .ok (.aload_n 0, 1) := by decide +kernel
theorem dX1_copyFrom_52 : decode cX1_copyFrom 52 = .ok (.getfield 25, 3) := by decide +kernel
theorem dX1_copyFrom_55 : decode cX1_copyFrom 55 = .ok (.iconst 0, 1) := by decide +kernel
theorem dX1_copyFrom_56 : decode cX1_copyFrom 56 = .ok (.bipush 16, 2) := by decide +kernel
theorem dX1_copyFrom_58 : decode cX1_copyFrom 58 = .ok (.invokestatic 37, 3) := by decide +kernel
theorem dX1_copyFrom_61 : decode cX1_copyFrom 61 = .ok (.aload_n 1, 1) := by decide +kernel
theorem dX1_copyFrom_62 : decode cX1_copyFrom 62 = .ok (.getfield 28, 3) := by decide +kernel
theorem dX1_copyFrom_65 : decode cX1_copyFrom 65 = .ok (.iconst 0, 1) := by decide +kernel
theorem dX1_copyFrom_66 : decode cX1_copyFrom 66 = .ok (.aload_n 0, 1) := by decide +kernel
theorem dX1_copyFrom_67 : decode cX1_copyFrom 67 = .ok (.getfield 28, 3) := by decide +kernel
theorem dX1_copyFrom_70 : decode cX1_copyFrom 70 = .ok (.iconst 0, 1) := by decide +kernel
theorem dX1_copyFrom_71 : decode cX1_copyFrom 71 = .ok (.bipush 16, 2) := by decide +kernel
theorem dX1_copyFrom_73 : decode cX1_copyFrom 73 = .ok (.invokestatic 37, 3) := by decide +kernel
theorem dX1_copyFrom_76 : decode cX1_copyFrom 76 = .ok (.aload_n 1, 1) := by decide +kernel
theorem dX1_copyFrom_77 : decode cX1_copyFrom 77 = .ok (.getfield 31, 3) := by decide +kernel
theorem dX1_copyFrom_80 : decode cX1_copyFrom 80 = .ok (.iconst 0, 1) := by decide +kernel
theorem dX1_copyFrom_81 : decode cX1_copyFrom 81 = .ok (.aload_n 0, 1) := by decide +kernel
theorem dX1_copyFrom_82 : decode cX1_copyFrom 82 = .ok (.getfield 31, 3) := by decide +kernel
theorem dX1_copyFrom_85 : decode cX1_copyFrom 85 = .ok (.iconst 0, 1) := by decide +kernel
theorem dX1_copyFrom_86 : decode cX1_copyFrom 86 = .ok (.aload_n 0, 1) := by decide +kernel
theorem dX1_copyFrom_87 : decode cX1_copyFrom 87 = .ok (.getfield 15, 3) := by decide +kernel
theorem dX1_copyFrom_90 : decode cX1_copyFrom 90 = .ok (.invokestatic 37, 3) := by decide +kernel
theorem dX1_copyFrom_93 : decode cX1_copyFrom 93 = .ok (.return_, 1) := by decide +kernel
set_option maxRecDepth 100000 in
set_option maxHeartbeats 4000000 in
theorem w_X1_copyFrom {fr : Nat} (hfr : 1 ≤ fr) (Z : AZ) (X : AX Z cX1_copyFrom 2 RX1 none 0 fr) (a0 : Nat) (a1 : Nat) (h0 : IO 0 a0 1) (h1 : IO 0 a1 1) (s : Mem) (r : Mem) (hz : zres Z = (none, r)) (h : f_X1_copyFrom a0 a1 s = some r) : AW Z s 0 [some (.ref (zr Z a0)), some (.ref (zr Z a1))] [] := by
  unfold f_X1_copyFrom at h
  refine aw_aload_n X dX1_copyFrom_0 rfl ?_
  refine aw_aload_n X dX1_copyFrom_1 rfl ?_
  refine aw_geti X dX1_copyFrom_2 fl_RX1_9 h1 (gt_RX1_0 h1) ?_
  refine aw_put X dX1_copyFrom_5 fp_RX1_9 h0 (gt_RX1_0 h0) rfl rfl ?_
  refine aw_aload_n X dX1_copyFrom_8 rfl ?_
  refine aw_aload_n X dX1_copyFrom_9 rfl ?_
  refine aw_geti X dX1_copyFrom_10 fl_RX1_15 h1 (gt_RX1_1 h1) ?_
  refine aw_put X dX1_copyFrom_13 fp_RX1_15 h0 (gt_RX1_1 h0) rfl rfl ?_
  refine aw_aload_n X dX1_copyFrom_16 rfl ?_
  refine aw_getr X dX1_copyFrom_17 fl_RX1_18 h1 (gt_RX1_2 h1) ?_
  refine aw_iconst (v := 0) X dX1_copyFrom_20 (by decide) ?_
  refine aw_aload_n X dX1_copyFrom_21 rfl ?_
  refine aw_getr X dX1_copyFrom_22 fl_RX1_18 h0 (gt_RX1_2 h0) ?_
  refine aw_iconst (v := 0) X dX1_copyFrom_25 (by decide) ?_
  refine aw_bipush (v := 16) X dX1_copyFrom_26 (by decide) ?_
  obtain ⟨s1, es1, h⟩ := bnd h
  refine aw_copy X (Nat.le_trans (by decide) hfr) dX1_copyFrom_28 ac_RX1_37 rfl (it_RX1_2 h1) (it_RX1_2 h0) es1 ?_
  refine aw_aload_n X dX1_copyFrom_31 rfl ?_
  refine aw_getr X dX1_copyFrom_32 fl_RX1_22 h1 (gt_RX1_3 h1) ?_
  refine aw_iconst (v := 0) X dX1_copyFrom_35 (by decide) ?_
  refine aw_aload_n X dX1_copyFrom_36 rfl ?_
  refine aw_getr X dX1_copyFrom_37 fl_RX1_22 h0 (gt_RX1_3 h0) ?_
  refine aw_iconst (v := 0) X dX1_copyFrom_40 (by decide) ?_
  refine aw_bipush (v := 16) X dX1_copyFrom_41 (by decide) ?_
  obtain ⟨s2, es2, h⟩ := bnd h
  refine aw_copy X (Nat.le_trans (by decide) hfr) dX1_copyFrom_43 ac_RX1_37 rfl (it_RX1_3 h1) (it_RX1_3 h0) es2 ?_
  refine aw_aload_n X dX1_copyFrom_46 rfl ?_
  refine aw_getr X dX1_copyFrom_47 fl_RX1_25 h1 (gt_RX1_4 h1) ?_
  refine aw_iconst (v := 0) X dX1_copyFrom_50 (by decide) ?_
  refine aw_aload_n X dX1_copyFrom_51 rfl ?_
  refine aw_getr X dX1_copyFrom_52 fl_RX1_25 h0 (gt_RX1_4 h0) ?_
  refine aw_iconst (v := 0) X dX1_copyFrom_55 (by decide) ?_
  refine aw_bipush (v := 16) X dX1_copyFrom_56 (by decide) ?_
  obtain ⟨s3, es3, h⟩ := bnd h
  refine aw_copy X (Nat.le_trans (by decide) hfr) dX1_copyFrom_58 ac_RX1_37 rfl (it_RX1_4 h1) (it_RX1_4 h0) es3 ?_
  refine aw_aload_n X dX1_copyFrom_61 rfl ?_
  refine aw_getr X dX1_copyFrom_62 fl_RX1_28 h1 (gt_RX1_5 h1) ?_
  refine aw_iconst (v := 0) X dX1_copyFrom_65 (by decide) ?_
  refine aw_aload_n X dX1_copyFrom_66 rfl ?_
  refine aw_getr X dX1_copyFrom_67 fl_RX1_28 h0 (gt_RX1_5 h0) ?_
  refine aw_iconst (v := 0) X dX1_copyFrom_70 (by decide) ?_
  refine aw_bipush (v := 16) X dX1_copyFrom_71 (by decide) ?_
  obtain ⟨s4, es4, h⟩ := bnd h
  refine aw_copy X (Nat.le_trans (by decide) hfr) dX1_copyFrom_73 ac_RX1_37 rfl (it_RX1_5 h1) (it_RX1_5 h0) es4 ?_
  refine aw_aload_n X dX1_copyFrom_76 rfl ?_
  refine aw_getr X dX1_copyFrom_77 fl_RX1_31 h1 (gt_RX1_6 h1) ?_
  refine aw_iconst (v := 0) X dX1_copyFrom_80 (by decide) ?_
  refine aw_aload_n X dX1_copyFrom_81 rfl ?_
  refine aw_getr X dX1_copyFrom_82 fl_RX1_31 h0 (gt_RX1_6 h0) ?_
  refine aw_iconst (v := 0) X dX1_copyFrom_85 (by decide) ?_
  refine aw_aload_n X dX1_copyFrom_86 rfl ?_
  refine aw_geti X dX1_copyFrom_87 fl_RX1_15 h0 (gt_RX1_1 h0) ?_
  obtain ⟨s5, es5, h⟩ := bnd h
  refine aw_copy X (Nat.le_trans (by decide) hfr) dX1_copyFrom_90 ac_RX1_37 rfl (it_RX1_6 h1) (it_RX1_6 h0) es5 ?_
  cases h
  exact aw_vret X dX1_copyFrom_93 rfl hz.symm
set_option maxRecDepth 100000 in
set_option maxHeartbeats 4000000 in
theorem ok_X1_copyFrom {a0 : Nat} {a1 : Nat} (h0 : IO 0 a0 1) (h1 : IO 0 a1 1) {s : Mem} {r : Mem} (h : f_X1_copyFrom a0 a1 s = some r) (l : Launch) (D : va_G) (ρ : Nat → Nat) (cA : ClassId × ClassId × ClassId) (τ : AT) : AM l D ρ cA 0 τ yX1_copyFrom cX1_copyFrom 2 none 1 [.ref (ρ a0), .ref (ρ a1)] none s r := by
  refine AM_of (L := [some (.ref (ρ a0)), some (.ref (ρ a1))]) (by decide) (by simp [Value.category]) (Nat.le_of_ble_eq_true rfl) (fun j v q => ?_) (fun Z X hρ hz hτ => ?_)
  · exact aL_ok (n := 0) [.ref (ρ a0), .ref (ρ a1)] j v q
  · subst hρ
    subst hτ
    exact w_X1_copyFrom (Nat.le_refl _) Z X a0 a1 h0 h1 s r hz h

theorem dX1_clear_0 : decode cX1_clear 0 = .ok (.aload_n 0, 1) := by decide +kernel
theorem dX1_clear_1 : decode cX1_clear 1 = .ok (.iconst 0, 1) := by decide +kernel
theorem dX1_clear_2 : decode cX1_clear 2 = .ok (.putfield 9, 3) := by decide +kernel
theorem dX1_clear_5 : decode cX1_clear 5 = .ok (.aload_n 0, 1) := by decide +kernel
theorem dX1_clear_6 : decode cX1_clear 6 = .ok (.iconst 0, 1) := by decide +kernel
theorem dX1_clear_7 : decode cX1_clear 7 = .ok (.putfield 15, 3) := by decide +kernel
theorem dX1_clear_10 : decode cX1_clear 10 = .ok (.return_, 1) := by decide +kernel
set_option maxRecDepth 100000 in
set_option maxHeartbeats 4000000 in
theorem w_X1_clear {fr : Nat} (hfr : 0 ≤ fr) (Z : AZ) (X : AX Z cX1_clear 1 RX1 none 0 fr) (a0 : Nat) (h0 : IO 0 a0 1) (s : Mem) (r : Mem) (hz : zres Z = (none, r)) (h : f_X1_clear a0 s = some r) : AW Z s 0 [some (.ref (zr Z a0))] [] := by
  unfold f_X1_clear at h
  refine aw_aload_n X dX1_clear_0 rfl ?_
  refine aw_iconst (v := 0) X dX1_clear_1 (by decide) ?_
  refine aw_put X dX1_clear_2 fp_RX1_9 h0 (gt_RX1_0 h0) rfl rfl ?_
  refine aw_aload_n X dX1_clear_5 rfl ?_
  refine aw_iconst (v := 0) X dX1_clear_6 (by decide) ?_
  refine aw_put X dX1_clear_7 fp_RX1_15 h0 (gt_RX1_1 h0) rfl rfl ?_
  cases h
  exact aw_vret X dX1_clear_10 rfl hz.symm
set_option maxRecDepth 100000 in
set_option maxHeartbeats 4000000 in
theorem ok_X1_clear {a0 : Nat} (h0 : IO 0 a0 1) {s : Mem} {r : Mem} (h : f_X1_clear a0 s = some r) (l : Launch) (D : va_G) (ρ : Nat → Nat) (cA : ClassId × ClassId × ClassId) (τ : AT) : AM l D ρ cA 0 τ yX1_clear cX1_clear 1 none 0 [.ref (ρ a0)] none s r := by
  refine AM_of (L := [some (.ref (ρ a0))]) (by decide) (by simp [Value.category]) (Nat.le_of_ble_eq_true rfl) (fun j v q => ?_) (fun Z X hρ hz hτ => ?_)
  · exact aL_ok (n := 0) [.ref (ρ a0)] j v q
  · subst hρ
    subst hτ
    exact w_X1_clear (Nat.le_refl _) Z X a0 h0 s r hz h

theorem dX1_beginLine_0 : decode cX1_beginLine 0 = .ok (.aload_n 0, 1) := by decide +kernel
theorem dX1_beginLine_1 : decode cX1_beginLine 1 = .ok (.getfield 9, 3) := by decide +kernel
theorem dX1_beginLine_4 : decode cX1_beginLine 4 = .ok (.bipush 16, 2) := by decide +kernel
theorem dX1_beginLine_6 : decode cX1_beginLine 6 = .ok (.if_icmp .ge 26, 3) := by decide +kernel
theorem dX1_beginLine_9 : decode cX1_beginLine 9 = .ok (.aload_n 0, 1) := by decide +kernel
theorem dX1_beginLine_10 : decode cX1_beginLine 10 = .ok (.getfield 18, 3) := by decide +kernel
theorem dX1_beginLine_13 : decode cX1_beginLine 13 = .ok (.aload_n 0, 1) := by decide +kernel
theorem dX1_beginLine_14 : decode cX1_beginLine 14 = .ok (.getfield 9, 3) := by decide +kernel
theorem dX1_beginLine_17 : decode cX1_beginLine 17 = .ok (.iload_n 1, 1) := by decide +kernel
theorem dX1_beginLine_18 : decode cX1_beginLine 18 = .ok (.iastore, 1) := by decide +kernel
theorem dX1_beginLine_19 : decode cX1_beginLine 19 = .ok (.aload_n 0, 1) := by decide +kernel
theorem dX1_beginLine_20 : decode cX1_beginLine 20 = .ok (.getfield 22, 3) := by decide +kernel
theorem dX1_beginLine_23 : decode cX1_beginLine 23 = .ok (.aload_n 0, 1) := by decide +kernel
theorem dX1_beginLine_24 : decode cX1_beginLine 24 = .ok (.getfield 9, 3) := by decide +kernel
theorem dX1_beginLine_27 : decode cX1_beginLine 27 = .ok (.aload_n 0, 1) := by decide +kernel
theorem dX1_beginLine_28 : decode cX1_beginLine 28 = .ok (.getfield 15, 3) := by decide +kernel
theorem dX1_beginLine_31 : decode cX1_beginLine 31 = .ok (.iastore, 1) := by decide +kernel
theorem dX1_beginLine_32 : decode cX1_beginLine 32 = .ok (.return_, 1) := by decide +kernel
set_option maxRecDepth 100000 in
set_option maxHeartbeats 4000000 in
theorem w_X1_beginLine {fr : Nat} (hfr : 0 ≤ fr) (Z : AZ) (X : AX Z cX1_beginLine 2 RX1 none 0 fr) (a0 : Nat) (h0 : IO 0 a0 1) (x1 : Int32) (s : Mem) (r : Mem) (hz : zres Z = (none, r)) (h : f_X1_beginLine a0 x1 s = some r) : AW Z s 0 [some (.ref (zr Z a0)), some (.int x1)] [] := by
  unfold f_X1_beginLine at h
  refine aw_aload_n X dX1_beginLine_0 rfl ?_
  refine aw_geti X dX1_beginLine_1 fl_RX1_9 h0 (gt_RX1_0 h0) ?_
  refine aw_bipush (v := 16) X dX1_beginLine_4 (by decide) ?_
  refine aw_icmp_ge (tgt := 32) X dX1_beginLine_6 (by decide) (fun c1 => ?_) (fun c1 => ?_)
  · rw [if_pos c1] at h
    cases h
    exact aw_vret X dX1_beginLine_32 rfl hz.symm
  · rw [if_neg c1] at h
    refine aw_aload_n X dX1_beginLine_9 rfl ?_
    refine aw_getr X dX1_beginLine_10 fl_RX1_18 h0 (gt_RX1_2 h0) ?_
    refine aw_aload_n X dX1_beginLine_13 rfl ?_
    refine aw_geti X dX1_beginLine_14 fl_RX1_9 h0 (gt_RX1_0 h0) ?_
    refine aw_iload_n X dX1_beginLine_17 rfl ?_
    obtain ⟨s2, es2, h⟩ := bnd h
    refine aw_iast X dX1_beginLine_18 (it_RX1_2 h0) es2 ?_
    refine aw_aload_n X dX1_beginLine_19 rfl ?_
    refine aw_getr X dX1_beginLine_20 fl_RX1_22 h0 (gt_RX1_3 h0) ?_
    refine aw_aload_n X dX1_beginLine_23 rfl ?_
    refine aw_geti X dX1_beginLine_24 fl_RX1_9 h0 (gt_RX1_0 h0) ?_
    refine aw_aload_n X dX1_beginLine_27 rfl ?_
    refine aw_geti X dX1_beginLine_28 fl_RX1_15 h0 (gt_RX1_1 h0) ?_
    obtain ⟨s3, es3, h⟩ := bnd h
    refine aw_iast X dX1_beginLine_31 (it_RX1_3 h0) es3 ?_
    cases h
    exact aw_vret X dX1_beginLine_32 rfl hz.symm
set_option maxRecDepth 100000 in
set_option maxHeartbeats 4000000 in
theorem ok_X1_beginLine {a0 : Nat} (h0 : IO 0 a0 1) {x1 : Int32} {s : Mem} {r : Mem} (h : f_X1_beginLine a0 x1 s = some r) (l : Launch) (D : va_G) (ρ : Nat → Nat) (cA : ClassId × ClassId × ClassId) (τ : AT) : AM l D ρ cA 0 τ yX1_beginLine cX1_beginLine 2 none 0 [.ref (ρ a0), .int x1] none s r := by
  refine AM_of (L := [some (.ref (ρ a0)), some (.int x1)]) (by decide) (by simp [Value.category]) (Nat.le_of_ble_eq_true rfl) (fun j v q => ?_) (fun Z X hρ hz hτ => ?_)
  · exact aL_ok (n := 0) [.ref (ρ a0), .int x1] j v q
  · subst hρ
    subst hτ
    exact w_X1_beginLine (Nat.le_refl _) Z X a0 h0 x1 s r hz h

theorem dX1_beginWhen_0 : decode cX1_beginWhen 0 = .ok (.aload_n 0, 1) := by decide +kernel
theorem dX1_beginWhen_1 : decode cX1_beginWhen 1 = .ok (.getfield 9, 3) := by decide +kernel
theorem dX1_beginWhen_4 : decode cX1_beginWhen 4 = .ok (.bipush 16, 2) := by decide +kernel
theorem dX1_beginWhen_6 : decode cX1_beginWhen 6 = .ok (.if_icmp .ge 16, 3) := by decide +kernel
theorem dX1_beginWhen_9 : decode cX1_beginWhen 9 = .ok (.aload_n 0, 1) := by decide +kernel
theorem dX1_beginWhen_10 : decode cX1_beginWhen 10 = .ok (.getfield 25, 3) := by decide +kernel
theorem dX1_beginWhen_13 : decode cX1_beginWhen 13 = .ok (.aload_n 0, 1) := by decide +kernel
theorem dX1_beginWhen_14 : decode cX1_beginWhen 14 = .ok (.getfield 9, 3) := by decide +kernel
theorem dX1_beginWhen_17 : decode cX1_beginWhen 17 = .ok (.aload_n 0, 1) := by decide +kernel
theorem dX1_beginWhen_18 : decode cX1_beginWhen 18 = .ok (.getfield 15, 3) := by decide +kernel
theorem dX1_beginWhen_21 : decode cX1_beginWhen 21 = .ok (.iastore, 1) := by decide +kernel
theorem dX1_beginWhen_22 : decode cX1_beginWhen 22 = .ok (.return_, 1) := by decide +kernel
set_option maxRecDepth 100000 in
set_option maxHeartbeats 4000000 in
theorem w_X1_beginWhen {fr : Nat} (hfr : 0 ≤ fr) (Z : AZ) (X : AX Z cX1_beginWhen 1 RX1 none 0 fr) (a0 : Nat) (h0 : IO 0 a0 1) (s : Mem) (r : Mem) (hz : zres Z = (none, r)) (h : f_X1_beginWhen a0 s = some r) : AW Z s 0 [some (.ref (zr Z a0))] [] := by
  unfold f_X1_beginWhen at h
  refine aw_aload_n X dX1_beginWhen_0 rfl ?_
  refine aw_geti X dX1_beginWhen_1 fl_RX1_9 h0 (gt_RX1_0 h0) ?_
  refine aw_bipush (v := 16) X dX1_beginWhen_4 (by decide) ?_
  refine aw_icmp_ge (tgt := 22) X dX1_beginWhen_6 (by decide) (fun c1 => ?_) (fun c1 => ?_)
  · rw [if_pos c1] at h
    cases h
    exact aw_vret X dX1_beginWhen_22 rfl hz.symm
  · rw [if_neg c1] at h
    refine aw_aload_n X dX1_beginWhen_9 rfl ?_
    refine aw_getr X dX1_beginWhen_10 fl_RX1_25 h0 (gt_RX1_4 h0) ?_
    refine aw_aload_n X dX1_beginWhen_13 rfl ?_
    refine aw_geti X dX1_beginWhen_14 fl_RX1_9 h0 (gt_RX1_0 h0) ?_
    refine aw_aload_n X dX1_beginWhen_17 rfl ?_
    refine aw_geti X dX1_beginWhen_18 fl_RX1_15 h0 (gt_RX1_1 h0) ?_
    obtain ⟨s2, es2, h⟩ := bnd h
    refine aw_iast X dX1_beginWhen_21 (it_RX1_4 h0) es2 ?_
    cases h
    exact aw_vret X dX1_beginWhen_22 rfl hz.symm
set_option maxRecDepth 100000 in
set_option maxHeartbeats 4000000 in
theorem ok_X1_beginWhen {a0 : Nat} (h0 : IO 0 a0 1) {s : Mem} {r : Mem} (h : f_X1_beginWhen a0 s = some r) (l : Launch) (D : va_G) (ρ : Nat → Nat) (cA : ClassId × ClassId × ClassId) (τ : AT) : AM l D ρ cA 0 τ yX1_beginWhen cX1_beginWhen 1 none 0 [.ref (ρ a0)] none s r := by
  refine AM_of (L := [some (.ref (ρ a0))]) (by decide) (by simp [Value.category]) (Nat.le_of_ble_eq_true rfl) (fun j v q => ?_) (fun Z X hρ hz hτ => ?_)
  · exact aL_ok (n := 0) [.ref (ρ a0)] j v q
  · subst hρ
    subst hτ
    exact w_X1_beginWhen (Nat.le_refl _) Z X a0 h0 s r hz h

theorem dX1_endLine_0 : decode cX1_endLine 0 = .ok (.aload_n 0, 1) := by decide +kernel
theorem dX1_endLine_1 : decode cX1_endLine 1 = .ok (.getfield 9, 3) := by decide +kernel
theorem dX1_endLine_4 : decode cX1_endLine 4 = .ok (.bipush 16, 2) := by decide +kernel
theorem dX1_endLine_6 : decode cX1_endLine 6 = .ok (.if_icmp .ge 26, 3) := by decide +kernel
theorem dX1_endLine_9 : decode cX1_endLine 9 = .ok (.aload_n 0, 1) := by decide +kernel
theorem dX1_endLine_10 : decode cX1_endLine 10 = .ok (.getfield 28, 3) := by decide +kernel
theorem dX1_endLine_13 : decode cX1_endLine 13 = .ok (.aload_n 0, 1) := by decide +kernel
theorem dX1_endLine_14 : decode cX1_endLine 14 = .ok (.getfield 9, 3) := by decide +kernel
theorem dX1_endLine_17 : decode cX1_endLine 17 = .ok (.aload_n 0, 1) := by decide +kernel
theorem dX1_endLine_18 : decode cX1_endLine 18 = .ok (.getfield 15, 3) := by decide +kernel
theorem dX1_endLine_21 : decode cX1_endLine 21 = .ok (.iastore, 1) := by decide +kernel
theorem dX1_endLine_22 : decode cX1_endLine 22 = .ok (.aload_n 0, 1) := by decide +kernel
theorem dX1_endLine_23 : decode cX1_endLine 23 = .ok (.dup, 1) := by decide +kernel
theorem dX1_endLine_24 : decode cX1_endLine 24 = .ok (.getfield 9, 3) := by decide +kernel
theorem dX1_endLine_27 : decode cX1_endLine 27 = .ok (.iconst 1, 1) := by decide +kernel
theorem dX1_endLine_28 : decode cX1_endLine 28 = .ok (.iadd, 1) := by decide +kernel
theorem dX1_endLine_29 : decode cX1_endLine 29 = .ok (.putfield 9, 3) := by decide +kernel
theorem dX1_endLine_32 : decode cX1_endLine 32 = .ok (.return_, 1) := by decide +kernel
set_option maxRecDepth 100000 in
set_option maxHeartbeats 4000000 in
theorem w_X1_endLine {fr : Nat} (hfr : 0 ≤ fr) (Z : AZ) (X : AX Z cX1_endLine 1 RX1 none 0 fr) (a0 : Nat) (h0 : IO 0 a0 1) (s : Mem) (r : Mem) (hz : zres Z = (none, r)) (h : f_X1_endLine a0 s = some r) : AW Z s 0 [some (.ref (zr Z a0))] [] := by
  unfold f_X1_endLine at h
  refine aw_aload_n X dX1_endLine_0 rfl ?_
  refine aw_geti X dX1_endLine_1 fl_RX1_9 h0 (gt_RX1_0 h0) ?_
  refine aw_bipush (v := 16) X dX1_endLine_4 (by decide) ?_
  refine aw_icmp_ge (tgt := 32) X dX1_endLine_6 (by decide) (fun c1 => ?_) (fun c1 => ?_)
  · rw [if_pos c1] at h
    cases h
    exact aw_vret X dX1_endLine_32 rfl hz.symm
  · rw [if_neg c1] at h
    refine aw_aload_n X dX1_endLine_9 rfl ?_
    refine aw_getr X dX1_endLine_10 fl_RX1_28 h0 (gt_RX1_5 h0) ?_
    refine aw_aload_n X dX1_endLine_13 rfl ?_
    refine aw_geti X dX1_endLine_14 fl_RX1_9 h0 (gt_RX1_0 h0) ?_
    refine aw_aload_n X dX1_endLine_17 rfl ?_
    refine aw_geti X dX1_endLine_18 fl_RX1_15 h0 (gt_RX1_1 h0) ?_
    obtain ⟨s2, es2, h⟩ := bnd h
    refine aw_iast X dX1_endLine_21 (it_RX1_5 h0) es2 ?_
    refine aw_aload_n X dX1_endLine_22 rfl ?_
    refine aw_dup X dX1_endLine_23 rfl ?_
    refine aw_geti X dX1_endLine_24 fl_RX1_9 h0 (gt_RX1_0 h0) ?_
    refine aw_iconst (v := 1) X dX1_endLine_27 (by decide) ?_
    refine aw_iadd X dX1_endLine_28 ?_
    refine aw_put X dX1_endLine_29 fp_RX1_9 h0 (gt_RX1_0 h0) rfl rfl ?_
    cases h
    exact aw_vret X dX1_endLine_32 rfl hz.symm
set_option maxRecDepth 100000 in
set_option maxHeartbeats 4000000 in
theorem ok_X1_endLine {a0 : Nat} (h0 : IO 0 a0 1) {s : Mem} {r : Mem} (h : f_X1_endLine a0 s = some r) (l : Launch) (D : va_G) (ρ : Nat → Nat) (cA : ClassId × ClassId × ClassId) (τ : AT) : AM l D ρ cA 0 τ yX1_endLine cX1_endLine 1 none 0 [.ref (ρ a0)] none s r := by
  refine AM_of (L := [some (.ref (ρ a0))]) (by decide) (by simp [Value.category]) (Nat.le_of_ble_eq_true rfl) (fun j v q => ?_) (fun Z X hρ hz hτ => ?_)
  · exact aL_ok (n := 0) [.ref (ρ a0)] j v q
  · subst hρ
    subst hτ
    exact w_X1_endLine (Nat.le_refl _) Z X a0 h0 s r hz h

theorem dX1_emit_0 : decode cX1_emit 0 = .ok (.aload_n 0, 1) := by decide +kernel
theorem dX1_emit_1 : decode cX1_emit 1 = .ok (.getfield 15, 3) := by decide +kernel
theorem dX1_emit_4 : decode cX1_emit 4 = .ok (.sipush 400, 3) := by decide +kernel
theorem dX1_emit_7 : decode cX1_emit 7 = .ok (.if_icmp .ge 23, 3) := by decide +kernel
theorem dX1_emit_10 : decode cX1_emit 10 = .ok (.aload_n 0, 1) := by decide +kernel
theorem dX1_emit_11 : decode cX1_emit 11 = .ok (.getfield 31, 3) := by decide +kernel
theorem dX1_emit_14 : decode cX1_emit 14 = .ok (.aload_n 0, 1) := by decide +kernel
theorem dX1_emit_15 : decode cX1_emit 15 = .ok (.getfield 15, 3) := by decide +kernel
theorem dX1_emit_18 : decode cX1_emit 18 = .ok (.iload_n 1, 1) := by decide +kernel
theorem dX1_emit_19 : decode cX1_emit 19 = .ok (.iastore, 1) := by decide +kernel
theorem dX1_emit_20 : decode cX1_emit 20 = .ok (.aload_n 0, 1) := by decide +kernel
theorem dX1_emit_21 : decode cX1_emit 21 = .ok (.dup, 1) := by decide +kernel
theorem dX1_emit_22 : decode cX1_emit 22 = .ok (.getfield 15, 3) := by decide +kernel
theorem dX1_emit_25 : decode cX1_emit 25 = .ok (.iconst 1, 1) := by decide +kernel
theorem dX1_emit_26 : decode cX1_emit 26 = .ok (.iadd, 1) := by decide +kernel
theorem dX1_emit_27 : decode cX1_emit 27 = .ok (.putfield 15, 3) := by decide +kernel
theorem dX1_emit_30 : decode cX1_emit 30 = .ok (.return_, 1) := by decide +kernel
set_option maxRecDepth 100000 in
set_option maxHeartbeats 4000000 in
theorem w_X1_emit {fr : Nat} (hfr : 0 ≤ fr) (Z : AZ) (X : AX Z cX1_emit 2 RX1 none 0 fr) (a0 : Nat) (h0 : IO 0 a0 1) (x1 : Int32) (s : Mem) (r : Mem) (hz : zres Z = (none, r)) (h : f_X1_emit a0 x1 s = some r) : AW Z s 0 [some (.ref (zr Z a0)), some (.int x1)] [] := by
  unfold f_X1_emit at h
  refine aw_aload_n X dX1_emit_0 rfl ?_
  refine aw_geti X dX1_emit_1 fl_RX1_15 h0 (gt_RX1_1 h0) ?_
  refine aw_sipush (v := 400) X dX1_emit_4 (by decide) ?_
  refine aw_icmp_ge (tgt := 30) X dX1_emit_7 (by decide) (fun c1 => ?_) (fun c1 => ?_)
  · rw [if_pos c1] at h
    cases h
    exact aw_vret X dX1_emit_30 rfl hz.symm
  · rw [if_neg c1] at h
    refine aw_aload_n X dX1_emit_10 rfl ?_
    refine aw_getr X dX1_emit_11 fl_RX1_31 h0 (gt_RX1_6 h0) ?_
    refine aw_aload_n X dX1_emit_14 rfl ?_
    refine aw_geti X dX1_emit_15 fl_RX1_15 h0 (gt_RX1_1 h0) ?_
    refine aw_iload_n X dX1_emit_18 rfl ?_
    obtain ⟨s2, es2, h⟩ := bnd h
    refine aw_iast X dX1_emit_19 (it_RX1_6 h0) es2 ?_
    refine aw_aload_n X dX1_emit_20 rfl ?_
    refine aw_dup X dX1_emit_21 rfl ?_
    refine aw_geti X dX1_emit_22 fl_RX1_15 h0 (gt_RX1_1 h0) ?_
    refine aw_iconst (v := 1) X dX1_emit_25 (by decide) ?_
    refine aw_iadd X dX1_emit_26 ?_
    refine aw_put X dX1_emit_27 fp_RX1_15 h0 (gt_RX1_1 h0) rfl rfl ?_
    cases h
    exact aw_vret X dX1_emit_30 rfl hz.symm
set_option maxRecDepth 100000 in
set_option maxHeartbeats 4000000 in
theorem ok_X1_emit {a0 : Nat} (h0 : IO 0 a0 1) {x1 : Int32} {s : Mem} {r : Mem} (h : f_X1_emit a0 x1 s = some r) (l : Launch) (D : va_G) (ρ : Nat → Nat) (cA : ClassId × ClassId × ClassId) (τ : AT) : AM l D ρ cA 0 τ yX1_emit cX1_emit 2 none 0 [.ref (ρ a0), .int x1] none s r := by
  refine AM_of (L := [some (.ref (ρ a0)), some (.int x1)]) (by decide) (by simp [Value.category]) (Nat.le_of_ble_eq_true rfl) (fun j v q => ?_) (fun Z X hρ hz hτ => ?_)
  · exact aL_ok (n := 0) [.ref (ρ a0), .int x1] j v q
  · subst hρ
    subst hτ
    exact w_X1_emit (Nat.le_refl _) Z X a0 h0 x1 s r hz h

theorem dJ6_bitCount_0f7a4_0 : decode cJ6_bitCount_0f7a4 0 = .ok (.iload_n 0, 1) := by decide +kernel
theorem dJ6_bitCount_0f7a4_1 : decode cJ6_bitCount_0f7a4 1 = .ok (.iload_n 0, 1) := by decide +kernel
theorem dJ6_bitCount_0f7a4_2 : decode cJ6_bitCount_0f7a4 2 = .ok (.iconst 1, 1) := by decide +kernel
theorem dJ6_bitCount_0f7a4_3 : decode cJ6_bitCount_0f7a4 3 = .ok (.iushr, 1) := by decide +kernel
theorem dJ6_bitCount_0f7a4_4 : decode cJ6_bitCount_0f7a4 4 = .ok (.ldc_w 265, 3) := by decide +kernel
theorem dJ6_bitCount_0f7a4_7 : decode cJ6_bitCount_0f7a4 7 = .ok (.iand, 1) := by decide +kernel
theorem dJ6_bitCount_0f7a4_8 : decode cJ6_bitCount_0f7a4 8 = .ok (.isub, 1) := by decide +kernel
theorem dJ6_bitCount_0f7a4_9 : decode cJ6_bitCount_0f7a4 9 = .ok (.istore_n 0, 1) := by decide +kernel
theorem dJ6_bitCount_0f7a4_10 : decode cJ6_bitCount_0f7a4 10 = .ok (.iload_n 0, 1) := by decide +kernel
theorem dJ6_bitCount_0f7a4_11 : decode cJ6_bitCount_0f7a4 11 = .ok (.ldc_w 266, 3) := by decide +kernel
theorem dJ6_bitCount_0f7a4_14 : decode cJ6_bitCount_0f7a4 14 = .ok (.iand, 1) := by decide +kernel
theorem dJ6_bitCount_0f7a4_15 : decode cJ6_bitCount_0f7a4 15 = .ok (.iload_n 0, 1) := by decide +kernel
theorem dJ6_bitCount_0f7a4_16 : decode cJ6_bitCount_0f7a4 16 = .ok (.iconst 2, 1) := by decide +kernel
theorem dJ6_bitCount_0f7a4_17 : decode cJ6_bitCount_0f7a4 17 = .ok (.iushr, 1) := by decide +kernel
theorem dJ6_bitCount_0f7a4_18 : decode cJ6_bitCount_0f7a4 18 = .ok (.ldc_w 266, 3) := by decide +kernel
theorem dJ6_bitCount_0f7a4_21 : decode cJ6_bitCount_0f7a4 21 = .ok (.iand, 1) := by decide +kernel
theorem dJ6_bitCount_0f7a4_22 : decode cJ6_bitCount_0f7a4 22 = .ok (.iadd, 1) := by decide +kernel
theorem dJ6_bitCount_0f7a4_23 : decode cJ6_bitCount_0f7a4 23 = .ok (.istore_n 0, 1) := by decide +kernel
theorem dJ6_bitCount_0f7a4_24 : decode cJ6_bitCount_0f7a4 24 = .ok (.iload_n 0, 1) := by decide +kernel
theorem dJ6_bitCount_0f7a4_25 : decode cJ6_bitCount_0f7a4 25 = .ok (.iload_n 0, 1) := by decide +kernel
theorem dJ6_bitCount_0f7a4_26 : decode cJ6_bitCount_0f7a4 26 = .ok (.iconst 4, 1) := by decide +kernel
theorem dJ6_bitCount_0f7a4_27 : decode cJ6_bitCount_0f7a4 27 = .ok (.iushr, 1) := by decide +kernel
theorem dJ6_bitCount_0f7a4_28 : decode cJ6_bitCount_0f7a4 28 = .ok (.iadd, 1) := by decide +kernel
theorem dJ6_bitCount_0f7a4_29 : decode cJ6_bitCount_0f7a4 29 = .ok (.ldc_w 267, 3) := by decide +kernel
theorem dJ6_bitCount_0f7a4_32 : decode cJ6_bitCount_0f7a4 32 = .ok (.iand, 1) := by decide +kernel
theorem dJ6_bitCount_0f7a4_33 : decode cJ6_bitCount_0f7a4 33 = .ok (.istore_n 0, 1) := by decide +kernel
theorem dJ6_bitCount_0f7a4_34 : decode cJ6_bitCount_0f7a4 34 = .ok (.iload_n 0, 1) := by decide +kernel
theorem dJ6_bitCount_0f7a4_35 : decode cJ6_bitCount_0f7a4 35 = .ok (.iload_n 0, 1) := by decide +kernel
theorem dJ6_bitCount_0f7a4_36 : decode cJ6_bitCount_0f7a4 36 = .ok (.bipush 8, 2) := by decide +kernel
theorem dJ6_bitCount_0f7a4_38 : decode cJ6_bitCount_0f7a4 38 = .ok (.iushr, 1) := by decide +kernel
theorem dJ6_bitCount_0f7a4_39 : decode cJ6_bitCount_0f7a4 39 = .ok (.iadd, 1) := by decide +kernel
theorem dJ6_bitCount_0f7a4_40 : decode cJ6_bitCount_0f7a4 40 = .ok (.istore_n 0, 1) := by decide +kernel
theorem dJ6_bitCount_0f7a4_41 : decode cJ6_bitCount_0f7a4 41 = .ok (.iload_n 0, 1) := by decide +kernel
theorem dJ6_bitCount_0f7a4_42 : decode cJ6_bitCount_0f7a4 42 = .ok (.iload_n 0, 1) := by decide +kernel
theorem dJ6_bitCount_0f7a4_43 : decode cJ6_bitCount_0f7a4 43 = .ok (.bipush 16, 2) := by decide +kernel
theorem dJ6_bitCount_0f7a4_45 : decode cJ6_bitCount_0f7a4 45 = .ok (.iushr, 1) := by decide +kernel
theorem dJ6_bitCount_0f7a4_46 : decode cJ6_bitCount_0f7a4 46 = .ok (.iadd, 1) := by decide +kernel
theorem dJ6_bitCount_0f7a4_47 : decode cJ6_bitCount_0f7a4 47 = .ok (.istore_n 0, 1) := by decide +kernel
theorem dJ6_bitCount_0f7a4_48 : decode cJ6_bitCount_0f7a4 48 = .ok (.iload_n 0, 1) := by decide +kernel
theorem dJ6_bitCount_0f7a4_49 : decode cJ6_bitCount_0f7a4 49 = .ok (.bipush 63, 2) := by decide +kernel
theorem dJ6_bitCount_0f7a4_51 : decode cJ6_bitCount_0f7a4 51 = .ok (.iand, 1) := by decide +kernel
theorem dJ6_bitCount_0f7a4_52 : decode cJ6_bitCount_0f7a4 52 = .ok (.ireturn, 1) := by decide +kernel
set_option maxRecDepth 100000 in
set_option maxHeartbeats 4000000 in
theorem w_J6_bitCount_0f7a4 {fr : Nat} (hfr : 0 ≤ fr) (Z : AZ) (X : AX Z cJ6_bitCount_0f7a4 1 RJ6 (some .int) 0 fr) (x0 : Int32) (s : Mem) (r : Int32 × Mem) (hz : zres Z = (some (.int r.1), r.2)) (h : f_J6_bitCount_0f7a4 x0 s = some r) : AW Z s 0 [some (.int x0)] [] := by
  unfold f_J6_bitCount_0f7a4 at h
  refine aw_iload_n X dJ6_bitCount_0f7a4_0 rfl ?_
  refine aw_iload_n X dJ6_bitCount_0f7a4_1 rfl ?_
  refine aw_iconst (v := 1) X dJ6_bitCount_0f7a4_2 (by decide) ?_
  refine aw_iushr X dJ6_bitCount_0f7a4_3 ?_
  refine aw_ldcw X dJ6_bitCount_0f7a4_4 kc_RJ6_265 ?_
  refine aw_iand X dJ6_bitCount_0f7a4_7 ?_
  refine aw_isub X dJ6_bitCount_0f7a4_8 ?_
  refine aw_istore_n (L' := [some (.int (x0 - ((ush x0 1) &&& 1431655765)))]) X dJ6_bitCount_0f7a4_9 (by decide) rfl ?_
  refine aw_iload_n X dJ6_bitCount_0f7a4_10 rfl ?_
  refine aw_ldcw X dJ6_bitCount_0f7a4_11 kc_RJ6_266 ?_
  refine aw_iand X dJ6_bitCount_0f7a4_14 ?_
  refine aw_iload_n X dJ6_bitCount_0f7a4_15 rfl ?_
  refine aw_iconst (v := 2) X dJ6_bitCount_0f7a4_16 (by decide) ?_
  refine aw_iushr X dJ6_bitCount_0f7a4_17 ?_
  refine aw_ldcw X dJ6_bitCount_0f7a4_18 kc_RJ6_266 ?_
  refine aw_iand X dJ6_bitCount_0f7a4_21 ?_
  refine aw_iadd X dJ6_bitCount_0f7a4_22 ?_
  refine aw_istore_n (L' := [some (.int (((x0 - ((ush x0 1) &&& 1431655765)) &&& 858993459) + ((ush (x0 - ((ush x0 1) &&& 1431655765)) 2) &&& 858993459)))]) X dJ6_bitCount_0f7a4_23 (by decide) rfl ?_
  refine aw_iload_n X dJ6_bitCount_0f7a4_24 rfl ?_
  refine aw_iload_n X dJ6_bitCount_0f7a4_25 rfl ?_
  refine aw_iconst (v := 4) X dJ6_bitCount_0f7a4_26 (by decide) ?_
  refine aw_iushr X dJ6_bitCount_0f7a4_27 ?_
  refine aw_iadd X dJ6_bitCount_0f7a4_28 ?_
  refine aw_ldcw X dJ6_bitCount_0f7a4_29 kc_RJ6_267 ?_
  refine aw_iand X dJ6_bitCount_0f7a4_32 ?_
  refine aw_istore_n (L' := [some (.int (((((x0 - ((ush x0 1) &&& 1431655765)) &&& 858993459) + ((ush (x0 - ((ush x0 1) &&& 1431655765)) 2) &&& 858993459)) + (ush (((x0 - ((ush x0 1) &&& 1431655765)) &&& 858993459) + ((ush (x0 - ((ush x0 1) &&& 1431655765)) 2) &&& 858993459)) 4)) &&& 252645135))]) X dJ6_bitCount_0f7a4_33 (by decide) rfl ?_
  refine aw_iload_n X dJ6_bitCount_0f7a4_34 rfl ?_
  refine aw_iload_n X dJ6_bitCount_0f7a4_35 rfl ?_
  refine aw_bipush (v := 8) X dJ6_bitCount_0f7a4_36 (by decide) ?_
  refine aw_iushr X dJ6_bitCount_0f7a4_38 ?_
  refine aw_iadd X dJ6_bitCount_0f7a4_39 ?_
  refine aw_istore_n (L' := [some (.int ((((((x0 - ((ush x0 1) &&& 1431655765)) &&& 858993459) + ((ush (x0 - ((ush x0 1) &&& 1431655765)) 2) &&& 858993459)) + (ush (((x0 - ((ush x0 1) &&& 1431655765)) &&& 858993459) + ((ush (x0 - ((ush x0 1) &&& 1431655765)) 2) &&& 858993459)) 4)) &&& 252645135) + (ush (((((x0 - ((ush x0 1) &&& 1431655765)) &&& 858993459) + ((ush (x0 - ((ush x0 1) &&& 1431655765)) 2) &&& 858993459)) + (ush (((x0 - ((ush x0 1) &&& 1431655765)) &&& 858993459) + ((ush (x0 - ((ush x0 1) &&& 1431655765)) 2) &&& 858993459)) 4)) &&& 252645135) 8)))]) X dJ6_bitCount_0f7a4_40 (by decide) rfl ?_
  refine aw_iload_n X dJ6_bitCount_0f7a4_41 rfl ?_
  refine aw_iload_n X dJ6_bitCount_0f7a4_42 rfl ?_
  refine aw_bipush (v := 16) X dJ6_bitCount_0f7a4_43 (by decide) ?_
  refine aw_iushr X dJ6_bitCount_0f7a4_45 ?_
  refine aw_iadd X dJ6_bitCount_0f7a4_46 ?_
  refine aw_istore_n (L' := [some (.int (((((((x0 - ((ush x0 1) &&& 1431655765)) &&& 858993459) + ((ush (x0 - ((ush x0 1) &&& 1431655765)) 2) &&& 858993459)) + (ush (((x0 - ((ush x0 1) &&& 1431655765)) &&& 858993459) + ((ush (x0 - ((ush x0 1) &&& 1431655765)) 2) &&& 858993459)) 4)) &&& 252645135) + (ush (((((x0 - ((ush x0 1) &&& 1431655765)) &&& 858993459) + ((ush (x0 - ((ush x0 1) &&& 1431655765)) 2) &&& 858993459)) + (ush (((x0 - ((ush x0 1) &&& 1431655765)) &&& 858993459) + ((ush (x0 - ((ush x0 1) &&& 1431655765)) 2) &&& 858993459)) 4)) &&& 252645135) 8)) + (ush ((((((x0 - ((ush x0 1) &&& 1431655765)) &&& 858993459) + ((ush (x0 - ((ush x0 1) &&& 1431655765)) 2) &&& 858993459)) + (ush (((x0 - ((ush x0 1) &&& 1431655765)) &&& 858993459) + ((ush (x0 - ((ush x0 1) &&& 1431655765)) 2) &&& 858993459)) 4)) &&& 252645135) + (ush (((((x0 - ((ush x0 1) &&& 1431655765)) &&& 858993459) + ((ush (x0 - ((ush x0 1) &&& 1431655765)) 2) &&& 858993459)) + (ush (((x0 - ((ush x0 1) &&& 1431655765)) &&& 858993459) + ((ush (x0 - ((ush x0 1) &&& 1431655765)) 2) &&& 858993459)) 4)) &&& 252645135) 8)) 16)))]) X dJ6_bitCount_0f7a4_47 (by decide) rfl ?_
  refine aw_iload_n X dJ6_bitCount_0f7a4_48 rfl ?_
  refine aw_bipush (v := 63) X dJ6_bitCount_0f7a4_49 (by decide) ?_
  refine aw_iand X dJ6_bitCount_0f7a4_51 ?_
  cases h
  exact aw_iret X dJ6_bitCount_0f7a4_52 rfl hz.symm
set_option maxRecDepth 100000 in
set_option maxHeartbeats 4000000 in
theorem ok_J6_bitCount_0f7a4 {x0 : Int32} {s : Mem} {r : Int32 × Mem} (h : f_J6_bitCount_0f7a4 x0 s = some r) (l : Launch) (D : va_G) (ρ : Nat → Nat) (cA : ClassId × ClassId × ClassId) (τ : AT) : AM l D ρ cA 0 τ yJ6_bitCount_0f7a4 cJ6_bitCount_0f7a4 1 (some .int) 0 [.int x0] (some (.int r.1)) s r.2 := by
  refine AM_of (L := [some (.int x0)]) (by decide) (by simp [Value.category]) (Nat.le_of_ble_eq_true rfl) (fun j v q => ?_) (fun Z X hρ hz hτ => ?_)
  · exact aL_ok (n := 0) [.int x0] j v q
  · subst hρ
    subst hτ
    exact w_J6_bitCount_0f7a4 (Nat.le_refl _) Z X x0 s r hz h

theorem dX1_fact_0 : decode cX1_fact 0 = .ok (.iload_n 0, 1) := by decide +kernel
theorem dX1_fact_1 : decode cX1_fact 1 = .ok (.tableswitch 114 0 6 #[43, 50, 57, 67, 74, 81, 88], 43) := by decide +kernel
theorem dX1_fact_44 : decode cX1_fact 44 = .ok (.aload_n 1, 1) := by decide +kernel
theorem dX1_fact_45 : decode cX1_fact 45 = .ok (.getfield 51, 3) := by decide +kernel
theorem dX1_fact_48 : decode cX1_fact 48 = .ok (.iload_n 2, 1) := by decide +kernel
theorem dX1_fact_49 : decode cX1_fact 49 = .ok (.iaload, 1) := by decide +kernel
theorem dX1_fact_50 : decode cX1_fact 50 = .ok (.ireturn, 1) := by decide +kernel
theorem dX1_fact_51 : decode cX1_fact 51 = .ok (.aload_n 1, 1) := by decide +kernel
theorem dX1_fact_52 : decode cX1_fact 52 = .ok (.getfield 56, 3) := by decide +kernel
theorem dX1_fact_55 : decode cX1_fact 55 = .ok (.iload_n 2, 1) := by decide +kernel
theorem dX1_fact_56 : decode cX1_fact 56 = .ok (.iaload, 1) := by decide +kernel
theorem dX1_fact_57 : decode cX1_fact 57 = .ok (.ireturn, 1) := by decide +kernel
theorem dX1_fact_58 : decode cX1_fact 58 = .ok (.aload_n 1, 1) := by decide +kernel
theorem dX1_fact_59 : decode cX1_fact 59 = .ok (.getfield 75, 3) := by decide +kernel
theorem dX1_fact_62 : decode cX1_fact 62 = .ok (.iload_n 2, 1) := by decide +kernel
theorem dX1_fact_63 : decode cX1_fact 63 = .ok (.iaload, 1) := by decide +kernel
theorem dX1_fact_64 : decode cX1_fact 64 = .ok (.invokestatic 78, 3) := by decide +kernel
theorem dX1_fact_67 : decode cX1_fact 67 = .ok (.ireturn, 1) := by decide +kernel
theorem dX1_fact_68 : decode cX1_fact 68 = .ok (.aload_n 1, 1) := by decide +kernel
theorem dX1_fact_69 : decode cX1_fact 69 = .ok (.getfield 84, 3) := by decide +kernel
theorem dX1_fact_72 : decode cX1_fact 72 = .ok (.iload_n 2, 1) := by decide +kernel
theorem dX1_fact_73 : decode cX1_fact 73 = .ok (.iaload, 1) := by decide +kernel
theorem dX1_fact_74 : decode cX1_fact 74 = .ok (.ireturn, 1) := by decide +kernel
theorem dX1_fact_75 : decode cX1_fact 75 = .ok (.aload_n 1, 1) := by decide +kernel
theorem dX1_fact_76 : decode cX1_fact 76 = .ok (.getfield 87, 3) := by decide +kernel
theorem dX1_fact_79 : decode cX1_fact 79 = .ok (.iload_n 2, 1) := by decide +kernel
theorem dX1_fact_80 : decode cX1_fact 80 = .ok (.iaload, 1) := by decide +kernel
theorem dX1_fact_81 : decode cX1_fact 81 = .ok (.ireturn, 1) := by decide +kernel
theorem dX1_fact_82 : decode cX1_fact 82 = .ok (.aload_n 1, 1) := by decide +kernel
theorem dX1_fact_83 : decode cX1_fact 83 = .ok (.getfield 90, 3) := by decide +kernel
theorem dX1_fact_86 : decode cX1_fact 86 = .ok (.iload_n 2, 1) := by decide +kernel
theorem dX1_fact_87 : decode cX1_fact 87 = .ok (.iaload, 1) := by decide +kernel
theorem dX1_fact_88 : decode cX1_fact 88 = .ok (.ireturn, 1) := by decide +kernel
theorem dX1_fact_89 : decode cX1_fact 89 = .ok (.aload_n 1, 1) := by decide +kernel
theorem dX1_fact_90 : decode cX1_fact 90 = .ok (.getfield 93, 3) := by decide +kernel
theorem dX1_fact_93 : decode cX1_fact 93 = .ok (.iload_n 2, 1) := by decide +kernel
theorem dX1_fact_94 : decode cX1_fact 94 = .ok (.iaload, 1) := by decide +kernel
theorem dX1_fact_95 : decode cX1_fact 95 = .ok (.iconst (-1), 1) := by decide +kernel
theorem dX1_fact_96 : decode cX1_fact 96 = .ok (.if_icmp .ne 7, 3) := by decide +kernel
theorem dX1_fact_99 : decode cX1_fact 99 = .ok (.iconst 0, 1) := by decide +kernel
theorem dX1_fact_100 : decode cX1_fact 100 = .ok (.goto 14, 3) := by decide +kernel
theorem dX1_fact_103 : decode cX1_fact 103 = .ok (.aload_n 1, 1) := by decide +kernel
theorem dX1_fact_104 : decode cX1_fact 104 = .ok (.getfield 93, 3) := by decide +kernel
theorem dX1_fact_107 : decode cX1_fact 107 = .ok (.iload_n 2, 1) := by decide +kernel
theorem dX1_fact_108 : decode cX1_fact 108 = .ok (.iaload, 1) := by decide +kernel
theorem dX1_fact_109 : decode cX1_fact 109 = .ok (.iload_n 2, 1) := by decide +kernel
theorem dX1_fact_110 : decode cX1_fact 110 = .ok (.isub, 1) := by decide +kernel
theorem dX1_fact_111 : decode cX1_fact 111 = .ok (.invokestatic 96, 3) := by decide +kernel
theorem dX1_fact_114 : decode cX1_fact 114 = .ok (.ireturn, 1) := by decide +kernel
theorem dX1_fact_115 : decode cX1_fact 115 = .ok (.aload_n 1, 1) := by decide +kernel
theorem dX1_fact_116 : decode cX1_fact 116 = .ok (.getfield 99, 3) := by decide +kernel
theorem dX1_fact_119 : decode cX1_fact 119 = .ok (.ireturn, 1) := by decide +kernel
set_option maxRecDepth 100000 in
set_option maxHeartbeats 4000000 in
theorem w_X1_fact {fr : Nat} (hfr : 1 ≤ fr) (Z : AZ) (X : AX Z cX1_fact 3 RX1 (some .int) 0 fr) (a1 : Nat) (h1 : IO 0 a1 0) (x0 : Int32) (x2 : Int32) (s : Mem) (r : Int32 × Mem) (hz : zres Z = (some (.int r.1), r.2)) (h : f_X1_fact a1 x0 x2 s = some r) : AW Z s 0 [some (.int x0), some (.ref (zr Z a1)), some (.int x2)] [] := by
  unfold f_X1_fact at h
  refine aw_iload_n X dX1_fact_0 rfl ?_
  by_cases c1 : x0 = 0
  · rw [if_pos c1] at h
    refine aw_tsw (tgt := 44) X dX1_fact_1 (by rw [c1]; decide) ?_
    refine aw_aload_n X dX1_fact_44 rfl ?_
    refine aw_getr X dX1_fact_45 fl_RX1_51 h1 (gt_RX0_2 h1) ?_
    refine aw_iload_n X dX1_fact_48 rfl ?_
    obtain ⟨v2, ev2, h⟩ := bnd h
    refine aw_iald X dX1_fact_49 (it_RX0_2 h1) ev2 ?_
    cases h
    exact aw_iret X dX1_fact_50 rfl hz.symm
  rw [if_neg c1] at h
  by_cases c3 : x0 = 1
  · rw [if_pos c3] at h
    refine aw_tsw (tgt := 51) X dX1_fact_1 (by rw [c3]; decide) ?_
    refine aw_aload_n X dX1_fact_51 rfl ?_
    refine aw_getr X dX1_fact_52 fl_RX1_56 h1 (gt_RX0_3 h1) ?_
    refine aw_iload_n X dX1_fact_55 rfl ?_
    obtain ⟨v4, ev4, h⟩ := bnd h
    refine aw_iald X dX1_fact_56 (it_RX0_3 h1) ev4 ?_
    cases h
    exact aw_iret X dX1_fact_57 rfl hz.symm
  rw [if_neg c3] at h
  by_cases c5 : x0 = 2
  · rw [if_pos c5] at h
    refine aw_tsw (tgt := 58) X dX1_fact_1 (by rw [c5]; decide) ?_
    refine aw_aload_n X dX1_fact_58 rfl ?_
    refine aw_getr X dX1_fact_59 fl_RX1_75 h1 (gt_RX0_5 h1) ?_
    refine aw_iload_n X dX1_fact_62 rfl ?_
    obtain ⟨v6, ev6, h⟩ := bnd h
    refine aw_iald X dX1_fact_63 (it_RX0_5 h1) ev6 ?_
    obtain ⟨r7, er7, h⟩ := bnd h
    refine aw_callS X dX1_fact_64 cv_RX1_78 (ok_J6_bitCount_0f7a4 er7 _ _ _ _ _) (Nat.le_trans (by decide) hfr) (by decide) rfl rfl (Nat.le_of_ble_eq_true rfl) ?_
    cases h
    exact aw_iret X dX1_fact_67 rfl hz.symm
  rw [if_neg c5] at h
  by_cases c8 : x0 = 3
  · rw [if_pos c8] at h
    refine aw_tsw (tgt := 68) X dX1_fact_1 (by rw [c8]; decide) ?_
    refine aw_aload_n X dX1_fact_68 rfl ?_
    refine aw_getr X dX1_fact_69 fl_RX1_84 h1 (gt_RX0_6 h1) ?_
    refine aw_iload_n X dX1_fact_72 rfl ?_
    obtain ⟨v9, ev9, h⟩ := bnd h
    refine aw_iald X dX1_fact_73 (it_RX0_6 h1) ev9 ?_
    cases h
    exact aw_iret X dX1_fact_74 rfl hz.symm
  rw [if_neg c8] at h
  by_cases c10 : x0 = 4
  · rw [if_pos c10] at h
    refine aw_tsw (tgt := 75) X dX1_fact_1 (by rw [c10]; decide) ?_
    refine aw_aload_n X dX1_fact_75 rfl ?_
    refine aw_getr X dX1_fact_76 fl_RX1_87 h1 (gt_RX0_7 h1) ?_
    refine aw_iload_n X dX1_fact_79 rfl ?_
    obtain ⟨v11, ev11, h⟩ := bnd h
    refine aw_iald X dX1_fact_80 (it_RX0_7 h1) ev11 ?_
    cases h
    exact aw_iret X dX1_fact_81 rfl hz.symm
  rw [if_neg c10] at h
  by_cases c12 : x0 = 5
  · rw [if_pos c12] at h
    refine aw_tsw (tgt := 82) X dX1_fact_1 (by rw [c12]; decide) ?_
    refine aw_aload_n X dX1_fact_82 rfl ?_
    refine aw_getr X dX1_fact_83 fl_RX1_90 h1 (gt_RX0_8 h1) ?_
    refine aw_iload_n X dX1_fact_86 rfl ?_
    obtain ⟨v13, ev13, h⟩ := bnd h
    refine aw_iald X dX1_fact_87 (it_RX0_8 h1) ev13 ?_
    cases h
    exact aw_iret X dX1_fact_88 rfl hz.symm
  rw [if_neg c12] at h
  by_cases c14 : x0 = 6
  · rw [if_pos c14] at h
    refine aw_tsw (tgt := 89) X dX1_fact_1 (by rw [c14]; decide) ?_
    refine aw_aload_n X dX1_fact_89 rfl ?_
    refine aw_getr X dX1_fact_90 fl_RX1_93 h1 (gt_RX0_4 h1) ?_
    refine aw_iload_n X dX1_fact_93 rfl ?_
    obtain ⟨v15, ev15, h⟩ := bnd h
    refine aw_iald X dX1_fact_94 (it_RX0_4 h1) ev15 ?_
    refine aw_iconst (v := (-1)) X dX1_fact_95 (by decide) ?_
    refine aw_icmp_ne (tgt := 103) X dX1_fact_96 (by decide) (fun c16 => ?_) (fun c16 => ?_)
    · rw [if_neg c16] at h
      refine aw_aload_n X dX1_fact_103 rfl ?_
      refine aw_getr X dX1_fact_104 fl_RX1_93 h1 (gt_RX0_4 h1) ?_
      refine aw_iload_n X dX1_fact_107 rfl ?_
      obtain ⟨v17, ev17, h⟩ := bnd h
      refine aw_iald X dX1_fact_108 (it_RX0_4 h1) ev17 ?_
      refine aw_iload_n X dX1_fact_109 rfl ?_
      refine aw_isub X dX1_fact_110 ?_
      refine aw_mabs X (Nat.le_trans (by decide) hfr) dX1_fact_111 mc_RX1_96 rfl ?_
      cases h
      exact aw_iret X dX1_fact_114 rfl hz.symm
    · rw [if_pos c16] at h
      refine aw_iconst (v := 0) X dX1_fact_99 (by decide) ?_
      refine aw_goto (tgt := 114) X dX1_fact_100 (by decide) ?_
      cases h
      exact aw_iret X dX1_fact_114 rfl hz.symm
  rw [if_neg c14] at h
  refine aw_tswd (tgt := 115) X dX1_fact_1 (by decide) (fun z h1 h2 => ?_) ?_
  · have hz9 : z = 0 ∨ z = 1 ∨ z = 2 ∨ z = 3 ∨ z = 4 ∨ z = 5 ∨ z = 6 := by omega
    rcases hz9 with rfl | rfl | rfl | rfl | rfl | rfl | rfl
    · exact c1
    · exact c3
    · exact c5
    · exact c8
    · exact c10
    · exact c12
    · exact c14
  refine aw_aload_n X dX1_fact_115 rfl ?_
  refine aw_geti X dX1_fact_116 fl_RX1_99 h1 (gt_RX0_10 h1) ?_
  cases h
  exact aw_iret X dX1_fact_119 rfl hz.symm
set_option maxRecDepth 100000 in
set_option maxHeartbeats 4000000 in
theorem ok_X1_fact {a1 : Nat} (h1 : IO 0 a1 0) {x0 x2 : Int32} {s : Mem} {r : Int32 × Mem} (h : f_X1_fact a1 x0 x2 s = some r) (l : Launch) (D : va_G) (ρ : Nat → Nat) (cA : ClassId × ClassId × ClassId) (τ : AT) : AM l D ρ cA 0 τ yX1_fact cX1_fact 3 (some .int) 1 [.int x0, .ref (ρ a1), .int x2] (some (.int r.1)) s r.2 := by
  refine AM_of (L := [some (.int x0), some (.ref (ρ a1)), some (.int x2)]) (by decide) (by simp [Value.category]) (Nat.le_of_ble_eq_true rfl) (fun j v q => ?_) (fun Z X hρ hz hτ => ?_)
  · exact aL_ok (n := 0) [.int x0, .ref (ρ a1), .int x2] j v q
  · subst hρ
    subst hτ
    exact w_X1_fact (Nat.le_refl _) Z X a1 h1 x0 x2 s r hz h

theorem dX1_joined_0 : decode cX1_joined 0 = .ok (.iload_n 0, 1) := by decide +kernel
theorem dX1_joined_1 : decode cX1_joined 1 = .ok (.tableswitch 108 20000 20007 #[47, 51, 55, 59, 71, 82, 93, 104], 47) := by decide +kernel
theorem dX1_joined_48 : decode cX1_joined 48 = .ok (.iload_n 1, 1) := by decide +kernel
theorem dX1_joined_49 : decode cX1_joined 49 = .ok (.iload_n 2, 1) := by decide +kernel
theorem dX1_joined_50 : decode cX1_joined 50 = .ok (.iadd, 1) := by decide +kernel
theorem dX1_joined_51 : decode cX1_joined 51 = .ok (.ireturn, 1) := by decide +kernel
theorem dX1_joined_52 : decode cX1_joined 52 = .ok (.iload_n 1, 1) := by decide +kernel
theorem dX1_joined_53 : decode cX1_joined 53 = .ok (.iload_n 2, 1) := by decide +kernel
theorem dX1_joined_54 : decode cX1_joined 54 = .ok (.isub, 1) := by decide +kernel
theorem dX1_joined_55 : decode cX1_joined 55 = .ok (.ireturn, 1) := by decide +kernel
theorem dX1_joined_56 : decode cX1_joined 56 = .ok (.iload_n 1, 1) := by decide +kernel
theorem dX1_joined_57 : decode cX1_joined 57 = .ok (.iload_n 2, 1) := by decide +kernel
theorem dX1_joined_58 : decode cX1_joined 58 = .ok (.imul, 1) := by decide +kernel
theorem dX1_joined_59 : decode cX1_joined 59 = .ok (.ireturn, 1) := by decide +kernel
theorem dX1_joined_60 : decode cX1_joined 60 = .ok (.iload_n 2, 1) := by decide +kernel
theorem dX1_joined_61 : decode cX1_joined 61 = .ok (.ifCond .ne 7, 3) := by decide +kernel
theorem dX1_joined_64 : decode cX1_joined 64 = .ok (.iconst 0, 1) := by decide +kernel
theorem dX1_joined_65 : decode cX1_joined 65 = .ok (.goto 6, 3) := by decide +kernel
theorem dX1_joined_68 : decode cX1_joined 68 = .ok (.iload_n 1, 1) := by decide +kernel
theorem dX1_joined_69 : decode cX1_joined 69 = .ok (.iload_n 2, 1) := by decide +kernel
theorem dX1_joined_70 : decode cX1_joined 70 = .ok (.idiv, 1) := by decide +kernel
theorem dX1_joined_71 : decode cX1_joined 71 = .ok (.ireturn, 1) := by decide +kernel
theorem dX1_joined_72 : decode cX1_joined 72 = .ok (.iload_n 1, 1) := by decide +kernel
theorem dX1_joined_73 : decode cX1_joined 73 = .ok (.iload_n 2, 1) := by decide +kernel
theorem dX1_joined_74 : decode cX1_joined 74 = .ok (.if_icmp .ge 7, 3) := by decide +kernel
theorem dX1_joined_77 : decode cX1_joined 77 = .ok (.iconst 1, 1) := by decide +kernel
theorem dX1_joined_78 : decode cX1_joined 78 = .ok (.goto 4, 3) := by decide +kernel
theorem dX1_joined_81 : decode cX1_joined 81 = .ok (.iconst 0, 1) := by decide +kernel
theorem dX1_joined_82 : decode cX1_joined 82 = .ok (.ireturn, 1) := by decide +kernel
theorem dX1_joined_83 : decode cX1_joined 83 = .ok (.iload_n 1, 1) := by decide +kernel
theorem dX1_joined_84 : decode cX1_joined 84 = .ok (.iload_n 2, 1) := by decide +kernel
theorem dX1_joined_85 : decode cX1_joined 85 = .ok (.if_icmp .ne 7, 3) := by decide +kernel
theorem dX1_joined_88 : decode cX1_joined 88 = .ok (.iconst 1, 1) := by decide +kernel
theorem dX1_joined_89 : decode cX1_joined 89 = .ok (.goto 4, 3) := by decide +kernel
theorem dX1_joined_92 : decode cX1_joined 92 = .ok (.iconst 0, 1) := by decide +kernel
theorem dX1_joined_93 : decode cX1_joined 93 = .ok (.ireturn, 1) := by decide +kernel
theorem dX1_joined_94 : decode cX1_joined 94 = .ok (.iload_n 1, 1) := by decide +kernel
theorem dX1_joined_95 : decode cX1_joined 95 = .ok (.iload_n 2, 1) := by decide +kernel
theorem dX1_joined_96 : decode cX1_joined 96 = .ok (.if_icmp .le 7, 3) := by decide +kernel
theorem dX1_joined_99 : decode cX1_joined 99 = .ok (.iconst 1, 1) := by decide +kernel
theorem dX1_joined_100 : decode cX1_joined 100 = .ok (.goto 4, 3) := by decide +kernel
theorem dX1_joined_103 : decode cX1_joined 103 = .ok (.iconst 0, 1) := by decide +kernel
theorem dX1_joined_104 : decode cX1_joined 104 = .ok (.ireturn, 1) := by decide +kernel
theorem dX1_joined_105 : decode cX1_joined 105 = .ok (.iload_n 1, 1) := by decide +kernel
theorem dX1_joined_106 : decode cX1_joined 106 = .ok (.iload_n 2, 1) := by decide +kernel
theorem dX1_joined_107 : decode cX1_joined 107 = .ok (.iand, 1) := by decide +kernel
theorem dX1_joined_108 : decode cX1_joined 108 = .ok (.ireturn, 1) := by decide +kernel
theorem dX1_joined_109 : decode cX1_joined 109 = .ok (.iload_n 1, 1) := by decide +kernel
theorem dX1_joined_110 : decode cX1_joined 110 = .ok (.iload_n 2, 1) := by decide +kernel
theorem dX1_joined_111 : decode cX1_joined 111 = .ok (.ior, 1) := by decide +kernel
theorem dX1_joined_112 : decode cX1_joined 112 = .ok (.ireturn, 1) := by decide +kernel
set_option maxRecDepth 100000 in
set_option maxHeartbeats 4000000 in
theorem w_X1_joined {fr : Nat} (hfr : 0 ≤ fr) (Z : AZ) (X : AX Z cX1_joined 3 RX1 (some .int) 0 fr) (x0 : Int32) (x1 : Int32) (x2 : Int32) (s : Mem) (r : Int32 × Mem) (hz : zres Z = (some (.int r.1), r.2)) (h : f_X1_joined x0 x1 x2 s = some r) : AW Z s 0 [some (.int x0), some (.int x1), some (.int x2)] [] := by
  unfold f_X1_joined at h
  refine aw_iload_n X dX1_joined_0 rfl ?_
  by_cases c1 : x0 = 20000
  · rw [if_pos c1] at h
    refine aw_tsw (tgt := 48) X dX1_joined_1 (by rw [c1]; decide) ?_
    refine aw_iload_n X dX1_joined_48 rfl ?_
    refine aw_iload_n X dX1_joined_49 rfl ?_
    refine aw_iadd X dX1_joined_50 ?_
    cases h
    exact aw_iret X dX1_joined_51 rfl hz.symm
  rw [if_neg c1] at h
  by_cases c2 : x0 = 20001
  · rw [if_pos c2] at h
    refine aw_tsw (tgt := 52) X dX1_joined_1 (by rw [c2]; decide) ?_
    refine aw_iload_n X dX1_joined_52 rfl ?_
    refine aw_iload_n X dX1_joined_53 rfl ?_
    refine aw_isub X dX1_joined_54 ?_
    cases h
    exact aw_iret X dX1_joined_55 rfl hz.symm
  rw [if_neg c2] at h
  by_cases c3 : x0 = 20002
  · rw [if_pos c3] at h
    refine aw_tsw (tgt := 56) X dX1_joined_1 (by rw [c3]; decide) ?_
    refine aw_iload_n X dX1_joined_56 rfl ?_
    refine aw_iload_n X dX1_joined_57 rfl ?_
    refine aw_imul X dX1_joined_58 ?_
    cases h
    exact aw_iret X dX1_joined_59 rfl hz.symm
  rw [if_neg c3] at h
  by_cases c4 : x0 = 20003
  · rw [if_pos c4] at h
    refine aw_tsw (tgt := 60) X dX1_joined_1 (by rw [c4]; decide) ?_
    refine aw_iload_n X dX1_joined_60 rfl ?_
    refine aw_if_ne (tgt := 68) X dX1_joined_61 (by decide) (fun c5 => ?_) (fun c5 => ?_)
    · rw [if_neg c5] at h
      refine aw_iload_n X dX1_joined_68 rfl ?_
      refine aw_iload_n X dX1_joined_69 rfl ?_
      by_cases c6 : x2 = 0
      · rw [if_pos c6] at h
        cases h
      rw [if_neg c6] at h
      refine aw_idiv X dX1_joined_70 c6 ?_
      cases h
      exact aw_iret X dX1_joined_71 rfl hz.symm
    · rw [if_pos c5] at h
      refine aw_iconst (v := 0) X dX1_joined_64 (by decide) ?_
      refine aw_goto (tgt := 71) X dX1_joined_65 (by decide) ?_
      cases h
      exact aw_iret X dX1_joined_71 rfl hz.symm
  rw [if_neg c4] at h
  by_cases c7 : x0 = 20004
  · rw [if_pos c7] at h
    refine aw_tsw (tgt := 72) X dX1_joined_1 (by rw [c7]; decide) ?_
    refine aw_iload_n X dX1_joined_72 rfl ?_
    refine aw_iload_n X dX1_joined_73 rfl ?_
    refine aw_icmp_ge (tgt := 81) X dX1_joined_74 (by decide) (fun c8 => ?_) (fun c8 => ?_)
    · rw [if_pos c8] at h
      refine aw_iconst (v := 0) X dX1_joined_81 (by decide) ?_
      cases h
      exact aw_iret X dX1_joined_82 rfl hz.symm
    · rw [if_neg c8] at h
      refine aw_iconst (v := 1) X dX1_joined_77 (by decide) ?_
      refine aw_goto (tgt := 82) X dX1_joined_78 (by decide) ?_
      cases h
      exact aw_iret X dX1_joined_82 rfl hz.symm
  rw [if_neg c7] at h
  by_cases c9 : x0 = 20005
  · rw [if_pos c9] at h
    refine aw_tsw (tgt := 83) X dX1_joined_1 (by rw [c9]; decide) ?_
    refine aw_iload_n X dX1_joined_83 rfl ?_
    refine aw_iload_n X dX1_joined_84 rfl ?_
    refine aw_icmp_ne (tgt := 92) X dX1_joined_85 (by decide) (fun c10 => ?_) (fun c10 => ?_)
    · rw [if_neg c10] at h
      refine aw_iconst (v := 0) X dX1_joined_92 (by decide) ?_
      cases h
      exact aw_iret X dX1_joined_93 rfl hz.symm
    · rw [if_pos c10] at h
      refine aw_iconst (v := 1) X dX1_joined_88 (by decide) ?_
      refine aw_goto (tgt := 93) X dX1_joined_89 (by decide) ?_
      cases h
      exact aw_iret X dX1_joined_93 rfl hz.symm
  rw [if_neg c9] at h
  by_cases c11 : x0 = 20006
  · rw [if_pos c11] at h
    refine aw_tsw (tgt := 94) X dX1_joined_1 (by rw [c11]; decide) ?_
    refine aw_iload_n X dX1_joined_94 rfl ?_
    refine aw_iload_n X dX1_joined_95 rfl ?_
    refine aw_icmp_le (tgt := 103) X dX1_joined_96 (by decide) (fun c12 => ?_) (fun c12 => ?_)
    · rw [if_pos c12] at h
      refine aw_iconst (v := 0) X dX1_joined_103 (by decide) ?_
      cases h
      exact aw_iret X dX1_joined_104 rfl hz.symm
    · rw [if_neg c12] at h
      refine aw_iconst (v := 1) X dX1_joined_99 (by decide) ?_
      refine aw_goto (tgt := 104) X dX1_joined_100 (by decide) ?_
      cases h
      exact aw_iret X dX1_joined_104 rfl hz.symm
  rw [if_neg c11] at h
  by_cases c13 : x0 = 20007
  · rw [if_pos c13] at h
    refine aw_tsw (tgt := 105) X dX1_joined_1 (by rw [c13]; decide) ?_
    refine aw_iload_n X dX1_joined_105 rfl ?_
    refine aw_iload_n X dX1_joined_106 rfl ?_
    refine aw_iand X dX1_joined_107 ?_
    cases h
    exact aw_iret X dX1_joined_108 rfl hz.symm
  rw [if_neg c13] at h
  refine aw_tswd (tgt := 109) X dX1_joined_1 (by decide) (fun z h1 h2 => ?_) ?_
  · have hz9 : z = 20000 ∨ z = 20001 ∨ z = 20002 ∨ z = 20003 ∨ z = 20004 ∨ z = 20005 ∨ z = 20006 ∨ z = 20007 := by omega
    rcases hz9 with rfl | rfl | rfl | rfl | rfl | rfl | rfl | rfl
    · exact c1
    · exact c2
    · exact c3
    · exact c4
    · exact c7
    · exact c9
    · exact c11
    · exact c13
  refine aw_iload_n X dX1_joined_109 rfl ?_
  refine aw_iload_n X dX1_joined_110 rfl ?_
  refine aw_ior X dX1_joined_111 ?_
  cases h
  exact aw_iret X dX1_joined_112 rfl hz.symm
set_option maxRecDepth 100000 in
set_option maxHeartbeats 4000000 in
theorem ok_X1_joined {x0 x1 x2 : Int32} {s : Mem} {r : Int32 × Mem} (h : f_X1_joined x0 x1 x2 s = some r) (l : Launch) (D : va_G) (ρ : Nat → Nat) (cA : ClassId × ClassId × ClassId) (τ : AT) : AM l D ρ cA 0 τ yX1_joined cX1_joined 3 (some .int) 0 [.int x0, .int x1, .int x2] (some (.int r.1)) s r.2 := by
  refine AM_of (L := [some (.int x0), some (.int x1), some (.int x2)]) (by decide) (by simp [Value.category]) (Nat.le_of_ble_eq_true rfl) (fun j v q => ?_) (fun Z X hρ hz hτ => ?_)
  · exact aL_ok (n := 0) [.int x0, .int x1, .int x2] j v q
  · subst hρ
    subst hτ
    exact w_X1_joined (Nat.le_refl _) Z X x0 x1 x2 s r hz h

theorem dX1_value_0 : decode cX1_value 0 = .ok (.iconst 0, 1) := by decide +kernel
theorem dX1_value_1 : decode cX1_value 1 = .ok (.istore 5, 2) := by decide +kernel
theorem dX1_value_3 : decode cX1_value 3 = .ok (.iload_n 1, 1) := by decide +kernel
theorem dX1_value_4 : decode cX1_value 4 = .ok (.istore 6, 2) := by decide +kernel
theorem dX1_value_6 : decode cX1_value 6 = .ok (.iload 6, 2) := by decide +kernel
theorem dX1_value_8 : decode cX1_value 8 = .ok (.iload_n 2, 1) := by decide +kernel
theorem dX1_value_9 : decode cX1_value 9 = .ok (.if_icmp .ge 161, 3) := by decide +kernel
theorem dX1_value_12 : decode cX1_value 12 = .ok (.iload 6, 2) := by decide +kernel
theorem dX1_value_14 : decode cX1_value 14 = .ok (.aload_n 0, 1) := by decide +kernel
theorem dX1_value_15 : decode cX1_value 15 = .ok (.getfield 15, 3) := by decide +kernel
theorem dX1_value_18 : decode cX1_value 18 = .ok (.if_icmp .ge 152, 3) := by decide +kernel
theorem dX1_value_21 : decode cX1_value 21 = .ok (.aload_n 0, 1) := by decide +kernel
theorem dX1_value_22 : decode cX1_value 22 = .ok (.getfield 31, 3) := by decide +kernel
theorem dX1_value_25 : decode cX1_value 25 = .ok (.iload 6, 2) := by decide +kernel
theorem dX1_value_27 : decode cX1_value 27 = .ok (.iaload, 1) := by decide +kernel
theorem dX1_value_28 : decode cX1_value 28 = .ok (.istore 7, 2) := by decide +kernel
theorem dX1_value_30 : decode cX1_value 30 = .ok (.iload 7, 2) := by decide +kernel
theorem dX1_value_32 : decode cX1_value 32 = .ok (.sipush 20000, 3) := by decide +kernel
theorem dX1_value_35 : decode cX1_value 35 = .ok (.if_icmp .ge 48, 3) := by decide +kernel
theorem dX1_value_38 : decode cX1_value 38 = .ok (.iload 5, 2) := by decide +kernel
theorem dX1_value_40 : decode cX1_value 40 = .ok (.bipush 64, 2) := by decide +kernel
theorem dX1_value_42 : decode cX1_value 42 = .ok (.if_icmp .ge 122, 3) := by decide +kernel
theorem dX1_value_45 : decode cX1_value 45 = .ok (.aload_n 0, 1) := by decide +kernel
theorem dX1_value_46 : decode cX1_value 46 = .ok (.getfield 34, 3) := by decide +kernel
theorem dX1_value_49 : decode cX1_value 49 = .ok (.iload 5, 2) := by decide +kernel
theorem dX1_value_51 : decode cX1_value 51 = .ok (.iload 7, 2) := by decide +kernel
theorem dX1_value_53 : decode cX1_value 53 = .ok (.sipush 10000, 3) := by decide +kernel
theorem dX1_value_56 : decode cX1_value 56 = .ok (.if_icmp .ge 8, 3) := by decide +kernel
theorem dX1_value_59 : decode cX1_value 59 = .ok (.iload 7, 2) := by decide +kernel
theorem dX1_value_61 : decode cX1_value 61 = .ok (.goto 15, 3) := by decide +kernel
theorem dX1_value_64 : decode cX1_value 64 = .ok (.iload 7, 2) := by decide +kernel
theorem dX1_value_66 : decode cX1_value 66 = .ok (.sipush 10000, 3) := by decide +kernel
theorem dX1_value_69 : decode cX1_value 69 = .ok (.isub, 1) := by decide +kernel
theorem dX1_value_70 : decode cX1_value 70 = .ok (.aload_n 3, 1) := by decide +kernel
theorem dX1_value_71 : decode cX1_value 71 = .ok (.iload 4, 2) := by decide +kernel
theorem dX1_value_73 : decode cX1_value 73 = .ok (.invokestatic 67, 3) := by decide +kernel
theorem dX1_value_76 : decode cX1_value 76 = .ok (.iastore, 1) := by decide +kernel
theorem dX1_value_77 : decode cX1_value 77 = .ok (.iinc 5 1, 3) := by decide +kernel
theorem dX1_value_80 : decode cX1_value 80 = .ok (.goto 84, 3) := by decide +kernel
theorem dX1_value_83 : decode cX1_value 83 = .ok (.iload 7, 2) := by decide +kernel
theorem dX1_value_85 : decode cX1_value 85 = .ok (.sipush 20009, 3) := by decide +kernel
theorem dX1_value_88 : decode cX1_value 88 = .ok (.if_icmp .ne 37, 3) := by decide +kernel
theorem dX1_value_91 : decode cX1_value 91 = .ok (.iload 5, 2) := by decide +kernel
theorem dX1_value_93 : decode cX1_value 93 = .ok (.ifCond .le 71, 3) := by decide +kernel
theorem dX1_value_96 : decode cX1_value 96 = .ok (.aload_n 0, 1) := by decide +kernel
theorem dX1_value_97 : decode cX1_value 97 = .ok (.getfield 34, 3) := by decide +kernel
theorem dX1_value_100 : decode cX1_value 100 = .ok (.iload 5, 2) := by decide +kernel
theorem dX1_value_102 : decode cX1_value 102 = .ok (.iconst 1, 1) := by decide +kernel
theorem dX1_value_103 : decode cX1_value 103 = .ok (.isub, 1) := by decide +kernel
theorem dX1_value_104 : decode cX1_value 104 = .ok (.aload_n 0, 1) := by decide +kernel
theorem dX1_value_105 : decode cX1_value 105 = .ok (.getfield 34, 3) := by decide +kernel
theorem dX1_value_108 : decode cX1_value 108 = .ok (.iload 5, 2) := by decide +kernel
theorem dX1_value_110 : decode cX1_value 110 = .ok (.iconst 1, 1) := by decide +kernel
theorem dX1_value_111 : decode cX1_value 111 = .ok (.isub, 1) := by decide +kernel
theorem dX1_value_112 : decode cX1_value 112 = .ok (.iaload, 1) := by decide +kernel
theorem dX1_value_113 : decode cX1_value 113 = .ok (.ifCond .ne 7, 3) := by decide +kernel
theorem dX1_value_116 : decode cX1_value 116 = .ok (.iconst 1, 1) := by decide +kernel
theorem dX1_value_117 : decode cX1_value 117 = .ok (.goto 4, 3) := by decide +kernel
theorem dX1_value_120 : decode cX1_value 120 = .ok (.iconst 0, 1) := by decide +kernel
theorem dX1_value_121 : decode cX1_value 121 = .ok (.iastore, 1) := by decide +kernel
theorem dX1_value_122 : decode cX1_value 122 = .ok (.goto 42, 3) := by decide +kernel
theorem dX1_value_125 : decode cX1_value 125 = .ok (.iload 5, 2) := by decide +kernel
theorem dX1_value_127 : decode cX1_value 127 = .ok (.iconst 1, 1) := by decide +kernel
theorem dX1_value_128 : decode cX1_value 128 = .ok (.if_icmp .le 36, 3) := by decide +kernel
theorem dX1_value_131 : decode cX1_value 131 = .ok (.iinc 5 (-1), 3) := by decide +kernel
theorem dX1_value_134 : decode cX1_value 134 = .ok (.aload_n 0, 1) := by decide +kernel
theorem dX1_value_135 : decode cX1_value 135 = .ok (.getfield 34, 3) := by decide +kernel
theorem dX1_value_138 : decode cX1_value 138 = .ok (.iload 5, 2) := by decide +kernel
theorem dX1_value_140 : decode cX1_value 140 = .ok (.iconst 1, 1) := by decide +kernel
theorem dX1_value_141 : decode cX1_value 141 = .ok (.isub, 1) := by decide +kernel
theorem dX1_value_142 : decode cX1_value 142 = .ok (.iload 7, 2) := by decide +kernel
theorem dX1_value_144 : decode cX1_value 144 = .ok (.aload_n 0, 1) := by decide +kernel
theorem dX1_value_145 : decode cX1_value 145 = .ok (.getfield 34, 3) := by decide +kernel
theorem dX1_value_148 : decode cX1_value 148 = .ok (.iload 5, 2) := by decide +kernel
theorem dX1_value_150 : decode cX1_value 150 = .ok (.iconst 1, 1) := by decide +kernel
theorem dX1_value_151 : decode cX1_value 151 = .ok (.isub, 1) := by decide +kernel
theorem dX1_value_152 : decode cX1_value 152 = .ok (.iaload, 1) := by decide +kernel
theorem dX1_value_153 : decode cX1_value 153 = .ok (.aload_n 0, 1) := by decide +kernel
theorem dX1_value_154 : decode cX1_value 154 = .ok (.getfield 34, 3) := by decide +kernel
theorem dX1_value_157 : decode cX1_value 157 = .ok (.iload 5, 2) := by decide +kernel
theorem dX1_value_159 : decode cX1_value 159 = .ok (.iaload, 1) := by decide +kernel
theorem dX1_value_160 : decode cX1_value 160 = .ok (.invokestatic 71, 3) := by decide +kernel
theorem dX1_value_163 : decode cX1_value 163 = .ok (.iastore, 1) := by decide +kernel
theorem dX1_value_164 : decode cX1_value 164 = .ok (.iinc 6 1, 3) := by decide +kernel
theorem dX1_value_167 : decode cX1_value 167 = .ok (.goto (-161), 3) := by decide +kernel
theorem dX1_value_170 : decode cX1_value 170 = .ok (.iload 5, 2) := by decide +kernel
theorem dX1_value_172 : decode cX1_value 172 = .ok (.ifCond .le 15, 3) := by decide +kernel
theorem dX1_value_175 : decode cX1_value 175 = .ok (.aload_n 0, 1) := by decide +kernel
theorem dX1_value_176 : decode cX1_value 176 = .ok (.getfield 34, 3) := by decide +kernel
theorem dX1_value_179 : decode cX1_value 179 = .ok (.iload 5, 2) := by decide +kernel
theorem dX1_value_181 : decode cX1_value 181 = .ok (.iconst 1, 1) := by decide +kernel
theorem dX1_value_182 : decode cX1_value 182 = .ok (.isub, 1) := by decide +kernel
theorem dX1_value_183 : decode cX1_value 183 = .ok (.iaload, 1) := by decide +kernel
theorem dX1_value_184 : decode cX1_value 184 = .ok (.goto 4, 3) := by decide +kernel
theorem dX1_value_187 : decode cX1_value 187 = .ok (.iconst 0, 1) := by decide +kernel
theorem dX1_value_188 : decode cX1_value 188 = .ok (.ireturn, 1) := by decide +kernel
set_option maxRecDepth 100000 in
set_option maxHeartbeats 4000000 in
theorem jo_X1_value_121 {fr : Nat} (hfr : 2 ≤ fr) (Z : AZ) (X : AX Z cX1_value 8 RX1 (some .int) 0 fr) (a0 : Nat) (a3 : Nat) (h0 : IO 0 a0 1) (h3 : IO 0 a3 0) (x2 : Int32) (x4 : Int32) (x5 : Int32) (x6 : Int32) (t1 : Int32) (t2 : Int32) (s : Mem) (q : (Int32 × Int32 × Mem) ⊕ (Int32 × Mem)) (h : jn_X1_value_121 a0 a3 x2 x4 x5 x6 t1 t2 s = some q) (hi : ∀ y : Int32 × Int32 × Mem, q = .inl y → AW Z y.2.2 6 [some (.ref (zr Z a0)), none, some (.int x2), some (.ref (zr Z a3)), some (.int x4), some (.int y.1), some (.int y.2.1), none] []) (he : ∀ b : Int32 × Mem, q = .inr b → AW Z b.2 170 [some (.ref (zr Z a0)), none, none, none, none, some (.int b.1), none, none] []) : AW Z s 121 [some (.ref (zr Z a0)), none, some (.int x2), some (.ref (zr Z a3)), some (.int x4), some (.int x5), some (.int x6), none] [.int t2, .int t1, .ref (zr Z (a0 + 6))] := by
  unfold jn_X1_value_121 at h
  obtain ⟨s14, es14, h⟩ := bnd h
  refine aw_iast X dX1_value_121 (it_RX1_7 h0) es14 ?_
  refine aw_goto (tgt := 164) X dX1_value_122 (by decide) ?_
  refine aw_iinc (v := (x6 + 1)) (L' := [some (.ref (zr Z a0)), none, some (.int x2), some (.ref (zr Z a3)), some (.int x4), some (.int x5), some (.int (x6 + 1)), none]) X dX1_value_164 rfl rfl (by decide) rfl ?_
  refine aw_goto (tgt := 6) X dX1_value_167 (by decide) ?_
  cases h
  refine aw_msk [true, false, true, true, true, true, true, false] ?_
  exact hi _ rfl
set_option maxRecDepth 100000 in
set_option maxHeartbeats 4000000 in
theorem jo_X1_value_76 {fr : Nat} (hfr : 2 ≤ fr) (Z : AZ) (X : AX Z cX1_value 8 RX1 (some .int) 0 fr) (a0 : Nat) (a3 : Nat) (h0 : IO 0 a0 1) (h3 : IO 0 a3 0) (x2 : Int32) (x4 : Int32) (x5 : Int32) (x6 : Int32) (t1 : Int32) (t2 : Int32) (s : Mem) (q : (Int32 × Int32 × Mem) ⊕ (Int32 × Mem)) (h : jn_X1_value_76 a0 a3 x2 x4 x5 x6 t1 t2 s = some q) (hi : ∀ y : Int32 × Int32 × Mem, q = .inl y → AW Z y.2.2 6 [some (.ref (zr Z a0)), none, some (.int x2), some (.ref (zr Z a3)), some (.int x4), some (.int y.1), some (.int y.2.1), none] []) (he : ∀ b : Int32 × Mem, q = .inr b → AW Z b.2 170 [some (.ref (zr Z a0)), none, none, none, none, some (.int b.1), none, none] []) : AW Z s 76 [some (.ref (zr Z a0)), none, some (.int x2), some (.ref (zr Z a3)), some (.int x4), some (.int x5), some (.int x6), none] [.int t2, .int t1, .ref (zr Z (a0 + 6))] := by
  unfold jn_X1_value_76 at h
  obtain ⟨s18, es18, h⟩ := bnd h
  refine aw_iast X dX1_value_76 (it_RX1_7 h0) es18 ?_
  refine aw_iinc (v := (x5 + 1)) (L' := [some (.ref (zr Z a0)), none, some (.int x2), some (.ref (zr Z a3)), some (.int x4), some (.int (x5 + 1)), some (.int x6), none]) X dX1_value_77 rfl rfl (by decide) rfl ?_
  refine aw_goto (tgt := 164) X dX1_value_80 (by decide) ?_
  refine aw_iinc (v := (x6 + 1)) (L' := [some (.ref (zr Z a0)), none, some (.int x2), some (.ref (zr Z a3)), some (.int x4), some (.int (x5 + 1)), some (.int (x6 + 1)), none]) X dX1_value_164 rfl rfl (by decide) rfl ?_
  refine aw_goto (tgt := 6) X dX1_value_167 (by decide) ?_
  cases h
  refine aw_msk [true, false, true, true, true, true, true, false] ?_
  exact hi _ rfl
set_option maxRecDepth 100000 in
set_option maxHeartbeats 4000000 in
theorem so_X1_value_6 {fr : Nat} (hfr : 2 ≤ fr) (Z : AZ) (X : AX Z cX1_value 8 RX1 (some .int) 0 fr) (a0 : Nat) (a3 : Nat) (h0 : IO 0 a0 1) (h3 : IO 0 a3 0) (x2 : Int32) (x4 : Int32) (x5 : Int32) (x6 : Int32) (s : Mem) (q : (Int32 × Int32 × Mem) ⊕ (Int32 × Mem)) (h : st_X1_value_6 a0 a3 x2 x4 x5 x6 s = some q) (hi : ∀ y : Int32 × Int32 × Mem, q = .inl y → AW Z y.2.2 6 [some (.ref (zr Z a0)), none, some (.int x2), some (.ref (zr Z a3)), some (.int x4), some (.int y.1), some (.int y.2.1), none] []) (he : ∀ b : Int32 × Mem, q = .inr b → AW Z b.2 170 [some (.ref (zr Z a0)), none, none, none, none, some (.int b.1), none, none] []) : AW Z s 6 [some (.ref (zr Z a0)), none, some (.int x2), some (.ref (zr Z a3)), some (.int x4), some (.int x5), some (.int x6), none] [] := by
  unfold st_X1_value_6 at h
  refine aw_iload X dX1_value_6 rfl ?_
  refine aw_iload_n X dX1_value_8 rfl ?_
  refine aw_icmp_ge (tgt := 170) X dX1_value_9 (by decide) (fun c1 => ?_) (fun c1 => ?_)
  · rw [if_pos c1] at h
    cases h
    refine aw_msk [true, false, false, false, false, true, false, false] ?_
    exact he _ rfl
  · rw [if_neg c1] at h
    refine aw_iload X dX1_value_12 rfl ?_
    refine aw_aload_n X dX1_value_14 rfl ?_
    refine aw_geti X dX1_value_15 fl_RX1_15 h0 (gt_RX1_1 h0) ?_
    refine aw_icmp_ge (tgt := 170) X dX1_value_18 (by decide) (fun c2 => ?_) (fun c2 => ?_)
    · rw [if_pos c2] at h
      cases h
      refine aw_msk [true, false, false, false, false, true, false, false] ?_
      exact he _ rfl
    · rw [if_neg c2] at h
      refine aw_aload_n X dX1_value_21 rfl ?_
      refine aw_getr X dX1_value_22 fl_RX1_31 h0 (gt_RX1_6 h0) ?_
      refine aw_iload X dX1_value_25 rfl ?_
      obtain ⟨v3, ev3, h⟩ := bnd h
      refine aw_iald X dX1_value_27 (it_RX1_6 h0) ev3 ?_
      refine aw_istore (L' := [some (.ref (zr Z a0)), none, some (.int x2), some (.ref (zr Z a3)), some (.int x4), some (.int x5), some (.int x6), some (.int v3)]) X dX1_value_28 (by decide) rfl ?_
      refine aw_iload X dX1_value_30 rfl ?_
      refine aw_sipush (v := 20000) X dX1_value_32 (by decide) ?_
      refine aw_icmp_ge (tgt := 83) X dX1_value_35 (by decide) (fun c4 => ?_) (fun c4 => ?_)
      · rw [if_pos c4] at h
        refine aw_iload X dX1_value_83 rfl ?_
        refine aw_sipush (v := 20009) X dX1_value_85 (by decide) ?_
        refine aw_icmp_ne (tgt := 125) X dX1_value_88 (by decide) (fun c5 => ?_) (fun c5 => ?_)
        · rw [if_neg c5] at h
          refine aw_iload X dX1_value_125 rfl ?_
          refine aw_iconst (v := 1) X dX1_value_127 (by decide) ?_
          refine aw_icmp_le (tgt := 164) X dX1_value_128 (by decide) (fun c6 => ?_) (fun c6 => ?_)
          · rw [if_pos c6] at h
            refine aw_iinc (v := (x6 + 1)) (L' := [some (.ref (zr Z a0)), none, some (.int x2), some (.ref (zr Z a3)), some (.int x4), some (.int x5), some (.int (x6 + 1)), some (.int v3)]) X dX1_value_164 rfl rfl (by decide) rfl ?_
            refine aw_goto (tgt := 6) X dX1_value_167 (by decide) ?_
            cases h
            refine aw_msk [true, false, true, true, true, true, true, false] ?_
            exact hi _ rfl
          · rw [if_neg c6] at h
            refine aw_iinc (v := (x5 + (-1))) (L' := [some (.ref (zr Z a0)), none, some (.int x2), some (.ref (zr Z a3)), some (.int x4), some (.int (x5 + (-1))), some (.int x6), some (.int v3)]) X dX1_value_131 rfl rfl (by decide) rfl ?_
            refine aw_aload_n X dX1_value_134 rfl ?_
            refine aw_getr X dX1_value_135 fl_RX1_34 h0 (gt_RX1_7 h0) ?_
            refine aw_iload X dX1_value_138 rfl ?_
            refine aw_iconst (v := 1) X dX1_value_140 (by decide) ?_
            refine aw_isub X dX1_value_141 ?_
            refine aw_iload X dX1_value_142 rfl ?_
            refine aw_aload_n X dX1_value_144 rfl ?_
            refine aw_getr X dX1_value_145 fl_RX1_34 h0 (gt_RX1_7 h0) ?_
            refine aw_iload X dX1_value_148 rfl ?_
            refine aw_iconst (v := 1) X dX1_value_150 (by decide) ?_
            refine aw_isub X dX1_value_151 ?_
            obtain ⟨v7, ev7, h⟩ := bnd h
            refine aw_iald X dX1_value_152 (it_RX1_7 h0) ev7 ?_
            refine aw_aload_n X dX1_value_153 rfl ?_
            refine aw_getr X dX1_value_154 fl_RX1_34 h0 (gt_RX1_7 h0) ?_
            refine aw_iload X dX1_value_157 rfl ?_
            obtain ⟨v8, ev8, h⟩ := bnd h
            refine aw_iald X dX1_value_159 (it_RX1_7 h0) ev8 ?_
            obtain ⟨r9, er9, h⟩ := bnd h
            refine aw_callS X dX1_value_160 cv_RX1_71 (ok_X1_joined er9 _ _ _ _ _) (Nat.le_trans (by decide) hfr) (by decide) rfl rfl (Nat.le_of_ble_eq_true rfl) ?_
            obtain ⟨s10, es10, h⟩ := bnd h
            refine aw_iast X dX1_value_163 (it_RX1_7 h0) es10 ?_
            refine aw_iinc (v := (x6 + 1)) (L' := [some (.ref (zr Z a0)), none, some (.int x2), some (.ref (zr Z a3)), some (.int x4), some (.int (x5 + (-1))), some (.int (x6 + 1)), some (.int v3)]) X dX1_value_164 rfl rfl (by decide) rfl ?_
            refine aw_goto (tgt := 6) X dX1_value_167 (by decide) ?_
            cases h
            refine aw_msk [true, false, true, true, true, true, true, false] ?_
            exact hi _ rfl
        · rw [if_pos c5] at h
          refine aw_iload X dX1_value_91 rfl ?_
          refine aw_if_le (tgt := 164) X dX1_value_93 (by decide) (fun c11 => ?_) (fun c11 => ?_)
          · rw [if_pos c11] at h
            refine aw_iinc (v := (x6 + 1)) (L' := [some (.ref (zr Z a0)), none, some (.int x2), some (.ref (zr Z a3)), some (.int x4), some (.int x5), some (.int (x6 + 1)), some (.int v3)]) X dX1_value_164 rfl rfl (by decide) rfl ?_
            refine aw_goto (tgt := 6) X dX1_value_167 (by decide) ?_
            cases h
            refine aw_msk [true, false, true, true, true, true, true, false] ?_
            exact hi _ rfl
          · rw [if_neg c11] at h
            refine aw_aload_n X dX1_value_96 rfl ?_
            refine aw_getr X dX1_value_97 fl_RX1_34 h0 (gt_RX1_7 h0) ?_
            refine aw_iload X dX1_value_100 rfl ?_
            refine aw_iconst (v := 1) X dX1_value_102 (by decide) ?_
            refine aw_isub X dX1_value_103 ?_
            refine aw_aload_n X dX1_value_104 rfl ?_
            refine aw_getr X dX1_value_105 fl_RX1_34 h0 (gt_RX1_7 h0) ?_
            refine aw_iload X dX1_value_108 rfl ?_
            refine aw_iconst (v := 1) X dX1_value_110 (by decide) ?_
            refine aw_isub X dX1_value_111 ?_
            obtain ⟨v12, ev12, h⟩ := bnd h
            refine aw_iald X dX1_value_112 (it_RX1_7 h0) ev12 ?_
            refine aw_if_ne (tgt := 120) X dX1_value_113 (by decide) (fun c13 => ?_) (fun c13 => ?_)
            · rw [if_neg c13] at h
              refine aw_iconst (v := 0) X dX1_value_120 (by decide) ?_
              refine aw_msk [true, false, true, true, true, true, true, false] ?_
              exact jo_X1_value_121 hfr Z X a0 a3 h0 h3 _ _ _ _ _ _ _ _ h hi he
            · rw [if_pos c13] at h
              refine aw_iconst (v := 1) X dX1_value_116 (by decide) ?_
              refine aw_goto (tgt := 121) X dX1_value_117 (by decide) ?_
              refine aw_msk [true, false, true, true, true, true, true, false] ?_
              exact jo_X1_value_121 hfr Z X a0 a3 h0 h3 _ _ _ _ _ _ _ _ h hi he
      · rw [if_neg c4] at h
        refine aw_iload X dX1_value_38 rfl ?_
        refine aw_bipush (v := 64) X dX1_value_40 (by decide) ?_
        refine aw_icmp_ge (tgt := 164) X dX1_value_42 (by decide) (fun c15 => ?_) (fun c15 => ?_)
        · rw [if_pos c15] at h
          refine aw_iinc (v := (x6 + 1)) (L' := [some (.ref (zr Z a0)), none, some (.int x2), some (.ref (zr Z a3)), some (.int x4), some (.int x5), some (.int (x6 + 1)), some (.int v3)]) X dX1_value_164 rfl rfl (by decide) rfl ?_
          refine aw_goto (tgt := 6) X dX1_value_167 (by decide) ?_
          cases h
          refine aw_msk [true, false, true, true, true, true, true, false] ?_
          exact hi _ rfl
        · rw [if_neg c15] at h
          refine aw_aload_n X dX1_value_45 rfl ?_
          refine aw_getr X dX1_value_46 fl_RX1_34 h0 (gt_RX1_7 h0) ?_
          refine aw_iload X dX1_value_49 rfl ?_
          refine aw_iload X dX1_value_51 rfl ?_
          refine aw_sipush (v := 10000) X dX1_value_53 (by decide) ?_
          refine aw_icmp_ge (tgt := 64) X dX1_value_56 (by decide) (fun c16 => ?_) (fun c16 => ?_)
          · rw [if_pos c16] at h
            refine aw_iload X dX1_value_64 rfl ?_
            refine aw_sipush (v := 10000) X dX1_value_66 (by decide) ?_
            refine aw_isub X dX1_value_69 ?_
            refine aw_aload_n X dX1_value_70 rfl ?_
            refine aw_iload X dX1_value_71 rfl ?_
            obtain ⟨r17, er17, h⟩ := bnd h
            refine aw_callS X dX1_value_73 cv_RX1_67 (ok_X1_fact h3 er17 _ _ _ _ _) (Nat.le_trans (by decide) hfr) (by decide) rfl rfl (Nat.le_of_ble_eq_true rfl) ?_
            refine aw_msk [true, false, true, true, true, true, true, false] ?_
            exact jo_X1_value_76 hfr Z X a0 a3 h0 h3 _ _ _ _ _ _ _ _ h hi he
          · rw [if_neg c16] at h
            refine aw_iload X dX1_value_59 rfl ?_
            refine aw_goto (tgt := 76) X dX1_value_61 (by decide) ?_
            refine aw_msk [true, false, true, true, true, true, true, false] ?_
            exact jo_X1_value_76 hfr Z X a0 a3 h0 h3 _ _ _ _ _ _ _ _ h hi he
set_option maxRecDepth 100000 in
set_option maxHeartbeats 4000000 in
theorem jo_X1_value_170 {fr : Nat} (hfr : 2 ≤ fr) (Z : AZ) (X : AX Z cX1_value 8 RX1 (some .int) 0 fr) (a0 : Nat) (a3 : Nat) (h0 : IO 0 a0 1) (h3 : IO 0 a3 0) (x5 : Int32) (s : Mem) (r : Int32 × Mem) (hz : zres Z = (some (.int r.1), r.2)) (h : jn_X1_value_170 a0 a3 x5 s = some r) : AW Z s 170 [some (.ref (zr Z a0)), none, none, none, none, some (.int x5), none, none] [] := by
  unfold jn_X1_value_170 at h
  refine aw_iload X dX1_value_170 rfl ?_
  refine aw_if_le (tgt := 187) X dX1_value_172 (by decide) (fun c20 => ?_) (fun c20 => ?_)
  · rw [if_pos c20] at h
    refine aw_iconst (v := 0) X dX1_value_187 (by decide) ?_
    cases h
    exact aw_iret X dX1_value_188 rfl hz.symm
  · rw [if_neg c20] at h
    refine aw_aload_n X dX1_value_175 rfl ?_
    refine aw_getr X dX1_value_176 fl_RX1_34 h0 (gt_RX1_7 h0) ?_
    refine aw_iload X dX1_value_179 rfl ?_
    refine aw_iconst (v := 1) X dX1_value_181 (by decide) ?_
    refine aw_isub X dX1_value_182 ?_
    obtain ⟨v21, ev21, h⟩ := bnd h
    refine aw_iald X dX1_value_183 (it_RX1_7 h0) ev21 ?_
    refine aw_goto (tgt := 188) X dX1_value_184 (by decide) ?_
    cases h
    exact aw_iret X dX1_value_188 rfl hz.symm
set_option maxRecDepth 100000 in
set_option maxHeartbeats 4000000 in
theorem w_X1_value {fr : Nat} (hfr : 2 ≤ fr) (Z : AZ) (X : AX Z cX1_value 8 RX1 (some .int) 0 fr) (a0 : Nat) (a3 : Nat) (h0 : IO 0 a0 1) (h3 : IO 0 a3 0) (x1 : Int32) (x2 : Int32) (x4 : Int32) (s : Mem) (r : Int32 × Mem) (hz : zres Z = (some (.int r.1), r.2)) (h : f_X1_value a0 a3 x1 x2 x4 s = some r) : AW Z s 0 [some (.ref (zr Z a0)), some (.int x1), some (.int x2), some (.ref (zr Z a3)), some (.int x4), none, none, none] [] := by
  unfold f_X1_value at h
  refine aw_iconst (v := 0) X dX1_value_0 (by decide) ?_
  refine aw_istore (L' := [some (.ref (zr Z a0)), some (.int x1), some (.int x2), some (.ref (zr Z a3)), some (.int x4), some (.int 0), none, none]) X dX1_value_1 (by decide) rfl ?_
  refine aw_iload_n X dX1_value_3 rfl ?_
  refine aw_istore (L' := [some (.ref (zr Z a0)), some (.int x1), some (.int x2), some (.ref (zr Z a3)), some (.int x4), some (.int 0), some (.int x1), none]) X dX1_value_4 (by decide) rfl ?_
  obtain ⟨r19, er19, h⟩ := bnd h
  refine aw_msk [true, false, true, true, true, true, true, false] ?_
  refine it_ok (P := fun y : Int32 × Int32 × Mem => AW Z y.2.2 6 [some (.ref (zr Z a0)), none, some (.int x2), some (.ref (zr Z a3)), some (.int x4), some (.int y.1), some (.int y.2.1), none] []) (Q := fun b : Int32 × Mem => AW Z b.2 170 [some (.ref (zr Z a0)), none, none, none, none, some (.int b.1), none, none] []) (fun y q hq hi he => so_X1_value_6 hfr Z X a0 a3 h0 h3 x2 x4 y.1 y.2.1 y.2.2 q hq hi he) FUEL _ _ er19 ?_
  refine aw_msk [true, false, false, false, false, true, false, false] ?_
  exact jo_X1_value_170 hfr Z X a0 a3 h0 h3 _ _ _ hz h
set_option maxRecDepth 100000 in
set_option maxHeartbeats 4000000 in
theorem ok_X1_value {a0 : Nat} {a3 : Nat} (h0 : IO 0 a0 1) (h3 : IO 0 a3 0) {x1 x2 x4 : Int32} {s : Mem} {r : Int32 × Mem} (h : f_X1_value a0 a3 x1 x2 x4 s = some r) (l : Launch) (D : va_G) (ρ : Nat → Nat) (cA : ClassId × ClassId × ClassId) (τ : AT) : AM l D ρ cA 0 τ yX1_value cX1_value 8 (some .int) 2 [.ref (ρ a0), .int x1, .int x2, .ref (ρ a3), .int x4] (some (.int r.1)) s r.2 := by
  refine AM_of (L := [some (.ref (ρ a0)), some (.int x1), some (.int x2), some (.ref (ρ a3)), some (.int x4), none, none, none]) (by decide) (by simp [Value.category]) (Nat.le_of_ble_eq_true rfl) (fun j v q => ?_) (fun Z X hρ hz hτ => ?_)
  · exact aL_ok (n := 3) [.ref (ρ a0), .int x1, .int x2, .ref (ρ a3), .int x4] j v q
  · subst hρ
    subst hτ
    exact w_X1_value (Nat.le_refl _) Z X a0 a3 h0 h3 x1 x2 x4 s r hz h

theorem dX1_bound_0 : decode cX1_bound 0 = .ok (.iload_n 0, 1) := by decide +kernel
theorem dX1_bound_1 : decode cX1_bound 1 = .ok (.lookupswitch 50 #[(0, 27), (1, 38)], 27) := by decide +kernel
theorem dX1_bound_28 : decode cX1_bound 28 = .ok (.iconst 1, 1) := by decide +kernel
theorem dX1_bound_29 : decode cX1_bound 29 = .ok (.bipush 99, 2) := by decide +kernel
theorem dX1_bound_31 : decode cX1_bound 31 = .ok (.iload_n 1, 1) := by decide +kernel
theorem dX1_bound_32 : decode cX1_bound 32 = .ok (.invokestatic 59, 3) := by decide +kernel
theorem dX1_bound_35 : decode cX1_bound 35 = .ok (.invokestatic 64, 3) := by decide +kernel
theorem dX1_bound_38 : decode cX1_bound 38 = .ok (.ireturn, 1) := by decide +kernel
theorem dX1_bound_39 : decode cX1_bound 39 = .ok (.iconst 0, 1) := by decide +kernel
theorem dX1_bound_40 : decode cX1_bound 40 = .ok (.sipush 1000, 3) := by decide +kernel
theorem dX1_bound_43 : decode cX1_bound 43 = .ok (.iload_n 1, 1) := by decide +kernel
theorem dX1_bound_44 : decode cX1_bound 44 = .ok (.invokestatic 59, 3) := by decide +kernel
theorem dX1_bound_47 : decode cX1_bound 47 = .ok (.invokestatic 64, 3) := by decide +kernel
theorem dX1_bound_50 : decode cX1_bound 50 = .ok (.ireturn, 1) := by decide +kernel
theorem dX1_bound_51 : decode cX1_bound 51 = .ok (.iconst 0, 1) := by decide +kernel
theorem dX1_bound_52 : decode cX1_bound 52 = .ok (.bipush 99, 2) := by decide +kernel
theorem dX1_bound_54 : decode cX1_bound 54 = .ok (.iload_n 1, 1) := by decide +kernel
theorem dX1_bound_55 : decode cX1_bound 55 = .ok (.invokestatic 59, 3) := by decide +kernel
theorem dX1_bound_58 : decode cX1_bound 58 = .ok (.invokestatic 64, 3) := by decide +kernel
theorem dX1_bound_61 : decode cX1_bound 61 = .ok (.ireturn, 1) := by decide +kernel
set_option maxRecDepth 100000 in
set_option maxHeartbeats 4000000 in
theorem w_X1_bound {fr : Nat} (hfr : 1 ≤ fr) (Z : AZ) (X : AX Z cX1_bound 2 RX1 (some .int) 0 fr) (x0 : Int32) (x1 : Int32) (s : Mem) (r : Int32 × Mem) (hz : zres Z = (some (.int r.1), r.2)) (h : f_X1_bound x0 x1 s = some r) : AW Z s 0 [some (.int x0), some (.int x1)] [] := by
  unfold f_X1_bound at h
  refine aw_iload_n X dX1_bound_0 rfl ?_
  by_cases c1 : x0 = 0
  · rw [if_pos c1] at h
    refine aw_lsw (tgt := 28) X dX1_bound_1 (by rw [c1]; decide) ?_
    refine aw_iconst (v := 1) X dX1_bound_28 (by decide) ?_
    refine aw_bipush (v := 99) X dX1_bound_29 (by decide) ?_
    refine aw_iload_n X dX1_bound_31 rfl ?_
    refine aw_mmin X (Nat.le_trans (by decide) hfr) dX1_bound_32 mc_RX1_59 rfl ?_
    refine aw_mmax X (Nat.le_trans (by decide) hfr) dX1_bound_35 mc_RX1_64 rfl ?_
    cases h
    exact aw_iret X dX1_bound_38 rfl hz.symm
  rw [if_neg c1] at h
  by_cases c2 : x0 = 1
  · rw [if_pos c2] at h
    refine aw_lsw (tgt := 39) X dX1_bound_1 (by rw [c2]; decide) ?_
    refine aw_iconst (v := 0) X dX1_bound_39 (by decide) ?_
    refine aw_sipush (v := 1000) X dX1_bound_40 (by decide) ?_
    refine aw_iload_n X dX1_bound_43 rfl ?_
    refine aw_mmin X (Nat.le_trans (by decide) hfr) dX1_bound_44 mc_RX1_59 rfl ?_
    refine aw_mmax X (Nat.le_trans (by decide) hfr) dX1_bound_47 mc_RX1_64 rfl ?_
    cases h
    exact aw_iret X dX1_bound_50 rfl hz.symm
  rw [if_neg c2] at h
  refine aw_lsw (tgt := 51) X dX1_bound_1 ⟨by decide, by show (1 : Int) + Op.lookupswitch.offset [(0, 27), (1, 38)] 50 _ = 51; rw [lv_osw (k := 0) c1 (by decide), lv_osw (k := 1) c2 (by decide)]; rfl⟩ ?_
  refine aw_iconst (v := 0) X dX1_bound_51 (by decide) ?_
  refine aw_bipush (v := 99) X dX1_bound_52 (by decide) ?_
  refine aw_iload_n X dX1_bound_54 rfl ?_
  refine aw_mmin X (Nat.le_trans (by decide) hfr) dX1_bound_55 mc_RX1_59 rfl ?_
  refine aw_mmax X (Nat.le_trans (by decide) hfr) dX1_bound_58 mc_RX1_64 rfl ?_
  cases h
  exact aw_iret X dX1_bound_61 rfl hz.symm
set_option maxRecDepth 100000 in
set_option maxHeartbeats 4000000 in
theorem ok_X1_bound {x0 x1 : Int32} {s : Mem} {r : Int32 × Mem} (h : f_X1_bound x0 x1 s = some r) (l : Launch) (D : va_G) (ρ : Nat → Nat) (cA : ClassId × ClassId × ClassId) (τ : AT) : AM l D ρ cA 0 τ yX1_bound cX1_bound 2 (some .int) 1 [.int x0, .int x1] (some (.int r.1)) s r.2 := by
  refine AM_of (L := [some (.int x0), some (.int x1)]) (by decide) (by simp [Value.category]) (Nat.le_of_ble_eq_true rfl) (fun j v q => ?_) (fun Z X hρ hz hτ => ?_)
  · exact aL_ok (n := 0) [.int x0, .int x1] j v q
  · subst hρ
    subst hτ
    exact w_X1_bound (Nat.le_refl _) Z X x0 x1 s r hz h

theorem dX1_ask_0 : decode cX1_ask 0 = .ok (.iconst 0, 1) := by decide +kernel
theorem dX1_ask_1 : decode cX1_ask 1 = .ok (.istore 4, 2) := by decide +kernel
theorem dX1_ask_3 : decode cX1_ask 3 = .ok (.iload 4, 2) := by decide +kernel
theorem dX1_ask_5 : decode cX1_ask 5 = .ok (.aload_n 0, 1) := by decide +kernel
theorem dX1_ask_6 : decode cX1_ask 6 = .ok (.getfield 9, 3) := by decide +kernel
theorem dX1_ask_9 : decode cX1_ask 9 = .ok (.if_icmp .ge 85, 3) := by decide +kernel
theorem dX1_ask_12 : decode cX1_ask 12 = .ok (.aload_n 0, 1) := by decide +kernel
theorem dX1_ask_13 : decode cX1_ask 13 = .ok (.getfield 18, 3) := by decide +kernel
theorem dX1_ask_16 : decode cX1_ask 16 = .ok (.iload 4, 2) := by decide +kernel
theorem dX1_ask_18 : decode cX1_ask 18 = .ok (.iaload, 1) := by decide +kernel
theorem dX1_ask_19 : decode cX1_ask 19 = .ok (.iload_n 1, 1) := by decide +kernel
theorem dX1_ask_20 : decode cX1_ask 20 = .ok (.if_icmp .ne 68, 3) := by decide +kernel
theorem dX1_ask_23 : decode cX1_ask 23 = .ok (.aload_n 0, 1) := by decide +kernel
theorem dX1_ask_24 : decode cX1_ask 24 = .ok (.getfield 25, 3) := by decide +kernel
theorem dX1_ask_27 : decode cX1_ask 27 = .ok (.iload 4, 2) := by decide +kernel
theorem dX1_ask_29 : decode cX1_ask 29 = .ok (.iaload, 1) := by decide +kernel
theorem dX1_ask_30 : decode cX1_ask 30 = .ok (.aload_n 0, 1) := by decide +kernel
theorem dX1_ask_31 : decode cX1_ask 31 = .ok (.getfield 28, 3) := by decide +kernel
theorem dX1_ask_34 : decode cX1_ask 34 = .ok (.iload 4, 2) := by decide +kernel
theorem dX1_ask_36 : decode cX1_ask 36 = .ok (.iaload, 1) := by decide +kernel
theorem dX1_ask_37 : decode cX1_ask 37 = .ok (.if_icmp .eq 26, 3) := by decide +kernel
theorem dX1_ask_40 : decode cX1_ask 40 = .ok (.aload_n 0, 1) := by decide +kernel
theorem dX1_ask_41 : decode cX1_ask 41 = .ok (.aload_n 0, 1) := by decide +kernel
theorem dX1_ask_42 : decode cX1_ask 42 = .ok (.getfield 25, 3) := by decide +kernel
theorem dX1_ask_45 : decode cX1_ask 45 = .ok (.iload 4, 2) := by decide +kernel
theorem dX1_ask_47 : decode cX1_ask 47 = .ok (.iaload, 1) := by decide +kernel
theorem dX1_ask_48 : decode cX1_ask 48 = .ok (.aload_n 0, 1) := by decide +kernel
theorem dX1_ask_49 : decode cX1_ask 49 = .ok (.getfield 28, 3) := by decide +kernel
theorem dX1_ask_52 : decode cX1_ask 52 = .ok (.iload 4, 2) := by decide +kernel
theorem dX1_ask_54 : decode cX1_ask 54 = .ok (.iaload, 1) := by decide +kernel
theorem dX1_ask_55 : decode cX1_ask 55 = .ok (.aload_n 2, 1) := by decide +kernel
theorem dX1_ask_56 : decode cX1_ask 56 = .ok (.iload_n 3, 1) := by decide +kernel
theorem dX1_ask_57 : decode cX1_ask 57 = .ok (.invokevirtual 43, 3) := by decide +kernel
theorem dX1_ask_60 : decode cX1_ask 60 = .ok (.ifCond .eq 28, 3) := by decide +kernel
theorem dX1_ask_63 : decode cX1_ask 63 = .ok (.iload_n 1, 1) := by decide +kernel
theorem dX1_ask_64 : decode cX1_ask 64 = .ok (.aload_n 0, 1) := by decide +kernel
theorem dX1_ask_65 : decode cX1_ask 65 = .ok (.aload_n 0, 1) := by decide +kernel
theorem dX1_ask_66 : decode cX1_ask 66 = .ok (.getfield 22, 3) := by decide +kernel
theorem dX1_ask_69 : decode cX1_ask 69 = .ok (.iload 4, 2) := by decide +kernel
theorem dX1_ask_71 : decode cX1_ask 71 = .ok (.iaload, 1) := by decide +kernel
theorem dX1_ask_72 : decode cX1_ask 72 = .ok (.aload_n 0, 1) := by decide +kernel
theorem dX1_ask_73 : decode cX1_ask 73 = .ok (.getfield 25, 3) := by decide +kernel
theorem dX1_ask_76 : decode cX1_ask 76 = .ok (.iload 4, 2) := by decide +kernel
theorem dX1_ask_78 : decode cX1_ask 78 = .ok (.iaload, 1) := by decide +kernel
theorem dX1_ask_79 : decode cX1_ask 79 = .ok (.aload_n 2, 1) := by decide +kernel
theorem dX1_ask_80 : decode cX1_ask 80 = .ok (.iload_n 3, 1) := by decide +kernel
theorem dX1_ask_81 : decode cX1_ask 81 = .ok (.invokevirtual 43, 3) := by decide +kernel
theorem dX1_ask_84 : decode cX1_ask 84 = .ok (.invokestatic 47, 3) := by decide +kernel
theorem dX1_ask_87 : decode cX1_ask 87 = .ok (.ireturn, 1) := by decide +kernel
theorem dX1_ask_88 : decode cX1_ask 88 = .ok (.iinc 4 1, 3) := by decide +kernel
theorem dX1_ask_91 : decode cX1_ask 91 = .ok (.goto (-88), 3) := by decide +kernel
theorem dX1_ask_94 : decode cX1_ask 94 = .ok (.iload_n 1, 1) := by decide +kernel
theorem dX1_ask_95 : decode cX1_ask 95 = .ok (.lookupswitch 56 #[(0, 25), (1, 39)], 25) := by decide +kernel
theorem dX1_ask_120 : decode cX1_ask 120 = .ok (.iconst 0, 1) := by decide +kernel
theorem dX1_ask_121 : decode cX1_ask 121 = .ok (.bipush 20, 2) := by decide +kernel
theorem dX1_ask_123 : decode cX1_ask 123 = .ok (.aload_n 2, 1) := by decide +kernel
theorem dX1_ask_124 : decode cX1_ask 124 = .ok (.getfield 51, 3) := by decide +kernel
theorem dX1_ask_127 : decode cX1_ask 127 = .ok (.iload_n 3, 1) := by decide +kernel
theorem dX1_ask_128 : decode cX1_ask 128 = .ok (.iaload, 1) := by decide +kernel
theorem dX1_ask_129 : decode cX1_ask 129 = .ok (.isub, 1) := by decide +kernel
theorem dX1_ask_130 : decode cX1_ask 130 = .ok (.invokestatic 47, 3) := by decide +kernel
theorem dX1_ask_133 : decode cX1_ask 133 = .ok (.ireturn, 1) := by decide +kernel
theorem dX1_ask_134 : decode cX1_ask 134 = .ok (.iconst 1, 1) := by decide +kernel
theorem dX1_ask_135 : decode cX1_ask 135 = .ok (.bipush 50, 2) := by decide +kernel
theorem dX1_ask_137 : decode cX1_ask 137 = .ok (.bipush 20, 2) := by decide +kernel
theorem dX1_ask_139 : decode cX1_ask 139 = .ok (.aload_n 2, 1) := by decide +kernel
theorem dX1_ask_140 : decode cX1_ask 140 = .ok (.getfield 51, 3) := by decide +kernel
theorem dX1_ask_143 : decode cX1_ask 143 = .ok (.iload_n 3, 1) := by decide +kernel
theorem dX1_ask_144 : decode cX1_ask 144 = .ok (.iaload, 1) := by decide +kernel
theorem dX1_ask_145 : decode cX1_ask 145 = .ok (.imul, 1) := by decide +kernel
theorem dX1_ask_146 : decode cX1_ask 146 = .ok (.iadd, 1) := by decide +kernel
theorem dX1_ask_147 : decode cX1_ask 147 = .ok (.invokestatic 47, 3) := by decide +kernel
theorem dX1_ask_150 : decode cX1_ask 150 = .ok (.ireturn, 1) := by decide +kernel
theorem dX1_ask_151 : decode cX1_ask 151 = .ok (.iconst 2, 1) := by decide +kernel
theorem dX1_ask_152 : decode cX1_ask 152 = .ok (.aload_n 2, 1) := by decide +kernel
theorem dX1_ask_153 : decode cX1_ask 153 = .ok (.getfield 56, 3) := by decide +kernel
theorem dX1_ask_156 : decode cX1_ask 156 = .ok (.iload_n 3, 1) := by decide +kernel
theorem dX1_ask_157 : decode cX1_ask 157 = .ok (.iaload, 1) := by decide +kernel
theorem dX1_ask_158 : decode cX1_ask 158 = .ok (.iconst 2, 1) := by decide +kernel
theorem dX1_ask_159 : decode cX1_ask 159 = .ok (.idiv, 1) := by decide +kernel
theorem dX1_ask_160 : decode cX1_ask 160 = .ok (.invokestatic 47, 3) := by decide +kernel
theorem dX1_ask_163 : decode cX1_ask 163 = .ok (.ireturn, 1) := by decide +kernel
set_option maxRecDepth 100000 in
set_option maxHeartbeats 4000000 in
theorem so_X1_ask_3 {fr : Nat} (hfr : 3 ≤ fr) (Z : AZ) (X : AX Z cX1_ask 5 RX1 (some .int) 0 fr) (a0 : Nat) (a2 : Nat) (h0 : IO 0 a0 1) (h2 : IO 0 a2 0) (x1 : Int32) (x3 : Int32) (x4 : Int32) (s : Mem) (q : (Int32 × Mem) ⊕ (Nat × Int32 × Mem)) (h : st_X1_ask_3 a0 a2 x1 x3 x4 s = some q) (hi : ∀ y : Int32 × Mem, q = .inl y → AW Z y.2 3 [some (.ref (zr Z a0)), some (.int x1), some (.ref (zr Z a2)), some (.int x3), some (.int y.1)] []) (he : ∀ b : Nat × Int32 × Mem, q = .inr b → (b.1 = 0 → AW Z b.2.2 63 [some (.ref (zr Z a0)), some (.int x1), some (.ref (zr Z a2)), some (.int x3), some (.int b.2.1)] []) ∧ (b.1 = 1 → AW Z b.2.2 94 [none, some (.int x1), some (.ref (zr Z a2)), some (.int x3), none] [])) : AW Z s 3 [some (.ref (zr Z a0)), some (.int x1), some (.ref (zr Z a2)), some (.int x3), some (.int x4)] [] := by
  unfold st_X1_ask_3 at h
  refine aw_iload X dX1_ask_3 rfl ?_
  refine aw_aload_n X dX1_ask_5 rfl ?_
  refine aw_geti X dX1_ask_6 fl_RX1_9 h0 (gt_RX1_0 h0) ?_
  refine aw_icmp_ge (tgt := 94) X dX1_ask_9 (by decide) (fun c1 => ?_) (fun c1 => ?_)
  · rw [if_pos c1] at h
    cases h
    refine aw_msk [false, true, true, true, false] ?_
    exact (he _ rfl).2 rfl
  · rw [if_neg c1] at h
    refine aw_aload_n X dX1_ask_12 rfl ?_
    refine aw_getr X dX1_ask_13 fl_RX1_18 h0 (gt_RX1_2 h0) ?_
    refine aw_iload X dX1_ask_16 rfl ?_
    obtain ⟨v2, ev2, h⟩ := bnd h
    refine aw_iald X dX1_ask_18 (it_RX1_2 h0) ev2 ?_
    refine aw_iload_n X dX1_ask_19 rfl ?_
    refine aw_icmp_ne (tgt := 88) X dX1_ask_20 (by decide) (fun c3 => ?_) (fun c3 => ?_)
    · rw [if_neg c3] at h
      refine aw_iinc (v := (x4 + 1)) (L' := [some (.ref (zr Z a0)), some (.int x1), some (.ref (zr Z a2)), some (.int x3), some (.int (x4 + 1))]) X dX1_ask_88 rfl rfl (by decide) rfl ?_
      refine aw_goto (tgt := 3) X dX1_ask_91 (by decide) ?_
      cases h
      refine aw_msk [true, true, true, true, true] ?_
      exact hi _ rfl
    · rw [if_pos c3] at h
      refine aw_aload_n X dX1_ask_23 rfl ?_
      refine aw_getr X dX1_ask_24 fl_RX1_25 h0 (gt_RX1_4 h0) ?_
      refine aw_iload X dX1_ask_27 rfl ?_
      obtain ⟨v4, ev4, h⟩ := bnd h
      refine aw_iald X dX1_ask_29 (it_RX1_4 h0) ev4 ?_
      refine aw_aload_n X dX1_ask_30 rfl ?_
      refine aw_getr X dX1_ask_31 fl_RX1_28 h0 (gt_RX1_5 h0) ?_
      refine aw_iload X dX1_ask_34 rfl ?_
      obtain ⟨v5, ev5, h⟩ := bnd h
      refine aw_iald X dX1_ask_36 (it_RX1_5 h0) ev5 ?_
      refine aw_icmp_eq (tgt := 63) X dX1_ask_37 (by decide) (fun c6 => ?_) (fun c6 => ?_)
      · rw [if_pos c6] at h
        cases h
        refine aw_msk [true, true, true, true, true] ?_
        exact (he _ rfl).1 rfl
      · rw [if_neg c6] at h
        refine aw_aload_n X dX1_ask_40 rfl ?_
        refine aw_aload_n X dX1_ask_41 rfl ?_
        refine aw_getr X dX1_ask_42 fl_RX1_25 h0 (gt_RX1_4 h0) ?_
        refine aw_iload X dX1_ask_45 rfl ?_
        obtain ⟨v7, ev7, h⟩ := bnd h
        refine aw_iald X dX1_ask_47 (it_RX1_4 h0) ev7 ?_
        refine aw_aload_n X dX1_ask_48 rfl ?_
        refine aw_getr X dX1_ask_49 fl_RX1_28 h0 (gt_RX1_5 h0) ?_
        refine aw_iload X dX1_ask_52 rfl ?_
        obtain ⟨v8, ev8, h⟩ := bnd h
        refine aw_iald X dX1_ask_54 (it_RX1_5 h0) ev8 ?_
        refine aw_aload_n X dX1_ask_55 rfl ?_
        refine aw_iload_n X dX1_ask_56 rfl ?_
        obtain ⟨r9, er9, h⟩ := bnd h
        refine aw_callV X dX1_ask_57 cv_RX1_43 (ok_X1_value h0 h2 er9 _ _ _ _ _) h0 rfl (Nat.le_trans (by decide) hfr) (by decide) rfl rfl (Nat.le_of_ble_eq_true rfl) ?_
        refine aw_if_eq (tgt := 88) X dX1_ask_60 (by decide) (fun c10 => ?_) (fun c10 => ?_)
        · rw [if_pos c10] at h
          refine aw_iinc (v := (x4 + 1)) (L' := [some (.ref (zr Z a0)), some (.int x1), some (.ref (zr Z a2)), some (.int x3), some (.int (x4 + 1))]) X dX1_ask_88 rfl rfl (by decide) rfl ?_
          refine aw_goto (tgt := 3) X dX1_ask_91 (by decide) ?_
          cases h
          refine aw_msk [true, true, true, true, true] ?_
          exact hi _ rfl
        · rw [if_neg c10] at h
          cases h
          refine aw_msk [true, true, true, true, true] ?_
          exact (he _ rfl).1 rfl
set_option maxRecDepth 100000 in
set_option maxHeartbeats 4000000 in
theorem jo_X1_ask_63 {fr : Nat} (hfr : 3 ≤ fr) (Z : AZ) (X : AX Z cX1_ask 5 RX1 (some .int) 0 fr) (a0 : Nat) (a2 : Nat) (h0 : IO 0 a0 1) (h2 : IO 0 a2 0) (x1 : Int32) (x3 : Int32) (x4 : Int32) (s : Mem) (r : Int32 × Mem) (hz : zres Z = (some (.int r.1), r.2)) (h : jn_X1_ask_63 a0 a2 x1 x3 x4 s = some r) : AW Z s 63 [some (.ref (zr Z a0)), some (.int x1), some (.ref (zr Z a2)), some (.int x3), some (.int x4)] [] := by
  unfold jn_X1_ask_63 at h
  refine aw_iload_n X dX1_ask_63 rfl ?_
  refine aw_aload_n X dX1_ask_64 rfl ?_
  refine aw_aload_n X dX1_ask_65 rfl ?_
  refine aw_getr X dX1_ask_66 fl_RX1_22 h0 (gt_RX1_3 h0) ?_
  refine aw_iload X dX1_ask_69 rfl ?_
  obtain ⟨v12, ev12, h⟩ := bnd h
  refine aw_iald X dX1_ask_71 (it_RX1_3 h0) ev12 ?_
  refine aw_aload_n X dX1_ask_72 rfl ?_
  refine aw_getr X dX1_ask_73 fl_RX1_25 h0 (gt_RX1_4 h0) ?_
  refine aw_iload X dX1_ask_76 rfl ?_
  obtain ⟨v13, ev13, h⟩ := bnd h
  refine aw_iald X dX1_ask_78 (it_RX1_4 h0) ev13 ?_
  refine aw_aload_n X dX1_ask_79 rfl ?_
  refine aw_iload_n X dX1_ask_80 rfl ?_
  obtain ⟨r14, er14, h⟩ := bnd h
  refine aw_callV X dX1_ask_81 cv_RX1_43 (ok_X1_value h0 h2 er14 _ _ _ _ _) h0 rfl (Nat.le_trans (by decide) hfr) (by decide) rfl rfl (Nat.le_of_ble_eq_true rfl) ?_
  obtain ⟨r15, er15, h⟩ := bnd h
  refine aw_callS X dX1_ask_84 cv_RX1_47 (ok_X1_bound er15 _ _ _ _ _) (Nat.le_trans (by decide) hfr) (by decide) rfl rfl (Nat.le_of_ble_eq_true rfl) ?_
  cases h
  exact aw_iret X dX1_ask_87 rfl hz.symm
set_option maxRecDepth 100000 in
set_option maxHeartbeats 4000000 in
theorem w_X1_ask {fr : Nat} (hfr : 3 ≤ fr) (Z : AZ) (X : AX Z cX1_ask 5 RX1 (some .int) 0 fr) (a0 : Nat) (a2 : Nat) (h0 : IO 0 a0 1) (h2 : IO 0 a2 0) (x1 : Int32) (x3 : Int32) (s : Mem) (r : Int32 × Mem) (hz : zres Z = (some (.int r.1), r.2)) (h : f_X1_ask a0 a2 x1 x3 s = some r) : AW Z s 0 [some (.ref (zr Z a0)), some (.int x1), some (.ref (zr Z a2)), some (.int x3), none] [] := by
  unfold f_X1_ask at h
  refine aw_iconst (v := 0) X dX1_ask_0 (by decide) ?_
  refine aw_istore (L' := [some (.ref (zr Z a0)), some (.int x1), some (.ref (zr Z a2)), some (.int x3), some (.int 0)]) X dX1_ask_1 (by decide) rfl ?_
  obtain ⟨r11, er11, h⟩ := bnd h
  refine aw_msk [true, true, true, true, true] ?_
  refine it_ok (P := fun y : Int32 × Mem => AW Z y.2 3 [some (.ref (zr Z a0)), some (.int x1), some (.ref (zr Z a2)), some (.int x3), some (.int y.1)] []) (Q := fun b : Nat × Int32 × Mem => (b.1 = 0 → AW Z b.2.2 63 [some (.ref (zr Z a0)), some (.int x1), some (.ref (zr Z a2)), some (.int x3), some (.int b.2.1)] []) ∧ (b.1 = 1 → AW Z b.2.2 94 [none, some (.int x1), some (.ref (zr Z a2)), some (.int x3), none] [])) (fun y q hq hi he => so_X1_ask_3 hfr Z X a0 a2 h0 h2 x1 x3 y.1 y.2 q hq hi he) FUEL _ _ er11 ?_
  refine ⟨fun c0 => ?_, fun c1 => ?_⟩
  · rw [if_pos c0] at h
    refine aw_msk [true, true, true, true, true] ?_
    exact jo_X1_ask_63 hfr Z X a0 a2 h0 h2 _ _ _ _ _ hz h
  · rw [if_neg (by rw [c1]; decide)] at h
    refine aw_iload_n X dX1_ask_94 rfl ?_
    by_cases c16 : x1 = 0
    · rw [if_pos c16] at h
      refine aw_lsw (tgt := 120) X dX1_ask_95 (by rw [c16]; decide) ?_
      refine aw_iconst (v := 0) X dX1_ask_120 (by decide) ?_
      refine aw_bipush (v := 20) X dX1_ask_121 (by decide) ?_
      refine aw_aload_n X dX1_ask_123 rfl ?_
      refine aw_getr X dX1_ask_124 fl_RX1_51 h2 (gt_RX0_2 h2) ?_
      refine aw_iload_n X dX1_ask_127 rfl ?_
      obtain ⟨v17, ev17, h⟩ := bnd h
      refine aw_iald X dX1_ask_128 (it_RX0_2 h2) ev17 ?_
      refine aw_isub X dX1_ask_129 ?_
      obtain ⟨r18, er18, h⟩ := bnd h
      refine aw_callS X dX1_ask_130 cv_RX1_47 (ok_X1_bound er18 _ _ _ _ _) (Nat.le_trans (by decide) hfr) (by decide) rfl rfl (Nat.le_of_ble_eq_true rfl) ?_
      cases h
      exact aw_iret X dX1_ask_133 rfl hz.symm
    rw [if_neg c16] at h
    by_cases c19 : x1 = 1
    · rw [if_pos c19] at h
      refine aw_lsw (tgt := 134) X dX1_ask_95 (by rw [c19]; decide) ?_
      refine aw_iconst (v := 1) X dX1_ask_134 (by decide) ?_
      refine aw_bipush (v := 50) X dX1_ask_135 (by decide) ?_
      refine aw_bipush (v := 20) X dX1_ask_137 (by decide) ?_
      refine aw_aload_n X dX1_ask_139 rfl ?_
      refine aw_getr X dX1_ask_140 fl_RX1_51 h2 (gt_RX0_2 h2) ?_
      refine aw_iload_n X dX1_ask_143 rfl ?_
      obtain ⟨v20, ev20, h⟩ := bnd h
      refine aw_iald X dX1_ask_144 (it_RX0_2 h2) ev20 ?_
      refine aw_imul X dX1_ask_145 ?_
      refine aw_iadd X dX1_ask_146 ?_
      obtain ⟨r21, er21, h⟩ := bnd h
      refine aw_callS X dX1_ask_147 cv_RX1_47 (ok_X1_bound er21 _ _ _ _ _) (Nat.le_trans (by decide) hfr) (by decide) rfl rfl (Nat.le_of_ble_eq_true rfl) ?_
      cases h
      exact aw_iret X dX1_ask_150 rfl hz.symm
    rw [if_neg c19] at h
    refine aw_lsw (tgt := 151) X dX1_ask_95 ⟨by decide, by show (95 : Int) + Op.lookupswitch.offset [(0, 25), (1, 39)] 56 _ = 151; rw [lv_osw (k := 0) c16 (by decide), lv_osw (k := 1) c19 (by decide)]; rfl⟩ ?_
    refine aw_iconst (v := 2) X dX1_ask_151 (by decide) ?_
    refine aw_aload_n X dX1_ask_152 rfl ?_
    refine aw_getr X dX1_ask_153 fl_RX1_56 h2 (gt_RX0_3 h2) ?_
    refine aw_iload_n X dX1_ask_156 rfl ?_
    obtain ⟨v22, ev22, h⟩ := bnd h
    refine aw_iald X dX1_ask_157 (it_RX0_3 h2) ev22 ?_
    refine aw_iconst (v := 2) X dX1_ask_158 (by decide) ?_
    refine aw_idiv X dX1_ask_159 (by decide) ?_
    obtain ⟨r23, er23, h⟩ := bnd h
    refine aw_callS X dX1_ask_160 cv_RX1_47 (ok_X1_bound er23 _ _ _ _ _) (Nat.le_trans (by decide) hfr) (by decide) rfl rfl (Nat.le_of_ble_eq_true rfl) ?_
    cases h
    exact aw_iret X dX1_ask_163 rfl hz.symm
set_option maxRecDepth 100000 in
set_option maxHeartbeats 4000000 in
theorem ok_X1_ask {a0 : Nat} {a2 : Nat} (h0 : IO 0 a0 1) (h2 : IO 0 a2 0) {x1 x3 : Int32} {s : Mem} {r : Int32 × Mem} (h : f_X1_ask a0 a2 x1 x3 s = some r) (l : Launch) (D : va_G) (ρ : Nat → Nat) (cA : ClassId × ClassId × ClassId) (τ : AT) : AM l D ρ cA 0 τ yX1_ask cX1_ask 5 (some .int) 3 [.ref (ρ a0), .int x1, .ref (ρ a2), .int x3] (some (.int r.1)) s r.2 := by
  refine AM_of (L := [some (.ref (ρ a0)), some (.int x1), some (.ref (ρ a2)), some (.int x3), none]) (by decide) (by simp [Value.category]) (Nat.le_of_ble_eq_true rfl) (fun j v q => ?_) (fun Z X hρ hz hτ => ?_)
  · exact aL_ok (n := 1) [.ref (ρ a0), .int x1, .ref (ρ a2), .int x3] j v q
  · subst hρ
    subst hτ
    exact w_X1_ask (Nat.le_refl _) Z X a0 a2 h0 h2 x1 x3 s r hz h

theorem dX2_turned_0 : decode cX2_turned 0 = .ok (.iconst 0, 1) := by decide +kernel
theorem dX2_turned_1 : decode cX2_turned 1 = .ok (.istore_n 1, 1) := by decide +kernel
theorem dX2_turned_2 : decode cX2_turned 2 = .ok (.iload_n 0, 1) := by decide +kernel
theorem dX2_turned_3 : decode cX2_turned 3 = .ok (.istore_n 2, 1) := by decide +kernel
theorem dX2_turned_4 : decode cX2_turned 4 = .ok (.iconst 0, 1) := by decide +kernel
theorem dX2_turned_5 : decode cX2_turned 5 = .ok (.istore_n 3, 1) := by decide +kernel
theorem dX2_turned_6 : decode cX2_turned 6 = .ok (.iload_n 3, 1) := by decide +kernel
theorem dX2_turned_7 : decode cX2_turned 7 = .ok (.bipush 6, 2) := by decide +kernel
theorem dX2_turned_9 : decode cX2_turned 9 = .ok (.if_icmp .ge 44, 3) := by decide +kernel
theorem dX2_turned_12 : decode cX2_turned 12 = .ok (.iload_n 2, 1) := by decide +kernel
theorem dX2_turned_13 : decode cX2_turned 13 = .ok (.ifCond .le 40, 3) := by decide +kernel
theorem dX2_turned_16 : decode cX2_turned 16 = .ok (.getstatic 9, 3) := by decide +kernel
theorem dX2_turned_19 : decode cX2_turned 19 = .ok (.iload_n 2, 1) := by decide +kernel
theorem dX2_turned_20 : decode cX2_turned 20 = .ok (.bipush 10, 2) := by decide +kernel
theorem dX2_turned_22 : decode cX2_turned 22 = .ok (.irem, 1) := by decide +kernel
theorem dX2_turned_23 : decode cX2_turned 23 = .ok (.iaload, 1) := by decide +kernel
theorem dX2_turned_24 : decode cX2_turned 24 = .ok (.istore 4, 2) := by decide +kernel
theorem dX2_turned_26 : decode cX2_turned 26 = .ok (.iload 4, 2) := by decide +kernel
theorem dX2_turned_28 : decode cX2_turned 28 = .ok (.iconst (-1), 1) := by decide +kernel
theorem dX2_turned_29 : decode cX2_turned 29 = .ok (.if_icmp .ne 5, 3) := by decide +kernel
theorem dX2_turned_32 : decode cX2_turned 32 = .ok (.iconst (-1), 1) := by decide +kernel
theorem dX2_turned_33 : decode cX2_turned 33 = .ok (.ireturn, 1) := by decide +kernel
theorem dX2_turned_34 : decode cX2_turned 34 = .ok (.iload_n 1, 1) := by decide +kernel
theorem dX2_turned_35 : decode cX2_turned 35 = .ok (.bipush 10, 2) := by decide +kernel
theorem dX2_turned_37 : decode cX2_turned 37 = .ok (.imul, 1) := by decide +kernel
theorem dX2_turned_38 : decode cX2_turned 38 = .ok (.iload 4, 2) := by decide +kernel
theorem dX2_turned_40 : decode cX2_turned 40 = .ok (.iadd, 1) := by decide +kernel
theorem dX2_turned_41 : decode cX2_turned 41 = .ok (.istore_n 1, 1) := by decide +kernel
theorem dX2_turned_42 : decode cX2_turned 42 = .ok (.iload_n 2, 1) := by decide +kernel
theorem dX2_turned_43 : decode cX2_turned 43 = .ok (.bipush 10, 2) := by decide +kernel
theorem dX2_turned_45 : decode cX2_turned 45 = .ok (.idiv, 1) := by decide +kernel
theorem dX2_turned_46 : decode cX2_turned 46 = .ok (.istore_n 2, 1) := by decide +kernel
theorem dX2_turned_47 : decode cX2_turned 47 = .ok (.iinc 3 1, 3) := by decide +kernel
theorem dX2_turned_50 : decode cX2_turned 50 = .ok (.goto (-44), 3) := by decide +kernel
theorem dX2_turned_53 : decode cX2_turned 53 = .ok (.iload_n 1, 1) := by decide +kernel
theorem dX2_turned_54 : decode cX2_turned 54 = .ok (.ireturn, 1) := by decide +kernel
set_option maxRecDepth 100000 in
set_option maxHeartbeats 4000000 in
theorem so_X2_turned_6 {fr : Nat} (hfr : 0 ≤ fr) (Z : AZ) (X : AX Z cX2_turned 5 RX2 (some .int) 0 fr) (x1 : Int32) (x2 : Int32) (x3 : Int32) (s : Mem) (q : (Int32 × Int32 × Int32 × Mem) ⊕ (Nat × Int32 × Mem)) (h : st_X2_turned_6 x1 x2 x3 s = some q) (hi : ∀ y : Int32 × Int32 × Int32 × Mem, q = .inl y → AW Z y.2.2.2 6 [none, some (.int y.1), some (.int y.2.1), some (.int y.2.2.1), none] []) (he : ∀ b : Nat × Int32 × Mem, q = .inr b → (b.1 = 0 → AW Z b.2.2 32 [none, none, none, none, none] []) ∧ (b.1 = 1 → AW Z b.2.2 53 [none, some (.int b.2.1), none, none, none] [])) : AW Z s 6 [none, some (.int x1), some (.int x2), some (.int x3), none] [] := by
  unfold st_X2_turned_6 at h
  refine aw_iload_n X dX2_turned_6 rfl ?_
  refine aw_bipush (v := 6) X dX2_turned_7 (by decide) ?_
  refine aw_icmp_ge (tgt := 53) X dX2_turned_9 (by decide) (fun c1 => ?_) (fun c1 => ?_)
  · rw [if_pos c1] at h
    cases h
    refine aw_msk [false, true, false, false, false] ?_
    exact (he _ rfl).2 rfl
  · rw [if_neg c1] at h
    refine aw_iload_n X dX2_turned_12 rfl ?_
    refine aw_if_le (tgt := 53) X dX2_turned_13 (by decide) (fun c2 => ?_) (fun c2 => ?_)
    · rw [if_pos c2] at h
      cases h
      refine aw_msk [false, true, false, false, false] ?_
      exact (he _ rfl).2 rfl
    · rw [if_neg c2] at h
      refine aw_gets X dX2_turned_16 gs_RX2_9 ?_
      refine aw_iload_n X dX2_turned_19 rfl ?_
      refine aw_bipush (v := 10) X dX2_turned_20 (by decide) ?_
      refine aw_irem X dX2_turned_22 (by decide) ?_
      obtain ⟨v3, ev3, h⟩ := bnd h
      refine aw_tald X dX2_turned_23 ev3 ?_
      refine aw_istore (L' := [none, some (.int x1), some (.int x2), some (.int x3), some (.int v3)]) X dX2_turned_24 (by decide) rfl ?_
      refine aw_iload X dX2_turned_26 rfl ?_
      refine aw_iconst (v := (-1)) X dX2_turned_28 (by decide) ?_
      refine aw_icmp_ne (tgt := 34) X dX2_turned_29 (by decide) (fun c4 => ?_) (fun c4 => ?_)
      · rw [if_neg c4] at h
        refine aw_iload_n X dX2_turned_34 rfl ?_
        refine aw_bipush (v := 10) X dX2_turned_35 (by decide) ?_
        refine aw_imul X dX2_turned_37 ?_
        refine aw_iload X dX2_turned_38 rfl ?_
        refine aw_iadd X dX2_turned_40 ?_
        refine aw_istore_n (L' := [none, some (.int ((x1 * 10) + v3)), some (.int x2), some (.int x3), some (.int v3)]) X dX2_turned_41 (by decide) rfl ?_
        refine aw_iload_n X dX2_turned_42 rfl ?_
        refine aw_bipush (v := 10) X dX2_turned_43 (by decide) ?_
        refine aw_idiv X dX2_turned_45 (by decide) ?_
        refine aw_istore_n (L' := [none, some (.int ((x1 * 10) + v3)), some (.int (x2 / 10)), some (.int x3), some (.int v3)]) X dX2_turned_46 (by decide) rfl ?_
        refine aw_iinc (v := (x3 + 1)) (L' := [none, some (.int ((x1 * 10) + v3)), some (.int (x2 / 10)), some (.int (x3 + 1)), some (.int v3)]) X dX2_turned_47 rfl rfl (by decide) rfl ?_
        refine aw_goto (tgt := 6) X dX2_turned_50 (by decide) ?_
        cases h
        refine aw_msk [false, true, true, true, false] ?_
        exact hi _ rfl
      · rw [if_pos c4] at h
        cases h
        refine aw_msk [false, false, false, false, false] ?_
        exact (he _ rfl).1 rfl
set_option maxRecDepth 100000 in
set_option maxHeartbeats 4000000 in
theorem w_X2_turned {fr : Nat} (hfr : 0 ≤ fr) (Z : AZ) (X : AX Z cX2_turned 5 RX2 (some .int) 0 fr) (x0 : Int32) (s : Mem) (r : Int32 × Mem) (hz : zres Z = (some (.int r.1), r.2)) (h : f_X2_turned x0 s = some r) : AW Z s 0 [some (.int x0), none, none, none, none] [] := by
  unfold f_X2_turned at h
  refine aw_iconst (v := 0) X dX2_turned_0 (by decide) ?_
  refine aw_istore_n (L' := [some (.int x0), some (.int 0), none, none, none]) X dX2_turned_1 (by decide) rfl ?_
  refine aw_iload_n X dX2_turned_2 rfl ?_
  refine aw_istore_n (L' := [some (.int x0), some (.int 0), some (.int x0), none, none]) X dX2_turned_3 (by decide) rfl ?_
  refine aw_iconst (v := 0) X dX2_turned_4 (by decide) ?_
  refine aw_istore_n (L' := [some (.int x0), some (.int 0), some (.int x0), some (.int 0), none]) X dX2_turned_5 (by decide) rfl ?_
  obtain ⟨r5, er5, h⟩ := bnd h
  refine aw_msk [false, true, true, true, false] ?_
  refine it_ok (P := fun y : Int32 × Int32 × Int32 × Mem => AW Z y.2.2.2 6 [none, some (.int y.1), some (.int y.2.1), some (.int y.2.2.1), none] []) (Q := fun b : Nat × Int32 × Mem => (b.1 = 0 → AW Z b.2.2 32 [none, none, none, none, none] []) ∧ (b.1 = 1 → AW Z b.2.2 53 [none, some (.int b.2.1), none, none, none] [])) (fun y q hq hi he => so_X2_turned_6 hfr Z X y.1 y.2.1 y.2.2.1 y.2.2.2 q hq hi he) FUEL _ _ er5 ?_
  refine ⟨fun c0 => ?_, fun c1 => ?_⟩
  · rw [if_pos c0] at h
    refine aw_iconst (v := (-1)) X dX2_turned_32 (by decide) ?_
    cases h
    exact aw_iret X dX2_turned_33 rfl hz.symm
  · rw [if_neg (by rw [c1]; decide)] at h
    refine aw_iload_n X dX2_turned_53 rfl ?_
    cases h
    exact aw_iret X dX2_turned_54 rfl hz.symm
set_option maxRecDepth 100000 in
set_option maxHeartbeats 4000000 in
theorem ok_X2_turned {x0 : Int32} {s : Mem} {r : Int32 × Mem} (h : f_X2_turned x0 s = some r) (l : Launch) (D : va_G) (ρ : Nat → Nat) (cA : ClassId × ClassId × ClassId) (τ : AT) : AM l D ρ cA 0 τ yX2_turned cX2_turned 5 (some .int) 0 [.int x0] (some (.int r.1)) s r.2 := by
  refine AM_of (L := [some (.int x0), none, none, none, none]) (by decide) (by simp [Value.category]) (Nat.le_of_ble_eq_true rfl) (fun j v q => ?_) (fun Z X hρ hz hτ => ?_)
  · exact aL_ok (n := 4) [.int x0] j v q
  · subst hρ
    subst hτ
    exact w_X2_turned (Nat.le_refl _) Z X x0 s r hz h

theorem dX2_mirrored_0 : decode cX2_mirrored 0 = .ok (.iload_n 0, 1) := by decide +kernel
theorem dX2_mirrored_1 : decode cX2_mirrored 1 = .ok (.istore_n 2, 1) := by decide +kernel
theorem dX2_mirrored_2 : decode cX2_mirrored 2 = .ok (.iload_n 1, 1) := by decide +kernel
theorem dX2_mirrored_3 : decode cX2_mirrored 3 = .ok (.ifCond .eq 25, 3) := by decide +kernel
theorem dX2_mirrored_6 : decode cX2_mirrored 6 = .ok (.getstatic 9, 3) := by decide +kernel
theorem dX2_mirrored_9 : decode cX2_mirrored 9 = .ok (.iload_n 0, 1) := by decide +kernel
theorem dX2_mirrored_10 : decode cX2_mirrored 10 = .ok (.bipush 10, 2) := by decide +kernel
theorem dX2_mirrored_12 : decode cX2_mirrored 12 = .ok (.irem, 1) := by decide +kernel
theorem dX2_mirrored_13 : decode cX2_mirrored 13 = .ok (.iaload, 1) := by decide +kernel
theorem dX2_mirrored_14 : decode cX2_mirrored 14 = .ok (.iload_n 0, 1) := by decide +kernel
theorem dX2_mirrored_15 : decode cX2_mirrored 15 = .ok (.bipush 10, 2) := by decide +kernel
theorem dX2_mirrored_17 : decode cX2_mirrored 17 = .ok (.irem, 1) := by decide +kernel
theorem dX2_mirrored_18 : decode cX2_mirrored 18 = .ok (.if_icmp .eq 5, 3) := by decide +kernel
theorem dX2_mirrored_21 : decode cX2_mirrored 21 = .ok (.iconst (-1), 1) := by decide +kernel
theorem dX2_mirrored_22 : decode cX2_mirrored 22 = .ok (.ireturn, 1) := by decide +kernel
theorem dX2_mirrored_23 : decode cX2_mirrored 23 = .ok (.iload_n 0, 1) := by decide +kernel
theorem dX2_mirrored_24 : decode cX2_mirrored 24 = .ok (.bipush 10, 2) := by decide +kernel
theorem dX2_mirrored_26 : decode cX2_mirrored 26 = .ok (.idiv, 1) := by decide +kernel
theorem dX2_mirrored_27 : decode cX2_mirrored 27 = .ok (.istore_n 2, 1) := by decide +kernel
theorem dX2_mirrored_28 : decode cX2_mirrored 28 = .ok (.iload_n 0, 1) := by decide +kernel
theorem dX2_mirrored_29 : decode cX2_mirrored 29 = .ok (.istore_n 3, 1) := by decide +kernel
theorem dX2_mirrored_30 : decode cX2_mirrored 30 = .ok (.iconst 0, 1) := by decide +kernel
theorem dX2_mirrored_31 : decode cX2_mirrored 31 = .ok (.istore 4, 2) := by decide +kernel
theorem dX2_mirrored_33 : decode cX2_mirrored 33 = .ok (.iload 4, 2) := by decide +kernel
theorem dX2_mirrored_35 : decode cX2_mirrored 35 = .ok (.iconst 3, 1) := by decide +kernel
theorem dX2_mirrored_36 : decode cX2_mirrored 36 = .ok (.if_icmp .ge 44, 3) := by decide +kernel
theorem dX2_mirrored_39 : decode cX2_mirrored 39 = .ok (.iload_n 2, 1) := by decide +kernel
theorem dX2_mirrored_40 : decode cX2_mirrored 40 = .ok (.ifCond .le 40, 3) := by decide +kernel
theorem dX2_mirrored_43 : decode cX2_mirrored 43 = .ok (.getstatic 9, 3) := by decide +kernel
theorem dX2_mirrored_46 : decode cX2_mirrored 46 = .ok (.iload_n 2, 1) := by decide +kernel
theorem dX2_mirrored_47 : decode cX2_mirrored 47 = .ok (.bipush 10, 2) := by decide +kernel
theorem dX2_mirrored_49 : decode cX2_mirrored 49 = .ok (.irem, 1) := by decide +kernel
theorem dX2_mirrored_50 : decode cX2_mirrored 50 = .ok (.iaload, 1) := by decide +kernel
theorem dX2_mirrored_51 : decode cX2_mirrored 51 = .ok (.istore 5, 2) := by decide +kernel
theorem dX2_mirrored_53 : decode cX2_mirrored 53 = .ok (.iload 5, 2) := by decide +kernel
theorem dX2_mirrored_55 : decode cX2_mirrored 55 = .ok (.iconst (-1), 1) := by decide +kernel
theorem dX2_mirrored_56 : decode cX2_mirrored 56 = .ok (.if_icmp .ne 5, 3) := by decide +kernel
theorem dX2_mirrored_59 : decode cX2_mirrored 59 = .ok (.iconst (-1), 1) := by decide +kernel
theorem dX2_mirrored_60 : decode cX2_mirrored 60 = .ok (.ireturn, 1) := by decide +kernel
theorem dX2_mirrored_61 : decode cX2_mirrored 61 = .ok (.iload_n 3, 1) := by decide +kernel
theorem dX2_mirrored_62 : decode cX2_mirrored 62 = .ok (.bipush 10, 2) := by decide +kernel
theorem dX2_mirrored_64 : decode cX2_mirrored 64 = .ok (.imul, 1) := by decide +kernel
theorem dX2_mirrored_65 : decode cX2_mirrored 65 = .ok (.iload 5, 2) := by decide +kernel
theorem dX2_mirrored_67 : decode cX2_mirrored 67 = .ok (.iadd, 1) := by decide +kernel
theorem dX2_mirrored_68 : decode cX2_mirrored 68 = .ok (.istore_n 3, 1) := by decide +kernel
theorem dX2_mirrored_69 : decode cX2_mirrored 69 = .ok (.iload_n 2, 1) := by decide +kernel
theorem dX2_mirrored_70 : decode cX2_mirrored 70 = .ok (.bipush 10, 2) := by decide +kernel
theorem dX2_mirrored_72 : decode cX2_mirrored 72 = .ok (.idiv, 1) := by decide +kernel
theorem dX2_mirrored_73 : decode cX2_mirrored 73 = .ok (.istore_n 2, 1) := by decide +kernel
theorem dX2_mirrored_74 : decode cX2_mirrored 74 = .ok (.iinc 4 1, 3) := by decide +kernel
theorem dX2_mirrored_77 : decode cX2_mirrored 77 = .ok (.goto (-44), 3) := by decide +kernel
theorem dX2_mirrored_80 : decode cX2_mirrored 80 = .ok (.iload_n 3, 1) := by decide +kernel
theorem dX2_mirrored_81 : decode cX2_mirrored 81 = .ok (.ireturn, 1) := by decide +kernel
set_option maxRecDepth 100000 in
set_option maxHeartbeats 4000000 in
theorem so_X2_mirrored_33 {fr : Nat} (hfr : 0 ≤ fr) (Z : AZ) (X : AX Z cX2_mirrored 6 RX2 (some .int) 0 fr) (x2 : Int32) (x3 : Int32) (x4 : Int32) (s : Mem) (q : (Int32 × Int32 × Int32 × Mem) ⊕ (Nat × Int32 × Mem)) (h : st_X2_mirrored_33 x2 x3 x4 s = some q) (hi : ∀ y : Int32 × Int32 × Int32 × Mem, q = .inl y → AW Z y.2.2.2 33 [none, none, some (.int y.1), some (.int y.2.1), some (.int y.2.2.1), none] []) (he : ∀ b : Nat × Int32 × Mem, q = .inr b → (b.1 = 0 → AW Z b.2.2 59 [none, none, none, none, none, none] []) ∧ (b.1 = 1 → AW Z b.2.2 80 [none, none, none, some (.int b.2.1), none, none] [])) : AW Z s 33 [none, none, some (.int x2), some (.int x3), some (.int x4), none] [] := by
  unfold st_X2_mirrored_33 at h
  refine aw_iload X dX2_mirrored_33 rfl ?_
  refine aw_iconst (v := 3) X dX2_mirrored_35 (by decide) ?_
  refine aw_icmp_ge (tgt := 80) X dX2_mirrored_36 (by decide) (fun c2 => ?_) (fun c2 => ?_)
  · rw [if_pos c2] at h
    cases h
    refine aw_msk [false, false, false, true, false, false] ?_
    exact (he _ rfl).2 rfl
  · rw [if_neg c2] at h
    refine aw_iload_n X dX2_mirrored_39 rfl ?_
    refine aw_if_le (tgt := 80) X dX2_mirrored_40 (by decide) (fun c3 => ?_) (fun c3 => ?_)
    · rw [if_pos c3] at h
      cases h
      refine aw_msk [false, false, false, true, false, false] ?_
      exact (he _ rfl).2 rfl
    · rw [if_neg c3] at h
      refine aw_gets X dX2_mirrored_43 gs_RX2_9 ?_
      refine aw_iload_n X dX2_mirrored_46 rfl ?_
      refine aw_bipush (v := 10) X dX2_mirrored_47 (by decide) ?_
      refine aw_irem X dX2_mirrored_49 (by decide) ?_
      obtain ⟨v4, ev4, h⟩ := bnd h
      refine aw_tald X dX2_mirrored_50 ev4 ?_
      refine aw_istore (L' := [none, none, some (.int x2), some (.int x3), some (.int x4), some (.int v4)]) X dX2_mirrored_51 (by decide) rfl ?_
      refine aw_iload X dX2_mirrored_53 rfl ?_
      refine aw_iconst (v := (-1)) X dX2_mirrored_55 (by decide) ?_
      refine aw_icmp_ne (tgt := 61) X dX2_mirrored_56 (by decide) (fun c5 => ?_) (fun c5 => ?_)
      · rw [if_neg c5] at h
        refine aw_iload_n X dX2_mirrored_61 rfl ?_
        refine aw_bipush (v := 10) X dX2_mirrored_62 (by decide) ?_
        refine aw_imul X dX2_mirrored_64 ?_
        refine aw_iload X dX2_mirrored_65 rfl ?_
        refine aw_iadd X dX2_mirrored_67 ?_
        refine aw_istore_n (L' := [none, none, some (.int x2), some (.int ((x3 * 10) + v4)), some (.int x4), some (.int v4)]) X dX2_mirrored_68 (by decide) rfl ?_
        refine aw_iload_n X dX2_mirrored_69 rfl ?_
        refine aw_bipush (v := 10) X dX2_mirrored_70 (by decide) ?_
        refine aw_idiv X dX2_mirrored_72 (by decide) ?_
        refine aw_istore_n (L' := [none, none, some (.int (x2 / 10)), some (.int ((x3 * 10) + v4)), some (.int x4), some (.int v4)]) X dX2_mirrored_73 (by decide) rfl ?_
        refine aw_iinc (v := (x4 + 1)) (L' := [none, none, some (.int (x2 / 10)), some (.int ((x3 * 10) + v4)), some (.int (x4 + 1)), some (.int v4)]) X dX2_mirrored_74 rfl rfl (by decide) rfl ?_
        refine aw_goto (tgt := 33) X dX2_mirrored_77 (by decide) ?_
        cases h
        refine aw_msk [false, false, true, true, true, false] ?_
        exact hi _ rfl
      · rw [if_pos c5] at h
        cases h
        refine aw_msk [false, false, false, false, false, false] ?_
        exact (he _ rfl).1 rfl
set_option maxRecDepth 100000 in
set_option maxHeartbeats 4000000 in
theorem jo_X2_mirrored_28 {fr : Nat} (hfr : 0 ≤ fr) (Z : AZ) (X : AX Z cX2_mirrored 6 RX2 (some .int) 0 fr) (x0 : Int32) (x2 : Int32) (s : Mem) (r : Int32 × Mem) (hz : zres Z = (some (.int r.1), r.2)) (h : jn_X2_mirrored_28 x0 x2 s = some r) : AW Z s 28 [some (.int x0), none, some (.int x2), none, none, none] [] := by
  unfold jn_X2_mirrored_28 at h
  refine aw_iload_n X dX2_mirrored_28 rfl ?_
  refine aw_istore_n (L' := [some (.int x0), none, some (.int x2), some (.int x0), none, none]) X dX2_mirrored_29 (by decide) rfl ?_
  refine aw_iconst (v := 0) X dX2_mirrored_30 (by decide) ?_
  refine aw_istore (L' := [some (.int x0), none, some (.int x2), some (.int x0), some (.int 0), none]) X dX2_mirrored_31 (by decide) rfl ?_
  obtain ⟨r6, er6, h⟩ := bnd h
  refine aw_msk [false, false, true, true, true, false] ?_
  refine it_ok (P := fun y : Int32 × Int32 × Int32 × Mem => AW Z y.2.2.2 33 [none, none, some (.int y.1), some (.int y.2.1), some (.int y.2.2.1), none] []) (Q := fun b : Nat × Int32 × Mem => (b.1 = 0 → AW Z b.2.2 59 [none, none, none, none, none, none] []) ∧ (b.1 = 1 → AW Z b.2.2 80 [none, none, none, some (.int b.2.1), none, none] [])) (fun y q hq hi he => so_X2_mirrored_33 hfr Z X y.1 y.2.1 y.2.2.1 y.2.2.2 q hq hi he) FUEL _ _ er6 ?_
  refine ⟨fun c0 => ?_, fun c1 => ?_⟩
  · rw [if_pos c0] at h
    refine aw_iconst (v := (-1)) X dX2_mirrored_59 (by decide) ?_
    cases h
    exact aw_iret X dX2_mirrored_60 rfl hz.symm
  · rw [if_neg (by rw [c1]; decide)] at h
    refine aw_iload_n X dX2_mirrored_80 rfl ?_
    cases h
    exact aw_iret X dX2_mirrored_81 rfl hz.symm
set_option maxRecDepth 100000 in
set_option maxHeartbeats 4000000 in
theorem w_X2_mirrored {fr : Nat} (hfr : 0 ≤ fr) (Z : AZ) (X : AX Z cX2_mirrored 6 RX2 (some .int) 0 fr) (x0 : Int32) (x1 : Int32) (s : Mem) (r : Int32 × Mem) (hz : zres Z = (some (.int r.1), r.2)) (h : f_X2_mirrored x0 x1 s = some r) : AW Z s 0 [some (.int x0), some (.int x1), none, none, none, none] [] := by
  unfold f_X2_mirrored at h
  refine aw_iload_n X dX2_mirrored_0 rfl ?_
  refine aw_istore_n (L' := [some (.int x0), some (.int x1), some (.int x0), none, none, none]) X dX2_mirrored_1 (by decide) rfl ?_
  refine aw_iload_n X dX2_mirrored_2 rfl ?_
  refine aw_if_eq (tgt := 28) X dX2_mirrored_3 (by decide) (fun c1 => ?_) (fun c1 => ?_)
  · rw [if_pos c1] at h
    refine aw_msk [true, false, true, false, false, false] ?_
    exact jo_X2_mirrored_28 hfr Z X _ _ _ _ hz h
  · rw [if_neg c1] at h
    refine aw_gets X dX2_mirrored_6 gs_RX2_9 ?_
    refine aw_iload_n X dX2_mirrored_9 rfl ?_
    refine aw_bipush (v := 10) X dX2_mirrored_10 (by decide) ?_
    refine aw_irem X dX2_mirrored_12 (by decide) ?_
    obtain ⟨v7, ev7, h⟩ := bnd h
    refine aw_tald X dX2_mirrored_13 ev7 ?_
    refine aw_iload_n X dX2_mirrored_14 rfl ?_
    refine aw_bipush (v := 10) X dX2_mirrored_15 (by decide) ?_
    refine aw_irem X dX2_mirrored_17 (by decide) ?_
    refine aw_icmp_eq (tgt := 23) X dX2_mirrored_18 (by decide) (fun c8 => ?_) (fun c8 => ?_)
    · rw [if_pos c8] at h
      refine aw_iload_n X dX2_mirrored_23 rfl ?_
      refine aw_bipush (v := 10) X dX2_mirrored_24 (by decide) ?_
      refine aw_idiv X dX2_mirrored_26 (by decide) ?_
      refine aw_istore_n (L' := [some (.int x0), some (.int x1), some (.int (x0 / 10)), none, none, none]) X dX2_mirrored_27 (by decide) rfl ?_
      refine aw_msk [true, false, true, false, false, false] ?_
      exact jo_X2_mirrored_28 hfr Z X _ _ _ _ hz h
    · rw [if_neg c8] at h
      refine aw_iconst (v := (-1)) X dX2_mirrored_21 (by decide) ?_
      cases h
      exact aw_iret X dX2_mirrored_22 rfl hz.symm
set_option maxRecDepth 100000 in
set_option maxHeartbeats 4000000 in
theorem ok_X2_mirrored {x0 x1 : Int32} {s : Mem} {r : Int32 × Mem} (h : f_X2_mirrored x0 x1 s = some r) (l : Launch) (D : va_G) (ρ : Nat → Nat) (cA : ClassId × ClassId × ClassId) (τ : AT) : AM l D ρ cA 0 τ yX2_mirrored cX2_mirrored 6 (some .int) 0 [.int x0, .int x1] (some (.int r.1)) s r.2 := by
  refine AM_of (L := [some (.int x0), some (.int x1), none, none, none, none]) (by decide) (by simp [Value.category]) (Nat.le_of_ble_eq_true rfl) (fun j v q => ?_) (fun Z X hρ hz hτ => ?_)
  · exact aL_ok (n := 4) [.int x0, .int x1] j v q
  · subst hρ
    subst hτ
    exact w_X2_mirrored (Nat.le_refl _) Z X x0 x1 s r hz h

theorem dX2_evenTurnedAbove_0 : decode cX2_evenTurnedAbove 0 = .ok (.iconst (-1), 1) := by decide +kernel
theorem dX2_evenTurnedAbove_1 : decode cX2_evenTurnedAbove 1 = .ok (.istore_n 1, 1) := by decide +kernel
theorem dX2_evenTurnedAbove_2 : decode cX2_evenTurnedAbove 2 = .ok (.iconst 0, 1) := by decide +kernel
theorem dX2_evenTurnedAbove_3 : decode cX2_evenTurnedAbove 3 = .ok (.istore_n 2, 1) := by decide +kernel
theorem dX2_evenTurnedAbove_4 : decode cX2_evenTurnedAbove 4 = .ok (.iload_n 2, 1) := by decide +kernel
theorem dX2_evenTurnedAbove_5 : decode cX2_evenTurnedAbove 5 = .ok (.sipush 1000, 3) := by decide +kernel
theorem dX2_evenTurnedAbove_8 : decode cX2_evenTurnedAbove 8 = .ok (.if_icmp .ge 59, 3) := by decide +kernel
theorem dX2_evenTurnedAbove_11 : decode cX2_evenTurnedAbove 11 = .ok (.iload_n 2, 1) := by decide +kernel
theorem dX2_evenTurnedAbove_12 : decode cX2_evenTurnedAbove 12 = .ok (.iconst 1, 1) := by decide +kernel
theorem dX2_evenTurnedAbove_13 : decode cX2_evenTurnedAbove 13 = .ok (.invokestatic 15, 3) := by decide +kernel
theorem dX2_evenTurnedAbove_16 : decode cX2_evenTurnedAbove 16 = .ok (.istore_n 3, 1) := by decide +kernel
theorem dX2_evenTurnedAbove_17 : decode cX2_evenTurnedAbove 17 = .ok (.iload_n 3, 1) := by decide +kernel
theorem dX2_evenTurnedAbove_18 : decode cX2_evenTurnedAbove 18 = .ok (.iload_n 0, 1) := by decide +kernel
theorem dX2_evenTurnedAbove_19 : decode cX2_evenTurnedAbove 19 = .ok (.if_icmp .le 15, 3) := by decide +kernel
theorem dX2_evenTurnedAbove_22 : decode cX2_evenTurnedAbove 22 = .ok (.iload_n 1, 1) := by decide +kernel
theorem dX2_evenTurnedAbove_23 : decode cX2_evenTurnedAbove 23 = .ok (.iconst (-1), 1) := by decide +kernel
theorem dX2_evenTurnedAbove_24 : decode cX2_evenTurnedAbove 24 = .ok (.if_icmp .eq 8, 3) := by decide +kernel
theorem dX2_evenTurnedAbove_27 : decode cX2_evenTurnedAbove 27 = .ok (.iload_n 3, 1) := by decide +kernel
theorem dX2_evenTurnedAbove_28 : decode cX2_evenTurnedAbove 28 = .ok (.iload_n 1, 1) := by decide +kernel
theorem dX2_evenTurnedAbove_29 : decode cX2_evenTurnedAbove 29 = .ok (.if_icmp .ge 5, 3) := by decide +kernel
theorem dX2_evenTurnedAbove_32 : decode cX2_evenTurnedAbove 32 = .ok (.iload_n 3, 1) := by decide +kernel
theorem dX2_evenTurnedAbove_33 : decode cX2_evenTurnedAbove 33 = .ok (.istore_n 1, 1) := by decide +kernel
theorem dX2_evenTurnedAbove_34 : decode cX2_evenTurnedAbove 34 = .ok (.iload_n 2, 1) := by decide +kernel
theorem dX2_evenTurnedAbove_35 : decode cX2_evenTurnedAbove 35 = .ok (.iconst 0, 1) := by decide +kernel
theorem dX2_evenTurnedAbove_36 : decode cX2_evenTurnedAbove 36 = .ok (.invokestatic 15, 3) := by decide +kernel
theorem dX2_evenTurnedAbove_39 : decode cX2_evenTurnedAbove 39 = .ok (.istore 4, 2) := by decide +kernel
theorem dX2_evenTurnedAbove_41 : decode cX2_evenTurnedAbove 41 = .ok (.iload 4, 2) := by decide +kernel
theorem dX2_evenTurnedAbove_43 : decode cX2_evenTurnedAbove 43 = .ok (.iload_n 0, 1) := by decide +kernel
theorem dX2_evenTurnedAbove_44 : decode cX2_evenTurnedAbove 44 = .ok (.if_icmp .le 17, 3) := by decide +kernel
theorem dX2_evenTurnedAbove_47 : decode cX2_evenTurnedAbove 47 = .ok (.iload_n 1, 1) := by decide +kernel
theorem dX2_evenTurnedAbove_48 : decode cX2_evenTurnedAbove 48 = .ok (.iconst (-1), 1) := by decide +kernel
theorem dX2_evenTurnedAbove_49 : decode cX2_evenTurnedAbove 49 = .ok (.if_icmp .eq 9, 3) := by decide +kernel
theorem dX2_evenTurnedAbove_52 : decode cX2_evenTurnedAbove 52 = .ok (.iload 4, 2) := by decide +kernel
theorem dX2_evenTurnedAbove_54 : decode cX2_evenTurnedAbove 54 = .ok (.iload_n 1, 1) := by decide +kernel
theorem dX2_evenTurnedAbove_55 : decode cX2_evenTurnedAbove 55 = .ok (.if_icmp .ge 6, 3) := by decide +kernel
theorem dX2_evenTurnedAbove_58 : decode cX2_evenTurnedAbove 58 = .ok (.iload 4, 2) := by decide +kernel
theorem dX2_evenTurnedAbove_60 : decode cX2_evenTurnedAbove 60 = .ok (.istore_n 1, 1) := by decide +kernel
theorem dX2_evenTurnedAbove_61 : decode cX2_evenTurnedAbove 61 = .ok (.iinc 2 1, 3) := by decide +kernel
theorem dX2_evenTurnedAbove_64 : decode cX2_evenTurnedAbove 64 = .ok (.goto (-60), 3) := by decide +kernel
theorem dX2_evenTurnedAbove_67 : decode cX2_evenTurnedAbove 67 = .ok (.iload_n 1, 1) := by decide +kernel
theorem dX2_evenTurnedAbove_68 : decode cX2_evenTurnedAbove 68 = .ok (.ireturn, 1) := by decide +kernel
set_option maxRecDepth 100000 in
set_option maxHeartbeats 4000000 in
theorem jo_X2_evenTurnedAbove_34 {fr : Nat} (hfr : 1 ≤ fr) (Z : AZ) (X : AX Z cX2_evenTurnedAbove 5 RX2 (some .int) 0 fr) (x0 : Int32) (x1 : Int32) (x2 : Int32) (s : Mem) (q : (Int32 × Int32 × Mem) ⊕ (Int32 × Mem)) (h : jn_X2_evenTurnedAbove_34 x0 x1 x2 s = some q) (hi : ∀ y : Int32 × Int32 × Mem, q = .inl y → AW Z y.2.2 4 [some (.int x0), some (.int y.1), some (.int y.2.1), none, none] []) (he : ∀ b : Int32 × Mem, q = .inr b → AW Z b.2 67 [none, some (.int b.1), none, none, none] []) : AW Z s 34 [some (.int x0), some (.int x1), some (.int x2), none, none] [] := by
  unfold jn_X2_evenTurnedAbove_34 at h
  refine aw_iload_n X dX2_evenTurnedAbove_34 rfl ?_
  refine aw_iconst (v := 0) X dX2_evenTurnedAbove_35 (by decide) ?_
  obtain ⟨r4, er4, h⟩ := bnd h
  refine aw_callS X dX2_evenTurnedAbove_36 cv_RX2_15 (ok_X2_mirrored er4 _ _ _ _ _) (Nat.le_trans (by decide) hfr) (by decide) rfl rfl (Nat.le_of_ble_eq_true rfl) ?_
  refine aw_istore (L' := [some (.int x0), some (.int x1), some (.int x2), none, some (.int r4.1)]) X dX2_evenTurnedAbove_39 (by decide) rfl ?_
  refine aw_iload X dX2_evenTurnedAbove_41 rfl ?_
  refine aw_iload_n X dX2_evenTurnedAbove_43 rfl ?_
  refine aw_icmp_le (tgt := 61) X dX2_evenTurnedAbove_44 (by decide) (fun c5 => ?_) (fun c5 => ?_)
  · rw [if_pos c5] at h
    refine aw_iinc (v := (x2 + 1)) (L' := [some (.int x0), some (.int x1), some (.int (x2 + 1)), none, some (.int r4.1)]) X dX2_evenTurnedAbove_61 rfl rfl (by decide) rfl ?_
    refine aw_goto (tgt := 4) X dX2_evenTurnedAbove_64 (by decide) ?_
    cases h
    refine aw_msk [true, true, true, false, false] ?_
    exact hi _ rfl
  · rw [if_neg c5] at h
    refine aw_iload_n X dX2_evenTurnedAbove_47 rfl ?_
    refine aw_iconst (v := (-1)) X dX2_evenTurnedAbove_48 (by decide) ?_
    refine aw_icmp_eq (tgt := 58) X dX2_evenTurnedAbove_49 (by decide) (fun c6 => ?_) (fun c6 => ?_)
    · rw [if_pos c6] at h
      refine aw_iload X dX2_evenTurnedAbove_58 rfl ?_
      refine aw_istore_n (L' := [some (.int x0), some (.int r4.1), some (.int x2), none, some (.int r4.1)]) X dX2_evenTurnedAbove_60 (by decide) rfl ?_
      refine aw_iinc (v := (x2 + 1)) (L' := [some (.int x0), some (.int r4.1), some (.int (x2 + 1)), none, some (.int r4.1)]) X dX2_evenTurnedAbove_61 rfl rfl (by decide) rfl ?_
      refine aw_goto (tgt := 4) X dX2_evenTurnedAbove_64 (by decide) ?_
      cases h
      refine aw_msk [true, true, true, false, false] ?_
      exact hi _ rfl
    · rw [if_neg c6] at h
      refine aw_iload X dX2_evenTurnedAbove_52 rfl ?_
      refine aw_iload_n X dX2_evenTurnedAbove_54 rfl ?_
      refine aw_icmp_ge (tgt := 61) X dX2_evenTurnedAbove_55 (by decide) (fun c7 => ?_) (fun c7 => ?_)
      · rw [if_pos c7] at h
        refine aw_iinc (v := (x2 + 1)) (L' := [some (.int x0), some (.int x1), some (.int (x2 + 1)), none, some (.int r4.1)]) X dX2_evenTurnedAbove_61 rfl rfl (by decide) rfl ?_
        refine aw_goto (tgt := 4) X dX2_evenTurnedAbove_64 (by decide) ?_
        cases h
        refine aw_msk [true, true, true, false, false] ?_
        exact hi _ rfl
      · rw [if_neg c7] at h
        refine aw_iload X dX2_evenTurnedAbove_58 rfl ?_
        refine aw_istore_n (L' := [some (.int x0), some (.int r4.1), some (.int x2), none, some (.int r4.1)]) X dX2_evenTurnedAbove_60 (by decide) rfl ?_
        refine aw_iinc (v := (x2 + 1)) (L' := [some (.int x0), some (.int r4.1), some (.int (x2 + 1)), none, some (.int r4.1)]) X dX2_evenTurnedAbove_61 rfl rfl (by decide) rfl ?_
        refine aw_goto (tgt := 4) X dX2_evenTurnedAbove_64 (by decide) ?_
        cases h
        refine aw_msk [true, true, true, false, false] ?_
        exact hi _ rfl
set_option maxRecDepth 100000 in
set_option maxHeartbeats 4000000 in
theorem jo_X2_evenTurnedAbove_32 {fr : Nat} (hfr : 1 ≤ fr) (Z : AZ) (X : AX Z cX2_evenTurnedAbove 5 RX2 (some .int) 0 fr) (x0 : Int32) (x2 : Int32) (x3 : Int32) (s : Mem) (q : (Int32 × Int32 × Mem) ⊕ (Int32 × Mem)) (h : jn_X2_evenTurnedAbove_32 x0 x2 x3 s = some q) (hi : ∀ y : Int32 × Int32 × Mem, q = .inl y → AW Z y.2.2 4 [some (.int x0), some (.int y.1), some (.int y.2.1), none, none] []) (he : ∀ b : Int32 × Mem, q = .inr b → AW Z b.2 67 [none, some (.int b.1), none, none, none] []) : AW Z s 32 [some (.int x0), none, some (.int x2), some (.int x3), none] [] := by
  unfold jn_X2_evenTurnedAbove_32 at h
  refine aw_iload_n X dX2_evenTurnedAbove_32 rfl ?_
  refine aw_istore_n (L' := [some (.int x0), some (.int x3), some (.int x2), some (.int x3), none]) X dX2_evenTurnedAbove_33 (by decide) rfl ?_
  refine aw_msk [true, true, true, false, false] ?_
  exact jo_X2_evenTurnedAbove_34 hfr Z X _ _ _ _ _ h hi he
set_option maxRecDepth 100000 in
set_option maxHeartbeats 4000000 in
theorem so_X2_evenTurnedAbove_4 {fr : Nat} (hfr : 1 ≤ fr) (Z : AZ) (X : AX Z cX2_evenTurnedAbove 5 RX2 (some .int) 0 fr) (x0 : Int32) (x1 : Int32) (x2 : Int32) (s : Mem) (q : (Int32 × Int32 × Mem) ⊕ (Int32 × Mem)) (h : st_X2_evenTurnedAbove_4 x0 x1 x2 s = some q) (hi : ∀ y : Int32 × Int32 × Mem, q = .inl y → AW Z y.2.2 4 [some (.int x0), some (.int y.1), some (.int y.2.1), none, none] []) (he : ∀ b : Int32 × Mem, q = .inr b → AW Z b.2 67 [none, some (.int b.1), none, none, none] []) : AW Z s 4 [some (.int x0), some (.int x1), some (.int x2), none, none] [] := by
  unfold st_X2_evenTurnedAbove_4 at h
  refine aw_iload_n X dX2_evenTurnedAbove_4 rfl ?_
  refine aw_sipush (v := 1000) X dX2_evenTurnedAbove_5 (by decide) ?_
  refine aw_icmp_ge (tgt := 67) X dX2_evenTurnedAbove_8 (by decide) (fun c1 => ?_) (fun c1 => ?_)
  · rw [if_pos c1] at h
    cases h
    refine aw_msk [false, true, false, false, false] ?_
    exact he _ rfl
  · rw [if_neg c1] at h
    refine aw_iload_n X dX2_evenTurnedAbove_11 rfl ?_
    refine aw_iconst (v := 1) X dX2_evenTurnedAbove_12 (by decide) ?_
    obtain ⟨r2, er2, h⟩ := bnd h
    refine aw_callS X dX2_evenTurnedAbove_13 cv_RX2_15 (ok_X2_mirrored er2 _ _ _ _ _) (Nat.le_trans (by decide) hfr) (by decide) rfl rfl (Nat.le_of_ble_eq_true rfl) ?_
    refine aw_istore_n (L' := [some (.int x0), some (.int x1), some (.int x2), some (.int r2.1), none]) X dX2_evenTurnedAbove_16 (by decide) rfl ?_
    refine aw_iload_n X dX2_evenTurnedAbove_17 rfl ?_
    refine aw_iload_n X dX2_evenTurnedAbove_18 rfl ?_
    refine aw_icmp_le (tgt := 34) X dX2_evenTurnedAbove_19 (by decide) (fun c3 => ?_) (fun c3 => ?_)
    · rw [if_pos c3] at h
      refine aw_msk [true, true, true, false, false] ?_
      exact jo_X2_evenTurnedAbove_34 hfr Z X _ _ _ _ _ h hi he
    · rw [if_neg c3] at h
      refine aw_iload_n X dX2_evenTurnedAbove_22 rfl ?_
      refine aw_iconst (v := (-1)) X dX2_evenTurnedAbove_23 (by decide) ?_
      refine aw_icmp_eq (tgt := 32) X dX2_evenTurnedAbove_24 (by decide) (fun c8 => ?_) (fun c8 => ?_)
      · rw [if_pos c8] at h
        refine aw_msk [true, false, true, true, false] ?_
        exact jo_X2_evenTurnedAbove_32 hfr Z X _ _ _ _ _ h hi he
      · rw [if_neg c8] at h
        refine aw_iload_n X dX2_evenTurnedAbove_27 rfl ?_
        refine aw_iload_n X dX2_evenTurnedAbove_28 rfl ?_
        refine aw_icmp_ge (tgt := 34) X dX2_evenTurnedAbove_29 (by decide) (fun c9 => ?_) (fun c9 => ?_)
        · rw [if_pos c9] at h
          refine aw_msk [true, true, true, false, false] ?_
          exact jo_X2_evenTurnedAbove_34 hfr Z X _ _ _ _ _ h hi he
        · rw [if_neg c9] at h
          refine aw_msk [true, false, true, true, false] ?_
          exact jo_X2_evenTurnedAbove_32 hfr Z X _ _ _ _ _ h hi he
set_option maxRecDepth 100000 in
set_option maxHeartbeats 4000000 in
theorem w_X2_evenTurnedAbove {fr : Nat} (hfr : 1 ≤ fr) (Z : AZ) (X : AX Z cX2_evenTurnedAbove 5 RX2 (some .int) 0 fr) (x0 : Int32) (s : Mem) (r : Int32 × Mem) (hz : zres Z = (some (.int r.1), r.2)) (h : f_X2_evenTurnedAbove x0 s = some r) : AW Z s 0 [some (.int x0), none, none, none, none] [] := by
  unfold f_X2_evenTurnedAbove at h
  refine aw_iconst (v := (-1)) X dX2_evenTurnedAbove_0 (by decide) ?_
  refine aw_istore_n (L' := [some (.int x0), some (.int (-1)), none, none, none]) X dX2_evenTurnedAbove_1 (by decide) rfl ?_
  refine aw_iconst (v := 0) X dX2_evenTurnedAbove_2 (by decide) ?_
  refine aw_istore_n (L' := [some (.int x0), some (.int (-1)), some (.int 0), none, none]) X dX2_evenTurnedAbove_3 (by decide) rfl ?_
  obtain ⟨r10, er10, h⟩ := bnd h
  refine aw_msk [true, true, true, false, false] ?_
  refine it_ok (P := fun y : Int32 × Int32 × Mem => AW Z y.2.2 4 [some (.int x0), some (.int y.1), some (.int y.2.1), none, none] []) (Q := fun b : Int32 × Mem => AW Z b.2 67 [none, some (.int b.1), none, none, none] []) (fun y q hq hi he => so_X2_evenTurnedAbove_4 hfr Z X x0 y.1 y.2.1 y.2.2 q hq hi he) FUEL _ _ er10 ?_
  refine aw_iload_n X dX2_evenTurnedAbove_67 rfl ?_
  cases h
  exact aw_iret X dX2_evenTurnedAbove_68 rfl hz.symm
set_option maxRecDepth 100000 in
set_option maxHeartbeats 4000000 in
theorem ok_X2_evenTurnedAbove {x0 : Int32} {s : Mem} {r : Int32 × Mem} (h : f_X2_evenTurnedAbove x0 s = some r) (l : Launch) (D : va_G) (ρ : Nat → Nat) (cA : ClassId × ClassId × ClassId) (τ : AT) : AM l D ρ cA 0 τ yX2_evenTurnedAbove cX2_evenTurnedAbove 5 (some .int) 1 [.int x0] (some (.int r.1)) s r.2 := by
  refine AM_of (L := [some (.int x0), none, none, none, none]) (by decide) (by simp [Value.category]) (Nat.le_of_ble_eq_true rfl) (fun j v q => ?_) (fun Z X hρ hz hτ => ?_)
  · exact aL_ok (n := 4) [.int x0] j v q
  · subst hρ
    subst hτ
    exact w_X2_evenTurnedAbove (Nat.le_refl _) Z X x0 s r hz h
