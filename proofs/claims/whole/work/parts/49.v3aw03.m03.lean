/-! ===== walks: X5_copyFrom .. X9_growTree ===== -/
theorem dX5_copyFrom_0 : decode cX5_copyFrom 0 = .ok (.aload_n 0, 1) := by decide +kernel
theorem dX5_copyFrom_1 : decode cX5_copyFrom 1 = .ok (.aload_n 1, 1) := by decide +kernel
theorem dX5_copyFrom_2 : decode cX5_copyFrom 2 = .ok (.getfield 9, 3) := by decide +kernel
theorem dX5_copyFrom_5 : decode cX5_copyFrom 5 = .ok (.putfield 9, 3) := by decide +kernel
theorem dX5_copyFrom_8 : decode cX5_copyFrom 8 = .ok (.aload_n 1, 1) := by decide +kernel
theorem dX5_copyFrom_9 : decode cX5_copyFrom 9 = .ok (.getfield 15, 3) := by decide +kernel
theorem dX5_copyFrom_12 : decode cX5_copyFrom 12 = .ok (.iconst 0, 1) := by decide +kernel
theorem dX5_copyFrom_13 : decode cX5_copyFrom 13 = .ok (.aload_n 0, 1) := by decide +kernel
theorem dX5_copyFrom_14 : decode cX5_copyFrom 14 = .ok (.getfield 15, 3) := by decide +kernel
theorem dX5_copyFrom_17 : decode cX5_copyFrom 17 = .ok (.iconst 0, 1) := by decide +kernel
theorem dX5_copyFrom_18 : decode cX5_copyFrom 18 = .ok (.bipush 16, 2) := by decide +kernel
theorem dX5_copyFrom_20 : decode cX5_copyFrom 20 = .ok (.invokestatic 28, 3) := by decide +kernel
theorem dX5_copyFrom_23 : decode cX5_copyFrom 23 = .ok (.aload_n 1, 1) := by decide +kernel
theorem dX5_copyFrom_24 : decode cX5_copyFrom 24 = .ok (.getfield 19, 3) := by decide +kernel
theorem dX5_copyFrom_27 : decode cX5_copyFrom 27 = .ok (.iconst 0, 1) := by decide +kernel
theorem dX5_copyFrom_28 : decode cX5_copyFrom 28 = .ok (.aload_n 0, 1) := by decide +kernel
theorem dX5_copyFrom_29 : decode cX5_copyFrom 29 = .ok (.getfield 19, 3) := by decide +kernel
theorem dX5_copyFrom_32 : decode cX5_copyFrom 32 = .ok (.iconst 0, 1) := by decide +kernel
theorem dX5_copyFrom_33 : decode cX5_copyFrom 33 = .ok (.bipush 16, 2) := by decide +kernel
theorem dX5_copyFrom_35 : decode cX5_copyFrom 35 = .ok (.invokestatic 28, 3) := by decide +kernel
theorem dX5_copyFrom_38 : decode cX5_copyFrom 38 = .ok (.aload_n 1, 1) := by decide +kernel
theorem dX5_copyFrom_39 : decode cX5_copyFrom 39 = .ok (.getfield 22, 3) := by decide +kernel
theorem dX5_copyFrom_42 : decode cX5_copyFrom 42 = .ok (.iconst 0, 1) := by decide +kernel
theorem dX5_copyFrom_43 : decode cX5_copyFrom 43 = .ok (.aload_n 0, 1) := by decide +kernel
theorem dX5_copyFrom_44 : decode cX5_copyFrom 44 = .ok (.getfield 22, 3) := by decide +kernel
theorem dX5_copyFrom_47 : decode cX5_copyFrom 47 = .ok (.iconst 0, 1) := by decide +kernel
theorem dX5_copyFrom_48 : decode cX5_copyFrom 48 = .ok (.bipush 16, 2) := by decide +kernel
theorem dX5_copyFrom_50 : decode cX5_copyFrom 50 = .ok (.invokestatic 28, 3) := by decide +kernel
theorem dX5_copyFrom_53 : decode cX5_copyFrom 53 = .ok (.aload_n 1, 1) := by decide +kernel
theorem dX5_copyFrom_54 : decode cX5_copyFrom 54 = .ok (.getfield 25, 3) := by decide +kernel
theorem dX5_copyFrom_57 : decode cX5_copyFrom 57 = .ok (.iconst 0, 1) := by decide +kernel
theorem dX5_copyFrom_58 : decode cX5_copyFrom 58 = .ok (.aload_n 0, 1) := by decide +kernel
theorem dX5_copyFrom_59 : decode cX5_copyFrom 59 = .ok (.getfield 25, 3) := by decide +kernel
theorem dX5_copyFrom_62 : decode cX5_copyFrom 62 = .ok (.iconst 0, 1) := by decide +kernel
theorem dX5_copyFrom_63 : decode cX5_copyFrom 63 = .ok (.bipush 16, 2) := by decide +kernel
theorem dX5_copyFrom_65 : decode cX5_copyFrom 65 = .ok (.invokestatic 28, 3) := by decide +kernel
theorem dX5_copyFrom_68 : decode cX5_copyFrom 68 = .ok (.return_, 1) := by decide +kernel
set_option maxRecDepth 100000 in
set_option maxHeartbeats 4000000 in
theorem w_X5_copyFrom {fr : Nat} (hfr : 1 ≤ fr) (Z : AZ) (X : AX Z cX5_copyFrom 2 RX5 none 0 fr) (a0 : Nat) (a1 : Nat) (h0 : IO 0 a0 4) (h1 : IO 0 a1 4) (s : Mem) (r : Mem) (hz : zres Z = (none, r)) (h : f_X5_copyFrom a0 a1 s = some r) : AW Z s 0 [some (.ref (zr Z a0)), some (.ref (zr Z a1))] [] := by
  unfold f_X5_copyFrom at h
  refine aw_aload_n X dX5_copyFrom_0 rfl ?_
  refine aw_aload_n X dX5_copyFrom_1 rfl ?_
  refine aw_geti X dX5_copyFrom_2 fl_RX5_9 h1 (gt_RX5_0 h1) ?_
  refine aw_put X dX5_copyFrom_5 fp_RX5_9 h0 (gt_RX5_0 h0) rfl rfl ?_
  refine aw_aload_n X dX5_copyFrom_8 rfl ?_
  refine aw_getr X dX5_copyFrom_9 fl_RX5_15 h1 (gt_RX5_1 h1) ?_
  refine aw_iconst (v := 0) X dX5_copyFrom_12 (by decide) ?_
  refine aw_aload_n X dX5_copyFrom_13 rfl ?_
  refine aw_getr X dX5_copyFrom_14 fl_RX5_15 h0 (gt_RX5_1 h0) ?_
  refine aw_iconst (v := 0) X dX5_copyFrom_17 (by decide) ?_
  refine aw_bipush (v := 16) X dX5_copyFrom_18 (by decide) ?_
  obtain ⟨s1, es1, h⟩ := bnd h
  refine aw_copy X (Nat.le_trans (by decide) hfr) dX5_copyFrom_20 ac_RX5_28 rfl (it_RX5_1 h1) (it_RX5_1 h0) es1 ?_
  refine aw_aload_n X dX5_copyFrom_23 rfl ?_
  refine aw_getr X dX5_copyFrom_24 fl_RX5_19 h1 (gt_RX5_2 h1) ?_
  refine aw_iconst (v := 0) X dX5_copyFrom_27 (by decide) ?_
  refine aw_aload_n X dX5_copyFrom_28 rfl ?_
  refine aw_getr X dX5_copyFrom_29 fl_RX5_19 h0 (gt_RX5_2 h0) ?_
  refine aw_iconst (v := 0) X dX5_copyFrom_32 (by decide) ?_
  refine aw_bipush (v := 16) X dX5_copyFrom_33 (by decide) ?_
  obtain ⟨s2, es2, h⟩ := bnd h
  refine aw_copy X (Nat.le_trans (by decide) hfr) dX5_copyFrom_35 ac_RX5_28 rfl (it_RX5_2 h1) (it_RX5_2 h0) es2 ?_
  refine aw_aload_n X dX5_copyFrom_38 rfl ?_
  refine aw_getr X dX5_copyFrom_39 fl_RX5_22 h1 (gt_RX5_3 h1) ?_
  refine aw_iconst (v := 0) X dX5_copyFrom_42 (by decide) ?_
  refine aw_aload_n X dX5_copyFrom_43 rfl ?_
  refine aw_getr X dX5_copyFrom_44 fl_RX5_22 h0 (gt_RX5_3 h0) ?_
  refine aw_iconst (v := 0) X dX5_copyFrom_47 (by decide) ?_
  refine aw_bipush (v := 16) X dX5_copyFrom_48 (by decide) ?_
  obtain ⟨s3, es3, h⟩ := bnd h
  refine aw_copy X (Nat.le_trans (by decide) hfr) dX5_copyFrom_50 ac_RX5_28 rfl (it_RX5_3 h1) (it_RX5_3 h0) es3 ?_
  refine aw_aload_n X dX5_copyFrom_53 rfl ?_
  refine aw_getr X dX5_copyFrom_54 fl_RX5_25 h1 (gt_RX5_4 h1) ?_
  refine aw_iconst (v := 0) X dX5_copyFrom_57 (by decide) ?_
  refine aw_aload_n X dX5_copyFrom_58 rfl ?_
  refine aw_getr X dX5_copyFrom_59 fl_RX5_25 h0 (gt_RX5_4 h0) ?_
  refine aw_iconst (v := 0) X dX5_copyFrom_62 (by decide) ?_
  refine aw_bipush (v := 16) X dX5_copyFrom_63 (by decide) ?_
  obtain ⟨s4, es4, h⟩ := bnd h
  refine aw_copy X (Nat.le_trans (by decide) hfr) dX5_copyFrom_65 ac_RX5_28 rfl (it_RX5_4 h1) (it_RX5_4 h0) es4 ?_
  cases h
  exact aw_vret X dX5_copyFrom_68 rfl hz.symm
set_option maxRecDepth 100000 in
set_option maxHeartbeats 4000000 in
theorem ok_X5_copyFrom {a0 : Nat} {a1 : Nat} (h0 : IO 0 a0 4) (h1 : IO 0 a1 4) {s : Mem} {r : Mem} (h : f_X5_copyFrom a0 a1 s = some r) (l : Launch) (D : va_G) (ρ : Nat → Nat) (cA : ClassId × ClassId × ClassId) (τ : AT) : AM l D ρ cA 0 τ yX5_copyFrom cX5_copyFrom 2 none 1 [.ref (ρ a0), .ref (ρ a1)] none s r := by
  refine AM_of (L := [some (.ref (ρ a0)), some (.ref (ρ a1))]) (by decide) (by simp [Value.category]) (Nat.le_of_ble_eq_true rfl) (fun j v q => ?_) (fun Z X hρ hz hτ => ?_)
  · exact aL_ok (n := 0) [.ref (ρ a0), .ref (ρ a1)] j v q
  · subst hρ
    subst hτ
    exact w_X5_copyFrom (Nat.le_refl _) Z X a0 a1 h0 h1 s r hz h

theorem dX4_readPlan_0 : decode cX4_readPlan 0 = .ok (.aload_n 0, 1) := by decide +kernel
theorem dX4_readPlan_1 : decode cX4_readPlan 1 = .ok (.getfield 38, 3) := by decide +kernel
theorem dX4_readPlan_4 : decode cX4_readPlan 4 = .ok (.iconst 0, 1) := by decide +kernel
theorem dX4_readPlan_5 : decode cX4_readPlan 5 = .ok (.putfield 76, 3) := by decide +kernel
theorem dX4_readPlan_8 : decode cX4_readPlan 8 = .ok (.iconst 0, 1) := by decide +kernel
theorem dX4_readPlan_9 : decode cX4_readPlan 9 = .ok (.istore_n 3, 1) := by decide +kernel
theorem dX4_readPlan_10 : decode cX4_readPlan 10 = .ok (.iload_n 3, 1) := by decide +kernel
theorem dX4_readPlan_11 : decode cX4_readPlan 11 = .ok (.bipush 16, 2) := by decide +kernel
theorem dX4_readPlan_13 : decode cX4_readPlan 13 = .ok (.if_icmp .gt 46, 3) := by decide +kernel
theorem dX4_readPlan_16 : decode cX4_readPlan 16 = .ok (.aload_n 0, 1) := by decide +kernel
theorem dX4_readPlan_17 : decode cX4_readPlan 17 = .ok (.getfield 12, 3) := by decide +kernel
theorem dX4_readPlan_20 : decode cX4_readPlan 20 = .ok (.getfield 55, 3) := by decide +kernel
theorem dX4_readPlan_23 : decode cX4_readPlan 23 = .ok (.ifCond .eq 36, 3) := by decide +kernel
theorem dX4_readPlan_26 : decode cX4_readPlan 26 = .ok (.aload_n 0, 1) := by decide +kernel
theorem dX4_readPlan_27 : decode cX4_readPlan 27 = .ok (.aload_n 0, 1) := by decide +kernel
theorem dX4_readPlan_28 : decode cX4_readPlan 28 = .ok (.getfield 12, 3) := by decide +kernel
theorem dX4_readPlan_31 : decode cX4_readPlan 31 = .ok (.bipush 15, 2) := by decide +kernel
theorem dX4_readPlan_33 : decode cX4_readPlan 33 = .ok (.invokevirtual 77, 3) := by decide +kernel
theorem dX4_readPlan_36 : decode cX4_readPlan 36 = .ok (.iload_n 3, 1) := by decide +kernel
theorem dX4_readPlan_37 : decode cX4_readPlan 37 = .ok (.invokevirtual 61, 3) := by decide +kernel
theorem dX4_readPlan_40 : decode cX4_readPlan 40 = .ok (.ifCond .eq 11, 3) := by decide +kernel
theorem dX4_readPlan_43 : decode cX4_readPlan 43 = .ok (.aload_n 0, 1) := by decide +kernel
theorem dX4_readPlan_44 : decode cX4_readPlan 44 = .ok (.iload_n 2, 1) := by decide +kernel
theorem dX4_readPlan_45 : decode cX4_readPlan 45 = .ok (.invokevirtual 81, 3) := by decide +kernel
theorem dX4_readPlan_48 : decode cX4_readPlan 48 = .ok (.ifCond .ne 5, 3) := by decide +kernel
theorem dX4_readPlan_51 : decode cX4_readPlan 51 = .ok (.iconst (-1), 1) := by decide +kernel
theorem dX4_readPlan_52 : decode cX4_readPlan 52 = .ok (.ireturn, 1) := by decide +kernel
theorem dX4_readPlan_53 : decode cX4_readPlan 53 = .ok (.iinc 3 1, 3) := by decide +kernel
theorem dX4_readPlan_56 : decode cX4_readPlan 56 = .ok (.goto (-46), 3) := by decide +kernel
theorem dX4_readPlan_59 : decode cX4_readPlan 59 = .ok (.aload_n 1, 1) := by decide +kernel
theorem dX4_readPlan_60 : decode cX4_readPlan 60 = .ok (.aload_n 0, 1) := by decide +kernel
theorem dX4_readPlan_61 : decode cX4_readPlan 61 = .ok (.getfield 38, 3) := by decide +kernel
theorem dX4_readPlan_64 : decode cX4_readPlan 64 = .ok (.invokevirtual 85, 3) := by decide +kernel
theorem dX4_readPlan_67 : decode cX4_readPlan 67 = .ok (.aload_n 0, 1) := by decide +kernel
theorem dX4_readPlan_68 : decode cX4_readPlan 68 = .ok (.getfield 38, 3) := by decide +kernel
theorem dX4_readPlan_71 : decode cX4_readPlan 71 = .ok (.getfield 76, 3) := by decide +kernel
theorem dX4_readPlan_74 : decode cX4_readPlan 74 = .ok (.ireturn, 1) := by decide +kernel
set_option maxRecDepth 100000 in
set_option maxHeartbeats 4000000 in
theorem so_X4_readPlan_10 {fr : Nat} (hfr : 6 ≤ fr) (Z : AZ) (X : AX Z cX4_readPlan 4 RX4 (some .int) 0 fr) (a1 : Nat) (h1 : IO 0 a1 4) (x2 : Int32) (x3 : Int32) (s : Mem) (q : (Int32 × Mem) ⊕ (Nat × Mem)) (h : st_X4_readPlan_10 a1 x2 x3 s = some q) (hi : ∀ y : Int32 × Mem, q = .inl y → AW Z y.2 10 [some (.ref (zr Z 172)), some (.ref (zr Z a1)), some (.int x2), some (.int y.1)] []) (he : ∀ b : Nat × Mem, q = .inr b → (b.1 = 0 → AW Z b.2 51 [none, none, none, none] []) ∧ (b.1 = 1 → AW Z b.2 59 [some (.ref (zr Z 172)), some (.ref (zr Z a1)), none, none] [])) : AW Z s 10 [some (.ref (zr Z 172)), some (.ref (zr Z a1)), some (.int x2), some (.int x3)] [] := by
  unfold st_X4_readPlan_10 at h
  refine aw_iload_n X dX4_readPlan_10 rfl ?_
  refine aw_bipush (v := 16) X dX4_readPlan_11 (by decide) ?_
  refine aw_icmp_gt (tgt := 59) X dX4_readPlan_13 (by decide) (fun c1 => ?_) (fun c1 => ?_)
  · rw [if_pos c1] at h
    cases h
    refine aw_msk [true, true, false, false] ?_
    exact (he _ rfl).2 rfl
  · rw [if_neg c1] at h
    refine aw_aload_n X dX4_readPlan_16 rfl ?_
    refine aw_getr X dX4_readPlan_17 fl_RX4_12 iu_RX4 gu_RX4_0 ?_
    refine aw_geti X dX4_readPlan_20 fl_RX4_55 iu_RX4_0 gu_RX6_1 ?_
    refine aw_if_eq (tgt := 59) X dX4_readPlan_23 (by decide) (fun c2 => ?_) (fun c2 => ?_)
    · rw [if_pos c2] at h
      cases h
      refine aw_msk [true, true, false, false] ?_
      exact (he _ rfl).2 rfl
    · rw [if_neg c2] at h
      refine aw_aload_n X dX4_readPlan_26 rfl ?_
      refine aw_aload_n X dX4_readPlan_27 rfl ?_
      refine aw_getr X dX4_readPlan_28 fl_RX4_12 iu_RX4 gu_RX4_0 ?_
      refine aw_bipush (v := 15) X dX4_readPlan_31 (by decide) ?_
      obtain ⟨r3, er3, h⟩ := bnd h
      refine aw_callV X dX4_readPlan_33 cv_RX4_77 (ok_X6_isWord er3 _ _ _ _ _) iu_RX4_0 rfl (Nat.le_trans (by decide) hfr) (by decide) rfl rfl (Nat.le_of_ble_eq_true rfl) ?_
      refine aw_iload_n X dX4_readPlan_36 rfl ?_
      obtain ⟨r4, er4, h⟩ := bnd h
      refine aw_callV X dX4_readPlan_37 cv_RX4_61 (ok_X4_beginsLine er4 _ _ _ _ _) iu_RX4 rfl (Nat.le_trans (by decide) hfr) (by decide) rfl rfl (Nat.le_of_ble_eq_true rfl) ?_
      refine aw_if_eq (tgt := 51) X dX4_readPlan_40 (by decide) (fun c5 => ?_) (fun c5 => ?_)
      · rw [if_pos c5] at h
        cases h
        refine aw_msk [false, false, false, false] ?_
        exact (he _ rfl).1 rfl
      · rw [if_neg c5] at h
        refine aw_aload_n X dX4_readPlan_43 rfl ?_
        refine aw_iload_n X dX4_readPlan_44 rfl ?_
        obtain ⟨r6, er6, h⟩ := bnd h
        refine aw_callV X dX4_readPlan_45 cv_RX4_81 (ok_X4_readPlanLine er6 _ _ _ _ _) iu_RX4 rfl (Nat.le_trans (by decide) hfr) (by decide) rfl rfl (Nat.le_of_ble_eq_true rfl) ?_
        refine aw_if_ne (tgt := 53) X dX4_readPlan_48 (by decide) (fun c7 => ?_) (fun c7 => ?_)
        · rw [if_neg c7] at h
          refine aw_iinc (v := (x3 + 1)) (L' := [some (.ref (zr Z 172)), some (.ref (zr Z a1)), some (.int x2), some (.int (x3 + 1))]) X dX4_readPlan_53 rfl rfl (by decide) rfl ?_
          refine aw_goto (tgt := 10) X dX4_readPlan_56 (by decide) ?_
          cases h
          refine aw_msk [true, true, true, true] ?_
          exact hi _ rfl
        · rw [if_pos c7] at h
          cases h
          refine aw_msk [false, false, false, false] ?_
          exact (he _ rfl).1 rfl
set_option maxRecDepth 100000 in
set_option maxHeartbeats 4000000 in
theorem jo_X4_readPlan_59 {fr : Nat} (hfr : 6 ≤ fr) (Z : AZ) (X : AX Z cX4_readPlan 4 RX4 (some .int) 0 fr) (a1 : Nat) (h1 : IO 0 a1 4) (s : Mem) (r : Int32 × Mem) (hz : zres Z = (some (.int r.1), r.2)) (h : jn_X4_readPlan_59 a1 s = some r) : AW Z s 59 [some (.ref (zr Z 172)), some (.ref (zr Z a1)), none, none] [] := by
  unfold jn_X4_readPlan_59 at h
  refine aw_aload_n X dX4_readPlan_59 rfl ?_
  refine aw_aload_n X dX4_readPlan_60 rfl ?_
  refine aw_getr X dX4_readPlan_61 fl_RX4_38 iu_RX4 gu_RX4_5 ?_
  obtain ⟨r9, er9, h⟩ := bnd h
  refine aw_callV X dX4_readPlan_64 cv_RX4_85 (ok_X5_copyFrom h1 iu_RX4_5 er9 _ _ _ _ _) h1 rfl (Nat.le_trans (by decide) hfr) (by decide) rfl rfl (Nat.le_of_ble_eq_true rfl) ?_
  refine aw_aload_n X dX4_readPlan_67 rfl ?_
  refine aw_getr X dX4_readPlan_68 fl_RX4_38 iu_RX4 gu_RX4_5 ?_
  refine aw_geti X dX4_readPlan_71 fl_RX4_76 iu_RX4_5 (gt_RX5_0 iu_RX4_5) ?_
  cases h
  exact aw_iret X dX4_readPlan_74 rfl hz.symm
set_option maxRecDepth 100000 in
set_option maxHeartbeats 4000000 in
theorem w_X4_readPlan {fr : Nat} (hfr : 6 ≤ fr) (Z : AZ) (X : AX Z cX4_readPlan 4 RX4 (some .int) 0 fr) (a1 : Nat) (h1 : IO 0 a1 4) (x2 : Int32) (s : Mem) (r : Int32 × Mem) (hz : zres Z = (some (.int r.1), r.2)) (h : f_X4_readPlan a1 x2 s = some r) : AW Z s 0 [some (.ref (zr Z 172)), some (.ref (zr Z a1)), some (.int x2), none] [] := by
  unfold f_X4_readPlan at h
  refine aw_aload_n X dX4_readPlan_0 rfl ?_
  refine aw_getr X dX4_readPlan_1 fl_RX4_38 iu_RX4 gu_RX4_5 ?_
  refine aw_iconst (v := 0) X dX4_readPlan_4 (by decide) ?_
  refine aw_put X dX4_readPlan_5 fp_RX4_76 iu_RX4_5 (gt_RX5_0 iu_RX4_5) rfl rfl ?_
  refine aw_iconst (v := 0) X dX4_readPlan_8 (by decide) ?_
  refine aw_istore_n (L' := [some (.ref (zr Z 172)), some (.ref (zr Z a1)), some (.int x2), some (.int 0)]) X dX4_readPlan_9 (by decide) rfl ?_
  obtain ⟨r8, er8, h⟩ := bnd h
  refine aw_msk [true, true, true, true] ?_
  refine it_ok (P := fun y : Int32 × Mem => AW Z y.2 10 [some (.ref (zr Z 172)), some (.ref (zr Z a1)), some (.int x2), some (.int y.1)] []) (Q := fun b : Nat × Mem => (b.1 = 0 → AW Z b.2 51 [none, none, none, none] []) ∧ (b.1 = 1 → AW Z b.2 59 [some (.ref (zr Z 172)), some (.ref (zr Z a1)), none, none] [])) (fun y q hq hi he => so_X4_readPlan_10 hfr Z X a1 h1 x2 y.1 y.2 q hq hi he) FUEL _ _ er8 ?_
  refine ⟨fun c0 => ?_, fun c1 => ?_⟩
  · rw [if_pos c0] at h
    refine aw_iconst (v := (-1)) X dX4_readPlan_51 (by decide) ?_
    cases h
    exact aw_iret X dX4_readPlan_52 rfl hz.symm
  · rw [if_neg (by rw [c1]; decide)] at h
    refine aw_msk [true, true, false, false] ?_
    exact jo_X4_readPlan_59 hfr Z X a1 h1 _ _ hz h
set_option maxRecDepth 100000 in
set_option maxHeartbeats 4000000 in
theorem ok_X4_readPlan {a1 : Nat} (h1 : IO 0 a1 4) {x2 : Int32} {s : Mem} {r : Int32 × Mem} (h : f_X4_readPlan a1 x2 s = some r) (l : Launch) (D : va_G) (ρ : Nat → Nat) (cA : ClassId × ClassId × ClassId) (τ : AT) : AM l D ρ cA 0 τ yX4_readPlan cX4_readPlan 4 (some .int) 6 [.ref (ρ 172), .ref (ρ a1), .int x2] (some (.int r.1)) s r.2 := by
  refine AM_of (L := [some (.ref (ρ 172)), some (.ref (ρ a1)), some (.int x2), none]) (by decide) (by simp [Value.category]) (Nat.le_of_ble_eq_true rfl) (fun j v q => ?_) (fun Z X hρ hz hτ => ?_)
  · exact aL_ok (n := 1) [.ref (ρ 172), .ref (ρ a1), .int x2] j v q
  · subst hρ
    subst hτ
    exact w_X4_readPlan (Nat.le_refl _) Z X a1 h1 x2 s r hz h

theorem dX4_readOrdersLine_0 : decode cX4_readOrdersLine 0 = .ok (.aload_n 0, 1) := by decide +kernel
theorem dX4_readOrdersLine_1 : decode cX4_readOrdersLine 1 = .ok (.getfield 12, 3) := by decide +kernel
theorem dX4_readOrdersLine_4 : decode cX4_readOrdersLine 4 = .ok (.invokevirtual 98, 3) := by decide +kernel
theorem dX4_readOrdersLine_7 : decode cX4_readOrdersLine 7 = .ok (.aload_n 0, 1) := by decide +kernel
theorem dX4_readOrdersLine_8 : decode cX4_readOrdersLine 8 = .ok (.iconst (-1), 1) := by decide +kernel
theorem dX4_readOrdersLine_9 : decode cX4_readOrdersLine 9 = .ok (.invokevirtual 114, 3) := by decide +kernel
theorem dX4_readOrdersLine_12 : decode cX4_readOrdersLine 12 = .ok (.istore_n 1, 1) := by decide +kernel
theorem dX4_readOrdersLine_13 : decode cX4_readOrdersLine 13 = .ok (.iload_n 1, 1) := by decide +kernel
theorem dX4_readOrdersLine_14 : decode cX4_readOrdersLine 14 = .ok (.iconst (-1), 1) := by decide +kernel
theorem dX4_readOrdersLine_15 : decode cX4_readOrdersLine 15 = .ok (.if_icmp .eq 12, 3) := by decide +kernel
theorem dX4_readOrdersLine_18 : decode cX4_readOrdersLine 18 = .ok (.aload_n 0, 1) := by decide +kernel
theorem dX4_readOrdersLine_19 : decode cX4_readOrdersLine 19 = .ok (.bipush 22, 2) := by decide +kernel
theorem dX4_readOrdersLine_21 : decode cX4_readOrdersLine 21 = .ok (.invokevirtual 111, 3) := by decide +kernel
theorem dX4_readOrdersLine_24 : decode cX4_readOrdersLine 24 = .ok (.ifCond .ne 5, 3) := by decide +kernel
theorem dX4_readOrdersLine_27 : decode cX4_readOrdersLine 27 = .ok (.iconst 0, 1) := by decide +kernel
theorem dX4_readOrdersLine_28 : decode cX4_readOrdersLine 28 = .ok (.ireturn, 1) := by decide +kernel
theorem dX4_readOrdersLine_29 : decode cX4_readOrdersLine 29 = .ok (.aload_n 0, 1) := by decide +kernel
theorem dX4_readOrdersLine_30 : decode cX4_readOrdersLine 30 = .ok (.getfield 45, 3) := by decide +kernel
theorem dX4_readOrdersLine_33 : decode cX4_readOrdersLine 33 = .ok (.iload_n 1, 1) := by decide +kernel
theorem dX4_readOrdersLine_34 : decode cX4_readOrdersLine 34 = .ok (.invokevirtual 129, 3) := by decide +kernel
theorem dX4_readOrdersLine_37 : decode cX4_readOrdersLine 37 = .ok (.iconst 0, 1) := by decide +kernel
theorem dX4_readOrdersLine_38 : decode cX4_readOrdersLine 38 = .ok (.istore_n 2, 1) := by decide +kernel
theorem dX4_readOrdersLine_39 : decode cX4_readOrdersLine 39 = .ok (.iload_n 2, 1) := by decide +kernel
theorem dX4_readOrdersLine_40 : decode cX4_readOrdersLine 40 = .ok (.ifCond .eq 20, 3) := by decide +kernel
theorem dX4_readOrdersLine_43 : decode cX4_readOrdersLine 43 = .ok (.iload_n 2, 1) := by decide +kernel
theorem dX4_readOrdersLine_44 : decode cX4_readOrdersLine 44 = .ok (.bipush 6, 2) := by decide +kernel
theorem dX4_readOrdersLine_46 : decode cX4_readOrdersLine 46 = .ok (.if_icmp .gt 63, 3) := by decide +kernel
theorem dX4_readOrdersLine_49 : decode cX4_readOrdersLine 49 = .ok (.aload_n 0, 1) := by decide +kernel
theorem dX4_readOrdersLine_50 : decode cX4_readOrdersLine 50 = .ok (.getfield 12, 3) := by decide +kernel
theorem dX4_readOrdersLine_53 : decode cX4_readOrdersLine 53 = .ok (.getfield 55, 3) := by decide +kernel
theorem dX4_readOrdersLine_56 : decode cX4_readOrdersLine 56 = .ok (.iconst 2, 1) := by decide +kernel
theorem dX4_readOrdersLine_57 : decode cX4_readOrdersLine 57 = .ok (.if_icmp .ne 52, 3) := by decide +kernel
theorem dX4_readOrdersLine_60 : decode cX4_readOrdersLine 60 = .ok (.aload_n 0, 1) := by decide +kernel
theorem dX4_readOrdersLine_61 : decode cX4_readOrdersLine 61 = .ok (.iload_n 1, 1) := by decide +kernel
theorem dX4_readOrdersLine_62 : decode cX4_readOrdersLine 62 = .ok (.invokevirtual 133, 3) := by decide +kernel
theorem dX4_readOrdersLine_65 : decode cX4_readOrdersLine 65 = .ok (.ifCond .ne 5, 3) := by decide +kernel
theorem dX4_readOrdersLine_68 : decode cX4_readOrdersLine 68 = .ok (.iconst 0, 1) := by decide +kernel
theorem dX4_readOrdersLine_69 : decode cX4_readOrdersLine 69 = .ok (.ireturn, 1) := by decide +kernel
theorem dX4_readOrdersLine_70 : decode cX4_readOrdersLine 70 = .ok (.iload_n 2, 1) := by decide +kernel
theorem dX4_readOrdersLine_71 : decode cX4_readOrdersLine 71 = .ok (.bipush 6, 2) := by decide +kernel
theorem dX4_readOrdersLine_73 : decode cX4_readOrdersLine 73 = .ok (.if_icmp .ne 9, 3) := by decide +kernel
theorem dX4_readOrdersLine_76 : decode cX4_readOrdersLine 76 = .ok (.aload_n 0, 1) := by decide +kernel
theorem dX4_readOrdersLine_77 : decode cX4_readOrdersLine 77 = .ok (.iconst 3, 1) := by decide +kernel
theorem dX4_readOrdersLine_78 : decode cX4_readOrdersLine 78 = .ok (.invokevirtual 95, 3) := by decide +kernel
theorem dX4_readOrdersLine_81 : decode cX4_readOrdersLine 81 = .ok (.ireturn, 1) := by decide +kernel
theorem dX4_readOrdersLine_82 : decode cX4_readOrdersLine 82 = .ok (.aload_n 0, 1) := by decide +kernel
theorem dX4_readOrdersLine_83 : decode cX4_readOrdersLine 83 = .ok (.getfield 45, 3) := by decide +kernel
theorem dX4_readOrdersLine_86 : decode cX4_readOrdersLine 86 = .ok (.aload_n 0, 1) := by decide +kernel
theorem dX4_readOrdersLine_87 : decode cX4_readOrdersLine 87 = .ok (.getfield 12, 3) := by decide +kernel
theorem dX4_readOrdersLine_90 : decode cX4_readOrdersLine 90 = .ok (.getfield 58, 3) := by decide +kernel
theorem dX4_readOrdersLine_93 : decode cX4_readOrdersLine 93 = .ok (.invokevirtual 136, 3) := by decide +kernel
theorem dX4_readOrdersLine_96 : decode cX4_readOrdersLine 96 = .ok (.aload_n 0, 1) := by decide +kernel
theorem dX4_readOrdersLine_97 : decode cX4_readOrdersLine 97 = .ok (.getfield 12, 3) := by decide +kernel
theorem dX4_readOrdersLine_100 : decode cX4_readOrdersLine 100 = .ok (.invokevirtual 98, 3) := by decide +kernel
theorem dX4_readOrdersLine_103 : decode cX4_readOrdersLine 103 = .ok (.iinc 2 1, 3) := by decide +kernel
theorem dX4_readOrdersLine_106 : decode cX4_readOrdersLine 106 = .ok (.goto (-67), 3) := by decide +kernel
theorem dX4_readOrdersLine_109 : decode cX4_readOrdersLine 109 = .ok (.aload_n 0, 1) := by decide +kernel
theorem dX4_readOrdersLine_110 : decode cX4_readOrdersLine 110 = .ok (.getfield 45, 3) := by decide +kernel
theorem dX4_readOrdersLine_113 : decode cX4_readOrdersLine 113 = .ok (.invokevirtual 139, 3) := by decide +kernel
theorem dX4_readOrdersLine_116 : decode cX4_readOrdersLine 116 = .ok (.aload_n 0, 1) := by decide +kernel
theorem dX4_readOrdersLine_117 : decode cX4_readOrdersLine 117 = .ok (.bipush 59, 2) := by decide +kernel
theorem dX4_readOrdersLine_119 : decode cX4_readOrdersLine 119 = .ok (.invokevirtual 122, 3) := by decide +kernel
theorem dX4_readOrdersLine_122 : decode cX4_readOrdersLine 122 = .ok (.ireturn, 1) := by decide +kernel
set_option maxRecDepth 100000 in
set_option maxHeartbeats 4000000 in
theorem jo_X4_readOrdersLine_60 {fr : Nat} (hfr : 4 ≤ fr) (Z : AZ) (X : AX Z cX4_readOrdersLine 3 RX4 (some .boolean) 0 fr) (x1 : Int32) (x2 : Int32) (s : Mem) (q : (Int32 × Mem) ⊕ (Nat × Mem)) (h : jn_X4_readOrdersLine_60 x1 x2 s = some q) (hi : ∀ y : Int32 × Mem, q = .inl y → AW Z y.2 39 [some (.ref (zr Z 172)), some (.int x1), some (.int y.1)] []) (he : ∀ b : Nat × Mem, q = .inr b → (b.1 = 0 → AW Z b.2 68 [none, none, none] []) ∧ (b.1 = 1 → AW Z b.2 76 [some (.ref (zr Z 172)), none, none] []) ∧ (b.1 = 2 → AW Z b.2 109 [some (.ref (zr Z 172)), none, none] [])) : AW Z s 60 [some (.ref (zr Z 172)), some (.int x1), some (.int x2)] [] := by
  unfold jn_X4_readOrdersLine_60 at h
  refine aw_aload_n X dX4_readOrdersLine_60 rfl ?_
  refine aw_iload_n X dX4_readOrdersLine_61 rfl ?_
  obtain ⟨r8, er8, h⟩ := bnd h
  refine aw_callV X dX4_readOrdersLine_62 cv_RX4_133 (ok_X4_isPerson er8 _ _ _ _ _) iu_RX4 rfl (Nat.le_trans (by decide) hfr) (by decide) rfl rfl (Nat.le_of_ble_eq_true rfl) ?_
  refine aw_if_ne (tgt := 70) X dX4_readOrdersLine_65 (by decide) (fun c9 => ?_) (fun c9 => ?_)
  · rw [if_neg c9] at h
    refine aw_iload_n X dX4_readOrdersLine_70 rfl ?_
    refine aw_bipush (v := 6) X dX4_readOrdersLine_71 (by decide) ?_
    refine aw_icmp_ne (tgt := 82) X dX4_readOrdersLine_73 (by decide) (fun c10 => ?_) (fun c10 => ?_)
    · rw [if_neg c10] at h
      refine aw_aload_n X dX4_readOrdersLine_82 rfl ?_
      refine aw_getr X dX4_readOrdersLine_83 fl_RX4_45 iu_RX4 gu_RX4_6 ?_
      refine aw_aload_n X dX4_readOrdersLine_86 rfl ?_
      refine aw_getr X dX4_readOrdersLine_87 fl_RX4_12 iu_RX4 gu_RX4_0 ?_
      refine aw_geti X dX4_readOrdersLine_90 fl_RX4_58 iu_RX4_0 gu_RX6_2 ?_
      obtain ⟨r11, er11, h⟩ := bnd h
      refine aw_callV X dX4_readOrdersLine_93 cv_RX4_136 (ok_X3_addName iu_RX4_6 er11 _ _ _ _ _) iu_RX4_6 rfl (Nat.le_trans (by decide) hfr) (by decide) rfl rfl (Nat.le_of_ble_eq_true rfl) ?_
      refine aw_aload_n X dX4_readOrdersLine_96 rfl ?_
      refine aw_getr X dX4_readOrdersLine_97 fl_RX4_12 iu_RX4 gu_RX4_0 ?_
      obtain ⟨r12, er12, h⟩ := bnd h
      refine aw_callV X dX4_readOrdersLine_100 cv_RX4_98 (ok_X6_advance er12 _ _ _ _ _) iu_RX4_0 rfl (Nat.le_trans (by decide) hfr) (by decide) rfl rfl (Nat.le_of_ble_eq_true rfl) ?_
      refine aw_iinc (v := (x2 + 1)) (L' := [some (.ref (zr Z 172)), some (.int x1), some (.int (x2 + 1))]) X dX4_readOrdersLine_103 rfl rfl (by decide) rfl ?_
      refine aw_goto (tgt := 39) X dX4_readOrdersLine_106 (by decide) ?_
      cases h
      refine aw_msk [true, true, true] ?_
      exact hi _ rfl
    · rw [if_pos c10] at h
      cases h
      refine aw_msk [true, false, false] ?_
      exact (he _ rfl).2.1 rfl
  · rw [if_pos c9] at h
    cases h
    refine aw_msk [false, false, false] ?_
    exact (he _ rfl).1 rfl
set_option maxRecDepth 100000 in
set_option maxHeartbeats 4000000 in
theorem so_X4_readOrdersLine_39 {fr : Nat} (hfr : 4 ≤ fr) (Z : AZ) (X : AX Z cX4_readOrdersLine 3 RX4 (some .boolean) 0 fr) (x1 : Int32) (x2 : Int32) (s : Mem) (q : (Int32 × Mem) ⊕ (Nat × Mem)) (h : st_X4_readOrdersLine_39 x1 x2 s = some q) (hi : ∀ y : Int32 × Mem, q = .inl y → AW Z y.2 39 [some (.ref (zr Z 172)), some (.int x1), some (.int y.1)] []) (he : ∀ b : Nat × Mem, q = .inr b → (b.1 = 0 → AW Z b.2 68 [none, none, none] []) ∧ (b.1 = 1 → AW Z b.2 76 [some (.ref (zr Z 172)), none, none] []) ∧ (b.1 = 2 → AW Z b.2 109 [some (.ref (zr Z 172)), none, none] [])) : AW Z s 39 [some (.ref (zr Z 172)), some (.int x1), some (.int x2)] [] := by
  unfold st_X4_readOrdersLine_39 at h
  refine aw_iload_n X dX4_readOrdersLine_39 rfl ?_
  refine aw_if_eq (tgt := 60) X dX4_readOrdersLine_40 (by decide) (fun c7 => ?_) (fun c7 => ?_)
  · rw [if_pos c7] at h
    refine aw_msk [true, true, true] ?_
    exact jo_X4_readOrdersLine_60 hfr Z X _ _ _ _ h hi he
  · rw [if_neg c7] at h
    refine aw_iload_n X dX4_readOrdersLine_43 rfl ?_
    refine aw_bipush (v := 6) X dX4_readOrdersLine_44 (by decide) ?_
    refine aw_icmp_gt (tgt := 109) X dX4_readOrdersLine_46 (by decide) (fun c13 => ?_) (fun c13 => ?_)
    · rw [if_pos c13] at h
      cases h
      refine aw_msk [true, false, false] ?_
      exact (he _ rfl).2.2 rfl
    · rw [if_neg c13] at h
      refine aw_aload_n X dX4_readOrdersLine_49 rfl ?_
      refine aw_getr X dX4_readOrdersLine_50 fl_RX4_12 iu_RX4 gu_RX4_0 ?_
      refine aw_geti X dX4_readOrdersLine_53 fl_RX4_55 iu_RX4_0 gu_RX6_1 ?_
      refine aw_iconst (v := 2) X dX4_readOrdersLine_56 (by decide) ?_
      refine aw_icmp_ne (tgt := 109) X dX4_readOrdersLine_57 (by decide) (fun c14 => ?_) (fun c14 => ?_)
      · rw [if_neg c14] at h
        cases h
        refine aw_msk [true, false, false] ?_
        exact (he _ rfl).2.2 rfl
      · rw [if_pos c14] at h
        refine aw_msk [true, true, true] ?_
        exact jo_X4_readOrdersLine_60 hfr Z X _ _ _ _ h hi he
set_option maxRecDepth 100000 in
set_option maxHeartbeats 4000000 in
theorem jo_X4_readOrdersLine_109 {fr : Nat} (hfr : 4 ≤ fr) (Z : AZ) (X : AX Z cX4_readOrdersLine 3 RX4 (some .boolean) 0 fr) (s : Mem) (r : Int32 × Mem) (hz : zres Z = (some (.int r.1), r.2)) (h : jn_X4_readOrdersLine_109 s = some r) : AW Z s 109 [some (.ref (zr Z 172)), none, none] [] := by
  unfold jn_X4_readOrdersLine_109 at h
  refine aw_aload_n X dX4_readOrdersLine_109 rfl ?_
  refine aw_getr X dX4_readOrdersLine_110 fl_RX4_45 iu_RX4 gu_RX4_6 ?_
  obtain ⟨r18, er18, h⟩ := bnd h
  refine aw_callV X dX4_readOrdersLine_113 cv_RX4_139 (ok_X3_endLine iu_RX4_6 er18 _ _ _ _ _) iu_RX4_6 rfl (Nat.le_trans (by decide) hfr) (by decide) rfl rfl (Nat.le_of_ble_eq_true rfl) ?_
  refine aw_aload_n X dX4_readOrdersLine_116 rfl ?_
  refine aw_bipush (v := 59) X dX4_readOrdersLine_117 (by decide) ?_
  obtain ⟨r19, er19, h⟩ := bnd h
  refine aw_callV X dX4_readOrdersLine_119 cv_RX4_122 (ok_X4_takeSign er19 _ _ _ _ _) iu_RX4 rfl (Nat.le_trans (by decide) hfr) (by decide) rfl rfl (Nat.le_of_ble_eq_true rfl) ?_
  by_cases c20 : ¬ (r19.1 = 0 ∨ r19.1 = 1)
  · rw [if_pos c20] at h
    cases h
  rw [if_neg c20] at h
  cases h
  exact aw_zret X dX4_readOrdersLine_122 rfl (bz_n (Decidable.of_not_not c20)) hz.symm
set_option maxRecDepth 100000 in
set_option maxHeartbeats 4000000 in
theorem w_X4_readOrdersLine {fr : Nat} (hfr : 4 ≤ fr) (Z : AZ) (X : AX Z cX4_readOrdersLine 3 RX4 (some .boolean) 0 fr) (s : Mem) (r : Int32 × Mem) (hz : zres Z = (some (.int r.1), r.2)) (h : f_X4_readOrdersLine s = some r) : AW Z s 0 [some (.ref (zr Z 172)), none, none] [] := by
  unfold f_X4_readOrdersLine at h
  refine aw_aload_n X dX4_readOrdersLine_0 rfl ?_
  refine aw_getr X dX4_readOrdersLine_1 fl_RX4_12 iu_RX4 gu_RX4_0 ?_
  obtain ⟨r1, er1, h⟩ := bnd h
  refine aw_callV X dX4_readOrdersLine_4 cv_RX4_98 (ok_X6_advance er1 _ _ _ _ _) iu_RX4_0 rfl (Nat.le_trans (by decide) hfr) (by decide) rfl rfl (Nat.le_of_ble_eq_true rfl) ?_
  refine aw_aload_n X dX4_readOrdersLine_7 rfl ?_
  refine aw_iconst (v := (-1)) X dX4_readOrdersLine_8 (by decide) ?_
  obtain ⟨r2, er2, h⟩ := bnd h
  refine aw_callV X dX4_readOrdersLine_9 cv_RX4_114 (ok_X4_takePerson er2 _ _ _ _ _) iu_RX4 rfl (Nat.le_trans (by decide) hfr) (by decide) rfl rfl (Nat.le_of_ble_eq_true rfl) ?_
  refine aw_istore_n (L' := [some (.ref (zr Z 172)), some (.int r2.1), none]) X dX4_readOrdersLine_12 (by decide) rfl ?_
  refine aw_iload_n X dX4_readOrdersLine_13 rfl ?_
  refine aw_iconst (v := (-1)) X dX4_readOrdersLine_14 (by decide) ?_
  refine aw_icmp_eq (tgt := 27) X dX4_readOrdersLine_15 (by decide) (fun c3 => ?_) (fun c3 => ?_)
  · rw [if_pos c3] at h
    refine aw_iconst (v := 0) X dX4_readOrdersLine_27 (by decide) ?_
    cases h
    exact aw_zret X dX4_readOrdersLine_28 rfl rfl hz.symm
  · rw [if_neg c3] at h
    refine aw_aload_n X dX4_readOrdersLine_18 rfl ?_
    refine aw_bipush (v := 22) X dX4_readOrdersLine_19 (by decide) ?_
    obtain ⟨r4, er4, h⟩ := bnd h
    refine aw_callV X dX4_readOrdersLine_21 cv_RX4_111 (ok_X4_takeWord er4 _ _ _ _ _) iu_RX4 rfl (Nat.le_trans (by decide) hfr) (by decide) rfl rfl (Nat.le_of_ble_eq_true rfl) ?_
    refine aw_if_ne (tgt := 29) X dX4_readOrdersLine_24 (by decide) (fun c5 => ?_) (fun c5 => ?_)
    · rw [if_neg c5] at h
      refine aw_aload_n X dX4_readOrdersLine_29 rfl ?_
      refine aw_getr X dX4_readOrdersLine_30 fl_RX4_45 iu_RX4 gu_RX4_6 ?_
      refine aw_iload_n X dX4_readOrdersLine_33 rfl ?_
      obtain ⟨r6, er6, h⟩ := bnd h
      refine aw_callV X dX4_readOrdersLine_34 cv_RX4_129 (ok_X3_beginLine iu_RX4_6 er6 _ _ _ _ _) iu_RX4_6 rfl (Nat.le_trans (by decide) hfr) (by decide) rfl rfl (Nat.le_of_ble_eq_true rfl) ?_
      refine aw_iconst (v := 0) X dX4_readOrdersLine_37 (by decide) ?_
      refine aw_istore_n (L' := [some (.ref (zr Z 172)), some (.int r2.1), some (.int 0)]) X dX4_readOrdersLine_38 (by decide) rfl ?_
      obtain ⟨r15, er15, h⟩ := bnd h
      refine aw_msk [true, true, true] ?_
      refine it_ok (P := fun y : Int32 × Mem => AW Z y.2 39 [some (.ref (zr Z 172)), some (.int r2.1), some (.int y.1)] []) (Q := fun b : Nat × Mem => (b.1 = 0 → AW Z b.2 68 [none, none, none] []) ∧ (b.1 = 1 → AW Z b.2 76 [some (.ref (zr Z 172)), none, none] []) ∧ (b.1 = 2 → AW Z b.2 109 [some (.ref (zr Z 172)), none, none] [])) (fun y q hq hi he => so_X4_readOrdersLine_39 hfr Z X r2.1 y.1 y.2 q hq hi he) FUEL _ _ er15 ?_
      refine ⟨fun c0 => ?_, fun c1 => ?_, fun c2 => ?_⟩
      · rw [if_pos c0] at h
        refine aw_iconst (v := 0) X dX4_readOrdersLine_68 (by decide) ?_
        cases h
        exact aw_zret X dX4_readOrdersLine_69 rfl rfl hz.symm
      · rw [if_neg (by rw [c1]; decide)] at h
        rw [if_pos c1] at h
        refine aw_aload_n X dX4_readOrdersLine_76 rfl ?_
        refine aw_iconst (v := 3) X dX4_readOrdersLine_77 (by decide) ?_
        obtain ⟨r16, er16, h⟩ := bnd h
        refine aw_callV X dX4_readOrdersLine_78 cv_RX4_95 (ok_X4_fail er16 _ _ _ _ _) iu_RX4 rfl (Nat.le_trans (by decide) hfr) (by decide) rfl rfl (Nat.le_of_ble_eq_true rfl) ?_
        by_cases c17 : ¬ (r16.1 = 0 ∨ r16.1 = 1)
        · rw [if_pos c17] at h
          cases h
        rw [if_neg c17] at h
        cases h
        exact aw_zret X dX4_readOrdersLine_81 rfl (bz_n (Decidable.of_not_not c17)) hz.symm
      · rw [if_neg (by rw [c2]; decide)] at h
        rw [if_neg (by rw [c2]; decide)] at h
        refine aw_msk [true, false, false] ?_
        exact jo_X4_readOrdersLine_109 hfr Z X _ _ hz h
    · rw [if_pos c5] at h
      refine aw_iconst (v := 0) X dX4_readOrdersLine_27 (by decide) ?_
      cases h
      exact aw_zret X dX4_readOrdersLine_28 rfl rfl hz.symm
set_option maxRecDepth 100000 in
set_option maxHeartbeats 4000000 in
theorem ok_X4_readOrdersLine {s : Mem} {r : Int32 × Mem} (h : f_X4_readOrdersLine s = some r) (l : Launch) (D : va_G) (ρ : Nat → Nat) (cA : ClassId × ClassId × ClassId) (τ : AT) : AM l D ρ cA 0 τ yX4_readOrdersLine cX4_readOrdersLine 3 (some .boolean) 4 [.ref (ρ 172)] (some (.int r.1)) s r.2 := by
  refine AM_of (L := [some (.ref (ρ 172)), none, none]) (by decide) (by simp [Value.category]) (Nat.le_of_ble_eq_true rfl) (fun j v q => ?_) (fun Z X hρ hz hτ => ?_)
  · exact aL_ok (n := 2) [.ref (ρ 172)] j v q
  · subst hρ
    subst hτ
    exact w_X4_readOrdersLine (Nat.le_refl _) Z X s r hz h

theorem dX4_readOrders_0 : decode cX4_readOrders 0 = .ok (.aload_n 0, 1) := by decide +kernel
theorem dX4_readOrders_1 : decode cX4_readOrders 1 = .ok (.getfield 45, 3) := by decide +kernel
theorem dX4_readOrders_4 : decode cX4_readOrders 4 = .ok (.iconst 0, 1) := by decide +kernel
theorem dX4_readOrders_5 : decode cX4_readOrders 5 = .ok (.putfield 88, 3) := by decide +kernel
theorem dX4_readOrders_8 : decode cX4_readOrders 8 = .ok (.iconst 0, 1) := by decide +kernel
theorem dX4_readOrders_9 : decode cX4_readOrders 9 = .ok (.istore_n 2, 1) := by decide +kernel
theorem dX4_readOrders_10 : decode cX4_readOrders 10 = .ok (.iload_n 2, 1) := by decide +kernel
theorem dX4_readOrders_11 : decode cX4_readOrders 11 = .ok (.bipush 16, 2) := by decide +kernel
theorem dX4_readOrders_13 : decode cX4_readOrders 13 = .ok (.if_icmp .gt 45, 3) := by decide +kernel
theorem dX4_readOrders_16 : decode cX4_readOrders 16 = .ok (.aload_n 0, 1) := by decide +kernel
theorem dX4_readOrders_17 : decode cX4_readOrders 17 = .ok (.getfield 12, 3) := by decide +kernel
theorem dX4_readOrders_20 : decode cX4_readOrders 20 = .ok (.getfield 55, 3) := by decide +kernel
theorem dX4_readOrders_23 : decode cX4_readOrders 23 = .ok (.ifCond .eq 35, 3) := by decide +kernel
theorem dX4_readOrders_26 : decode cX4_readOrders 26 = .ok (.aload_n 0, 1) := by decide +kernel
theorem dX4_readOrders_27 : decode cX4_readOrders 27 = .ok (.aload_n 0, 1) := by decide +kernel
theorem dX4_readOrders_28 : decode cX4_readOrders 28 = .ok (.getfield 12, 3) := by decide +kernel
theorem dX4_readOrders_31 : decode cX4_readOrders 31 = .ok (.bipush 16, 2) := by decide +kernel
theorem dX4_readOrders_33 : decode cX4_readOrders 33 = .ok (.invokevirtual 77, 3) := by decide +kernel
theorem dX4_readOrders_36 : decode cX4_readOrders 36 = .ok (.iload_n 2, 1) := by decide +kernel
theorem dX4_readOrders_37 : decode cX4_readOrders 37 = .ok (.invokevirtual 61, 3) := by decide +kernel
theorem dX4_readOrders_40 : decode cX4_readOrders 40 = .ok (.ifCond .eq 10, 3) := by decide +kernel
theorem dX4_readOrders_43 : decode cX4_readOrders 43 = .ok (.aload_n 0, 1) := by decide +kernel
theorem dX4_readOrders_44 : decode cX4_readOrders 44 = .ok (.invokevirtual 89, 3) := by decide +kernel
theorem dX4_readOrders_47 : decode cX4_readOrders 47 = .ok (.ifCond .ne 5, 3) := by decide +kernel
theorem dX4_readOrders_50 : decode cX4_readOrders 50 = .ok (.iconst (-1), 1) := by decide +kernel
theorem dX4_readOrders_51 : decode cX4_readOrders 51 = .ok (.ireturn, 1) := by decide +kernel
theorem dX4_readOrders_52 : decode cX4_readOrders 52 = .ok (.iinc 2 1, 3) := by decide +kernel
theorem dX4_readOrders_55 : decode cX4_readOrders 55 = .ok (.goto (-45), 3) := by decide +kernel
theorem dX4_readOrders_58 : decode cX4_readOrders 58 = .ok (.aload_n 1, 1) := by decide +kernel
theorem dX4_readOrders_59 : decode cX4_readOrders 59 = .ok (.aload_n 0, 1) := by decide +kernel
theorem dX4_readOrders_60 : decode cX4_readOrders 60 = .ok (.getfield 45, 3) := by decide +kernel
theorem dX4_readOrders_63 : decode cX4_readOrders 63 = .ok (.invokevirtual 92, 3) := by decide +kernel
theorem dX4_readOrders_66 : decode cX4_readOrders 66 = .ok (.aload_n 0, 1) := by decide +kernel
theorem dX4_readOrders_67 : decode cX4_readOrders 67 = .ok (.getfield 45, 3) := by decide +kernel
theorem dX4_readOrders_70 : decode cX4_readOrders 70 = .ok (.getfield 88, 3) := by decide +kernel
theorem dX4_readOrders_73 : decode cX4_readOrders 73 = .ok (.ireturn, 1) := by decide +kernel
set_option maxRecDepth 100000 in
set_option maxHeartbeats 4000000 in
theorem so_X4_readOrders_10 {fr : Nat} (hfr : 5 ≤ fr) (Z : AZ) (X : AX Z cX4_readOrders 3 RX4 (some .int) 0 fr) (a1 : Nat) (h1 : IO 0 a1 2) (x2 : Int32) (s : Mem) (q : (Int32 × Mem) ⊕ (Nat × Mem)) (h : st_X4_readOrders_10 a1 x2 s = some q) (hi : ∀ y : Int32 × Mem, q = .inl y → AW Z y.2 10 [some (.ref (zr Z 172)), some (.ref (zr Z a1)), some (.int y.1)] []) (he : ∀ b : Nat × Mem, q = .inr b → (b.1 = 0 → AW Z b.2 50 [none, none, none] []) ∧ (b.1 = 1 → AW Z b.2 58 [some (.ref (zr Z 172)), some (.ref (zr Z a1)), none] [])) : AW Z s 10 [some (.ref (zr Z 172)), some (.ref (zr Z a1)), some (.int x2)] [] := by
  unfold st_X4_readOrders_10 at h
  refine aw_iload_n X dX4_readOrders_10 rfl ?_
  refine aw_bipush (v := 16) X dX4_readOrders_11 (by decide) ?_
  refine aw_icmp_gt (tgt := 58) X dX4_readOrders_13 (by decide) (fun c1 => ?_) (fun c1 => ?_)
  · rw [if_pos c1] at h
    cases h
    refine aw_msk [true, true, false] ?_
    exact (he _ rfl).2 rfl
  · rw [if_neg c1] at h
    refine aw_aload_n X dX4_readOrders_16 rfl ?_
    refine aw_getr X dX4_readOrders_17 fl_RX4_12 iu_RX4 gu_RX4_0 ?_
    refine aw_geti X dX4_readOrders_20 fl_RX4_55 iu_RX4_0 gu_RX6_1 ?_
    refine aw_if_eq (tgt := 58) X dX4_readOrders_23 (by decide) (fun c2 => ?_) (fun c2 => ?_)
    · rw [if_pos c2] at h
      cases h
      refine aw_msk [true, true, false] ?_
      exact (he _ rfl).2 rfl
    · rw [if_neg c2] at h
      refine aw_aload_n X dX4_readOrders_26 rfl ?_
      refine aw_aload_n X dX4_readOrders_27 rfl ?_
      refine aw_getr X dX4_readOrders_28 fl_RX4_12 iu_RX4 gu_RX4_0 ?_
      refine aw_bipush (v := 16) X dX4_readOrders_31 (by decide) ?_
      obtain ⟨r3, er3, h⟩ := bnd h
      refine aw_callV X dX4_readOrders_33 cv_RX4_77 (ok_X6_isWord er3 _ _ _ _ _) iu_RX4_0 rfl (Nat.le_trans (by decide) hfr) (by decide) rfl rfl (Nat.le_of_ble_eq_true rfl) ?_
      refine aw_iload_n X dX4_readOrders_36 rfl ?_
      obtain ⟨r4, er4, h⟩ := bnd h
      refine aw_callV X dX4_readOrders_37 cv_RX4_61 (ok_X4_beginsLine er4 _ _ _ _ _) iu_RX4 rfl (Nat.le_trans (by decide) hfr) (by decide) rfl rfl (Nat.le_of_ble_eq_true rfl) ?_
      refine aw_if_eq (tgt := 50) X dX4_readOrders_40 (by decide) (fun c5 => ?_) (fun c5 => ?_)
      · rw [if_pos c5] at h
        cases h
        refine aw_msk [false, false, false] ?_
        exact (he _ rfl).1 rfl
      · rw [if_neg c5] at h
        refine aw_aload_n X dX4_readOrders_43 rfl ?_
        obtain ⟨r6, er6, h⟩ := bnd h
        refine aw_callV X dX4_readOrders_44 cv_RX4_89 (ok_X4_readOrdersLine er6 _ _ _ _ _) iu_RX4 rfl (Nat.le_trans (by decide) hfr) (by decide) rfl rfl (Nat.le_of_ble_eq_true rfl) ?_
        refine aw_if_ne (tgt := 52) X dX4_readOrders_47 (by decide) (fun c7 => ?_) (fun c7 => ?_)
        · rw [if_neg c7] at h
          refine aw_iinc (v := (x2 + 1)) (L' := [some (.ref (zr Z 172)), some (.ref (zr Z a1)), some (.int (x2 + 1))]) X dX4_readOrders_52 rfl rfl (by decide) rfl ?_
          refine aw_goto (tgt := 10) X dX4_readOrders_55 (by decide) ?_
          cases h
          refine aw_msk [true, true, true] ?_
          exact hi _ rfl
        · rw [if_pos c7] at h
          cases h
          refine aw_msk [false, false, false] ?_
          exact (he _ rfl).1 rfl
set_option maxRecDepth 100000 in
set_option maxHeartbeats 4000000 in
theorem jo_X4_readOrders_58 {fr : Nat} (hfr : 5 ≤ fr) (Z : AZ) (X : AX Z cX4_readOrders 3 RX4 (some .int) 0 fr) (a1 : Nat) (h1 : IO 0 a1 2) (s : Mem) (r : Int32 × Mem) (hz : zres Z = (some (.int r.1), r.2)) (h : jn_X4_readOrders_58 a1 s = some r) : AW Z s 58 [some (.ref (zr Z 172)), some (.ref (zr Z a1)), none] [] := by
  unfold jn_X4_readOrders_58 at h
  refine aw_aload_n X dX4_readOrders_58 rfl ?_
  refine aw_aload_n X dX4_readOrders_59 rfl ?_
  refine aw_getr X dX4_readOrders_60 fl_RX4_45 iu_RX4 gu_RX4_6 ?_
  obtain ⟨r9, er9, h⟩ := bnd h
  refine aw_callV X dX4_readOrders_63 cv_RX4_92 (ok_X3_copyFrom h1 iu_RX4_6 er9 _ _ _ _ _) h1 rfl (Nat.le_trans (by decide) hfr) (by decide) rfl rfl (Nat.le_of_ble_eq_true rfl) ?_
  refine aw_aload_n X dX4_readOrders_66 rfl ?_
  refine aw_getr X dX4_readOrders_67 fl_RX4_45 iu_RX4 gu_RX4_6 ?_
  refine aw_geti X dX4_readOrders_70 fl_RX4_88 iu_RX4_6 (gt_RX3_0 iu_RX4_6) ?_
  cases h
  exact aw_iret X dX4_readOrders_73 rfl hz.symm
set_option maxRecDepth 100000 in
set_option maxHeartbeats 4000000 in
theorem w_X4_readOrders {fr : Nat} (hfr : 5 ≤ fr) (Z : AZ) (X : AX Z cX4_readOrders 3 RX4 (some .int) 0 fr) (a1 : Nat) (h1 : IO 0 a1 2) (s : Mem) (r : Int32 × Mem) (hz : zres Z = (some (.int r.1), r.2)) (h : f_X4_readOrders a1 s = some r) : AW Z s 0 [some (.ref (zr Z 172)), some (.ref (zr Z a1)), none] [] := by
  unfold f_X4_readOrders at h
  refine aw_aload_n X dX4_readOrders_0 rfl ?_
  refine aw_getr X dX4_readOrders_1 fl_RX4_45 iu_RX4 gu_RX4_6 ?_
  refine aw_iconst (v := 0) X dX4_readOrders_4 (by decide) ?_
  refine aw_put X dX4_readOrders_5 fp_RX4_88 iu_RX4_6 (gt_RX3_0 iu_RX4_6) rfl rfl ?_
  refine aw_iconst (v := 0) X dX4_readOrders_8 (by decide) ?_
  refine aw_istore_n (L' := [some (.ref (zr Z 172)), some (.ref (zr Z a1)), some (.int 0)]) X dX4_readOrders_9 (by decide) rfl ?_
  obtain ⟨r8, er8, h⟩ := bnd h
  refine aw_msk [true, true, true] ?_
  refine it_ok (P := fun y : Int32 × Mem => AW Z y.2 10 [some (.ref (zr Z 172)), some (.ref (zr Z a1)), some (.int y.1)] []) (Q := fun b : Nat × Mem => (b.1 = 0 → AW Z b.2 50 [none, none, none] []) ∧ (b.1 = 1 → AW Z b.2 58 [some (.ref (zr Z 172)), some (.ref (zr Z a1)), none] [])) (fun y q hq hi he => so_X4_readOrders_10 hfr Z X a1 h1 y.1 y.2 q hq hi he) FUEL _ _ er8 ?_
  refine ⟨fun c0 => ?_, fun c1 => ?_⟩
  · rw [if_pos c0] at h
    refine aw_iconst (v := (-1)) X dX4_readOrders_50 (by decide) ?_
    cases h
    exact aw_iret X dX4_readOrders_51 rfl hz.symm
  · rw [if_neg (by rw [c1]; decide)] at h
    refine aw_msk [true, true, false] ?_
    exact jo_X4_readOrders_58 hfr Z X a1 h1 _ _ hz h
set_option maxRecDepth 100000 in
set_option maxHeartbeats 4000000 in
theorem ok_X4_readOrders {a1 : Nat} (h1 : IO 0 a1 2) {s : Mem} {r : Int32 × Mem} (h : f_X4_readOrders a1 s = some r) (l : Launch) (D : va_G) (ρ : Nat → Nat) (cA : ClassId × ClassId × ClassId) (τ : AT) : AM l D ρ cA 0 τ yX4_readOrders cX4_readOrders 3 (some .int) 5 [.ref (ρ 172), .ref (ρ a1)] (some (.int r.1)) s r.2 := by
  refine AM_of (L := [some (.ref (ρ 172)), some (.ref (ρ a1)), none]) (by decide) (by simp [Value.category]) (Nat.le_of_ble_eq_true rfl) (fun j v q => ?_) (fun Z X hρ hz hτ => ?_)
  · exact aL_ok (n := 1) [.ref (ρ 172), .ref (ρ a1)] j v q
  · subst hρ
    subst hτ
    exact w_X4_readOrders (Nat.le_refl _) Z X a1 h1 s r hz h

theorem dX6_hasSpace_0 : decode cX6_hasSpace 0 = .ok (.aload_n 0, 1) := by decide +kernel
theorem dX6_hasSpace_1 : decode cX6_hasSpace 1 = .ok (.getfield 9, 3) := by decide +kernel
theorem dX6_hasSpace_4 : decode cX6_hasSpace 4 = .ok (.iload_n 1, 1) := by decide +kernel
theorem dX6_hasSpace_5 : decode cX6_hasSpace 5 = .ok (.iadd, 1) := by decide +kernel
theorem dX6_hasSpace_6 : decode cX6_hasSpace 6 = .ok (.sipush 400, 3) := by decide +kernel
theorem dX6_hasSpace_9 : decode cX6_hasSpace 9 = .ok (.if_icmp .gt 7, 3) := by decide +kernel
theorem dX6_hasSpace_12 : decode cX6_hasSpace 12 = .ok (.iconst 1, 1) := by decide +kernel
theorem dX6_hasSpace_13 : decode cX6_hasSpace 13 = .ok (.goto 4, 3) := by decide +kernel
theorem dX6_hasSpace_16 : decode cX6_hasSpace 16 = .ok (.iconst 0, 1) := by decide +kernel
theorem dX6_hasSpace_17 : decode cX6_hasSpace 17 = .ok (.ireturn, 1) := by decide +kernel
set_option maxRecDepth 100000 in
set_option maxHeartbeats 4000000 in
theorem w_X6_hasSpace {fr : Nat} (hfr : 0 ≤ fr) (Z : AZ) (X : AX Z cX6_hasSpace 2 RX6 (some .boolean) 0 fr) (x1 : Int32) (s : Mem) (r : Int32 × Mem) (hz : zres Z = (some (.int r.1), r.2)) (h : f_X6_hasSpace x1 s = some r) : AW Z s 0 [some (.ref (zr Z 173)), some (.int x1)] [] := by
  unfold f_X6_hasSpace at h
  refine aw_aload_n X dX6_hasSpace_0 rfl ?_
  refine aw_geti X dX6_hasSpace_1 fl_RX6_9 iu_RX6 gu_RX6_0 ?_
  refine aw_iload_n X dX6_hasSpace_4 rfl ?_
  refine aw_iadd X dX6_hasSpace_5 ?_
  refine aw_sipush (v := 400) X dX6_hasSpace_6 (by decide) ?_
  refine aw_icmp_gt (tgt := 16) X dX6_hasSpace_9 (by decide) (fun c1 => ?_) (fun c1 => ?_)
  · rw [if_pos c1] at h
    refine aw_iconst (v := 0) X dX6_hasSpace_16 (by decide) ?_
    cases h
    exact aw_zret X dX6_hasSpace_17 rfl rfl hz.symm
  · rw [if_neg c1] at h
    refine aw_iconst (v := 1) X dX6_hasSpace_12 (by decide) ?_
    refine aw_goto (tgt := 17) X dX6_hasSpace_13 (by decide) ?_
    cases h
    exact aw_zret X dX6_hasSpace_17 rfl rfl hz.symm
set_option maxRecDepth 100000 in
set_option maxHeartbeats 4000000 in
theorem ok_X6_hasSpace {x1 : Int32} {s : Mem} {r : Int32 × Mem} (h : f_X6_hasSpace x1 s = some r) (l : Launch) (D : va_G) (ρ : Nat → Nat) (cA : ClassId × ClassId × ClassId) (τ : AT) : AM l D ρ cA 0 τ yX6_hasSpace cX6_hasSpace 2 (some .boolean) 0 [.ref (ρ 173), .int x1] (some (.int r.1)) s r.2 := by
  refine AM_of (L := [some (.ref (ρ 173)), some (.int x1)]) (by decide) (by simp [Value.category]) (Nat.le_of_ble_eq_true rfl) (fun j v q => ?_) (fun Z X hρ hz hτ => ?_)
  · exact aL_ok (n := 0) [.ref (ρ 173), .int x1] j v q
  · subst hρ
    subst hτ
    exact w_X6_hasSpace (Nat.le_refl _) Z X x1 s r hz h

theorem dX6_put_0 : decode cX6_put 0 = .ok (.bipush 24, 2) := by decide +kernel
theorem dX6_put_2 : decode cX6_put 2 = .ok (.istore_n 2, 1) := by decide +kernel
theorem dX6_put_3 : decode cX6_put 3 = .ok (.iload_n 2, 1) := by decide +kernel
theorem dX6_put_4 : decode cX6_put 4 = .ok (.ifCond .lt 45, 3) := by decide +kernel
theorem dX6_put_7 : decode cX6_put 7 = .ok (.aload_n 0, 1) := by decide +kernel
theorem dX6_put_8 : decode cX6_put 8 = .ok (.getfield 9, 3) := by decide +kernel
theorem dX6_put_11 : decode cX6_put 11 = .ok (.sipush 400, 3) := by decide +kernel
theorem dX6_put_14 : decode cX6_put 14 = .ok (.if_icmp .ge 35, 3) := by decide +kernel
theorem dX6_put_17 : decode cX6_put 17 = .ok (.aload_n 0, 1) := by decide +kernel
theorem dX6_put_18 : decode cX6_put 18 = .ok (.getfield 30, 3) := by decide +kernel
theorem dX6_put_21 : decode cX6_put 21 = .ok (.aload_n 0, 1) := by decide +kernel
theorem dX6_put_22 : decode cX6_put 22 = .ok (.getfield 9, 3) := by decide +kernel
theorem dX6_put_25 : decode cX6_put 25 = .ok (.iload_n 1, 1) := by decide +kernel
theorem dX6_put_26 : decode cX6_put 26 = .ok (.iload_n 2, 1) := by decide +kernel
theorem dX6_put_27 : decode cX6_put 27 = .ok (.iushr, 1) := by decide +kernel
theorem dX6_put_28 : decode cX6_put 28 = .ok (.sipush 255, 3) := by decide +kernel
theorem dX6_put_31 : decode cX6_put 31 = .ok (.iand, 1) := by decide +kernel
theorem dX6_put_32 : decode cX6_put 32 = .ok (.iastore, 1) := by decide +kernel
theorem dX6_put_33 : decode cX6_put 33 = .ok (.aload_n 0, 1) := by decide +kernel
theorem dX6_put_34 : decode cX6_put 34 = .ok (.dup, 1) := by decide +kernel
theorem dX6_put_35 : decode cX6_put 35 = .ok (.getfield 9, 3) := by decide +kernel
theorem dX6_put_38 : decode cX6_put 38 = .ok (.iconst 1, 1) := by decide +kernel
theorem dX6_put_39 : decode cX6_put 39 = .ok (.iadd, 1) := by decide +kernel
theorem dX6_put_40 : decode cX6_put 40 = .ok (.putfield 9, 3) := by decide +kernel
theorem dX6_put_43 : decode cX6_put 43 = .ok (.iinc 2 (-8), 3) := by decide +kernel
theorem dX6_put_46 : decode cX6_put 46 = .ok (.goto (-43), 3) := by decide +kernel
theorem dX6_put_49 : decode cX6_put 49 = .ok (.return_, 1) := by decide +kernel
set_option maxRecDepth 100000 in
set_option maxHeartbeats 4000000 in
theorem so_X6_put_3 {fr : Nat} (hfr : 0 ≤ fr) (Z : AZ) (X : AX Z cX6_put 3 RX6 none 0 fr) (x1 : Int32) (x2 : Int32) (s : Mem) (q : (Int32 × Mem) ⊕ (Mem)) (h : st_X6_put_3 x1 x2 s = some q) (hi : ∀ y : Int32 × Mem, q = .inl y → AW Z y.2 3 [some (.ref (zr Z 173)), some (.int x1), some (.int y.1)] []) (he : ∀ b : Mem, q = .inr b → AW Z b 49 [none, none, none] []) : AW Z s 3 [some (.ref (zr Z 173)), some (.int x1), some (.int x2)] [] := by
  unfold st_X6_put_3 at h
  refine aw_iload_n X dX6_put_3 rfl ?_
  refine aw_if_lt (tgt := 49) X dX6_put_4 (by decide) (fun c1 => ?_) (fun c1 => ?_)
  · rw [if_pos c1] at h
    cases h
    refine aw_msk [false, false, false] ?_
    exact he _ rfl
  · rw [if_neg c1] at h
    refine aw_aload_n X dX6_put_7 rfl ?_
    refine aw_geti X dX6_put_8 fl_RX6_9 iu_RX6 gu_RX6_0 ?_
    refine aw_sipush (v := 400) X dX6_put_11 (by decide) ?_
    refine aw_icmp_ge (tgt := 49) X dX6_put_14 (by decide) (fun c2 => ?_) (fun c2 => ?_)
    · rw [if_pos c2] at h
      cases h
      refine aw_msk [false, false, false] ?_
      exact he _ rfl
    · rw [if_neg c2] at h
      refine aw_aload_n X dX6_put_17 rfl ?_
      refine aw_getr X dX6_put_18 fl_RX6_30 iu_RX6 gu_RX6_6 ?_
      refine aw_aload_n X dX6_put_21 rfl ?_
      refine aw_geti X dX6_put_22 fl_RX6_9 iu_RX6 gu_RX6_0 ?_
      refine aw_iload_n X dX6_put_25 rfl ?_
      refine aw_iload_n X dX6_put_26 rfl ?_
      refine aw_iushr X dX6_put_27 ?_
      refine aw_sipush (v := 255) X dX6_put_28 (by decide) ?_
      refine aw_iand X dX6_put_31 ?_
      obtain ⟨s3, es3, h⟩ := bnd h
      refine aw_iast X dX6_put_32 iu_RX6_6 es3 ?_
      refine aw_aload_n X dX6_put_33 rfl ?_
      refine aw_dup X dX6_put_34 rfl ?_
      refine aw_geti X dX6_put_35 fl_RX6_9 iu_RX6 gu_RX6_0 ?_
      refine aw_iconst (v := 1) X dX6_put_38 (by decide) ?_
      refine aw_iadd X dX6_put_39 ?_
      refine aw_put X dX6_put_40 fp_RX6_9 iu_RX6 gu_RX6_0 rfl rfl ?_
      refine aw_iinc (v := (x2 + (-8))) (L' := [some (.ref (zr Z 173)), some (.int x1), some (.int (x2 + (-8)))]) X dX6_put_43 rfl rfl (by decide) rfl ?_
      refine aw_goto (tgt := 3) X dX6_put_46 (by decide) ?_
      cases h
      refine aw_msk [true, true, true] ?_
      exact hi _ rfl
set_option maxRecDepth 100000 in
set_option maxHeartbeats 4000000 in
theorem w_X6_put {fr : Nat} (hfr : 0 ≤ fr) (Z : AZ) (X : AX Z cX6_put 3 RX6 none 0 fr) (x1 : Int32) (s : Mem) (r : Mem) (hz : zres Z = (none, r)) (h : f_X6_put x1 s = some r) : AW Z s 0 [some (.ref (zr Z 173)), some (.int x1), none] [] := by
  unfold f_X6_put at h
  refine aw_bipush (v := 24) X dX6_put_0 (by decide) ?_
  refine aw_istore_n (L' := [some (.ref (zr Z 173)), some (.int x1), some (.int 24)]) X dX6_put_2 (by decide) rfl ?_
  obtain ⟨r4, er4, h⟩ := bnd h
  refine aw_msk [true, true, true] ?_
  refine it_ok (P := fun y : Int32 × Mem => AW Z y.2 3 [some (.ref (zr Z 173)), some (.int x1), some (.int y.1)] []) (Q := fun b : Mem => AW Z b 49 [none, none, none] []) (fun y q hq hi he => so_X6_put_3 hfr Z X x1 y.1 y.2 q hq hi he) FUEL _ _ er4 ?_
  cases h
  exact aw_vret X dX6_put_49 rfl hz.symm
set_option maxRecDepth 100000 in
set_option maxHeartbeats 4000000 in
theorem ok_X6_put {x1 : Int32} {s : Mem} {r : Mem} (h : f_X6_put x1 s = some r) (l : Launch) (D : va_G) (ρ : Nat → Nat) (cA : ClassId × ClassId × ClassId) (τ : AT) : AM l D ρ cA 0 τ yX6_put cX6_put 3 none 0 [.ref (ρ 173), .int x1] none s r := by
  refine AM_of (L := [some (.ref (ρ 173)), some (.int x1), none]) (by decide) (by simp [Value.category]) (Nat.le_of_ble_eq_true rfl) (fun j v q => ?_) (fun Z X hρ hz hτ => ?_)
  · exact aL_ok (n := 1) [.ref (ρ 173), .int x1] j v q
  · subst hρ
    subst hτ
    exact w_X6_put (Nat.le_refl _) Z X x1 s r hz h

theorem dX6_cut_0 : decode cX6_cut 0 = .ok (.iload_n 1, 1) := by decide +kernel
theorem dX6_cut_1 : decode cX6_cut 1 = .ok (.ifCond .lt 11, 3) := by decide +kernel
theorem dX6_cut_4 : decode cX6_cut 4 = .ok (.iload_n 1, 1) := by decide +kernel
theorem dX6_cut_5 : decode cX6_cut 5 = .ok (.aload_n 0, 1) := by decide +kernel
theorem dX6_cut_6 : decode cX6_cut 6 = .ok (.getfield 9, 3) := by decide +kernel
theorem dX6_cut_9 : decode cX6_cut 9 = .ok (.if_icmp .le 5, 3) := by decide +kernel
theorem dX6_cut_12 : decode cX6_cut 12 = .ok (.iconst 0, 1) := by decide +kernel
theorem dX6_cut_13 : decode cX6_cut 13 = .ok (.ireturn, 1) := by decide +kernel
theorem dX6_cut_14 : decode cX6_cut 14 = .ok (.aload_n 0, 1) := by decide +kernel
theorem dX6_cut_15 : decode cX6_cut 15 = .ok (.iload_n 1, 1) := by decide +kernel
theorem dX6_cut_16 : decode cX6_cut 16 = .ok (.putfield 9, 3) := by decide +kernel
theorem dX6_cut_19 : decode cX6_cut 19 = .ok (.iconst 1, 1) := by decide +kernel
theorem dX6_cut_20 : decode cX6_cut 20 = .ok (.ireturn, 1) := by decide +kernel
set_option maxRecDepth 100000 in
set_option maxHeartbeats 4000000 in
theorem w_X6_cut {fr : Nat} (hfr : 0 ≤ fr) (Z : AZ) (X : AX Z cX6_cut 2 RX6 (some .boolean) 0 fr) (x1 : Int32) (s : Mem) (r : Int32 × Mem) (hz : zres Z = (some (.int r.1), r.2)) (h : f_X6_cut x1 s = some r) : AW Z s 0 [some (.ref (zr Z 173)), some (.int x1)] [] := by
  unfold f_X6_cut at h
  refine aw_iload_n X dX6_cut_0 rfl ?_
  refine aw_if_lt (tgt := 12) X dX6_cut_1 (by decide) (fun c1 => ?_) (fun c1 => ?_)
  · rw [if_pos c1] at h
    refine aw_iconst (v := 0) X dX6_cut_12 (by decide) ?_
    cases h
    exact aw_zret X dX6_cut_13 rfl rfl hz.symm
  · rw [if_neg c1] at h
    refine aw_iload_n X dX6_cut_4 rfl ?_
    refine aw_aload_n X dX6_cut_5 rfl ?_
    refine aw_geti X dX6_cut_6 fl_RX6_9 iu_RX6 gu_RX6_0 ?_
    refine aw_icmp_le (tgt := 14) X dX6_cut_9 (by decide) (fun c2 => ?_) (fun c2 => ?_)
    · rw [if_pos c2] at h
      refine aw_aload_n X dX6_cut_14 rfl ?_
      refine aw_iload_n X dX6_cut_15 rfl ?_
      refine aw_put X dX6_cut_16 fp_RX6_9 iu_RX6 gu_RX6_0 rfl rfl ?_
      refine aw_iconst (v := 1) X dX6_cut_19 (by decide) ?_
      cases h
      exact aw_zret X dX6_cut_20 rfl rfl hz.symm
    · rw [if_neg c2] at h
      refine aw_iconst (v := 0) X dX6_cut_12 (by decide) ?_
      cases h
      exact aw_zret X dX6_cut_13 rfl rfl hz.symm
set_option maxRecDepth 100000 in
set_option maxHeartbeats 4000000 in
theorem ok_X6_cut {x1 : Int32} {s : Mem} {r : Int32 × Mem} (h : f_X6_cut x1 s = some r) (l : Launch) (D : va_G) (ρ : Nat → Nat) (cA : ClassId × ClassId × ClassId) (τ : AT) : AM l D ρ cA 0 τ yX6_cut cX6_cut 2 (some .boolean) 0 [.ref (ρ 173), .int x1] (some (.int r.1)) s r.2 := by
  refine AM_of (L := [some (.ref (ρ 173)), some (.int x1)]) (by decide) (by simp [Value.category]) (Nat.le_of_ble_eq_true rfl) (fun j v q => ?_) (fun Z X hρ hz hτ => ?_)
  · exact aL_ok (n := 0) [.ref (ρ 173), .int x1] j v q
  · subst hρ
    subst hτ
    exact w_X6_cut (Nat.le_refl _) Z X x1 s r hz h

theorem dX7_isFull_0 : decode cX7_isFull 0 = .ok (.aload_n 0, 1) := by decide +kernel
theorem dX7_isFull_1 : decode cX7_isFull 1 = .ok (.getfield 19, 3) := by decide +kernel
theorem dX7_isFull_4 : decode cX7_isFull 4 = .ok (.aload_n 0, 1) := by decide +kernel
theorem dX7_isFull_5 : decode cX7_isFull 5 = .ok (.getfield 13, 3) := by decide +kernel
theorem dX7_isFull_8 : decode cX7_isFull 8 = .ok (.arraylength, 1) := by decide +kernel
theorem dX7_isFull_9 : decode cX7_isFull 9 = .ok (.if_icmp .lt 7, 3) := by decide +kernel
theorem dX7_isFull_12 : decode cX7_isFull 12 = .ok (.iconst 1, 1) := by decide +kernel
theorem dX7_isFull_13 : decode cX7_isFull 13 = .ok (.goto 4, 3) := by decide +kernel
theorem dX7_isFull_16 : decode cX7_isFull 16 = .ok (.iconst 0, 1) := by decide +kernel
theorem dX7_isFull_17 : decode cX7_isFull 17 = .ok (.ireturn, 1) := by decide +kernel
set_option maxRecDepth 100000 in
set_option maxHeartbeats 4000000 in
theorem w_X7_isFull {fr : Nat} (hfr : 0 ≤ fr) (Z : AZ) (X : AX Z cX7_isFull 1 RX7 (some .boolean) 0 fr) (a0 : Nat) (h0 : IO 0 a0 6) (s : Mem) (r : Int32 × Mem) (hz : zres Z = (some (.int r.1), r.2)) (h : f_X7_isFull a0 s = some r) : AW Z s 0 [some (.ref (zr Z a0))] [] := by
  unfold f_X7_isFull at h
  refine aw_aload_n X dX7_isFull_0 rfl ?_
  refine aw_geti X dX7_isFull_1 fl_RX7_19 h0 (gt_RX7_1 h0) ?_
  refine aw_aload_n X dX7_isFull_4 rfl ?_
  refine aw_getr X dX7_isFull_5 fl_RX7_13 h0 (gt_RX7_0 h0) ?_
  refine aw_alen (v := (Int32.ofNat (gL 0 (a0 + 1)))) X dX7_isFull_8 (it_RX7_0 h0) rfl ?_
  refine aw_icmp_lt (tgt := 16) X dX7_isFull_9 (by decide) (fun c1 => ?_) (fun c1 => ?_)
  · rw [if_pos c1] at h
    refine aw_iconst (v := 0) X dX7_isFull_16 (by decide) ?_
    cases h
    exact aw_zret X dX7_isFull_17 rfl rfl hz.symm
  · rw [if_neg c1] at h
    refine aw_iconst (v := 1) X dX7_isFull_12 (by decide) ?_
    refine aw_goto (tgt := 17) X dX7_isFull_13 (by decide) ?_
    cases h
    exact aw_zret X dX7_isFull_17 rfl rfl hz.symm
set_option maxRecDepth 100000 in
set_option maxHeartbeats 4000000 in
theorem ok_X7_isFull {a0 : Nat} (h0 : IO 0 a0 6) {s : Mem} {r : Int32 × Mem} (h : f_X7_isFull a0 s = some r) (l : Launch) (D : va_G) (ρ : Nat → Nat) (cA : ClassId × ClassId × ClassId) (τ : AT) : AM l D ρ cA 0 τ yX7_isFull cX7_isFull 1 (some .boolean) 0 [.ref (ρ a0)] (some (.int r.1)) s r.2 := by
  refine AM_of (L := [some (.ref (ρ a0))]) (by decide) (by simp [Value.category]) (Nat.le_of_ble_eq_true rfl) (fun j v q => ?_) (fun Z X hρ hz hτ => ?_)
  · exact aL_ok (n := 0) [.ref (ρ a0)] j v q
  · subst hρ
    subst hτ
    exact w_X7_isFull (Nat.le_refl _) Z X a0 h0 s r hz h

theorem dX7_add_0 : decode cX7_add 0 = .ok (.aload_n 0, 1) := by decide +kernel
theorem dX7_add_1 : decode cX7_add 1 = .ok (.invokevirtual 23, 3) := by decide +kernel
theorem dX7_add_4 : decode cX7_add 4 = .ok (.ifCond .ne 23, 3) := by decide +kernel
theorem dX7_add_7 : decode cX7_add 7 = .ok (.aload_n 0, 1) := by decide +kernel
theorem dX7_add_8 : decode cX7_add 8 = .ok (.getfield 13, 3) := by decide +kernel
theorem dX7_add_11 : decode cX7_add 11 = .ok (.aload_n 0, 1) := by decide +kernel
theorem dX7_add_12 : decode cX7_add 12 = .ok (.getfield 19, 3) := by decide +kernel
theorem dX7_add_15 : decode cX7_add 15 = .ok (.iload_n 1, 1) := by decide +kernel
theorem dX7_add_16 : decode cX7_add 16 = .ok (.iastore, 1) := by decide +kernel
theorem dX7_add_17 : decode cX7_add 17 = .ok (.aload_n 0, 1) := by decide +kernel
theorem dX7_add_18 : decode cX7_add 18 = .ok (.dup, 1) := by decide +kernel
theorem dX7_add_19 : decode cX7_add 19 = .ok (.getfield 19, 3) := by decide +kernel
theorem dX7_add_22 : decode cX7_add 22 = .ok (.iconst 1, 1) := by decide +kernel
theorem dX7_add_23 : decode cX7_add 23 = .ok (.iadd, 1) := by decide +kernel
theorem dX7_add_24 : decode cX7_add 24 = .ok (.putfield 19, 3) := by decide +kernel
theorem dX7_add_27 : decode cX7_add 27 = .ok (.aload_n 0, 1) := by decide +kernel
theorem dX7_add_28 : decode cX7_add 28 = .ok (.getfield 19, 3) := by decide +kernel
theorem dX7_add_31 : decode cX7_add 31 = .ok (.ireturn, 1) := by decide +kernel
set_option maxRecDepth 100000 in
set_option maxHeartbeats 4000000 in
theorem w_X7_add {fr : Nat} (hfr : 1 ≤ fr) (Z : AZ) (X : AX Z cX7_add 2 RX7 (some .int) 0 fr) (a0 : Nat) (h0 : IO 0 a0 6) (x1 : Int32) (s : Mem) (r : Int32 × Mem) (hz : zres Z = (some (.int r.1), r.2)) (h : f_X7_add a0 x1 s = some r) : AW Z s 0 [some (.ref (zr Z a0)), some (.int x1)] [] := by
  unfold f_X7_add at h
  refine aw_aload_n X dX7_add_0 rfl ?_
  obtain ⟨r1, er1, h⟩ := bnd h
  refine aw_callV X dX7_add_1 cv_RX7_23 (ok_X7_isFull h0 er1 _ _ _ _ _) h0 rfl (Nat.le_trans (by decide) hfr) (by decide) rfl rfl (Nat.le_of_ble_eq_true rfl) ?_
  refine aw_if_ne (tgt := 27) X dX7_add_4 (by decide) (fun c2 => ?_) (fun c2 => ?_)
  · rw [if_neg c2] at h
    refine aw_aload_n X dX7_add_27 rfl ?_
    refine aw_geti X dX7_add_28 fl_RX7_19 h0 (gt_RX7_1 h0) ?_
    cases h
    exact aw_iret X dX7_add_31 rfl hz.symm
  · rw [if_pos c2] at h
    refine aw_aload_n X dX7_add_7 rfl ?_
    refine aw_getr X dX7_add_8 fl_RX7_13 h0 (gt_RX7_0 h0) ?_
    refine aw_aload_n X dX7_add_11 rfl ?_
    refine aw_geti X dX7_add_12 fl_RX7_19 h0 (gt_RX7_1 h0) ?_
    refine aw_iload_n X dX7_add_15 rfl ?_
    obtain ⟨s3, es3, h⟩ := bnd h
    refine aw_iast X dX7_add_16 (it_RX7_0 h0) es3 ?_
    refine aw_aload_n X dX7_add_17 rfl ?_
    refine aw_dup X dX7_add_18 rfl ?_
    refine aw_geti X dX7_add_19 fl_RX7_19 h0 (gt_RX7_1 h0) ?_
    refine aw_iconst (v := 1) X dX7_add_22 (by decide) ?_
    refine aw_iadd X dX7_add_23 ?_
    refine aw_put X dX7_add_24 fp_RX7_19 h0 (gt_RX7_1 h0) rfl rfl ?_
    refine aw_aload_n X dX7_add_27 rfl ?_
    refine aw_geti X dX7_add_28 fl_RX7_19 h0 (gt_RX7_1 h0) ?_
    cases h
    exact aw_iret X dX7_add_31 rfl hz.symm
set_option maxRecDepth 100000 in
set_option maxHeartbeats 4000000 in
theorem ok_X7_add {a0 : Nat} (h0 : IO 0 a0 6) {x1 : Int32} {s : Mem} {r : Int32 × Mem} (h : f_X7_add a0 x1 s = some r) (l : Launch) (D : va_G) (ρ : Nat → Nat) (cA : ClassId × ClassId × ClassId) (τ : AT) : AM l D ρ cA 0 τ yX7_add cX7_add 2 (some .int) 1 [.ref (ρ a0), .int x1] (some (.int r.1)) s r.2 := by
  refine AM_of (L := [some (.ref (ρ a0)), some (.int x1)]) (by decide) (by simp [Value.category]) (Nat.le_of_ble_eq_true rfl) (fun j v q => ?_) (fun Z X hρ hz hτ => ?_)
  · exact aL_ok (n := 0) [.ref (ρ a0), .int x1] j v q
  · subst hρ
    subst hτ
    exact w_X7_add (Nat.le_refl _) Z X a0 h0 x1 s r hz h

theorem dX7_at_0 : decode cX7_at 0 = .ok (.iload_n 1, 1) := by decide +kernel
theorem dX7_at_1 : decode cX7_at 1 = .ok (.ifCond .lt 20, 3) := by decide +kernel
theorem dX7_at_4 : decode cX7_at 4 = .ok (.iload_n 1, 1) := by decide +kernel
theorem dX7_at_5 : decode cX7_at 5 = .ok (.aload_n 0, 1) := by decide +kernel
theorem dX7_at_6 : decode cX7_at 6 = .ok (.getfield 19, 3) := by decide +kernel
theorem dX7_at_9 : decode cX7_at 9 = .ok (.if_icmp .ge 12, 3) := by decide +kernel
theorem dX7_at_12 : decode cX7_at 12 = .ok (.aload_n 0, 1) := by decide +kernel
theorem dX7_at_13 : decode cX7_at 13 = .ok (.getfield 13, 3) := by decide +kernel
theorem dX7_at_16 : decode cX7_at 16 = .ok (.iload_n 1, 1) := by decide +kernel
theorem dX7_at_17 : decode cX7_at 17 = .ok (.iaload, 1) := by decide +kernel
theorem dX7_at_18 : decode cX7_at 18 = .ok (.goto 4, 3) := by decide +kernel
theorem dX7_at_21 : decode cX7_at 21 = .ok (.iconst 0, 1) := by decide +kernel
theorem dX7_at_22 : decode cX7_at 22 = .ok (.ireturn, 1) := by decide +kernel
set_option maxRecDepth 100000 in
set_option maxHeartbeats 4000000 in
theorem w_X7_at {fr : Nat} (hfr : 0 ≤ fr) (Z : AZ) (X : AX Z cX7_at 2 RX7 (some .int) 0 fr) (a0 : Nat) (h0 : IO 0 a0 6) (x1 : Int32) (s : Mem) (r : Int32 × Mem) (hz : zres Z = (some (.int r.1), r.2)) (h : f_X7_at a0 x1 s = some r) : AW Z s 0 [some (.ref (zr Z a0)), some (.int x1)] [] := by
  unfold f_X7_at at h
  refine aw_iload_n X dX7_at_0 rfl ?_
  refine aw_if_lt (tgt := 21) X dX7_at_1 (by decide) (fun c1 => ?_) (fun c1 => ?_)
  · rw [if_pos c1] at h
    refine aw_iconst (v := 0) X dX7_at_21 (by decide) ?_
    cases h
    exact aw_iret X dX7_at_22 rfl hz.symm
  · rw [if_neg c1] at h
    refine aw_iload_n X dX7_at_4 rfl ?_
    refine aw_aload_n X dX7_at_5 rfl ?_
    refine aw_geti X dX7_at_6 fl_RX7_19 h0 (gt_RX7_1 h0) ?_
    refine aw_icmp_ge (tgt := 21) X dX7_at_9 (by decide) (fun c2 => ?_) (fun c2 => ?_)
    · rw [if_pos c2] at h
      refine aw_iconst (v := 0) X dX7_at_21 (by decide) ?_
      cases h
      exact aw_iret X dX7_at_22 rfl hz.symm
    · rw [if_neg c2] at h
      refine aw_aload_n X dX7_at_12 rfl ?_
      refine aw_getr X dX7_at_13 fl_RX7_13 h0 (gt_RX7_0 h0) ?_
      refine aw_iload_n X dX7_at_16 rfl ?_
      obtain ⟨v3, ev3, h⟩ := bnd h
      refine aw_iald X dX7_at_17 (it_RX7_0 h0) ev3 ?_
      refine aw_goto (tgt := 22) X dX7_at_18 (by decide) ?_
      cases h
      exact aw_iret X dX7_at_22 rfl hz.symm
set_option maxRecDepth 100000 in
set_option maxHeartbeats 4000000 in
theorem ok_X7_at {a0 : Nat} (h0 : IO 0 a0 6) {x1 : Int32} {s : Mem} {r : Int32 × Mem} (h : f_X7_at a0 x1 s = some r) (l : Launch) (D : va_G) (ρ : Nat → Nat) (cA : ClassId × ClassId × ClassId) (τ : AT) : AM l D ρ cA 0 τ yX7_at cX7_at 2 (some .int) 0 [.ref (ρ a0), .int x1] (some (.int r.1)) s r.2 := by
  refine AM_of (L := [some (.ref (ρ a0)), some (.int x1)]) (by decide) (by simp [Value.category]) (Nat.le_of_ble_eq_true rfl) (fun j v q => ?_) (fun Z X hρ hz hτ => ?_)
  · exact aL_ok (n := 0) [.ref (ρ a0), .int x1] j v q
  · subst hρ
    subst hτ
    exact w_X7_at (Nat.le_refl _) Z X a0 h0 x1 s r hz h

theorem dX7_clear_0 : decode cX7_clear 0 = .ok (.aload_n 0, 1) := by decide +kernel
theorem dX7_clear_1 : decode cX7_clear 1 = .ok (.iconst 0, 1) := by decide +kernel
theorem dX7_clear_2 : decode cX7_clear 2 = .ok (.putfield 19, 3) := by decide +kernel
theorem dX7_clear_5 : decode cX7_clear 5 = .ok (.aload_n 0, 1) := by decide +kernel
theorem dX7_clear_6 : decode cX7_clear 6 = .ok (.getfield 19, 3) := by decide +kernel
theorem dX7_clear_9 : decode cX7_clear 9 = .ok (.ireturn, 1) := by decide +kernel
set_option maxRecDepth 100000 in
set_option maxHeartbeats 4000000 in
theorem w_X7_clear {fr : Nat} (hfr : 0 ≤ fr) (Z : AZ) (X : AX Z cX7_clear 1 RX7 (some .int) 0 fr) (a0 : Nat) (h0 : IO 0 a0 6) (s : Mem) (r : Int32 × Mem) (hz : zres Z = (some (.int r.1), r.2)) (h : f_X7_clear a0 s = some r) : AW Z s 0 [some (.ref (zr Z a0))] [] := by
  unfold f_X7_clear at h
  refine aw_aload_n X dX7_clear_0 rfl ?_
  refine aw_iconst (v := 0) X dX7_clear_1 (by decide) ?_
  refine aw_put X dX7_clear_2 fp_RX7_19 h0 (gt_RX7_1 h0) rfl rfl ?_
  refine aw_aload_n X dX7_clear_5 rfl ?_
  refine aw_geti X dX7_clear_6 fl_RX7_19 h0 (gt_RX7_1 h0) ?_
  cases h
  exact aw_iret X dX7_clear_9 rfl hz.symm
set_option maxRecDepth 100000 in
set_option maxHeartbeats 4000000 in
theorem ok_X7_clear {a0 : Nat} (h0 : IO 0 a0 6) {s : Mem} {r : Int32 × Mem} (h : f_X7_clear a0 s = some r) (l : Launch) (D : va_G) (ρ : Nat → Nat) (cA : ClassId × ClassId × ClassId) (τ : AT) : AM l D ρ cA 0 τ yX7_clear cX7_clear 1 (some .int) 0 [.ref (ρ a0)] (some (.int r.1)) s r.2 := by
  refine AM_of (L := [some (.ref (ρ a0))]) (by decide) (by simp [Value.category]) (Nat.le_of_ble_eq_true rfl) (fun j v q => ?_) (fun Z X hρ hz hτ => ?_)
  · exact aL_ok (n := 0) [.ref (ρ a0)] j v q
  · subst hρ
    subst hτ
    exact w_X7_clear (Nat.le_refl _) Z X a0 h0 s r hz h

theorem dX7_copyFrom_0 : decode cX7_copyFrom 0 = .ok (.iconst 0, 1) := by decide +kernel
theorem dX7_copyFrom_1 : decode cX7_copyFrom 1 = .ok (.istore_n 2, 1) := by decide +kernel
theorem dX7_copyFrom_2 : decode cX7_copyFrom 2 = .ok (.iload_n 2, 1) := by decide +kernel
theorem dX7_copyFrom_3 : decode cX7_copyFrom 3 = .ok (.aload_n 1, 1) := by decide +kernel
theorem dX7_copyFrom_4 : decode cX7_copyFrom 4 = .ok (.getfield 19, 3) := by decide +kernel
theorem dX7_copyFrom_7 : decode cX7_copyFrom 7 = .ok (.if_icmp .ge 30, 3) := by decide +kernel
theorem dX7_copyFrom_10 : decode cX7_copyFrom 10 = .ok (.iload_n 2, 1) := by decide +kernel
theorem dX7_copyFrom_11 : decode cX7_copyFrom 11 = .ok (.aload_n 0, 1) := by decide +kernel
theorem dX7_copyFrom_12 : decode cX7_copyFrom 12 = .ok (.getfield 13, 3) := by decide +kernel
theorem dX7_copyFrom_15 : decode cX7_copyFrom 15 = .ok (.arraylength, 1) := by decide +kernel
theorem dX7_copyFrom_16 : decode cX7_copyFrom 16 = .ok (.if_icmp .ge 21, 3) := by decide +kernel
theorem dX7_copyFrom_19 : decode cX7_copyFrom 19 = .ok (.aload_n 0, 1) := by decide +kernel
theorem dX7_copyFrom_20 : decode cX7_copyFrom 20 = .ok (.getfield 13, 3) := by decide +kernel
theorem dX7_copyFrom_23 : decode cX7_copyFrom 23 = .ok (.iload_n 2, 1) := by decide +kernel
theorem dX7_copyFrom_24 : decode cX7_copyFrom 24 = .ok (.aload_n 1, 1) := by decide +kernel
theorem dX7_copyFrom_25 : decode cX7_copyFrom 25 = .ok (.getfield 13, 3) := by decide +kernel
theorem dX7_copyFrom_28 : decode cX7_copyFrom 28 = .ok (.iload_n 2, 1) := by decide +kernel
theorem dX7_copyFrom_29 : decode cX7_copyFrom 29 = .ok (.iaload, 1) := by decide +kernel
theorem dX7_copyFrom_30 : decode cX7_copyFrom 30 = .ok (.iastore, 1) := by decide +kernel
theorem dX7_copyFrom_31 : decode cX7_copyFrom 31 = .ok (.iinc 2 1, 3) := by decide +kernel
theorem dX7_copyFrom_34 : decode cX7_copyFrom 34 = .ok (.goto (-32), 3) := by decide +kernel
theorem dX7_copyFrom_37 : decode cX7_copyFrom 37 = .ok (.aload_n 0, 1) := by decide +kernel
theorem dX7_copyFrom_38 : decode cX7_copyFrom 38 = .ok (.aload_n 1, 1) := by decide +kernel
theorem dX7_copyFrom_39 : decode cX7_copyFrom 39 = .ok (.getfield 19, 3) := by decide +kernel
theorem dX7_copyFrom_42 : decode cX7_copyFrom 42 = .ok (.aload_n 0, 1) := by decide +kernel
theorem dX7_copyFrom_43 : decode cX7_copyFrom 43 = .ok (.getfield 13, 3) := by decide +kernel
theorem dX7_copyFrom_46 : decode cX7_copyFrom 46 = .ok (.arraylength, 1) := by decide +kernel
theorem dX7_copyFrom_47 : decode cX7_copyFrom 47 = .ok (.invokestatic 27, 3) := by decide +kernel
theorem dX7_copyFrom_50 : decode cX7_copyFrom 50 = .ok (.putfield 19, 3) := by decide +kernel
theorem dX7_copyFrom_53 : decode cX7_copyFrom 53 = .ok (.return_, 1) := by decide +kernel
set_option maxRecDepth 100000 in
set_option maxHeartbeats 4000000 in
theorem so_X7_copyFrom_2 {fr : Nat} (hfr : 1 ≤ fr) (Z : AZ) (X : AX Z cX7_copyFrom 3 RX7 none 0 fr) (a0 : Nat) (a1 : Nat) (h0 : IO 0 a0 6) (h1 : IO 0 a1 6) (x2 : Int32) (s : Mem) (q : (Int32 × Mem) ⊕ (Mem)) (h : st_X7_copyFrom_2 a0 a1 x2 s = some q) (hi : ∀ y : Int32 × Mem, q = .inl y → AW Z y.2 2 [some (.ref (zr Z a0)), some (.ref (zr Z a1)), some (.int y.1)] []) (he : ∀ b : Mem, q = .inr b → AW Z b 37 [some (.ref (zr Z a0)), some (.ref (zr Z a1)), none] []) : AW Z s 2 [some (.ref (zr Z a0)), some (.ref (zr Z a1)), some (.int x2)] [] := by
  unfold st_X7_copyFrom_2 at h
  refine aw_iload_n X dX7_copyFrom_2 rfl ?_
  refine aw_aload_n X dX7_copyFrom_3 rfl ?_
  refine aw_geti X dX7_copyFrom_4 fl_RX7_19 h1 (gt_RX7_1 h1) ?_
  refine aw_icmp_ge (tgt := 37) X dX7_copyFrom_7 (by decide) (fun c1 => ?_) (fun c1 => ?_)
  · rw [if_pos c1] at h
    cases h
    refine aw_msk [true, true, false] ?_
    exact he _ rfl
  · rw [if_neg c1] at h
    refine aw_iload_n X dX7_copyFrom_10 rfl ?_
    refine aw_aload_n X dX7_copyFrom_11 rfl ?_
    refine aw_getr X dX7_copyFrom_12 fl_RX7_13 h0 (gt_RX7_0 h0) ?_
    refine aw_alen (v := (Int32.ofNat (gL 0 (a0 + 1)))) X dX7_copyFrom_15 (it_RX7_0 h0) rfl ?_
    refine aw_icmp_ge (tgt := 37) X dX7_copyFrom_16 (by decide) (fun c2 => ?_) (fun c2 => ?_)
    · rw [if_pos c2] at h
      cases h
      refine aw_msk [true, true, false] ?_
      exact he _ rfl
    · rw [if_neg c2] at h
      refine aw_aload_n X dX7_copyFrom_19 rfl ?_
      refine aw_getr X dX7_copyFrom_20 fl_RX7_13 h0 (gt_RX7_0 h0) ?_
      refine aw_iload_n X dX7_copyFrom_23 rfl ?_
      refine aw_aload_n X dX7_copyFrom_24 rfl ?_
      refine aw_getr X dX7_copyFrom_25 fl_RX7_13 h1 (gt_RX7_0 h1) ?_
      refine aw_iload_n X dX7_copyFrom_28 rfl ?_
      obtain ⟨v3, ev3, h⟩ := bnd h
      refine aw_iald X dX7_copyFrom_29 (it_RX7_0 h1) ev3 ?_
      obtain ⟨s4, es4, h⟩ := bnd h
      refine aw_iast X dX7_copyFrom_30 (it_RX7_0 h0) es4 ?_
      refine aw_iinc (v := (x2 + 1)) (L' := [some (.ref (zr Z a0)), some (.ref (zr Z a1)), some (.int (x2 + 1))]) X dX7_copyFrom_31 rfl rfl (by decide) rfl ?_
      refine aw_goto (tgt := 2) X dX7_copyFrom_34 (by decide) ?_
      cases h
      refine aw_msk [true, true, true] ?_
      exact hi _ rfl
set_option maxRecDepth 100000 in
set_option maxHeartbeats 4000000 in
theorem jo_X7_copyFrom_37 {fr : Nat} (hfr : 1 ≤ fr) (Z : AZ) (X : AX Z cX7_copyFrom 3 RX7 none 0 fr) (a0 : Nat) (a1 : Nat) (h0 : IO 0 a0 6) (h1 : IO 0 a1 6) (s : Mem) (r : Mem) (hz : zres Z = (none, r)) (h : jn_X7_copyFrom_37 a0 a1 s = some r) : AW Z s 37 [some (.ref (zr Z a0)), some (.ref (zr Z a1)), none] [] := by
  unfold jn_X7_copyFrom_37 at h
  refine aw_aload_n X dX7_copyFrom_37 rfl ?_
  refine aw_aload_n X dX7_copyFrom_38 rfl ?_
  refine aw_geti X dX7_copyFrom_39 fl_RX7_19 h1 (gt_RX7_1 h1) ?_
  refine aw_aload_n X dX7_copyFrom_42 rfl ?_
  refine aw_getr X dX7_copyFrom_43 fl_RX7_13 h0 (gt_RX7_0 h0) ?_
  refine aw_alen (v := (Int32.ofNat (gL 0 (a0 + 1)))) X dX7_copyFrom_46 (it_RX7_0 h0) rfl ?_
  refine aw_mmin X (Nat.le_trans (by decide) hfr) dX7_copyFrom_47 mc_RX7_27 rfl ?_
  refine aw_put X dX7_copyFrom_50 fp_RX7_19 h0 (gt_RX7_1 h0) rfl rfl ?_
  cases h
  exact aw_vret X dX7_copyFrom_53 rfl hz.symm
set_option maxRecDepth 100000 in
set_option maxHeartbeats 4000000 in
theorem w_X7_copyFrom {fr : Nat} (hfr : 1 ≤ fr) (Z : AZ) (X : AX Z cX7_copyFrom 3 RX7 none 0 fr) (a0 : Nat) (a1 : Nat) (h0 : IO 0 a0 6) (h1 : IO 0 a1 6) (s : Mem) (r : Mem) (hz : zres Z = (none, r)) (h : f_X7_copyFrom a0 a1 s = some r) : AW Z s 0 [some (.ref (zr Z a0)), some (.ref (zr Z a1)), none] [] := by
  unfold f_X7_copyFrom at h
  refine aw_iconst (v := 0) X dX7_copyFrom_0 (by decide) ?_
  refine aw_istore_n (L' := [some (.ref (zr Z a0)), some (.ref (zr Z a1)), some (.int 0)]) X dX7_copyFrom_1 (by decide) rfl ?_
  obtain ⟨r5, er5, h⟩ := bnd h
  refine aw_msk [true, true, true] ?_
  refine it_ok (P := fun y : Int32 × Mem => AW Z y.2 2 [some (.ref (zr Z a0)), some (.ref (zr Z a1)), some (.int y.1)] []) (Q := fun b : Mem => AW Z b 37 [some (.ref (zr Z a0)), some (.ref (zr Z a1)), none] []) (fun y q hq hi he => so_X7_copyFrom_2 hfr Z X a0 a1 h0 h1 y.1 y.2 q hq hi he) FUEL _ _ er5 ?_
  refine aw_msk [true, true, false] ?_
  exact jo_X7_copyFrom_37 hfr Z X a0 a1 h0 h1 _ _ hz h
set_option maxRecDepth 100000 in
set_option maxHeartbeats 4000000 in
theorem ok_X7_copyFrom {a0 : Nat} {a1 : Nat} (h0 : IO 0 a0 6) (h1 : IO 0 a1 6) {s : Mem} {r : Mem} (h : f_X7_copyFrom a0 a1 s = some r) (l : Launch) (D : va_G) (ρ : Nat → Nat) (cA : ClassId × ClassId × ClassId) (τ : AT) : AM l D ρ cA 0 τ yX7_copyFrom cX7_copyFrom 3 none 1 [.ref (ρ a0), .ref (ρ a1)] none s r := by
  refine AM_of (L := [some (.ref (ρ a0)), some (.ref (ρ a1)), none]) (by decide) (by simp [Value.category]) (Nat.le_of_ble_eq_true rfl) (fun j v q => ?_) (fun Z X hρ hz hτ => ?_)
  · exact aL_ok (n := 1) [.ref (ρ a0), .ref (ρ a1)] j v q
  · subst hρ
    subst hτ
    exact w_X7_copyFrom (Nat.le_refl _) Z X a0 a1 h0 h1 s r hz h

theorem dX8_termRow_0 : decode cX8_termRow 0 = .ok (.iload_n 1, 1) := by decide +kernel
theorem dX8_termRow_1 : decode cX8_termRow 1 = .ok (.ifCond .ne 10, 3) := by decide +kernel
theorem dX8_termRow_4 : decode cX8_termRow 4 = .ok (.aload_n 0, 1) := by decide +kernel
theorem dX8_termRow_5 : decode cX8_termRow 5 = .ok (.getfield 36, 3) := by decide +kernel
theorem dX8_termRow_8 : decode cX8_termRow 8 = .ok (.goto 7, 3) := by decide +kernel
theorem dX8_termRow_11 : decode cX8_termRow 11 = .ok (.aload_n 0, 1) := by decide +kernel
theorem dX8_termRow_12 : decode cX8_termRow 12 = .ok (.getfield 39, 3) := by decide +kernel
theorem dX8_termRow_15 : decode cX8_termRow 15 = .ok (.areturn, 1) := by decide +kernel
set_option maxRecDepth 100000 in
set_option maxHeartbeats 4000000 in
theorem w_X8_termRow {fr : Nat} (hfr : 0 ≤ fr) (Z : AZ) (X : AX Z cX8_termRow 2 RX8 (some (.object "HiccupLane$Row")) 0 fr) (a0 : Nat) (h0 : IO 0 a0 7) (x1 : Int32) (s : Mem) (r : Nat × Mem) (hz : zres Z = (some (.ref (zr Z r.1)), r.2)) (h : f_X8_termRow a0 x1 s = some r) : AW Z s 0 [some (.ref (zr Z a0)), some (.int x1)] [] := by
  unfold f_X8_termRow at h
  refine aw_iload_n X dX8_termRow_0 rfl ?_
  refine aw_if_ne (tgt := 11) X dX8_termRow_1 (by decide) (fun c1 => ?_) (fun c1 => ?_)
  · rw [if_neg c1] at h
    refine aw_aload_n X dX8_termRow_11 rfl ?_
    refine aw_getr X dX8_termRow_12 fl_RX8_39 h0 (gt_RX8_8 h0) ?_
    cases h
    exact aw_aret X dX8_termRow_15 rfl (Or.inl ⟨_, rfl⟩) hz.symm
  · rw [if_pos c1] at h
    refine aw_aload_n X dX8_termRow_4 rfl ?_
    refine aw_getr X dX8_termRow_5 fl_RX8_36 h0 (gt_RX8_7 h0) ?_
    refine aw_goto (tgt := 15) X dX8_termRow_8 (by decide) ?_
    cases h
    exact aw_aret X dX8_termRow_15 rfl (Or.inl ⟨_, rfl⟩) hz.symm
set_option maxRecDepth 100000 in
set_option maxHeartbeats 4000000 in
theorem ok_X8_termRow {a0 : Nat} (h0 : IO 0 a0 7) {x1 : Int32} {s : Mem} {r : Nat × Mem} (h : f_X8_termRow a0 x1 s = some r) (l : Launch) (D : va_G) (ρ : Nat → Nat) (cA : ClassId × ClassId × ClassId) (τ : AT) : AM l D ρ cA 0 τ yX8_termRow cX8_termRow 2 (some (.object "HiccupLane$Row")) 0 [.ref (ρ a0), .int x1] (some (.ref (ρ r.1))) s r.2 := by
  refine AM_of (L := [some (.ref (ρ a0)), some (.int x1)]) (by decide) (by simp [Value.category]) (Nat.le_of_ble_eq_true rfl) (fun j v q => ?_) (fun Z X hρ hz hτ => ?_)
  · exact aL_ok (n := 0) [.ref (ρ a0), .int x1] j v q
  · subst hρ
    subst hτ
    exact w_X8_termRow (Nat.le_refl _) Z X a0 h0 x1 s r hz h
theorem rt_X8_termRow {a0 : Nat} (h0 : IO 0 a0 7) {x1 : Int32} {s : Mem} {r : Nat × Mem} (h : f_X8_termRow a0 x1 s = some r) : IO 0 r.1 6 := by
  unfold f_X8_termRow at h
  split at h <;> cases h
  · exact it_RX8_7 h0
  · exact it_RX8_8 h0


theorem dX8_copyFrom_0 : decode cX8_copyFrom 0 = .ok (.aload_n 0, 1) := by decide +kernel
theorem dX8_copyFrom_1 : decode cX8_copyFrom 1 = .ok (.getfield 12, 3) := by decide +kernel
theorem dX8_copyFrom_4 : decode cX8_copyFrom 4 = .ok (.aload_n 1, 1) := by decide +kernel
theorem dX8_copyFrom_5 : decode cX8_copyFrom 5 = .ok (.getfield 12, 3) := by decide +kernel
theorem dX8_copyFrom_8 : decode cX8_copyFrom 8 = .ok (.invokevirtual 51, 3) := by decide +kernel
theorem dX8_copyFrom_11 : decode cX8_copyFrom 11 = .ok (.aload_n 0, 1) := by decide +kernel
theorem dX8_copyFrom_12 : decode cX8_copyFrom 12 = .ok (.getfield 18, 3) := by decide +kernel
theorem dX8_copyFrom_15 : decode cX8_copyFrom 15 = .ok (.aload_n 1, 1) := by decide +kernel
theorem dX8_copyFrom_16 : decode cX8_copyFrom 16 = .ok (.getfield 18, 3) := by decide +kernel
theorem dX8_copyFrom_19 : decode cX8_copyFrom 19 = .ok (.invokevirtual 51, 3) := by decide +kernel
theorem dX8_copyFrom_22 : decode cX8_copyFrom 22 = .ok (.aload_n 0, 1) := by decide +kernel
theorem dX8_copyFrom_23 : decode cX8_copyFrom 23 = .ok (.getfield 21, 3) := by decide +kernel
theorem dX8_copyFrom_26 : decode cX8_copyFrom 26 = .ok (.aload_n 1, 1) := by decide +kernel
theorem dX8_copyFrom_27 : decode cX8_copyFrom 27 = .ok (.getfield 21, 3) := by decide +kernel
theorem dX8_copyFrom_30 : decode cX8_copyFrom 30 = .ok (.invokevirtual 51, 3) := by decide +kernel
theorem dX8_copyFrom_33 : decode cX8_copyFrom 33 = .ok (.aload_n 0, 1) := by decide +kernel
theorem dX8_copyFrom_34 : decode cX8_copyFrom 34 = .ok (.getfield 24, 3) := by decide +kernel
theorem dX8_copyFrom_37 : decode cX8_copyFrom 37 = .ok (.aload_n 1, 1) := by decide +kernel
theorem dX8_copyFrom_38 : decode cX8_copyFrom 38 = .ok (.getfield 24, 3) := by decide +kernel
theorem dX8_copyFrom_41 : decode cX8_copyFrom 41 = .ok (.invokevirtual 51, 3) := by decide +kernel
theorem dX8_copyFrom_44 : decode cX8_copyFrom 44 = .ok (.aload_n 0, 1) := by decide +kernel
theorem dX8_copyFrom_45 : decode cX8_copyFrom 45 = .ok (.getfield 27, 3) := by decide +kernel
theorem dX8_copyFrom_48 : decode cX8_copyFrom 48 = .ok (.aload_n 1, 1) := by decide +kernel
theorem dX8_copyFrom_49 : decode cX8_copyFrom 49 = .ok (.getfield 27, 3) := by decide +kernel
theorem dX8_copyFrom_52 : decode cX8_copyFrom 52 = .ok (.invokevirtual 51, 3) := by decide +kernel
theorem dX8_copyFrom_55 : decode cX8_copyFrom 55 = .ok (.aload_n 0, 1) := by decide +kernel
theorem dX8_copyFrom_56 : decode cX8_copyFrom 56 = .ok (.getfield 30, 3) := by decide +kernel
theorem dX8_copyFrom_59 : decode cX8_copyFrom 59 = .ok (.aload_n 1, 1) := by decide +kernel
theorem dX8_copyFrom_60 : decode cX8_copyFrom 60 = .ok (.getfield 30, 3) := by decide +kernel
theorem dX8_copyFrom_63 : decode cX8_copyFrom 63 = .ok (.invokevirtual 51, 3) := by decide +kernel
theorem dX8_copyFrom_66 : decode cX8_copyFrom 66 = .ok (.aload_n 0, 1) := by decide +kernel
theorem dX8_copyFrom_67 : decode cX8_copyFrom 67 = .ok (.getfield 33, 3) := by decide +kernel
theorem dX8_copyFrom_70 : decode cX8_copyFrom 70 = .ok (.aload_n 1, 1) := by decide +kernel
theorem dX8_copyFrom_71 : decode cX8_copyFrom 71 = .ok (.getfield 33, 3) := by decide +kernel
theorem dX8_copyFrom_74 : decode cX8_copyFrom 74 = .ok (.invokevirtual 51, 3) := by decide +kernel
theorem dX8_copyFrom_77 : decode cX8_copyFrom 77 = .ok (.aload_n 0, 1) := by decide +kernel
theorem dX8_copyFrom_78 : decode cX8_copyFrom 78 = .ok (.getfield 36, 3) := by decide +kernel
theorem dX8_copyFrom_81 : decode cX8_copyFrom 81 = .ok (.aload_n 1, 1) := by decide +kernel
theorem dX8_copyFrom_82 : decode cX8_copyFrom 82 = .ok (.getfield 36, 3) := by decide +kernel
theorem dX8_copyFrom_85 : decode cX8_copyFrom 85 = .ok (.invokevirtual 51, 3) := by decide +kernel
theorem dX8_copyFrom_88 : decode cX8_copyFrom 88 = .ok (.aload_n 0, 1) := by decide +kernel
theorem dX8_copyFrom_89 : decode cX8_copyFrom 89 = .ok (.getfield 39, 3) := by decide +kernel
theorem dX8_copyFrom_92 : decode cX8_copyFrom 92 = .ok (.aload_n 1, 1) := by decide +kernel
theorem dX8_copyFrom_93 : decode cX8_copyFrom 93 = .ok (.getfield 39, 3) := by decide +kernel
theorem dX8_copyFrom_96 : decode cX8_copyFrom 96 = .ok (.invokevirtual 51, 3) := by decide +kernel
theorem dX8_copyFrom_99 : decode cX8_copyFrom 99 = .ok (.aload_n 0, 1) := by decide +kernel
theorem dX8_copyFrom_100 : decode cX8_copyFrom 100 = .ok (.getfield 42, 3) := by decide +kernel
theorem dX8_copyFrom_103 : decode cX8_copyFrom 103 = .ok (.aload_n 1, 1) := by decide +kernel
theorem dX8_copyFrom_104 : decode cX8_copyFrom 104 = .ok (.getfield 42, 3) := by decide +kernel
theorem dX8_copyFrom_107 : decode cX8_copyFrom 107 = .ok (.invokevirtual 51, 3) := by decide +kernel
theorem dX8_copyFrom_110 : decode cX8_copyFrom 110 = .ok (.aload_n 0, 1) := by decide +kernel
theorem dX8_copyFrom_111 : decode cX8_copyFrom 111 = .ok (.getfield 45, 3) := by decide +kernel
theorem dX8_copyFrom_114 : decode cX8_copyFrom 114 = .ok (.aload_n 1, 1) := by decide +kernel
theorem dX8_copyFrom_115 : decode cX8_copyFrom 115 = .ok (.getfield 45, 3) := by decide +kernel
theorem dX8_copyFrom_118 : decode cX8_copyFrom 118 = .ok (.invokevirtual 51, 3) := by decide +kernel
theorem dX8_copyFrom_121 : decode cX8_copyFrom 121 = .ok (.aload_n 0, 1) := by decide +kernel
theorem dX8_copyFrom_122 : decode cX8_copyFrom 122 = .ok (.getfield 48, 3) := by decide +kernel
theorem dX8_copyFrom_125 : decode cX8_copyFrom 125 = .ok (.aload_n 1, 1) := by decide +kernel
theorem dX8_copyFrom_126 : decode cX8_copyFrom 126 = .ok (.getfield 48, 3) := by decide +kernel
theorem dX8_copyFrom_129 : decode cX8_copyFrom 129 = .ok (.invokevirtual 51, 3) := by decide +kernel
theorem dX8_copyFrom_132 : decode cX8_copyFrom 132 = .ok (.return_, 1) := by decide +kernel
set_option maxRecDepth 100000 in
set_option maxHeartbeats 4000000 in
theorem w_X8_copyFrom {fr : Nat} (hfr : 2 ≤ fr) (Z : AZ) (X : AX Z cX8_copyFrom 2 RX8 none 0 fr) (a0 : Nat) (a1 : Nat) (h0 : IO 0 a0 7) (h1 : IO 0 a1 7) (s : Mem) (r : Mem) (hz : zres Z = (none, r)) (h : f_X8_copyFrom a0 a1 s = some r) : AW Z s 0 [some (.ref (zr Z a0)), some (.ref (zr Z a1))] [] := by
  unfold f_X8_copyFrom at h
  refine aw_aload_n X dX8_copyFrom_0 rfl ?_
  refine aw_getr X dX8_copyFrom_1 fl_RX8_12 h0 (gt_RX8_0 h0) ?_
  refine aw_aload_n X dX8_copyFrom_4 rfl ?_
  refine aw_getr X dX8_copyFrom_5 fl_RX8_12 h1 (gt_RX8_0 h1) ?_
  obtain ⟨r1, er1, h⟩ := bnd h
  refine aw_callV X dX8_copyFrom_8 cv_RX8_51 (ok_X7_copyFrom (it_RX8_0 h0) (it_RX8_0 h1) er1 _ _ _ _ _) (it_RX8_0 h0) rfl (Nat.le_trans (by decide) hfr) (by decide) rfl rfl (Nat.le_of_ble_eq_true rfl) ?_
  refine aw_aload_n X dX8_copyFrom_11 rfl ?_
  refine aw_getr X dX8_copyFrom_12 fl_RX8_18 h0 (gt_RX8_1 h0) ?_
  refine aw_aload_n X dX8_copyFrom_15 rfl ?_
  refine aw_getr X dX8_copyFrom_16 fl_RX8_18 h1 (gt_RX8_1 h1) ?_
  obtain ⟨r2, er2, h⟩ := bnd h
  refine aw_callV X dX8_copyFrom_19 cv_RX8_51 (ok_X7_copyFrom (it_RX8_1 h0) (it_RX8_1 h1) er2 _ _ _ _ _) (it_RX8_1 h0) rfl (Nat.le_trans (by decide) hfr) (by decide) rfl rfl (Nat.le_of_ble_eq_true rfl) ?_
  refine aw_aload_n X dX8_copyFrom_22 rfl ?_
  refine aw_getr X dX8_copyFrom_23 fl_RX8_21 h0 (gt_RX8_2 h0) ?_
  refine aw_aload_n X dX8_copyFrom_26 rfl ?_
  refine aw_getr X dX8_copyFrom_27 fl_RX8_21 h1 (gt_RX8_2 h1) ?_
  obtain ⟨r3, er3, h⟩ := bnd h
  refine aw_callV X dX8_copyFrom_30 cv_RX8_51 (ok_X7_copyFrom (it_RX8_2 h0) (it_RX8_2 h1) er3 _ _ _ _ _) (it_RX8_2 h0) rfl (Nat.le_trans (by decide) hfr) (by decide) rfl rfl (Nat.le_of_ble_eq_true rfl) ?_
  refine aw_aload_n X dX8_copyFrom_33 rfl ?_
  refine aw_getr X dX8_copyFrom_34 fl_RX8_24 h0 (gt_RX8_3 h0) ?_
  refine aw_aload_n X dX8_copyFrom_37 rfl ?_
  refine aw_getr X dX8_copyFrom_38 fl_RX8_24 h1 (gt_RX8_3 h1) ?_
  obtain ⟨r4, er4, h⟩ := bnd h
  refine aw_callV X dX8_copyFrom_41 cv_RX8_51 (ok_X7_copyFrom (it_RX8_3 h0) (it_RX8_3 h1) er4 _ _ _ _ _) (it_RX8_3 h0) rfl (Nat.le_trans (by decide) hfr) (by decide) rfl rfl (Nat.le_of_ble_eq_true rfl) ?_
  refine aw_aload_n X dX8_copyFrom_44 rfl ?_
  refine aw_getr X dX8_copyFrom_45 fl_RX8_27 h0 (gt_RX8_4 h0) ?_
  refine aw_aload_n X dX8_copyFrom_48 rfl ?_
  refine aw_getr X dX8_copyFrom_49 fl_RX8_27 h1 (gt_RX8_4 h1) ?_
  obtain ⟨r5, er5, h⟩ := bnd h
  refine aw_callV X dX8_copyFrom_52 cv_RX8_51 (ok_X7_copyFrom (it_RX8_4 h0) (it_RX8_4 h1) er5 _ _ _ _ _) (it_RX8_4 h0) rfl (Nat.le_trans (by decide) hfr) (by decide) rfl rfl (Nat.le_of_ble_eq_true rfl) ?_
  refine aw_aload_n X dX8_copyFrom_55 rfl ?_
  refine aw_getr X dX8_copyFrom_56 fl_RX8_30 h0 (gt_RX8_5 h0) ?_
  refine aw_aload_n X dX8_copyFrom_59 rfl ?_
  refine aw_getr X dX8_copyFrom_60 fl_RX8_30 h1 (gt_RX8_5 h1) ?_
  obtain ⟨r6, er6, h⟩ := bnd h
  refine aw_callV X dX8_copyFrom_63 cv_RX8_51 (ok_X7_copyFrom (it_RX8_5 h0) (it_RX8_5 h1) er6 _ _ _ _ _) (it_RX8_5 h0) rfl (Nat.le_trans (by decide) hfr) (by decide) rfl rfl (Nat.le_of_ble_eq_true rfl) ?_
  refine aw_aload_n X dX8_copyFrom_66 rfl ?_
  refine aw_getr X dX8_copyFrom_67 fl_RX8_33 h0 (gt_RX8_6 h0) ?_
  refine aw_aload_n X dX8_copyFrom_70 rfl ?_
  refine aw_getr X dX8_copyFrom_71 fl_RX8_33 h1 (gt_RX8_6 h1) ?_
  obtain ⟨r7, er7, h⟩ := bnd h
  refine aw_callV X dX8_copyFrom_74 cv_RX8_51 (ok_X7_copyFrom (it_RX8_6 h0) (it_RX8_6 h1) er7 _ _ _ _ _) (it_RX8_6 h0) rfl (Nat.le_trans (by decide) hfr) (by decide) rfl rfl (Nat.le_of_ble_eq_true rfl) ?_
  refine aw_aload_n X dX8_copyFrom_77 rfl ?_
  refine aw_getr X dX8_copyFrom_78 fl_RX8_36 h0 (gt_RX8_7 h0) ?_
  refine aw_aload_n X dX8_copyFrom_81 rfl ?_
  refine aw_getr X dX8_copyFrom_82 fl_RX8_36 h1 (gt_RX8_7 h1) ?_
  obtain ⟨r8, er8, h⟩ := bnd h
  refine aw_callV X dX8_copyFrom_85 cv_RX8_51 (ok_X7_copyFrom (it_RX8_7 h0) (it_RX8_7 h1) er8 _ _ _ _ _) (it_RX8_7 h0) rfl (Nat.le_trans (by decide) hfr) (by decide) rfl rfl (Nat.le_of_ble_eq_true rfl) ?_
  refine aw_aload_n X dX8_copyFrom_88 rfl ?_
  refine aw_getr X dX8_copyFrom_89 fl_RX8_39 h0 (gt_RX8_8 h0) ?_
  refine aw_aload_n X dX8_copyFrom_92 rfl ?_
  refine aw_getr X dX8_copyFrom_93 fl_RX8_39 h1 (gt_RX8_8 h1) ?_
  obtain ⟨r9, er9, h⟩ := bnd h
  refine aw_callV X dX8_copyFrom_96 cv_RX8_51 (ok_X7_copyFrom (it_RX8_8 h0) (it_RX8_8 h1) er9 _ _ _ _ _) (it_RX8_8 h0) rfl (Nat.le_trans (by decide) hfr) (by decide) rfl rfl (Nat.le_of_ble_eq_true rfl) ?_
  refine aw_aload_n X dX8_copyFrom_99 rfl ?_
  refine aw_getr X dX8_copyFrom_100 fl_RX8_42 h0 (gt_RX8_9 h0) ?_
  refine aw_aload_n X dX8_copyFrom_103 rfl ?_
  refine aw_getr X dX8_copyFrom_104 fl_RX8_42 h1 (gt_RX8_9 h1) ?_
  obtain ⟨r10, er10, h⟩ := bnd h
  refine aw_callV X dX8_copyFrom_107 cv_RX8_51 (ok_X7_copyFrom (it_RX8_9 h0) (it_RX8_9 h1) er10 _ _ _ _ _) (it_RX8_9 h0) rfl (Nat.le_trans (by decide) hfr) (by decide) rfl rfl (Nat.le_of_ble_eq_true rfl) ?_
  refine aw_aload_n X dX8_copyFrom_110 rfl ?_
  refine aw_getr X dX8_copyFrom_111 fl_RX8_45 h0 (gt_RX8_10 h0) ?_
  refine aw_aload_n X dX8_copyFrom_114 rfl ?_
  refine aw_getr X dX8_copyFrom_115 fl_RX8_45 h1 (gt_RX8_10 h1) ?_
  obtain ⟨r11, er11, h⟩ := bnd h
  refine aw_callV X dX8_copyFrom_118 cv_RX8_51 (ok_X7_copyFrom (it_RX8_10 h0) (it_RX8_10 h1) er11 _ _ _ _ _) (it_RX8_10 h0) rfl (Nat.le_trans (by decide) hfr) (by decide) rfl rfl (Nat.le_of_ble_eq_true rfl) ?_
  refine aw_aload_n X dX8_copyFrom_121 rfl ?_
  refine aw_getr X dX8_copyFrom_122 fl_RX8_48 h0 (gt_RX8_11 h0) ?_
  refine aw_aload_n X dX8_copyFrom_125 rfl ?_
  refine aw_getr X dX8_copyFrom_126 fl_RX8_48 h1 (gt_RX8_11 h1) ?_
  obtain ⟨r12, er12, h⟩ := bnd h
  refine aw_callV X dX8_copyFrom_129 cv_RX8_51 (ok_X7_copyFrom (it_RX8_11 h0) (it_RX8_11 h1) er12 _ _ _ _ _) (it_RX8_11 h0) rfl (Nat.le_trans (by decide) hfr) (by decide) rfl rfl (Nat.le_of_ble_eq_true rfl) ?_
  cases h
  exact aw_vret X dX8_copyFrom_132 rfl hz.symm
set_option maxRecDepth 100000 in
set_option maxHeartbeats 4000000 in
theorem ok_X8_copyFrom {a0 : Nat} {a1 : Nat} (h0 : IO 0 a0 7) (h1 : IO 0 a1 7) {s : Mem} {r : Mem} (h : f_X8_copyFrom a0 a1 s = some r) (l : Launch) (D : va_G) (ρ : Nat → Nat) (cA : ClassId × ClassId × ClassId) (τ : AT) : AM l D ρ cA 0 τ yX8_copyFrom cX8_copyFrom 2 none 2 [.ref (ρ a0), .ref (ρ a1)] none s r := by
  refine AM_of (L := [some (.ref (ρ a0)), some (.ref (ρ a1))]) (by decide) (by simp [Value.category]) (Nat.le_of_ble_eq_true rfl) (fun j v q => ?_) (fun Z X hρ hz hτ => ?_)
  · exact aL_ok (n := 0) [.ref (ρ a0), .ref (ρ a1)] j v q
  · subst hρ
    subst hτ
    exact w_X8_copyFrom (Nat.le_refl _) Z X a0 a1 h0 h1 s r hz h

theorem dX9_greatestSum_0 : decode cX9_greatestSum 0 = .ok (.aload_n 1, 1) := by decide +kernel
theorem dX9_greatestSum_1 : decode cX9_greatestSum 1 = .ok (.getfield 25, 3) := by decide +kernel
theorem dX9_greatestSum_4 : decode cX9_greatestSum 4 = .ok (.ifCond .ne 5, 3) := by decide +kernel
theorem dX9_greatestSum_7 : decode cX9_greatestSum 7 = .ok (.iconst 0, 1) := by decide +kernel
theorem dX9_greatestSum_8 : decode cX9_greatestSum 8 = .ok (.ireturn, 1) := by decide +kernel
theorem dX9_greatestSum_9 : decode cX9_greatestSum 9 = .ok (.aload_n 1, 1) := by decide +kernel
theorem dX9_greatestSum_10 : decode cX9_greatestSum 10 = .ok (.iconst 0, 1) := by decide +kernel
theorem dX9_greatestSum_11 : decode cX9_greatestSum 11 = .ok (.invokevirtual 31, 3) := by decide +kernel
theorem dX9_greatestSum_14 : decode cX9_greatestSum 14 = .ok (.istore_n 3, 1) := by decide +kernel
theorem dX9_greatestSum_15 : decode cX9_greatestSum 15 = .ok (.iconst 0, 1) := by decide +kernel
theorem dX9_greatestSum_16 : decode cX9_greatestSum 16 = .ok (.istore 4, 2) := by decide +kernel
theorem dX9_greatestSum_18 : decode cX9_greatestSum 18 = .ok (.iload 4, 2) := by decide +kernel
theorem dX9_greatestSum_20 : decode cX9_greatestSum 20 = .ok (.aload_n 1, 1) := by decide +kernel
theorem dX9_greatestSum_21 : decode cX9_greatestSum 21 = .ok (.getfield 25, 3) := by decide +kernel
theorem dX9_greatestSum_24 : decode cX9_greatestSum 24 = .ok (.if_icmp .ge 91, 3) := by decide +kernel
theorem dX9_greatestSum_27 : decode cX9_greatestSum 27 = .ok (.iconst 0, 1) := by decide +kernel
theorem dX9_greatestSum_28 : decode cX9_greatestSum 28 = .ok (.istore 5, 2) := by decide +kernel
theorem dX9_greatestSum_30 : decode cX9_greatestSum 30 = .ok (.aload_n 1, 1) := by decide +kernel
theorem dX9_greatestSum_31 : decode cX9_greatestSum 31 = .ok (.iload 4, 2) := by decide +kernel
theorem dX9_greatestSum_33 : decode cX9_greatestSum 33 = .ok (.invokevirtual 31, 3) := by decide +kernel
theorem dX9_greatestSum_36 : decode cX9_greatestSum 36 = .ok (.istore 6, 2) := by decide +kernel
theorem dX9_greatestSum_38 : decode cX9_greatestSum 38 = .ok (.iload 4, 2) := by decide +kernel
theorem dX9_greatestSum_40 : decode cX9_greatestSum 40 = .ok (.istore 7, 2) := by decide +kernel
theorem dX9_greatestSum_42 : decode cX9_greatestSum 42 = .ok (.iload 7, 2) := by decide +kernel
theorem dX9_greatestSum_44 : decode cX9_greatestSum 44 = .ok (.aload_n 1, 1) := by decide +kernel
theorem dX9_greatestSum_45 : decode cX9_greatestSum 45 = .ok (.getfield 25, 3) := by decide +kernel
theorem dX9_greatestSum_48 : decode cX9_greatestSum 48 = .ok (.if_icmp .ge 61, 3) := by decide +kernel
theorem dX9_greatestSum_51 : decode cX9_greatestSum 51 = .ok (.iload 5, 2) := by decide +kernel
theorem dX9_greatestSum_53 : decode cX9_greatestSum 53 = .ok (.aload_n 1, 1) := by decide +kernel
theorem dX9_greatestSum_54 : decode cX9_greatestSum 54 = .ok (.iload 7, 2) := by decide +kernel
theorem dX9_greatestSum_56 : decode cX9_greatestSum 56 = .ok (.invokevirtual 31, 3) := by decide +kernel
theorem dX9_greatestSum_59 : decode cX9_greatestSum 59 = .ok (.iadd, 1) := by decide +kernel
theorem dX9_greatestSum_60 : decode cX9_greatestSum 60 = .ok (.istore 5, 2) := by decide +kernel
theorem dX9_greatestSum_62 : decode cX9_greatestSum 62 = .ok (.iload 6, 2) := by decide +kernel
theorem dX9_greatestSum_64 : decode cX9_greatestSum 64 = .ok (.aload_n 1, 1) := by decide +kernel
theorem dX9_greatestSum_65 : decode cX9_greatestSum 65 = .ok (.iload 7, 2) := by decide +kernel
theorem dX9_greatestSum_67 : decode cX9_greatestSum 67 = .ok (.invokevirtual 31, 3) := by decide +kernel
theorem dX9_greatestSum_70 : decode cX9_greatestSum 70 = .ok (.invokestatic 35, 3) := by decide +kernel
theorem dX9_greatestSum_73 : decode cX9_greatestSum 73 = .ok (.istore 6, 2) := by decide +kernel
theorem dX9_greatestSum_75 : decode cX9_greatestSum 75 = .ok (.iload_n 3, 1) := by decide +kernel
theorem dX9_greatestSum_76 : decode cX9_greatestSum 76 = .ok (.iload 5, 2) := by decide +kernel
theorem dX9_greatestSum_78 : decode cX9_greatestSum 78 = .ok (.invokestatic 41, 3) := by decide +kernel
theorem dX9_greatestSum_81 : decode cX9_greatestSum 81 = .ok (.istore_n 3, 1) := by decide +kernel
theorem dX9_greatestSum_82 : decode cX9_greatestSum 82 = .ok (.iload_n 2, 1) := by decide +kernel
theorem dX9_greatestSum_83 : decode cX9_greatestSum 83 = .ok (.ifCond .eq 20, 3) := by decide +kernel
theorem dX9_greatestSum_86 : decode cX9_greatestSum 86 = .ok (.iload 7, 2) := by decide +kernel
theorem dX9_greatestSum_88 : decode cX9_greatestSum 88 = .ok (.iload 4, 2) := by decide +kernel
theorem dX9_greatestSum_90 : decode cX9_greatestSum 90 = .ok (.if_icmp .le 13, 3) := by decide +kernel
theorem dX9_greatestSum_93 : decode cX9_greatestSum 93 = .ok (.iload_n 3, 1) := by decide +kernel
theorem dX9_greatestSum_94 : decode cX9_greatestSum 94 = .ok (.iload 5, 2) := by decide +kernel
theorem dX9_greatestSum_96 : decode cX9_greatestSum 96 = .ok (.iload 6, 2) := by decide +kernel
theorem dX9_greatestSum_98 : decode cX9_greatestSum 98 = .ok (.isub, 1) := by decide +kernel
theorem dX9_greatestSum_99 : decode cX9_greatestSum 99 = .ok (.invokestatic 41, 3) := by decide +kernel
theorem dX9_greatestSum_102 : decode cX9_greatestSum 102 = .ok (.istore_n 3, 1) := by decide +kernel
theorem dX9_greatestSum_103 : decode cX9_greatestSum 103 = .ok (.iinc 7 1, 3) := by decide +kernel
theorem dX9_greatestSum_106 : decode cX9_greatestSum 106 = .ok (.goto (-64), 3) := by decide +kernel
theorem dX9_greatestSum_109 : decode cX9_greatestSum 109 = .ok (.iinc 4 1, 3) := by decide +kernel
theorem dX9_greatestSum_112 : decode cX9_greatestSum 112 = .ok (.goto (-94), 3) := by decide +kernel
theorem dX9_greatestSum_115 : decode cX9_greatestSum 115 = .ok (.iload_n 3, 1) := by decide +kernel
theorem dX9_greatestSum_116 : decode cX9_greatestSum 116 = .ok (.ireturn, 1) := by decide +kernel
set_option maxRecDepth 100000 in
set_option maxHeartbeats 4000000 in
theorem so_X9_greatestSum_42 {fr : Nat} (hfr : 1 ≤ fr) (Z : AZ) (X : AX Z cX9_greatestSum 8 RX9 (some .int) 0 fr) (a1 : Nat) (h1 : IO 0 a1 6) (x2 : Int32) (x4 : Int32) (x3 : Int32) (x5 : Int32) (x6 : Int32) (x7 : Int32) (s : Mem) (q : (Int32 × Int32 × Int32 × Int32 × Mem) ⊕ (Int32 × Mem)) (h : st_X9_greatestSum_42 a1 x2 x4 x3 x5 x6 x7 s = some q) (hi : ∀ y : Int32 × Int32 × Int32 × Int32 × Mem, q = .inl y → AW Z y.2.2.2.2 42 [none, some (.ref (zr Z a1)), some (.int x2), some (.int y.1), some (.int x4), some (.int y.2.1), some (.int y.2.2.1), some (.int y.2.2.2.1)] []) (he : ∀ b : Int32 × Mem, q = .inr b → AW Z b.2 109 [none, some (.ref (zr Z a1)), some (.int x2), some (.int b.1), some (.int x4), none, none, none] []) : AW Z s 42 [none, some (.ref (zr Z a1)), some (.int x2), some (.int x3), some (.int x4), some (.int x5), some (.int x6), some (.int x7)] [] := by
  unfold st_X9_greatestSum_42 at h
  refine aw_iload X dX9_greatestSum_42 rfl ?_
  refine aw_aload_n X dX9_greatestSum_44 rfl ?_
  refine aw_geti X dX9_greatestSum_45 fl_RX9_25 h1 (gt_RX7_1 h1) ?_
  refine aw_icmp_ge (tgt := 109) X dX9_greatestSum_48 (by decide) (fun c5 => ?_) (fun c5 => ?_)
  · rw [if_pos c5] at h
    cases h
    refine aw_msk [false, true, true, true, true, false, false, false] ?_
    exact he _ rfl
  · rw [if_neg c5] at h
    refine aw_iload X dX9_greatestSum_51 rfl ?_
    refine aw_aload_n X dX9_greatestSum_53 rfl ?_
    refine aw_iload X dX9_greatestSum_54 rfl ?_
    obtain ⟨r6, er6, h⟩ := bnd h
    refine aw_callV X dX9_greatestSum_56 cv_RX9_31 (ok_X7_at h1 er6 _ _ _ _ _) h1 rfl (Nat.le_trans (by decide) hfr) (by decide) rfl rfl (Nat.le_of_ble_eq_true rfl) ?_
    refine aw_iadd X dX9_greatestSum_59 ?_
    refine aw_istore (L' := [none, some (.ref (zr Z a1)), some (.int x2), some (.int x3), some (.int x4), some (.int (x5 + r6.1)), some (.int x6), some (.int x7)]) X dX9_greatestSum_60 (by decide) rfl ?_
    refine aw_iload X dX9_greatestSum_62 rfl ?_
    refine aw_aload_n X dX9_greatestSum_64 rfl ?_
    refine aw_iload X dX9_greatestSum_65 rfl ?_
    obtain ⟨r7, er7, h⟩ := bnd h
    refine aw_callV X dX9_greatestSum_67 cv_RX9_31 (ok_X7_at h1 er7 _ _ _ _ _) h1 rfl (Nat.le_trans (by decide) hfr) (by decide) rfl rfl (Nat.le_of_ble_eq_true rfl) ?_
    refine aw_mmin X (Nat.le_trans (by decide) hfr) dX9_greatestSum_70 mc_RX9_35 rfl ?_
    refine aw_istore (L' := [none, some (.ref (zr Z a1)), some (.int x2), some (.int x3), some (.int x4), some (.int (x5 + r6.1)), some (.int (jmmin x6 r7.1)), some (.int x7)]) X dX9_greatestSum_73 (by decide) rfl ?_
    refine aw_iload_n X dX9_greatestSum_75 rfl ?_
    refine aw_iload X dX9_greatestSum_76 rfl ?_
    refine aw_mmax X (Nat.le_trans (by decide) hfr) dX9_greatestSum_78 mc_RX9_41 rfl ?_
    refine aw_istore_n (L' := [none, some (.ref (zr Z a1)), some (.int x2), some (.int (jmmax x3 (x5 + r6.1))), some (.int x4), some (.int (x5 + r6.1)), some (.int (jmmin x6 r7.1)), some (.int x7)]) X dX9_greatestSum_81 (by decide) rfl ?_
    refine aw_iload_n X dX9_greatestSum_82 rfl ?_
    refine aw_if_eq (tgt := 103) X dX9_greatestSum_83 (by decide) (fun c8 => ?_) (fun c8 => ?_)
    · rw [if_pos c8] at h
      refine aw_iinc (v := (x7 + 1)) (L' := [none, some (.ref (zr Z a1)), some (.int x2), some (.int (jmmax x3 (x5 + r6.1))), some (.int x4), some (.int (x5 + r6.1)), some (.int (jmmin x6 r7.1)), some (.int (x7 + 1))]) X dX9_greatestSum_103 rfl rfl (by decide) rfl ?_
      refine aw_goto (tgt := 42) X dX9_greatestSum_106 (by decide) ?_
      cases h
      refine aw_msk [false, true, true, true, true, true, true, true] ?_
      exact hi _ rfl
    · rw [if_neg c8] at h
      refine aw_iload X dX9_greatestSum_86 rfl ?_
      refine aw_iload X dX9_greatestSum_88 rfl ?_
      refine aw_icmp_le (tgt := 103) X dX9_greatestSum_90 (by decide) (fun c9 => ?_) (fun c9 => ?_)
      · rw [if_pos c9] at h
        refine aw_iinc (v := (x7 + 1)) (L' := [none, some (.ref (zr Z a1)), some (.int x2), some (.int (jmmax x3 (x5 + r6.1))), some (.int x4), some (.int (x5 + r6.1)), some (.int (jmmin x6 r7.1)), some (.int (x7 + 1))]) X dX9_greatestSum_103 rfl rfl (by decide) rfl ?_
        refine aw_goto (tgt := 42) X dX9_greatestSum_106 (by decide) ?_
        cases h
        refine aw_msk [false, true, true, true, true, true, true, true] ?_
        exact hi _ rfl
      · rw [if_neg c9] at h
        refine aw_iload_n X dX9_greatestSum_93 rfl ?_
        refine aw_iload X dX9_greatestSum_94 rfl ?_
        refine aw_iload X dX9_greatestSum_96 rfl ?_
        refine aw_isub X dX9_greatestSum_98 ?_
        refine aw_mmax X (Nat.le_trans (by decide) hfr) dX9_greatestSum_99 mc_RX9_41 rfl ?_
        refine aw_istore_n (L' := [none, some (.ref (zr Z a1)), some (.int x2), some (.int (jmmax (jmmax x3 (x5 + r6.1)) ((x5 + r6.1) - (jmmin x6 r7.1)))), some (.int x4), some (.int (x5 + r6.1)), some (.int (jmmin x6 r7.1)), some (.int x7)]) X dX9_greatestSum_102 (by decide) rfl ?_
        refine aw_iinc (v := (x7 + 1)) (L' := [none, some (.ref (zr Z a1)), some (.int x2), some (.int (jmmax (jmmax x3 (x5 + r6.1)) ((x5 + r6.1) - (jmmin x6 r7.1)))), some (.int x4), some (.int (x5 + r6.1)), some (.int (jmmin x6 r7.1)), some (.int (x7 + 1))]) X dX9_greatestSum_103 rfl rfl (by decide) rfl ?_
        refine aw_goto (tgt := 42) X dX9_greatestSum_106 (by decide) ?_
        cases h
        refine aw_msk [false, true, true, true, true, true, true, true] ?_
        exact hi _ rfl
set_option maxRecDepth 100000 in
set_option maxHeartbeats 4000000 in
theorem so_X9_greatestSum_18 {fr : Nat} (hfr : 1 ≤ fr) (Z : AZ) (X : AX Z cX9_greatestSum 8 RX9 (some .int) 0 fr) (a1 : Nat) (h1 : IO 0 a1 6) (x2 : Int32) (x3 : Int32) (x4 : Int32) (s : Mem) (q : (Int32 × Int32 × Mem) ⊕ (Int32 × Mem)) (h : st_X9_greatestSum_18 a1 x2 x3 x4 s = some q) (hi : ∀ y : Int32 × Int32 × Mem, q = .inl y → AW Z y.2.2 18 [none, some (.ref (zr Z a1)), some (.int x2), some (.int y.1), some (.int y.2.1), none, none, none] []) (he : ∀ b : Int32 × Mem, q = .inr b → AW Z b.2 115 [none, none, none, some (.int b.1), none, none, none, none] []) : AW Z s 18 [none, some (.ref (zr Z a1)), some (.int x2), some (.int x3), some (.int x4), none, none, none] [] := by
  unfold st_X9_greatestSum_18 at h
  refine aw_iload X dX9_greatestSum_18 rfl ?_
  refine aw_aload_n X dX9_greatestSum_20 rfl ?_
  refine aw_geti X dX9_greatestSum_21 fl_RX9_25 h1 (gt_RX7_1 h1) ?_
  refine aw_icmp_ge (tgt := 115) X dX9_greatestSum_24 (by decide) (fun c3 => ?_) (fun c3 => ?_)
  · rw [if_pos c3] at h
    cases h
    refine aw_msk [false, false, false, true, false, false, false, false] ?_
    exact he _ rfl
  · rw [if_neg c3] at h
    refine aw_iconst (v := 0) X dX9_greatestSum_27 (by decide) ?_
    refine aw_istore (L' := [none, some (.ref (zr Z a1)), some (.int x2), some (.int x3), some (.int x4), some (.int 0), none, none]) X dX9_greatestSum_28 (by decide) rfl ?_
    refine aw_aload_n X dX9_greatestSum_30 rfl ?_
    refine aw_iload X dX9_greatestSum_31 rfl ?_
    obtain ⟨r4, er4, h⟩ := bnd h
    refine aw_callV X dX9_greatestSum_33 cv_RX9_31 (ok_X7_at h1 er4 _ _ _ _ _) h1 rfl (Nat.le_trans (by decide) hfr) (by decide) rfl rfl (Nat.le_of_ble_eq_true rfl) ?_
    refine aw_istore (L' := [none, some (.ref (zr Z a1)), some (.int x2), some (.int x3), some (.int x4), some (.int 0), some (.int r4.1), none]) X dX9_greatestSum_36 (by decide) rfl ?_
    refine aw_iload X dX9_greatestSum_38 rfl ?_
    refine aw_istore (L' := [none, some (.ref (zr Z a1)), some (.int x2), some (.int x3), some (.int x4), some (.int 0), some (.int r4.1), some (.int x4)]) X dX9_greatestSum_40 (by decide) rfl ?_
    obtain ⟨r10, er10, h⟩ := bnd h
    refine aw_msk [false, true, true, true, true, true, true, true] ?_
    refine it_ok (P := fun y : Int32 × Int32 × Int32 × Int32 × Mem => AW Z y.2.2.2.2 42 [none, some (.ref (zr Z a1)), some (.int x2), some (.int y.1), some (.int x4), some (.int y.2.1), some (.int y.2.2.1), some (.int y.2.2.2.1)] []) (Q := fun b : Int32 × Mem => AW Z b.2 109 [none, some (.ref (zr Z a1)), some (.int x2), some (.int b.1), some (.int x4), none, none, none] []) (fun y q hq hi he => so_X9_greatestSum_42 hfr Z X a1 h1 x2 x4 y.1 y.2.1 y.2.2.1 y.2.2.2.1 y.2.2.2.2 q hq hi he) FUEL _ _ er10 ?_
    refine aw_iinc (v := (x4 + 1)) (L' := [none, some (.ref (zr Z a1)), some (.int x2), some (.int r10.1), some (.int (x4 + 1)), none, none, none]) X dX9_greatestSum_109 rfl rfl (by decide) rfl ?_
    refine aw_goto (tgt := 18) X dX9_greatestSum_112 (by decide) ?_
    cases h
    refine aw_msk [false, true, true, true, true, false, false, false] ?_
    exact hi _ rfl
set_option maxRecDepth 100000 in
set_option maxHeartbeats 4000000 in
theorem w_X9_greatestSum {fr : Nat} (hfr : 1 ≤ fr) (Z : AZ) (X : AX Z cX9_greatestSum 8 RX9 (some .int) 0 fr) (a1 : Nat) (h1 : IO 0 a1 6) (x2 : Int32) (s : Mem) (r : Int32 × Mem) (hz : zres Z = (some (.int r.1), r.2)) (h : f_X9_greatestSum a1 x2 s = some r) : AW Z s 0 [some (.ref (zr Z 195)), some (.ref (zr Z a1)), some (.int x2), none, none, none, none, none] [] := by
  unfold f_X9_greatestSum at h
  refine aw_aload_n X dX9_greatestSum_0 rfl ?_
  refine aw_geti X dX9_greatestSum_1 fl_RX9_25 h1 (gt_RX7_1 h1) ?_
  refine aw_if_ne (tgt := 9) X dX9_greatestSum_4 (by decide) (fun c1 => ?_) (fun c1 => ?_)
  · rw [if_neg c1] at h
    refine aw_aload_n X dX9_greatestSum_9 rfl ?_
    refine aw_iconst (v := 0) X dX9_greatestSum_10 (by decide) ?_
    obtain ⟨r2, er2, h⟩ := bnd h
    refine aw_callV X dX9_greatestSum_11 cv_RX9_31 (ok_X7_at h1 er2 _ _ _ _ _) h1 rfl (Nat.le_trans (by decide) hfr) (by decide) rfl rfl (Nat.le_of_ble_eq_true rfl) ?_
    refine aw_istore_n (L' := [some (.ref (zr Z 195)), some (.ref (zr Z a1)), some (.int x2), some (.int r2.1), none, none, none, none]) X dX9_greatestSum_14 (by decide) rfl ?_
    refine aw_iconst (v := 0) X dX9_greatestSum_15 (by decide) ?_
    refine aw_istore (L' := [some (.ref (zr Z 195)), some (.ref (zr Z a1)), some (.int x2), some (.int r2.1), some (.int 0), none, none, none]) X dX9_greatestSum_16 (by decide) rfl ?_
    obtain ⟨r11, er11, h⟩ := bnd h
    refine aw_msk [false, true, true, true, true, false, false, false] ?_
    refine it_ok (P := fun y : Int32 × Int32 × Mem => AW Z y.2.2 18 [none, some (.ref (zr Z a1)), some (.int x2), some (.int y.1), some (.int y.2.1), none, none, none] []) (Q := fun b : Int32 × Mem => AW Z b.2 115 [none, none, none, some (.int b.1), none, none, none, none] []) (fun y q hq hi he => so_X9_greatestSum_18 hfr Z X a1 h1 x2 y.1 y.2.1 y.2.2 q hq hi he) FUEL _ _ er11 ?_
    refine aw_iload_n X dX9_greatestSum_115 rfl ?_
    cases h
    exact aw_iret X dX9_greatestSum_116 rfl hz.symm
  · rw [if_pos c1] at h
    refine aw_iconst (v := 0) X dX9_greatestSum_7 (by decide) ?_
    cases h
    exact aw_iret X dX9_greatestSum_8 rfl hz.symm
set_option maxRecDepth 100000 in
set_option maxHeartbeats 4000000 in
theorem ok_X9_greatestSum {a1 : Nat} (h1 : IO 0 a1 6) {x2 : Int32} {s : Mem} {r : Int32 × Mem} (h : f_X9_greatestSum a1 x2 s = some r) (l : Launch) (D : va_G) (ρ : Nat → Nat) (cA : ClassId × ClassId × ClassId) (τ : AT) : AM l D ρ cA 0 τ yX9_greatestSum cX9_greatestSum 8 (some .int) 1 [.ref (ρ 195), .ref (ρ a1), .int x2] (some (.int r.1)) s r.2 := by
  refine AM_of (L := [some (.ref (ρ 195)), some (.ref (ρ a1)), some (.int x2), none, none, none, none, none]) (by decide) (by simp [Value.category]) (Nat.le_of_ble_eq_true rfl) (fun j v q => ?_) (fun Z X hρ hz hτ => ?_)
  · exact aL_ok (n := 5) [.ref (ρ 195), .ref (ρ a1), .int x2] j v q
  · subst hρ
    subst hτ
    exact w_X9_greatestSum (Nat.le_refl _) Z X a1 h1 x2 s r hz h

theorem dX9_lessToLeft_0 : decode cX9_lessToLeft 0 = .ok (.iload_n 2, 1) := by decide +kernel
theorem dX9_lessToLeft_1 : decode cX9_lessToLeft 1 = .ok (.iconst 1, 1) := by decide +kernel
theorem dX9_lessToLeft_2 : decode cX9_lessToLeft 2 = .ok (.isub, 1) := by decide +kernel
theorem dX9_lessToLeft_3 : decode cX9_lessToLeft 3 = .ok (.istore 4, 2) := by decide +kernel
theorem dX9_lessToLeft_5 : decode cX9_lessToLeft 5 = .ok (.iload 4, 2) := by decide +kernel
theorem dX9_lessToLeft_7 : decode cX9_lessToLeft 7 = .ok (.ifCond .lt 44, 3) := by decide +kernel
theorem dX9_lessToLeft_10 : decode cX9_lessToLeft 10 = .ok (.aload_n 1, 1) := by decide +kernel
theorem dX9_lessToLeft_11 : decode cX9_lessToLeft 11 = .ok (.iload 4, 2) := by decide +kernel
theorem dX9_lessToLeft_13 : decode cX9_lessToLeft 13 = .ok (.invokevirtual 31, 3) := by decide +kernel
theorem dX9_lessToLeft_16 : decode cX9_lessToLeft 16 = .ok (.aload_n 1, 1) := by decide +kernel
theorem dX9_lessToLeft_17 : decode cX9_lessToLeft 17 = .ok (.iload_n 2, 1) := by decide +kernel
theorem dX9_lessToLeft_18 : decode cX9_lessToLeft 18 = .ok (.invokevirtual 31, 3) := by decide +kernel
theorem dX9_lessToLeft_21 : decode cX9_lessToLeft 21 = .ok (.if_icmp .lt 21, 3) := by decide +kernel
theorem dX9_lessToLeft_24 : decode cX9_lessToLeft 24 = .ok (.iload_n 3, 1) := by decide +kernel
theorem dX9_lessToLeft_25 : decode cX9_lessToLeft 25 = .ok (.ifCond .eq 20, 3) := by decide +kernel
theorem dX9_lessToLeft_28 : decode cX9_lessToLeft 28 = .ok (.aload_n 1, 1) := by decide +kernel
theorem dX9_lessToLeft_29 : decode cX9_lessToLeft 29 = .ok (.iload 4, 2) := by decide +kernel
theorem dX9_lessToLeft_31 : decode cX9_lessToLeft 31 = .ok (.invokevirtual 31, 3) := by decide +kernel
theorem dX9_lessToLeft_34 : decode cX9_lessToLeft 34 = .ok (.aload_n 1, 1) := by decide +kernel
theorem dX9_lessToLeft_35 : decode cX9_lessToLeft 35 = .ok (.iload_n 2, 1) := by decide +kernel
theorem dX9_lessToLeft_36 : decode cX9_lessToLeft 36 = .ok (.invokevirtual 31, 3) := by decide +kernel
theorem dX9_lessToLeft_39 : decode cX9_lessToLeft 39 = .ok (.if_icmp .ne 6, 3) := by decide +kernel
theorem dX9_lessToLeft_42 : decode cX9_lessToLeft 42 = .ok (.iload 4, 2) := by decide +kernel
theorem dX9_lessToLeft_44 : decode cX9_lessToLeft 44 = .ok (.ireturn, 1) := by decide +kernel
theorem dX9_lessToLeft_45 : decode cX9_lessToLeft 45 = .ok (.iinc 4 (-1), 3) := by decide +kernel
theorem dX9_lessToLeft_48 : decode cX9_lessToLeft 48 = .ok (.goto (-43), 3) := by decide +kernel
theorem dX9_lessToLeft_51 : decode cX9_lessToLeft 51 = .ok (.iconst (-1), 1) := by decide +kernel
theorem dX9_lessToLeft_52 : decode cX9_lessToLeft 52 = .ok (.ireturn, 1) := by decide +kernel
set_option maxRecDepth 100000 in
set_option maxHeartbeats 4000000 in
theorem so_X9_lessToLeft_5 {fr : Nat} (hfr : 1 ≤ fr) (Z : AZ) (X : AX Z cX9_lessToLeft 5 RX9 (some .int) 0 fr) (a1 : Nat) (h1 : IO 0 a1 6) (x2 : Int32) (x3 : Int32) (x4 : Int32) (s : Mem) (q : (Int32 × Mem) ⊕ (Nat × Int32 × Mem)) (h : st_X9_lessToLeft_5 a1 x2 x3 x4 s = some q) (hi : ∀ y : Int32 × Mem, q = .inl y → AW Z y.2 5 [none, some (.ref (zr Z a1)), some (.int x2), some (.int x3), some (.int y.1)] []) (he : ∀ b : Nat × Int32 × Mem, q = .inr b → (b.1 = 0 → AW Z b.2.2 42 [none, none, none, none, some (.int b.2.1)] []) ∧ (b.1 = 1 → AW Z b.2.2 51 [none, none, none, none, none] [])) : AW Z s 5 [none, some (.ref (zr Z a1)), some (.int x2), some (.int x3), some (.int x4)] [] := by
  unfold st_X9_lessToLeft_5 at h
  refine aw_iload X dX9_lessToLeft_5 rfl ?_
  refine aw_if_lt (tgt := 51) X dX9_lessToLeft_7 (by decide) (fun c1 => ?_) (fun c1 => ?_)
  · rw [if_pos c1] at h
    cases h
    refine aw_msk [false, false, false, false, false] ?_
    exact (he _ rfl).2 rfl
  · rw [if_neg c1] at h
    refine aw_aload_n X dX9_lessToLeft_10 rfl ?_
    refine aw_iload X dX9_lessToLeft_11 rfl ?_
    obtain ⟨r2, er2, h⟩ := bnd h
    refine aw_callV X dX9_lessToLeft_13 cv_RX9_31 (ok_X7_at h1 er2 _ _ _ _ _) h1 rfl (Nat.le_trans (by decide) hfr) (by decide) rfl rfl (Nat.le_of_ble_eq_true rfl) ?_
    refine aw_aload_n X dX9_lessToLeft_16 rfl ?_
    refine aw_iload_n X dX9_lessToLeft_17 rfl ?_
    obtain ⟨r3, er3, h⟩ := bnd h
    refine aw_callV X dX9_lessToLeft_18 cv_RX9_31 (ok_X7_at h1 er3 _ _ _ _ _) h1 rfl (Nat.le_trans (by decide) hfr) (by decide) rfl rfl (Nat.le_of_ble_eq_true rfl) ?_
    refine aw_icmp_lt (tgt := 42) X dX9_lessToLeft_21 (by decide) (fun c4 => ?_) (fun c4 => ?_)
    · rw [if_pos c4] at h
      cases h
      refine aw_msk [false, false, false, false, true] ?_
      exact (he _ rfl).1 rfl
    · rw [if_neg c4] at h
      refine aw_iload_n X dX9_lessToLeft_24 rfl ?_
      refine aw_if_eq (tgt := 45) X dX9_lessToLeft_25 (by decide) (fun c5 => ?_) (fun c5 => ?_)
      · rw [if_pos c5] at h
        refine aw_iinc (v := (x4 + (-1))) (L' := [none, some (.ref (zr Z a1)), some (.int x2), some (.int x3), some (.int (x4 + (-1)))]) X dX9_lessToLeft_45 rfl rfl (by decide) rfl ?_
        refine aw_goto (tgt := 5) X dX9_lessToLeft_48 (by decide) ?_
        refine aw_msk [false, true, true, true, true] ?_
        exact hiE1 (P := fun z4 m => AW Z m 5 [none, some (.ref (zr Z a1)), some (.int x2), some (.int x3), some (.int z4)] []) hi (Option.some.inj h).symm
      · rw [if_neg c5] at h
        refine aw_aload_n X dX9_lessToLeft_28 rfl ?_
        refine aw_iload X dX9_lessToLeft_29 rfl ?_
        obtain ⟨r6, er6, h⟩ := bnd h
        refine aw_callV X dX9_lessToLeft_31 cv_RX9_31 (ok_X7_at h1 er6 _ _ _ _ _) h1 rfl (Nat.le_trans (by decide) hfr) (by decide) rfl rfl (Nat.le_of_ble_eq_true rfl) ?_
        refine aw_aload_n X dX9_lessToLeft_34 rfl ?_
        refine aw_iload_n X dX9_lessToLeft_35 rfl ?_
        obtain ⟨r7, er7, h⟩ := bnd h
        refine aw_callV X dX9_lessToLeft_36 cv_RX9_31 (ok_X7_at h1 er7 _ _ _ _ _) h1 rfl (Nat.le_trans (by decide) hfr) (by decide) rfl rfl (Nat.le_of_ble_eq_true rfl) ?_
        refine aw_icmp_ne (tgt := 45) X dX9_lessToLeft_39 (by decide) (fun c8 => ?_) (fun c8 => ?_)
        · rw [if_neg c8] at h
          refine aw_iinc (v := (x4 + (-1))) (L' := [none, some (.ref (zr Z a1)), some (.int x2), some (.int x3), some (.int (x4 + (-1)))]) X dX9_lessToLeft_45 rfl rfl (by decide) rfl ?_
          refine aw_goto (tgt := 5) X dX9_lessToLeft_48 (by decide) ?_
          refine aw_msk [false, true, true, true, true] ?_
          exact hiE1 (P := fun z4 m => AW Z m 5 [none, some (.ref (zr Z a1)), some (.int x2), some (.int x3), some (.int z4)] []) hi (Option.some.inj h).symm
        · rw [if_pos c8] at h
          cases h
          refine aw_msk [false, false, false, false, true] ?_
          exact (he _ rfl).1 rfl
set_option maxRecDepth 100000 in
set_option maxHeartbeats 4000000 in
theorem w_X9_lessToLeft {fr : Nat} (hfr : 1 ≤ fr) (Z : AZ) (X : AX Z cX9_lessToLeft 5 RX9 (some .int) 0 fr) (a1 : Nat) (h1 : IO 0 a1 6) (x2 : Int32) (x3 : Int32) (s : Mem) (r : Int32 × Mem) (hz : zres Z = (some (.int r.1), r.2)) (h : f_X9_lessToLeft a1 x2 x3 s = some r) : AW Z s 0 [some (.ref (zr Z 195)), some (.ref (zr Z a1)), some (.int x2), some (.int x3), none] [] := by
  unfold f_X9_lessToLeft at h
  refine aw_iload_n X dX9_lessToLeft_0 rfl ?_
  refine aw_iconst (v := 1) X dX9_lessToLeft_1 (by decide) ?_
  refine aw_isub X dX9_lessToLeft_2 ?_
  refine aw_istore (L' := [some (.ref (zr Z 195)), some (.ref (zr Z a1)), some (.int x2), some (.int x3), some (.int (x2 - 1))]) X dX9_lessToLeft_3 (by decide) rfl ?_
  obtain ⟨r9, er9, h⟩ := bnd h
  refine aw_msk [false, true, true, true, true] ?_
  refine it_ok (P := fun y : Int32 × Mem => AW Z y.2 5 [none, some (.ref (zr Z a1)), some (.int x2), some (.int x3), some (.int y.1)] []) (Q := fun b : Nat × Int32 × Mem => (b.1 = 0 → AW Z b.2.2 42 [none, none, none, none, some (.int b.2.1)] []) ∧ (b.1 = 1 → AW Z b.2.2 51 [none, none, none, none, none] [])) (fun y q hq hi he => so_X9_lessToLeft_5 hfr Z X a1 h1 x2 x3 y.1 y.2 q hq hi he) FUEL _ _ er9 ?_
  refine ⟨fun c0 => ?_, fun c1 => ?_⟩
  · rw [if_pos c0] at h
    refine aw_iload X dX9_lessToLeft_42 rfl ?_
    cases h
    exact aw_iret X dX9_lessToLeft_44 rfl hz.symm
  · rw [if_neg (by rw [c1]; decide)] at h
    refine aw_iconst (v := (-1)) X dX9_lessToLeft_51 (by decide) ?_
    cases h
    exact aw_iret X dX9_lessToLeft_52 rfl hz.symm
set_option maxRecDepth 100000 in
set_option maxHeartbeats 4000000 in
theorem ok_X9_lessToLeft {a1 : Nat} (h1 : IO 0 a1 6) {x2 x3 : Int32} {s : Mem} {r : Int32 × Mem} (h : f_X9_lessToLeft a1 x2 x3 s = some r) (l : Launch) (D : va_G) (ρ : Nat → Nat) (cA : ClassId × ClassId × ClassId) (τ : AT) : AM l D ρ cA 0 τ yX9_lessToLeft cX9_lessToLeft 5 (some .int) 1 [.ref (ρ 195), .ref (ρ a1), .int x2, .int x3] (some (.int r.1)) s r.2 := by
  refine AM_of (L := [some (.ref (ρ 195)), some (.ref (ρ a1)), some (.int x2), some (.int x3), none]) (by decide) (by simp [Value.category]) (Nat.le_of_ble_eq_true rfl) (fun j v q => ?_) (fun Z X hρ hz hτ => ?_)
  · exact aL_ok (n := 1) [.ref (ρ 195), .ref (ρ a1), .int x2, .int x3] j v q
  · subst hρ
    subst hτ
    exact w_X9_lessToLeft (Nat.le_refl _) Z X a1 h1 x2 x3 s r hz h

theorem dX9_lessToRight_0 : decode cX9_lessToRight 0 = .ok (.iload_n 2, 1) := by decide +kernel
theorem dX9_lessToRight_1 : decode cX9_lessToRight 1 = .ok (.iconst 1, 1) := by decide +kernel
theorem dX9_lessToRight_2 : decode cX9_lessToRight 2 = .ok (.iadd, 1) := by decide +kernel
theorem dX9_lessToRight_3 : decode cX9_lessToRight 3 = .ok (.istore_n 3, 1) := by decide +kernel
theorem dX9_lessToRight_4 : decode cX9_lessToRight 4 = .ok (.iload_n 3, 1) := by decide +kernel
theorem dX9_lessToRight_5 : decode cX9_lessToRight 5 = .ok (.aload_n 1, 1) := by decide +kernel
theorem dX9_lessToRight_6 : decode cX9_lessToRight 6 = .ok (.getfield 25, 3) := by decide +kernel
theorem dX9_lessToRight_9 : decode cX9_lessToRight 9 = .ok (.if_icmp .ge 24, 3) := by decide +kernel
theorem dX9_lessToRight_12 : decode cX9_lessToRight 12 = .ok (.aload_n 1, 1) := by decide +kernel
theorem dX9_lessToRight_13 : decode cX9_lessToRight 13 = .ok (.iload_n 3, 1) := by decide +kernel
theorem dX9_lessToRight_14 : decode cX9_lessToRight 14 = .ok (.invokevirtual 31, 3) := by decide +kernel
theorem dX9_lessToRight_17 : decode cX9_lessToRight 17 = .ok (.aload_n 1, 1) := by decide +kernel
theorem dX9_lessToRight_18 : decode cX9_lessToRight 18 = .ok (.iload_n 2, 1) := by decide +kernel
theorem dX9_lessToRight_19 : decode cX9_lessToRight 19 = .ok (.invokevirtual 31, 3) := by decide +kernel
theorem dX9_lessToRight_22 : decode cX9_lessToRight 22 = .ok (.if_icmp .ge 5, 3) := by decide +kernel
theorem dX9_lessToRight_25 : decode cX9_lessToRight 25 = .ok (.iload_n 3, 1) := by decide +kernel
theorem dX9_lessToRight_26 : decode cX9_lessToRight 26 = .ok (.ireturn, 1) := by decide +kernel
theorem dX9_lessToRight_27 : decode cX9_lessToRight 27 = .ok (.iinc 3 1, 3) := by decide +kernel
theorem dX9_lessToRight_30 : decode cX9_lessToRight 30 = .ok (.goto (-26), 3) := by decide +kernel
theorem dX9_lessToRight_33 : decode cX9_lessToRight 33 = .ok (.aload_n 1, 1) := by decide +kernel
theorem dX9_lessToRight_34 : decode cX9_lessToRight 34 = .ok (.getfield 25, 3) := by decide +kernel
theorem dX9_lessToRight_37 : decode cX9_lessToRight 37 = .ok (.ireturn, 1) := by decide +kernel
set_option maxRecDepth 100000 in
set_option maxHeartbeats 4000000 in
theorem so_X9_lessToRight_4 {fr : Nat} (hfr : 1 ≤ fr) (Z : AZ) (X : AX Z cX9_lessToRight 4 RX9 (some .int) 0 fr) (a1 : Nat) (h1 : IO 0 a1 6) (x2 : Int32) (x3 : Int32) (s : Mem) (q : (Int32 × Mem) ⊕ (Nat × Int32 × Mem)) (h : st_X9_lessToRight_4 a1 x2 x3 s = some q) (hi : ∀ y : Int32 × Mem, q = .inl y → AW Z y.2 4 [none, some (.ref (zr Z a1)), some (.int x2), some (.int y.1)] []) (he : ∀ b : Nat × Int32 × Mem, q = .inr b → (b.1 = 0 → AW Z b.2.2 25 [none, none, none, some (.int b.2.1)] []) ∧ (b.1 = 1 → AW Z b.2.2 33 [none, some (.ref (zr Z a1)), none, none] [])) : AW Z s 4 [none, some (.ref (zr Z a1)), some (.int x2), some (.int x3)] [] := by
  unfold st_X9_lessToRight_4 at h
  refine aw_iload_n X dX9_lessToRight_4 rfl ?_
  refine aw_aload_n X dX9_lessToRight_5 rfl ?_
  refine aw_geti X dX9_lessToRight_6 fl_RX9_25 h1 (gt_RX7_1 h1) ?_
  refine aw_icmp_ge (tgt := 33) X dX9_lessToRight_9 (by decide) (fun c1 => ?_) (fun c1 => ?_)
  · rw [if_pos c1] at h
    cases h
    refine aw_msk [false, true, false, false] ?_
    exact (he _ rfl).2 rfl
  · rw [if_neg c1] at h
    refine aw_aload_n X dX9_lessToRight_12 rfl ?_
    refine aw_iload_n X dX9_lessToRight_13 rfl ?_
    obtain ⟨r2, er2, h⟩ := bnd h
    refine aw_callV X dX9_lessToRight_14 cv_RX9_31 (ok_X7_at h1 er2 _ _ _ _ _) h1 rfl (Nat.le_trans (by decide) hfr) (by decide) rfl rfl (Nat.le_of_ble_eq_true rfl) ?_
    refine aw_aload_n X dX9_lessToRight_17 rfl ?_
    refine aw_iload_n X dX9_lessToRight_18 rfl ?_
    obtain ⟨r3, er3, h⟩ := bnd h
    refine aw_callV X dX9_lessToRight_19 cv_RX9_31 (ok_X7_at h1 er3 _ _ _ _ _) h1 rfl (Nat.le_trans (by decide) hfr) (by decide) rfl rfl (Nat.le_of_ble_eq_true rfl) ?_
    refine aw_icmp_ge (tgt := 27) X dX9_lessToRight_22 (by decide) (fun c4 => ?_) (fun c4 => ?_)
    · rw [if_pos c4] at h
      refine aw_iinc (v := (x3 + 1)) (L' := [none, some (.ref (zr Z a1)), some (.int x2), some (.int (x3 + 1))]) X dX9_lessToRight_27 rfl rfl (by decide) rfl ?_
      refine aw_goto (tgt := 4) X dX9_lessToRight_30 (by decide) ?_
      cases h
      refine aw_msk [false, true, true, true] ?_
      exact hi _ rfl
    · rw [if_neg c4] at h
      cases h
      refine aw_msk [false, false, false, true] ?_
      exact (he _ rfl).1 rfl
set_option maxRecDepth 100000 in
set_option maxHeartbeats 4000000 in
theorem w_X9_lessToRight {fr : Nat} (hfr : 1 ≤ fr) (Z : AZ) (X : AX Z cX9_lessToRight 4 RX9 (some .int) 0 fr) (a1 : Nat) (h1 : IO 0 a1 6) (x2 : Int32) (s : Mem) (r : Int32 × Mem) (hz : zres Z = (some (.int r.1), r.2)) (h : f_X9_lessToRight a1 x2 s = some r) : AW Z s 0 [some (.ref (zr Z 195)), some (.ref (zr Z a1)), some (.int x2), none] [] := by
  unfold f_X9_lessToRight at h
  refine aw_iload_n X dX9_lessToRight_0 rfl ?_
  refine aw_iconst (v := 1) X dX9_lessToRight_1 (by decide) ?_
  refine aw_iadd X dX9_lessToRight_2 ?_
  refine aw_istore_n (L' := [some (.ref (zr Z 195)), some (.ref (zr Z a1)), some (.int x2), some (.int (x2 + 1))]) X dX9_lessToRight_3 (by decide) rfl ?_
  obtain ⟨r5, er5, h⟩ := bnd h
  refine aw_msk [false, true, true, true] ?_
  refine it_ok (P := fun y : Int32 × Mem => AW Z y.2 4 [none, some (.ref (zr Z a1)), some (.int x2), some (.int y.1)] []) (Q := fun b : Nat × Int32 × Mem => (b.1 = 0 → AW Z b.2.2 25 [none, none, none, some (.int b.2.1)] []) ∧ (b.1 = 1 → AW Z b.2.2 33 [none, some (.ref (zr Z a1)), none, none] [])) (fun y q hq hi he => so_X9_lessToRight_4 hfr Z X a1 h1 x2 y.1 y.2 q hq hi he) FUEL _ _ er5 ?_
  refine ⟨fun c0 => ?_, fun c1 => ?_⟩
  · rw [if_pos c0] at h
    refine aw_iload_n X dX9_lessToRight_25 rfl ?_
    cases h
    exact aw_iret X dX9_lessToRight_26 rfl hz.symm
  · rw [if_neg (by rw [c1]; decide)] at h
    refine aw_aload_n X dX9_lessToRight_33 rfl ?_
    refine aw_geti X dX9_lessToRight_34 fl_RX9_25 h1 (gt_RX7_1 h1) ?_
    cases h
    exact aw_iret X dX9_lessToRight_37 rfl hz.symm
set_option maxRecDepth 100000 in
set_option maxHeartbeats 4000000 in
theorem ok_X9_lessToRight {a1 : Nat} (h1 : IO 0 a1 6) {x2 : Int32} {s : Mem} {r : Int32 × Mem} (h : f_X9_lessToRight a1 x2 s = some r) (l : Launch) (D : va_G) (ρ : Nat → Nat) (cA : ClassId × ClassId × ClassId) (τ : AT) : AM l D ρ cA 0 τ yX9_lessToRight cX9_lessToRight 4 (some .int) 1 [.ref (ρ 195), .ref (ρ a1), .int x2] (some (.int r.1)) s r.2 := by
  refine AM_of (L := [some (.ref (ρ 195)), some (.ref (ρ a1)), some (.int x2), none]) (by decide) (by simp [Value.category]) (Nat.le_of_ble_eq_true rfl) (fun j v q => ?_) (fun Z X hρ hz hτ => ?_)
  · exact aL_ok (n := 1) [.ref (ρ 195), .ref (ρ a1), .int x2] j v q
  · subst hρ
    subst hτ
    exact w_X9_lessToRight (Nat.le_refl _) Z X a1 h1 x2 s r hz h

theorem dX9_bestCalls_0 : decode cX9_bestCalls 0 = .ok (.aload_n 0, 1) := by decide +kernel
theorem dX9_bestCalls_1 : decode cX9_bestCalls 1 = .ok (.getfield 9, 3) := by decide +kernel
theorem dX9_bestCalls_4 : decode cX9_bestCalls 4 = .ok (.iconst 0, 1) := by decide +kernel
theorem dX9_bestCalls_5 : decode cX9_bestCalls 5 = .ok (.iconst 0, 1) := by decide +kernel
theorem dX9_bestCalls_6 : decode cX9_bestCalls 6 = .ok (.iastore, 1) := by decide +kernel
theorem dX9_bestCalls_7 : decode cX9_bestCalls 7 = .ok (.iconst 1, 1) := by decide +kernel
theorem dX9_bestCalls_8 : decode cX9_bestCalls 8 = .ok (.istore_n 2, 1) := by decide +kernel
theorem dX9_bestCalls_9 : decode cX9_bestCalls 9 = .ok (.iload_n 2, 1) := by decide +kernel
theorem dX9_bestCalls_10 : decode cX9_bestCalls 10 = .ok (.aload_n 0, 1) := by decide +kernel
theorem dX9_bestCalls_11 : decode cX9_bestCalls 11 = .ok (.getfield 9, 3) := by decide +kernel
theorem dX9_bestCalls_14 : decode cX9_bestCalls 14 = .ok (.arraylength, 1) := by decide +kernel
theorem dX9_bestCalls_15 : decode cX9_bestCalls 15 = .ok (.if_icmp .ge 108, 3) := by decide +kernel
theorem dX9_bestCalls_18 : decode cX9_bestCalls 18 = .ok (.aload_n 0, 1) := by decide +kernel
theorem dX9_bestCalls_19 : decode cX9_bestCalls 19 = .ok (.getfield 9, 3) := by decide +kernel
theorem dX9_bestCalls_22 : decode cX9_bestCalls 22 = .ok (.iload_n 2, 1) := by decide +kernel
theorem dX9_bestCalls_23 : decode cX9_bestCalls 23 = .ok (.iconst 1, 1) := by decide +kernel
theorem dX9_bestCalls_24 : decode cX9_bestCalls 24 = .ok (.isub, 1) := by decide +kernel
theorem dX9_bestCalls_25 : decode cX9_bestCalls 25 = .ok (.iaload, 1) := by decide +kernel
theorem dX9_bestCalls_26 : decode cX9_bestCalls 26 = .ok (.istore_n 3, 1) := by decide +kernel
theorem dX9_bestCalls_27 : decode cX9_bestCalls 27 = .ok (.iconst 0, 1) := by decide +kernel
theorem dX9_bestCalls_28 : decode cX9_bestCalls 28 = .ok (.istore 4, 2) := by decide +kernel
theorem dX9_bestCalls_30 : decode cX9_bestCalls 30 = .ok (.iload 4, 2) := by decide +kernel
theorem dX9_bestCalls_32 : decode cX9_bestCalls 32 = .ok (.aload_n 1, 1) := by decide +kernel
theorem dX9_bestCalls_33 : decode cX9_bestCalls 33 = .ok (.getfield 48, 3) := by decide +kernel
theorem dX9_bestCalls_36 : decode cX9_bestCalls 36 = .ok (.getfield 25, 3) := by decide +kernel
theorem dX9_bestCalls_39 : decode cX9_bestCalls 39 = .ok (.if_icmp .ge 71, 3) := by decide +kernel
theorem dX9_bestCalls_42 : decode cX9_bestCalls 42 = .ok (.aload_n 1, 1) := by decide +kernel
theorem dX9_bestCalls_43 : decode cX9_bestCalls 43 = .ok (.getfield 54, 3) := by decide +kernel
theorem dX9_bestCalls_46 : decode cX9_bestCalls 46 = .ok (.iload 4, 2) := by decide +kernel
theorem dX9_bestCalls_48 : decode cX9_bestCalls 48 = .ok (.invokevirtual 31, 3) := by decide +kernel
theorem dX9_bestCalls_51 : decode cX9_bestCalls 51 = .ok (.istore 5, 2) := by decide +kernel
theorem dX9_bestCalls_53 : decode cX9_bestCalls 53 = .ok (.aload_n 1, 1) := by decide +kernel
theorem dX9_bestCalls_54 : decode cX9_bestCalls 54 = .ok (.getfield 48, 3) := by decide +kernel
theorem dX9_bestCalls_57 : decode cX9_bestCalls 57 = .ok (.iload 4, 2) := by decide +kernel
theorem dX9_bestCalls_59 : decode cX9_bestCalls 59 = .ok (.invokevirtual 31, 3) := by decide +kernel
theorem dX9_bestCalls_62 : decode cX9_bestCalls 62 = .ok (.iload_n 2, 1) := by decide +kernel
theorem dX9_bestCalls_63 : decode cX9_bestCalls 63 = .ok (.if_icmp .ne 41, 3) := by decide +kernel
theorem dX9_bestCalls_66 : decode cX9_bestCalls 66 = .ok (.iload 5, 2) := by decide +kernel
theorem dX9_bestCalls_68 : decode cX9_bestCalls 68 = .ok (.ifCond .lt 36, 3) := by decide +kernel
theorem dX9_bestCalls_71 : decode cX9_bestCalls 71 = .ok (.iload 5, 2) := by decide +kernel
theorem dX9_bestCalls_73 : decode cX9_bestCalls 73 = .ok (.iload_n 2, 1) := by decide +kernel
theorem dX9_bestCalls_74 : decode cX9_bestCalls 74 = .ok (.if_icmp .ge 30, 3) := by decide +kernel
theorem dX9_bestCalls_77 : decode cX9_bestCalls 77 = .ok (.iload_n 3, 1) := by decide +kernel
theorem dX9_bestCalls_78 : decode cX9_bestCalls 78 = .ok (.aload_n 0, 1) := by decide +kernel
theorem dX9_bestCalls_79 : decode cX9_bestCalls 79 = .ok (.getfield 9, 3) := by decide +kernel
theorem dX9_bestCalls_82 : decode cX9_bestCalls 82 = .ok (.iload 5, 2) := by decide +kernel
theorem dX9_bestCalls_84 : decode cX9_bestCalls 84 = .ok (.iaload, 1) := by decide +kernel
theorem dX9_bestCalls_85 : decode cX9_bestCalls 85 = .ok (.aload_n 1, 1) := by decide +kernel
theorem dX9_bestCalls_86 : decode cX9_bestCalls 86 = .ok (.getfield 57, 3) := by decide +kernel
theorem dX9_bestCalls_89 : decode cX9_bestCalls 89 = .ok (.iload 4, 2) := by decide +kernel
theorem dX9_bestCalls_91 : decode cX9_bestCalls 91 = .ok (.invokevirtual 31, 3) := by decide +kernel
theorem dX9_bestCalls_94 : decode cX9_bestCalls 94 = .ok (.bipush 16, 2) := by decide +kernel
theorem dX9_bestCalls_96 : decode cX9_bestCalls 96 = .ok (.imul, 1) := by decide +kernel
theorem dX9_bestCalls_97 : decode cX9_bestCalls 97 = .ok (.iadd, 1) := by decide +kernel
theorem dX9_bestCalls_98 : decode cX9_bestCalls 98 = .ok (.iconst 1, 1) := by decide +kernel
theorem dX9_bestCalls_99 : decode cX9_bestCalls 99 = .ok (.isub, 1) := by decide +kernel
theorem dX9_bestCalls_100 : decode cX9_bestCalls 100 = .ok (.invokestatic 41, 3) := by decide +kernel
theorem dX9_bestCalls_103 : decode cX9_bestCalls 103 = .ok (.istore_n 3, 1) := by decide +kernel
theorem dX9_bestCalls_104 : decode cX9_bestCalls 104 = .ok (.iinc 4 1, 3) := by decide +kernel
theorem dX9_bestCalls_107 : decode cX9_bestCalls 107 = .ok (.goto (-77), 3) := by decide +kernel
theorem dX9_bestCalls_110 : decode cX9_bestCalls 110 = .ok (.aload_n 0, 1) := by decide +kernel
theorem dX9_bestCalls_111 : decode cX9_bestCalls 111 = .ok (.getfield 9, 3) := by decide +kernel
theorem dX9_bestCalls_114 : decode cX9_bestCalls 114 = .ok (.iload_n 2, 1) := by decide +kernel
theorem dX9_bestCalls_115 : decode cX9_bestCalls 115 = .ok (.iload_n 3, 1) := by decide +kernel
theorem dX9_bestCalls_116 : decode cX9_bestCalls 116 = .ok (.iastore, 1) := by decide +kernel
theorem dX9_bestCalls_117 : decode cX9_bestCalls 117 = .ok (.iinc 2 1, 3) := by decide +kernel
theorem dX9_bestCalls_120 : decode cX9_bestCalls 120 = .ok (.goto (-111), 3) := by decide +kernel
theorem dX9_bestCalls_123 : decode cX9_bestCalls 123 = .ok (.aload_n 0, 1) := by decide +kernel
theorem dX9_bestCalls_124 : decode cX9_bestCalls 124 = .ok (.getfield 9, 3) := by decide +kernel
theorem dX9_bestCalls_127 : decode cX9_bestCalls 127 = .ok (.aload_n 0, 1) := by decide +kernel
theorem dX9_bestCalls_128 : decode cX9_bestCalls 128 = .ok (.getfield 9, 3) := by decide +kernel
theorem dX9_bestCalls_131 : decode cX9_bestCalls 131 = .ok (.arraylength, 1) := by decide +kernel
theorem dX9_bestCalls_132 : decode cX9_bestCalls 132 = .ok (.iconst 1, 1) := by decide +kernel
theorem dX9_bestCalls_133 : decode cX9_bestCalls 133 = .ok (.isub, 1) := by decide +kernel
theorem dX9_bestCalls_134 : decode cX9_bestCalls 134 = .ok (.iaload, 1) := by decide +kernel
theorem dX9_bestCalls_135 : decode cX9_bestCalls 135 = .ok (.ireturn, 1) := by decide +kernel
set_option maxRecDepth 100000 in
set_option maxHeartbeats 4000000 in
theorem so_X9_bestCalls_30 {fr : Nat} (hfr : 1 ≤ fr) (Z : AZ) (X : AX Z cX9_bestCalls 6 RX9 (some .int) 0 fr) (a1 : Nat) (h1 : IO 0 a1 7) (x2 : Int32) (x3 : Int32) (x4 : Int32) (s : Mem) (q : (Int32 × Int32 × Mem) ⊕ (Int32 × Mem)) (h : st_X9_bestCalls_30 a1 x2 x3 x4 s = some q) (hi : ∀ y : Int32 × Int32 × Mem, q = .inl y → AW Z y.2.2 30 [some (.ref (zr Z 195)), some (.ref (zr Z a1)), some (.int x2), some (.int y.1), some (.int y.2.1), none] []) (he : ∀ b : Int32 × Mem, q = .inr b → AW Z b.2 110 [some (.ref (zr Z 195)), some (.ref (zr Z a1)), some (.int x2), some (.int b.1), none, none] []) : AW Z s 30 [some (.ref (zr Z 195)), some (.ref (zr Z a1)), some (.int x2), some (.int x3), some (.int x4), none] [] := by
  unfold st_X9_bestCalls_30 at h
  refine aw_iload X dX9_bestCalls_30 rfl ?_
  refine aw_aload_n X dX9_bestCalls_32 rfl ?_
  refine aw_getr X dX9_bestCalls_33 fl_RX9_48 h1 (gt_RX8_2 h1) ?_
  refine aw_geti X dX9_bestCalls_36 fl_RX9_25 (it_RX8_2 h1) (gt_RX7_1 (it_RX8_2 h1)) ?_
  refine aw_icmp_ge (tgt := 110) X dX9_bestCalls_39 (by decide) (fun c4 => ?_) (fun c4 => ?_)
  · rw [if_pos c4] at h
    cases h
    refine aw_msk [true, true, true, true, false, false] ?_
    exact he _ rfl
  · rw [if_neg c4] at h
    refine aw_aload_n X dX9_bestCalls_42 rfl ?_
    refine aw_getr X dX9_bestCalls_43 fl_RX9_54 h1 (gt_RX8_1 h1) ?_
    refine aw_iload X dX9_bestCalls_46 rfl ?_
    obtain ⟨r5, er5, h⟩ := bnd h
    refine aw_callV X dX9_bestCalls_48 cv_RX9_31 (ok_X7_at (it_RX8_1 h1) er5 _ _ _ _ _) (it_RX8_1 h1) rfl (Nat.le_trans (by decide) hfr) (by decide) rfl rfl (Nat.le_of_ble_eq_true rfl) ?_
    refine aw_istore (L' := [some (.ref (zr Z 195)), some (.ref (zr Z a1)), some (.int x2), some (.int x3), some (.int x4), some (.int r5.1)]) X dX9_bestCalls_51 (by decide) rfl ?_
    refine aw_aload_n X dX9_bestCalls_53 rfl ?_
    refine aw_getr X dX9_bestCalls_54 fl_RX9_48 h1 (gt_RX8_2 h1) ?_
    refine aw_iload X dX9_bestCalls_57 rfl ?_
    obtain ⟨r6, er6, h⟩ := bnd h
    refine aw_callV X dX9_bestCalls_59 cv_RX9_31 (ok_X7_at (it_RX8_2 h1) er6 _ _ _ _ _) (it_RX8_2 h1) rfl (Nat.le_trans (by decide) hfr) (by decide) rfl rfl (Nat.le_of_ble_eq_true rfl) ?_
    refine aw_iload_n X dX9_bestCalls_62 rfl ?_
    refine aw_icmp_ne (tgt := 104) X dX9_bestCalls_63 (by decide) (fun c7 => ?_) (fun c7 => ?_)
    · rw [if_neg c7] at h
      refine aw_iinc (v := (x4 + 1)) (L' := [some (.ref (zr Z 195)), some (.ref (zr Z a1)), some (.int x2), some (.int x3), some (.int (x4 + 1)), some (.int r5.1)]) X dX9_bestCalls_104 rfl rfl (by decide) rfl ?_
      refine aw_goto (tgt := 30) X dX9_bestCalls_107 (by decide) ?_
      cases h
      refine aw_msk [true, true, true, true, true, false] ?_
      exact hi _ rfl
    · rw [if_pos c7] at h
      refine aw_iload X dX9_bestCalls_66 rfl ?_
      refine aw_if_lt (tgt := 104) X dX9_bestCalls_68 (by decide) (fun c8 => ?_) (fun c8 => ?_)
      · rw [if_pos c8] at h
        refine aw_iinc (v := (x4 + 1)) (L' := [some (.ref (zr Z 195)), some (.ref (zr Z a1)), some (.int x2), some (.int x3), some (.int (x4 + 1)), some (.int r5.1)]) X dX9_bestCalls_104 rfl rfl (by decide) rfl ?_
        refine aw_goto (tgt := 30) X dX9_bestCalls_107 (by decide) ?_
        cases h
        refine aw_msk [true, true, true, true, true, false] ?_
        exact hi _ rfl
      · rw [if_neg c8] at h
        refine aw_iload X dX9_bestCalls_71 rfl ?_
        refine aw_iload_n X dX9_bestCalls_73 rfl ?_
        refine aw_icmp_ge (tgt := 104) X dX9_bestCalls_74 (by decide) (fun c9 => ?_) (fun c9 => ?_)
        · rw [if_pos c9] at h
          refine aw_iinc (v := (x4 + 1)) (L' := [some (.ref (zr Z 195)), some (.ref (zr Z a1)), some (.int x2), some (.int x3), some (.int (x4 + 1)), some (.int r5.1)]) X dX9_bestCalls_104 rfl rfl (by decide) rfl ?_
          refine aw_goto (tgt := 30) X dX9_bestCalls_107 (by decide) ?_
          cases h
          refine aw_msk [true, true, true, true, true, false] ?_
          exact hi _ rfl
        · rw [if_neg c9] at h
          refine aw_iload_n X dX9_bestCalls_77 rfl ?_
          refine aw_aload_n X dX9_bestCalls_78 rfl ?_
          refine aw_getr X dX9_bestCalls_79 fl_RX9_9 iu_RX9 gu_RX9_0 ?_
          refine aw_iload X dX9_bestCalls_82 rfl ?_
          obtain ⟨v10, ev10, h⟩ := bnd h
          refine aw_iald X dX9_bestCalls_84 iu_RX9_0 ev10 ?_
          refine aw_aload_n X dX9_bestCalls_85 rfl ?_
          refine aw_getr X dX9_bestCalls_86 fl_RX9_57 h1 (gt_RX8_3 h1) ?_
          refine aw_iload X dX9_bestCalls_89 rfl ?_
          obtain ⟨r11, er11, h⟩ := bnd h
          refine aw_callV X dX9_bestCalls_91 cv_RX9_31 (ok_X7_at (it_RX8_3 h1) er11 _ _ _ _ _) (it_RX8_3 h1) rfl (Nat.le_trans (by decide) hfr) (by decide) rfl rfl (Nat.le_of_ble_eq_true rfl) ?_
          refine aw_bipush (v := 16) X dX9_bestCalls_94 (by decide) ?_
          refine aw_imul X dX9_bestCalls_96 ?_
          refine aw_iadd X dX9_bestCalls_97 ?_
          refine aw_iconst (v := 1) X dX9_bestCalls_98 (by decide) ?_
          refine aw_isub X dX9_bestCalls_99 ?_
          refine aw_mmax X (Nat.le_trans (by decide) hfr) dX9_bestCalls_100 mc_RX9_41 rfl ?_
          refine aw_istore_n (L' := [some (.ref (zr Z 195)), some (.ref (zr Z a1)), some (.int x2), some (.int (jmmax x3 ((v10 + (r11.1 * 16)) - 1))), some (.int x4), some (.int r5.1)]) X dX9_bestCalls_103 (by decide) rfl ?_
          refine aw_iinc (v := (x4 + 1)) (L' := [some (.ref (zr Z 195)), some (.ref (zr Z a1)), some (.int x2), some (.int (jmmax x3 ((v10 + (r11.1 * 16)) - 1))), some (.int (x4 + 1)), some (.int r5.1)]) X dX9_bestCalls_104 rfl rfl (by decide) rfl ?_
          refine aw_goto (tgt := 30) X dX9_bestCalls_107 (by decide) ?_
          cases h
          refine aw_msk [true, true, true, true, true, false] ?_
          exact hi _ rfl
set_option maxRecDepth 100000 in
set_option maxHeartbeats 4000000 in
theorem so_X9_bestCalls_9 {fr : Nat} (hfr : 1 ≤ fr) (Z : AZ) (X : AX Z cX9_bestCalls 6 RX9 (some .int) 0 fr) (a1 : Nat) (h1 : IO 0 a1 7) (x2 : Int32) (s : Mem) (q : (Int32 × Mem) ⊕ (Mem)) (h : st_X9_bestCalls_9 a1 x2 s = some q) (hi : ∀ y : Int32 × Mem, q = .inl y → AW Z y.2 9 [some (.ref (zr Z 195)), some (.ref (zr Z a1)), some (.int y.1), none, none, none] []) (he : ∀ b : Mem, q = .inr b → AW Z b 123 [some (.ref (zr Z 195)), none, none, none, none, none] []) : AW Z s 9 [some (.ref (zr Z 195)), some (.ref (zr Z a1)), some (.int x2), none, none, none] [] := by
  unfold st_X9_bestCalls_9 at h
  refine aw_iload_n X dX9_bestCalls_9 rfl ?_
  refine aw_aload_n X dX9_bestCalls_10 rfl ?_
  refine aw_getr X dX9_bestCalls_11 fl_RX9_9 iu_RX9 gu_RX9_0 ?_
  refine aw_alen (v := 100) X dX9_bestCalls_14 iu_RX9_0 (by decide) ?_
  refine aw_icmp_ge (tgt := 123) X dX9_bestCalls_15 (by decide) (fun c2 => ?_) (fun c2 => ?_)
  · rw [if_pos c2] at h
    cases h
    refine aw_msk [true, false, false, false, false, false] ?_
    exact he _ rfl
  · rw [if_neg c2] at h
    refine aw_aload_n X dX9_bestCalls_18 rfl ?_
    refine aw_getr X dX9_bestCalls_19 fl_RX9_9 iu_RX9 gu_RX9_0 ?_
    refine aw_iload_n X dX9_bestCalls_22 rfl ?_
    refine aw_iconst (v := 1) X dX9_bestCalls_23 (by decide) ?_
    refine aw_isub X dX9_bestCalls_24 ?_
    obtain ⟨v3, ev3, h⟩ := bnd h
    refine aw_iald X dX9_bestCalls_25 iu_RX9_0 ev3 ?_
    refine aw_istore_n (L' := [some (.ref (zr Z 195)), some (.ref (zr Z a1)), some (.int x2), some (.int v3), none, none]) X dX9_bestCalls_26 (by decide) rfl ?_
    refine aw_iconst (v := 0) X dX9_bestCalls_27 (by decide) ?_
    refine aw_istore (L' := [some (.ref (zr Z 195)), some (.ref (zr Z a1)), some (.int x2), some (.int v3), some (.int 0), none]) X dX9_bestCalls_28 (by decide) rfl ?_
    obtain ⟨r12, er12, h⟩ := bnd h
    refine aw_msk [true, true, true, true, true, false] ?_
    refine it_ok (P := fun y : Int32 × Int32 × Mem => AW Z y.2.2 30 [some (.ref (zr Z 195)), some (.ref (zr Z a1)), some (.int x2), some (.int y.1), some (.int y.2.1), none] []) (Q := fun b : Int32 × Mem => AW Z b.2 110 [some (.ref (zr Z 195)), some (.ref (zr Z a1)), some (.int x2), some (.int b.1), none, none] []) (fun y q hq hi he => so_X9_bestCalls_30 hfr Z X a1 h1 x2 y.1 y.2.1 y.2.2 q hq hi he) FUEL _ _ er12 ?_
    refine aw_aload_n X dX9_bestCalls_110 rfl ?_
    refine aw_getr X dX9_bestCalls_111 fl_RX9_9 iu_RX9 gu_RX9_0 ?_
    refine aw_iload_n X dX9_bestCalls_114 rfl ?_
    refine aw_iload_n X dX9_bestCalls_115 rfl ?_
    obtain ⟨s13, es13, h⟩ := bnd h
    refine aw_iast X dX9_bestCalls_116 iu_RX9_0 es13 ?_
    refine aw_iinc (v := (x2 + 1)) (L' := [some (.ref (zr Z 195)), some (.ref (zr Z a1)), some (.int (x2 + 1)), some (.int r12.1), none, none]) X dX9_bestCalls_117 rfl rfl (by decide) rfl ?_
    refine aw_goto (tgt := 9) X dX9_bestCalls_120 (by decide) ?_
    cases h
    refine aw_msk [true, true, true, false, false, false] ?_
    exact hi _ rfl
set_option maxRecDepth 100000 in
set_option maxHeartbeats 4000000 in
theorem w_X9_bestCalls {fr : Nat} (hfr : 1 ≤ fr) (Z : AZ) (X : AX Z cX9_bestCalls 6 RX9 (some .int) 0 fr) (a1 : Nat) (h1 : IO 0 a1 7) (s : Mem) (r : Int32 × Mem) (hz : zres Z = (some (.int r.1), r.2)) (h : f_X9_bestCalls a1 s = some r) : AW Z s 0 [some (.ref (zr Z 195)), some (.ref (zr Z a1)), none, none, none, none] [] := by
  unfold f_X9_bestCalls at h
  refine aw_aload_n X dX9_bestCalls_0 rfl ?_
  refine aw_getr X dX9_bestCalls_1 fl_RX9_9 iu_RX9 gu_RX9_0 ?_
  refine aw_iconst (v := 0) X dX9_bestCalls_4 (by decide) ?_
  refine aw_iconst (v := 0) X dX9_bestCalls_5 (by decide) ?_
  obtain ⟨s1, es1, h⟩ := bnd h
  refine aw_iast X dX9_bestCalls_6 iu_RX9_0 es1 ?_
  refine aw_iconst (v := 1) X dX9_bestCalls_7 (by decide) ?_
  refine aw_istore_n (L' := [some (.ref (zr Z 195)), some (.ref (zr Z a1)), some (.int 1), none, none, none]) X dX9_bestCalls_8 (by decide) rfl ?_
  obtain ⟨r14, er14, h⟩ := bnd h
  refine aw_msk [true, true, true, false, false, false] ?_
  refine it_ok (P := fun y : Int32 × Mem => AW Z y.2 9 [some (.ref (zr Z 195)), some (.ref (zr Z a1)), some (.int y.1), none, none, none] []) (Q := fun b : Mem => AW Z b 123 [some (.ref (zr Z 195)), none, none, none, none, none] []) (fun y q hq hi he => so_X9_bestCalls_9 hfr Z X a1 h1 y.1 y.2 q hq hi he) FUEL _ _ er14 ?_
  refine aw_aload_n X dX9_bestCalls_123 rfl ?_
  refine aw_getr X dX9_bestCalls_124 fl_RX9_9 iu_RX9 gu_RX9_0 ?_
  refine aw_aload_n X dX9_bestCalls_127 rfl ?_
  refine aw_getr X dX9_bestCalls_128 fl_RX9_9 iu_RX9 gu_RX9_0 ?_
  refine aw_alen (v := 100) X dX9_bestCalls_131 iu_RX9_0 (by decide) ?_
  refine aw_iconst (v := 1) X dX9_bestCalls_132 (by decide) ?_
  refine aw_isub X dX9_bestCalls_133 ?_
  obtain ⟨v15, ev15, h⟩ := bnd h
  refine aw_iald X dX9_bestCalls_134 iu_RX9_0 ev15 ?_
  cases h
  exact aw_iret X dX9_bestCalls_135 rfl hz.symm
set_option maxRecDepth 100000 in
set_option maxHeartbeats 4000000 in
theorem ok_X9_bestCalls {a1 : Nat} (h1 : IO 0 a1 7) {s : Mem} {r : Int32 × Mem} (h : f_X9_bestCalls a1 s = some r) (l : Launch) (D : va_G) (ρ : Nat → Nat) (cA : ClassId × ClassId × ClassId) (τ : AT) : AM l D ρ cA 0 τ yX9_bestCalls cX9_bestCalls 6 (some .int) 1 [.ref (ρ 195), .ref (ρ a1)] (some (.int r.1)) s r.2 := by
  refine AM_of (L := [some (.ref (ρ 195)), some (.ref (ρ a1)), none, none, none, none]) (by decide) (by simp [Value.category]) (Nat.le_of_ble_eq_true rfl) (fun j v q => ?_) (fun Z X hρ hz hτ => ?_)
  · exact aL_ok (n := 4) [.ref (ρ 195), .ref (ρ a1)] j v q
  · subst hρ
    subst hτ
    exact w_X9_bestCalls (Nat.le_refl _) Z X a1 h1 s r hz h

theorem dX9_greatestWorth_0 : decode cX9_greatestWorth 0 = .ok (.aload_n 0, 1) := by decide +kernel
theorem dX9_greatestWorth_1 : decode cX9_greatestWorth 1 = .ok (.aload_n 1, 1) := by decide +kernel
theorem dX9_greatestWorth_2 : decode cX9_greatestWorth 2 = .ok (.invokevirtual 44, 3) := by decide +kernel
theorem dX9_greatestWorth_5 : decode cX9_greatestWorth 5 = .ok (.bipush 16, 2) := by decide +kernel
theorem dX9_greatestWorth_7 : decode cX9_greatestWorth 7 = .ok (.iadd, 1) := by decide +kernel
theorem dX9_greatestWorth_8 : decode cX9_greatestWorth 8 = .ok (.iconst 1, 1) := by decide +kernel
theorem dX9_greatestWorth_9 : decode cX9_greatestWorth 9 = .ok (.isub, 1) := by decide +kernel
theorem dX9_greatestWorth_10 : decode cX9_greatestWorth 10 = .ok (.bipush 16, 2) := by decide +kernel
theorem dX9_greatestWorth_12 : decode cX9_greatestWorth 12 = .ok (.idiv, 1) := by decide +kernel
theorem dX9_greatestWorth_13 : decode cX9_greatestWorth 13 = .ok (.ireturn, 1) := by decide +kernel
set_option maxRecDepth 100000 in
set_option maxHeartbeats 4000000 in
theorem w_X9_greatestWorth {fr : Nat} (hfr : 2 ≤ fr) (Z : AZ) (X : AX Z cX9_greatestWorth 2 RX9 (some .int) 0 fr) (a1 : Nat) (h1 : IO 0 a1 7) (s : Mem) (r : Int32 × Mem) (hz : zres Z = (some (.int r.1), r.2)) (h : f_X9_greatestWorth a1 s = some r) : AW Z s 0 [some (.ref (zr Z 195)), some (.ref (zr Z a1))] [] := by
  unfold f_X9_greatestWorth at h
  refine aw_aload_n X dX9_greatestWorth_0 rfl ?_
  refine aw_aload_n X dX9_greatestWorth_1 rfl ?_
  obtain ⟨r1, er1, h⟩ := bnd h
  refine aw_callV X dX9_greatestWorth_2 cv_RX9_44 (ok_X9_bestCalls h1 er1 _ _ _ _ _) iu_RX9 rfl (Nat.le_trans (by decide) hfr) (by decide) rfl rfl (Nat.le_of_ble_eq_true rfl) ?_
  refine aw_bipush (v := 16) X dX9_greatestWorth_5 (by decide) ?_
  refine aw_iadd X dX9_greatestWorth_7 ?_
  refine aw_iconst (v := 1) X dX9_greatestWorth_8 (by decide) ?_
  refine aw_isub X dX9_greatestWorth_9 ?_
  refine aw_bipush (v := 16) X dX9_greatestWorth_10 (by decide) ?_
  refine aw_idiv X dX9_greatestWorth_12 (by decide) ?_
  cases h
  exact aw_iret X dX9_greatestWorth_13 rfl hz.symm
set_option maxRecDepth 100000 in
set_option maxHeartbeats 4000000 in
theorem ok_X9_greatestWorth {a1 : Nat} (h1 : IO 0 a1 7) {s : Mem} {r : Int32 × Mem} (h : f_X9_greatestWorth a1 s = some r) (l : Launch) (D : va_G) (ρ : Nat → Nat) (cA : ClassId × ClassId × ClassId) (τ : AT) : AM l D ρ cA 0 τ yX9_greatestWorth cX9_greatestWorth 2 (some .int) 2 [.ref (ρ 195), .ref (ρ a1)] (some (.int r.1)) s r.2 := by
  refine AM_of (L := [some (.ref (ρ 195)), some (.ref (ρ a1))]) (by decide) (by simp [Value.category]) (Nat.le_of_ble_eq_true rfl) (fun j v q => ?_) (fun Z X hρ hz hτ => ?_)
  · exact aL_ok (n := 0) [.ref (ρ 195), .ref (ρ a1)] j v q
  · subst hρ
    subst hτ
    exact w_X9_greatestWorth (Nat.le_refl _) Z X a1 h1 s r hz h

theorem dX9_fewestCalls_0 : decode cX9_fewestCalls 0 = .ok (.aload_n 0, 1) := by decide +kernel
theorem dX9_fewestCalls_1 : decode cX9_fewestCalls 1 = .ok (.aload_n 1, 1) := by decide +kernel
theorem dX9_fewestCalls_2 : decode cX9_fewestCalls 2 = .ok (.invokevirtual 44, 3) := by decide +kernel
theorem dX9_fewestCalls_5 : decode cX9_fewestCalls 5 = .ok (.istore_n 2, 1) := by decide +kernel
theorem dX9_fewestCalls_6 : decode cX9_fewestCalls 6 = .ok (.iload_n 2, 1) := by decide +kernel
theorem dX9_fewestCalls_7 : decode cX9_fewestCalls 7 = .ok (.bipush 16, 2) := by decide +kernel
theorem dX9_fewestCalls_9 : decode cX9_fewestCalls 9 = .ok (.iadd, 1) := by decide +kernel
theorem dX9_fewestCalls_10 : decode cX9_fewestCalls 10 = .ok (.iconst 1, 1) := by decide +kernel
theorem dX9_fewestCalls_11 : decode cX9_fewestCalls 11 = .ok (.isub, 1) := by decide +kernel
theorem dX9_fewestCalls_12 : decode cX9_fewestCalls 12 = .ok (.bipush 16, 2) := by decide +kernel
theorem dX9_fewestCalls_14 : decode cX9_fewestCalls 14 = .ok (.idiv, 1) := by decide +kernel
theorem dX9_fewestCalls_15 : decode cX9_fewestCalls 15 = .ok (.bipush 16, 2) := by decide +kernel
theorem dX9_fewestCalls_17 : decode cX9_fewestCalls 17 = .ok (.imul, 1) := by decide +kernel
theorem dX9_fewestCalls_18 : decode cX9_fewestCalls 18 = .ok (.iload_n 2, 1) := by decide +kernel
theorem dX9_fewestCalls_19 : decode cX9_fewestCalls 19 = .ok (.isub, 1) := by decide +kernel
theorem dX9_fewestCalls_20 : decode cX9_fewestCalls 20 = .ok (.ireturn, 1) := by decide +kernel
set_option maxRecDepth 100000 in
set_option maxHeartbeats 4000000 in
theorem w_X9_fewestCalls {fr : Nat} (hfr : 2 ≤ fr) (Z : AZ) (X : AX Z cX9_fewestCalls 3 RX9 (some .int) 0 fr) (a1 : Nat) (h1 : IO 0 a1 7) (s : Mem) (r : Int32 × Mem) (hz : zres Z = (some (.int r.1), r.2)) (h : f_X9_fewestCalls a1 s = some r) : AW Z s 0 [some (.ref (zr Z 195)), some (.ref (zr Z a1)), none] [] := by
  unfold f_X9_fewestCalls at h
  refine aw_aload_n X dX9_fewestCalls_0 rfl ?_
  refine aw_aload_n X dX9_fewestCalls_1 rfl ?_
  obtain ⟨r1, er1, h⟩ := bnd h
  refine aw_callV X dX9_fewestCalls_2 cv_RX9_44 (ok_X9_bestCalls h1 er1 _ _ _ _ _) iu_RX9 rfl (Nat.le_trans (by decide) hfr) (by decide) rfl rfl (Nat.le_of_ble_eq_true rfl) ?_
  refine aw_istore_n (L' := [some (.ref (zr Z 195)), some (.ref (zr Z a1)), some (.int r1.1)]) X dX9_fewestCalls_5 (by decide) rfl ?_
  refine aw_iload_n X dX9_fewestCalls_6 rfl ?_
  refine aw_bipush (v := 16) X dX9_fewestCalls_7 (by decide) ?_
  refine aw_iadd X dX9_fewestCalls_9 ?_
  refine aw_iconst (v := 1) X dX9_fewestCalls_10 (by decide) ?_
  refine aw_isub X dX9_fewestCalls_11 ?_
  refine aw_bipush (v := 16) X dX9_fewestCalls_12 (by decide) ?_
  refine aw_idiv X dX9_fewestCalls_14 (by decide) ?_
  refine aw_bipush (v := 16) X dX9_fewestCalls_15 (by decide) ?_
  refine aw_imul X dX9_fewestCalls_17 ?_
  refine aw_iload_n X dX9_fewestCalls_18 rfl ?_
  refine aw_isub X dX9_fewestCalls_19 ?_
  cases h
  exact aw_iret X dX9_fewestCalls_20 rfl hz.symm
set_option maxRecDepth 100000 in
set_option maxHeartbeats 4000000 in
theorem ok_X9_fewestCalls {a1 : Nat} (h1 : IO 0 a1 7) {s : Mem} {r : Int32 × Mem} (h : f_X9_fewestCalls a1 s = some r) (l : Launch) (D : va_G) (ρ : Nat → Nat) (cA : ClassId × ClassId × ClassId) (τ : AT) : AM l D ρ cA 0 τ yX9_fewestCalls cX9_fewestCalls 3 (some .int) 2 [.ref (ρ 195), .ref (ρ a1)] (some (.int r.1)) s r.2 := by
  refine AM_of (L := [some (.ref (ρ 195)), some (.ref (ρ a1)), none]) (by decide) (by simp [Value.category]) (Nat.le_of_ble_eq_true rfl) (fun j v q => ?_) (fun Z X hρ hz hτ => ?_)
  · exact aL_ok (n := 1) [.ref (ρ 195), .ref (ρ a1)] j v q
  · subst hρ
    subst hτ
    exact w_X9_fewestCalls (Nat.le_refl _) Z X a1 h1 s r hz h

theorem dX9_callsIn_0 : decode cX9_callsIn 0 = .ok (.iconst 0, 1) := by decide +kernel
theorem dX9_callsIn_1 : decode cX9_callsIn 1 = .ok (.istore_n 3, 1) := by decide +kernel
theorem dX9_callsIn_2 : decode cX9_callsIn 2 = .ok (.iconst 0, 1) := by decide +kernel
theorem dX9_callsIn_3 : decode cX9_callsIn 3 = .ok (.istore 4, 2) := by decide +kernel
theorem dX9_callsIn_5 : decode cX9_callsIn 5 = .ok (.iload 4, 2) := by decide +kernel
theorem dX9_callsIn_7 : decode cX9_callsIn 7 = .ok (.aload_n 1, 1) := by decide +kernel
theorem dX9_callsIn_8 : decode cX9_callsIn 8 = .ok (.getfield 54, 3) := by decide +kernel
theorem dX9_callsIn_11 : decode cX9_callsIn 11 = .ok (.getfield 25, 3) := by decide +kernel
theorem dX9_callsIn_14 : decode cX9_callsIn 14 = .ok (.if_icmp .ge 38, 3) := by decide +kernel
theorem dX9_callsIn_17 : decode cX9_callsIn 17 = .ok (.aload_n 1, 1) := by decide +kernel
theorem dX9_callsIn_18 : decode cX9_callsIn 18 = .ok (.getfield 54, 3) := by decide +kernel
theorem dX9_callsIn_21 : decode cX9_callsIn 21 = .ok (.iload 4, 2) := by decide +kernel
theorem dX9_callsIn_23 : decode cX9_callsIn 23 = .ok (.invokevirtual 31, 3) := by decide +kernel
theorem dX9_callsIn_26 : decode cX9_callsIn 26 = .ok (.iload_n 2, 1) := by decide +kernel
theorem dX9_callsIn_27 : decode cX9_callsIn 27 = .ok (.if_icmp .gt 19, 3) := by decide +kernel
theorem dX9_callsIn_30 : decode cX9_callsIn 30 = .ok (.iload_n 2, 1) := by decide +kernel
theorem dX9_callsIn_31 : decode cX9_callsIn 31 = .ok (.aload_n 1, 1) := by decide +kernel
theorem dX9_callsIn_32 : decode cX9_callsIn 32 = .ok (.getfield 48, 3) := by decide +kernel
theorem dX9_callsIn_35 : decode cX9_callsIn 35 = .ok (.iload 4, 2) := by decide +kernel
theorem dX9_callsIn_37 : decode cX9_callsIn 37 = .ok (.invokevirtual 31, 3) := by decide +kernel
theorem dX9_callsIn_40 : decode cX9_callsIn 40 = .ok (.if_icmp .ge 6, 3) := by decide +kernel
theorem dX9_callsIn_43 : decode cX9_callsIn 43 = .ok (.iinc 3 1, 3) := by decide +kernel
theorem dX9_callsIn_46 : decode cX9_callsIn 46 = .ok (.iinc 4 1, 3) := by decide +kernel
theorem dX9_callsIn_49 : decode cX9_callsIn 49 = .ok (.goto (-44), 3) := by decide +kernel
theorem dX9_callsIn_52 : decode cX9_callsIn 52 = .ok (.iload_n 3, 1) := by decide +kernel
theorem dX9_callsIn_53 : decode cX9_callsIn 53 = .ok (.ireturn, 1) := by decide +kernel
set_option maxRecDepth 100000 in
set_option maxHeartbeats 4000000 in
theorem so_X9_callsIn_5 {fr : Nat} (hfr : 1 ≤ fr) (Z : AZ) (X : AX Z cX9_callsIn 5 RX9 (some .int) 0 fr) (a1 : Nat) (h1 : IO 0 a1 7) (x2 : Int32) (x3 : Int32) (x4 : Int32) (s : Mem) (q : (Int32 × Int32 × Mem) ⊕ (Int32 × Mem)) (h : st_X9_callsIn_5 a1 x2 x3 x4 s = some q) (hi : ∀ y : Int32 × Int32 × Mem, q = .inl y → AW Z y.2.2 5 [none, some (.ref (zr Z a1)), some (.int x2), some (.int y.1), some (.int y.2.1)] []) (he : ∀ b : Int32 × Mem, q = .inr b → AW Z b.2 52 [none, none, none, some (.int b.1), none] []) : AW Z s 5 [none, some (.ref (zr Z a1)), some (.int x2), some (.int x3), some (.int x4)] [] := by
  unfold st_X9_callsIn_5 at h
  refine aw_iload X dX9_callsIn_5 rfl ?_
  refine aw_aload_n X dX9_callsIn_7 rfl ?_
  refine aw_getr X dX9_callsIn_8 fl_RX9_54 h1 (gt_RX8_1 h1) ?_
  refine aw_geti X dX9_callsIn_11 fl_RX9_25 (it_RX8_1 h1) (gt_RX7_1 (it_RX8_1 h1)) ?_
  refine aw_icmp_ge (tgt := 52) X dX9_callsIn_14 (by decide) (fun c1 => ?_) (fun c1 => ?_)
  · rw [if_pos c1] at h
    cases h
    refine aw_msk [false, false, false, true, false] ?_
    exact he _ rfl
  · rw [if_neg c1] at h
    refine aw_aload_n X dX9_callsIn_17 rfl ?_
    refine aw_getr X dX9_callsIn_18 fl_RX9_54 h1 (gt_RX8_1 h1) ?_
    refine aw_iload X dX9_callsIn_21 rfl ?_
    obtain ⟨r2, er2, h⟩ := bnd h
    refine aw_callV X dX9_callsIn_23 cv_RX9_31 (ok_X7_at (it_RX8_1 h1) er2 _ _ _ _ _) (it_RX8_1 h1) rfl (Nat.le_trans (by decide) hfr) (by decide) rfl rfl (Nat.le_of_ble_eq_true rfl) ?_
    refine aw_iload_n X dX9_callsIn_26 rfl ?_
    refine aw_icmp_gt (tgt := 46) X dX9_callsIn_27 (by decide) (fun c3 => ?_) (fun c3 => ?_)
    · rw [if_pos c3] at h
      refine aw_iinc (v := (x4 + 1)) (L' := [none, some (.ref (zr Z a1)), some (.int x2), some (.int x3), some (.int (x4 + 1))]) X dX9_callsIn_46 rfl rfl (by decide) rfl ?_
      refine aw_goto (tgt := 5) X dX9_callsIn_49 (by decide) ?_
      cases h
      refine aw_msk [false, true, true, true, true] ?_
      exact hi _ rfl
    · rw [if_neg c3] at h
      refine aw_iload_n X dX9_callsIn_30 rfl ?_
      refine aw_aload_n X dX9_callsIn_31 rfl ?_
      refine aw_getr X dX9_callsIn_32 fl_RX9_48 h1 (gt_RX8_2 h1) ?_
      refine aw_iload X dX9_callsIn_35 rfl ?_
      obtain ⟨r4, er4, h⟩ := bnd h
      refine aw_callV X dX9_callsIn_37 cv_RX9_31 (ok_X7_at (it_RX8_2 h1) er4 _ _ _ _ _) (it_RX8_2 h1) rfl (Nat.le_trans (by decide) hfr) (by decide) rfl rfl (Nat.le_of_ble_eq_true rfl) ?_
      refine aw_icmp_ge (tgt := 46) X dX9_callsIn_40 (by decide) (fun c5 => ?_) (fun c5 => ?_)
      · rw [if_pos c5] at h
        refine aw_iinc (v := (x4 + 1)) (L' := [none, some (.ref (zr Z a1)), some (.int x2), some (.int x3), some (.int (x4 + 1))]) X dX9_callsIn_46 rfl rfl (by decide) rfl ?_
        refine aw_goto (tgt := 5) X dX9_callsIn_49 (by decide) ?_
        cases h
        refine aw_msk [false, true, true, true, true] ?_
        exact hi _ rfl
      · rw [if_neg c5] at h
        refine aw_iinc (v := (x3 + 1)) (L' := [none, some (.ref (zr Z a1)), some (.int x2), some (.int (x3 + 1)), some (.int x4)]) X dX9_callsIn_43 rfl rfl (by decide) rfl ?_
        refine aw_iinc (v := (x4 + 1)) (L' := [none, some (.ref (zr Z a1)), some (.int x2), some (.int (x3 + 1)), some (.int (x4 + 1))]) X dX9_callsIn_46 rfl rfl (by decide) rfl ?_
        refine aw_goto (tgt := 5) X dX9_callsIn_49 (by decide) ?_
        cases h
        refine aw_msk [false, true, true, true, true] ?_
        exact hi _ rfl
set_option maxRecDepth 100000 in
set_option maxHeartbeats 4000000 in
theorem w_X9_callsIn {fr : Nat} (hfr : 1 ≤ fr) (Z : AZ) (X : AX Z cX9_callsIn 5 RX9 (some .int) 0 fr) (a1 : Nat) (h1 : IO 0 a1 7) (x2 : Int32) (s : Mem) (r : Int32 × Mem) (hz : zres Z = (some (.int r.1), r.2)) (h : f_X9_callsIn a1 x2 s = some r) : AW Z s 0 [some (.ref (zr Z 195)), some (.ref (zr Z a1)), some (.int x2), none, none] [] := by
  unfold f_X9_callsIn at h
  refine aw_iconst (v := 0) X dX9_callsIn_0 (by decide) ?_
  refine aw_istore_n (L' := [some (.ref (zr Z 195)), some (.ref (zr Z a1)), some (.int x2), some (.int 0), none]) X dX9_callsIn_1 (by decide) rfl ?_
  refine aw_iconst (v := 0) X dX9_callsIn_2 (by decide) ?_
  refine aw_istore (L' := [some (.ref (zr Z 195)), some (.ref (zr Z a1)), some (.int x2), some (.int 0), some (.int 0)]) X dX9_callsIn_3 (by decide) rfl ?_
  obtain ⟨r6, er6, h⟩ := bnd h
  refine aw_msk [false, true, true, true, true] ?_
  refine it_ok (P := fun y : Int32 × Int32 × Mem => AW Z y.2.2 5 [none, some (.ref (zr Z a1)), some (.int x2), some (.int y.1), some (.int y.2.1)] []) (Q := fun b : Int32 × Mem => AW Z b.2 52 [none, none, none, some (.int b.1), none] []) (fun y q hq hi he => so_X9_callsIn_5 hfr Z X a1 h1 x2 y.1 y.2.1 y.2.2 q hq hi he) FUEL _ _ er6 ?_
  refine aw_iload_n X dX9_callsIn_52 rfl ?_
  cases h
  exact aw_iret X dX9_callsIn_53 rfl hz.symm
set_option maxRecDepth 100000 in
set_option maxHeartbeats 4000000 in
theorem ok_X9_callsIn {a1 : Nat} (h1 : IO 0 a1 7) {x2 : Int32} {s : Mem} {r : Int32 × Mem} (h : f_X9_callsIn a1 x2 s = some r) (l : Launch) (D : va_G) (ρ : Nat → Nat) (cA : ClassId × ClassId × ClassId) (τ : AT) : AM l D ρ cA 0 τ yX9_callsIn cX9_callsIn 5 (some .int) 1 [.ref (ρ 195), .ref (ρ a1), .int x2] (some (.int r.1)) s r.2 := by
  refine AM_of (L := [some (.ref (ρ 195)), some (.ref (ρ a1)), some (.int x2), none, none]) (by decide) (by simp [Value.category]) (Nat.le_of_ble_eq_true rfl) (fun j v q => ?_) (fun Z X hρ hz hτ => ?_)
  · exact aL_ok (n := 2) [.ref (ρ 195), .ref (ρ a1), .int x2] j v q
  · subst hρ
    subst hτ
    exact w_X9_callsIn (Nat.le_refl _) Z X a1 h1 x2 s r hz h

theorem dX9_minutesInCalls_0 : decode cX9_minutesInCalls 0 = .ok (.iconst 0, 1) := by decide +kernel
theorem dX9_minutesInCalls_1 : decode cX9_minutesInCalls 1 = .ok (.istore_n 2, 1) := by decide +kernel
theorem dX9_minutesInCalls_2 : decode cX9_minutesInCalls 2 = .ok (.iconst 0, 1) := by decide +kernel
theorem dX9_minutesInCalls_3 : decode cX9_minutesInCalls 3 = .ok (.istore_n 3, 1) := by decide +kernel
theorem dX9_minutesInCalls_4 : decode cX9_minutesInCalls 4 = .ok (.iload_n 3, 1) := by decide +kernel
theorem dX9_minutesInCalls_5 : decode cX9_minutesInCalls 5 = .ok (.bipush 100, 2) := by decide +kernel
theorem dX9_minutesInCalls_7 : decode cX9_minutesInCalls 7 = .ok (.if_icmp .ge 21, 3) := by decide +kernel
theorem dX9_minutesInCalls_10 : decode cX9_minutesInCalls 10 = .ok (.aload_n 0, 1) := by decide +kernel
theorem dX9_minutesInCalls_11 : decode cX9_minutesInCalls 11 = .ok (.aload_n 1, 1) := by decide +kernel
theorem dX9_minutesInCalls_12 : decode cX9_minutesInCalls 12 = .ok (.iload_n 3, 1) := by decide +kernel
theorem dX9_minutesInCalls_13 : decode cX9_minutesInCalls 13 = .ok (.invokevirtual 60, 3) := by decide +kernel
theorem dX9_minutesInCalls_16 : decode cX9_minutesInCalls 16 = .ok (.ifCond .le 6, 3) := by decide +kernel
theorem dX9_minutesInCalls_19 : decode cX9_minutesInCalls 19 = .ok (.iinc 2 1, 3) := by decide +kernel
theorem dX9_minutesInCalls_22 : decode cX9_minutesInCalls 22 = .ok (.iinc 3 1, 3) := by decide +kernel
theorem dX9_minutesInCalls_25 : decode cX9_minutesInCalls 25 = .ok (.goto (-21), 3) := by decide +kernel
theorem dX9_minutesInCalls_28 : decode cX9_minutesInCalls 28 = .ok (.iload_n 2, 1) := by decide +kernel
theorem dX9_minutesInCalls_29 : decode cX9_minutesInCalls 29 = .ok (.ireturn, 1) := by decide +kernel
set_option maxRecDepth 100000 in
set_option maxHeartbeats 4000000 in
theorem so_X9_minutesInCalls_4 {fr : Nat} (hfr : 2 ≤ fr) (Z : AZ) (X : AX Z cX9_minutesInCalls 4 RX9 (some .int) 0 fr) (a1 : Nat) (h1 : IO 0 a1 7) (x2 : Int32) (x3 : Int32) (s : Mem) (q : (Int32 × Int32 × Mem) ⊕ (Int32 × Mem)) (h : st_X9_minutesInCalls_4 a1 x2 x3 s = some q) (hi : ∀ y : Int32 × Int32 × Mem, q = .inl y → AW Z y.2.2 4 [some (.ref (zr Z 195)), some (.ref (zr Z a1)), some (.int y.1), some (.int y.2.1)] []) (he : ∀ b : Int32 × Mem, q = .inr b → AW Z b.2 28 [none, none, some (.int b.1), none] []) : AW Z s 4 [some (.ref (zr Z 195)), some (.ref (zr Z a1)), some (.int x2), some (.int x3)] [] := by
  unfold st_X9_minutesInCalls_4 at h
  refine aw_iload_n X dX9_minutesInCalls_4 rfl ?_
  refine aw_bipush (v := 100) X dX9_minutesInCalls_5 (by decide) ?_
  refine aw_icmp_ge (tgt := 28) X dX9_minutesInCalls_7 (by decide) (fun c1 => ?_) (fun c1 => ?_)
  · rw [if_pos c1] at h
    cases h
    refine aw_msk [false, false, true, false] ?_
    exact he _ rfl
  · rw [if_neg c1] at h
    refine aw_aload_n X dX9_minutesInCalls_10 rfl ?_
    refine aw_aload_n X dX9_minutesInCalls_11 rfl ?_
    refine aw_iload_n X dX9_minutesInCalls_12 rfl ?_
    obtain ⟨r2, er2, h⟩ := bnd h
    refine aw_callV X dX9_minutesInCalls_13 cv_RX9_60 (ok_X9_callsIn h1 er2 _ _ _ _ _) iu_RX9 rfl (Nat.le_trans (by decide) hfr) (by decide) rfl rfl (Nat.le_of_ble_eq_true rfl) ?_
    refine aw_if_le (tgt := 22) X dX9_minutesInCalls_16 (by decide) (fun c3 => ?_) (fun c3 => ?_)
    · rw [if_pos c3] at h
      refine aw_iinc (v := (x3 + 1)) (L' := [some (.ref (zr Z 195)), some (.ref (zr Z a1)), some (.int x2), some (.int (x3 + 1))]) X dX9_minutesInCalls_22 rfl rfl (by decide) rfl ?_
      refine aw_goto (tgt := 4) X dX9_minutesInCalls_25 (by decide) ?_
      cases h
      refine aw_msk [true, true, true, true] ?_
      exact hi _ rfl
    · rw [if_neg c3] at h
      refine aw_iinc (v := (x2 + 1)) (L' := [some (.ref (zr Z 195)), some (.ref (zr Z a1)), some (.int (x2 + 1)), some (.int x3)]) X dX9_minutesInCalls_19 rfl rfl (by decide) rfl ?_
      refine aw_iinc (v := (x3 + 1)) (L' := [some (.ref (zr Z 195)), some (.ref (zr Z a1)), some (.int (x2 + 1)), some (.int (x3 + 1))]) X dX9_minutesInCalls_22 rfl rfl (by decide) rfl ?_
      refine aw_goto (tgt := 4) X dX9_minutesInCalls_25 (by decide) ?_
      cases h
      refine aw_msk [true, true, true, true] ?_
      exact hi _ rfl
set_option maxRecDepth 100000 in
set_option maxHeartbeats 4000000 in
theorem w_X9_minutesInCalls {fr : Nat} (hfr : 2 ≤ fr) (Z : AZ) (X : AX Z cX9_minutesInCalls 4 RX9 (some .int) 0 fr) (a1 : Nat) (h1 : IO 0 a1 7) (s : Mem) (r : Int32 × Mem) (hz : zres Z = (some (.int r.1), r.2)) (h : f_X9_minutesInCalls a1 s = some r) : AW Z s 0 [some (.ref (zr Z 195)), some (.ref (zr Z a1)), none, none] [] := by
  unfold f_X9_minutesInCalls at h
  refine aw_iconst (v := 0) X dX9_minutesInCalls_0 (by decide) ?_
  refine aw_istore_n (L' := [some (.ref (zr Z 195)), some (.ref (zr Z a1)), some (.int 0), none]) X dX9_minutesInCalls_1 (by decide) rfl ?_
  refine aw_iconst (v := 0) X dX9_minutesInCalls_2 (by decide) ?_
  refine aw_istore_n (L' := [some (.ref (zr Z 195)), some (.ref (zr Z a1)), some (.int 0), some (.int 0)]) X dX9_minutesInCalls_3 (by decide) rfl ?_
  obtain ⟨r4, er4, h⟩ := bnd h
  refine aw_msk [true, true, true, true] ?_
  refine it_ok (P := fun y : Int32 × Int32 × Mem => AW Z y.2.2 4 [some (.ref (zr Z 195)), some (.ref (zr Z a1)), some (.int y.1), some (.int y.2.1)] []) (Q := fun b : Int32 × Mem => AW Z b.2 28 [none, none, some (.int b.1), none] []) (fun y q hq hi he => so_X9_minutesInCalls_4 hfr Z X a1 h1 y.1 y.2.1 y.2.2 q hq hi he) FUEL _ _ er4 ?_
  refine aw_iload_n X dX9_minutesInCalls_28 rfl ?_
  cases h
  exact aw_iret X dX9_minutesInCalls_29 rfl hz.symm
set_option maxRecDepth 100000 in
set_option maxHeartbeats 4000000 in
theorem ok_X9_minutesInCalls {a1 : Nat} (h1 : IO 0 a1 7) {s : Mem} {r : Int32 × Mem} (h : f_X9_minutesInCalls a1 s = some r) (l : Launch) (D : va_G) (ρ : Nat → Nat) (cA : ClassId × ClassId × ClassId) (τ : AT) : AM l D ρ cA 0 τ yX9_minutesInCalls cX9_minutesInCalls 4 (some .int) 2 [.ref (ρ 195), .ref (ρ a1)] (some (.int r.1)) s r.2 := by
  refine AM_of (L := [some (.ref (ρ 195)), some (.ref (ρ a1)), none, none]) (by decide) (by simp [Value.category]) (Nat.le_of_ble_eq_true rfl) (fun j v q => ?_) (fun Z X hρ hz hτ => ?_)
  · exact aL_ok (n := 2) [.ref (ρ 195), .ref (ρ a1)] j v q
  · subst hρ
    subst hτ
    exact w_X9_minutesInCalls (Nat.le_refl _) Z X a1 h1 s r hz h

theorem dX9_callsAtOnce_0 : decode cX9_callsAtOnce 0 = .ok (.iconst 0, 1) := by decide +kernel
theorem dX9_callsAtOnce_1 : decode cX9_callsAtOnce 1 = .ok (.istore_n 2, 1) := by decide +kernel
theorem dX9_callsAtOnce_2 : decode cX9_callsAtOnce 2 = .ok (.iconst 0, 1) := by decide +kernel
theorem dX9_callsAtOnce_3 : decode cX9_callsAtOnce 3 = .ok (.istore_n 3, 1) := by decide +kernel
theorem dX9_callsAtOnce_4 : decode cX9_callsAtOnce 4 = .ok (.iload_n 3, 1) := by decide +kernel
theorem dX9_callsAtOnce_5 : decode cX9_callsAtOnce 5 = .ok (.bipush 100, 2) := by decide +kernel
theorem dX9_callsAtOnce_7 : decode cX9_callsAtOnce 7 = .ok (.if_icmp .ge 20, 3) := by decide +kernel
theorem dX9_callsAtOnce_10 : decode cX9_callsAtOnce 10 = .ok (.iload_n 2, 1) := by decide +kernel
theorem dX9_callsAtOnce_11 : decode cX9_callsAtOnce 11 = .ok (.aload_n 0, 1) := by decide +kernel
theorem dX9_callsAtOnce_12 : decode cX9_callsAtOnce 12 = .ok (.aload_n 1, 1) := by decide +kernel
theorem dX9_callsAtOnce_13 : decode cX9_callsAtOnce 13 = .ok (.iload_n 3, 1) := by decide +kernel
theorem dX9_callsAtOnce_14 : decode cX9_callsAtOnce 14 = .ok (.invokevirtual 60, 3) := by decide +kernel
theorem dX9_callsAtOnce_17 : decode cX9_callsAtOnce 17 = .ok (.invokestatic 41, 3) := by decide +kernel
theorem dX9_callsAtOnce_20 : decode cX9_callsAtOnce 20 = .ok (.istore_n 2, 1) := by decide +kernel
theorem dX9_callsAtOnce_21 : decode cX9_callsAtOnce 21 = .ok (.iinc 3 1, 3) := by decide +kernel
theorem dX9_callsAtOnce_24 : decode cX9_callsAtOnce 24 = .ok (.goto (-20), 3) := by decide +kernel
theorem dX9_callsAtOnce_27 : decode cX9_callsAtOnce 27 = .ok (.iload_n 2, 1) := by decide +kernel
theorem dX9_callsAtOnce_28 : decode cX9_callsAtOnce 28 = .ok (.ireturn, 1) := by decide +kernel
set_option maxRecDepth 100000 in
set_option maxHeartbeats 4000000 in
theorem so_X9_callsAtOnce_4 {fr : Nat} (hfr : 2 ≤ fr) (Z : AZ) (X : AX Z cX9_callsAtOnce 4 RX9 (some .int) 0 fr) (a1 : Nat) (h1 : IO 0 a1 7) (x2 : Int32) (x3 : Int32) (s : Mem) (q : (Int32 × Int32 × Mem) ⊕ (Int32 × Mem)) (h : st_X9_callsAtOnce_4 a1 x2 x3 s = some q) (hi : ∀ y : Int32 × Int32 × Mem, q = .inl y → AW Z y.2.2 4 [some (.ref (zr Z 195)), some (.ref (zr Z a1)), some (.int y.1), some (.int y.2.1)] []) (he : ∀ b : Int32 × Mem, q = .inr b → AW Z b.2 27 [none, none, some (.int b.1), none] []) : AW Z s 4 [some (.ref (zr Z 195)), some (.ref (zr Z a1)), some (.int x2), some (.int x3)] [] := by
  unfold st_X9_callsAtOnce_4 at h
  refine aw_iload_n X dX9_callsAtOnce_4 rfl ?_
  refine aw_bipush (v := 100) X dX9_callsAtOnce_5 (by decide) ?_
  refine aw_icmp_ge (tgt := 27) X dX9_callsAtOnce_7 (by decide) (fun c1 => ?_) (fun c1 => ?_)
  · rw [if_pos c1] at h
    cases h
    refine aw_msk [false, false, true, false] ?_
    exact he _ rfl
  · rw [if_neg c1] at h
    refine aw_iload_n X dX9_callsAtOnce_10 rfl ?_
    refine aw_aload_n X dX9_callsAtOnce_11 rfl ?_
    refine aw_aload_n X dX9_callsAtOnce_12 rfl ?_
    refine aw_iload_n X dX9_callsAtOnce_13 rfl ?_
    obtain ⟨r2, er2, h⟩ := bnd h
    refine aw_callV X dX9_callsAtOnce_14 cv_RX9_60 (ok_X9_callsIn h1 er2 _ _ _ _ _) iu_RX9 rfl (Nat.le_trans (by decide) hfr) (by decide) rfl rfl (Nat.le_of_ble_eq_true rfl) ?_
    refine aw_mmax X (Nat.le_trans (by decide) hfr) dX9_callsAtOnce_17 mc_RX9_41 rfl ?_
    refine aw_istore_n (L' := [some (.ref (zr Z 195)), some (.ref (zr Z a1)), some (.int (jmmax x2 r2.1)), some (.int x3)]) X dX9_callsAtOnce_20 (by decide) rfl ?_
    refine aw_iinc (v := (x3 + 1)) (L' := [some (.ref (zr Z 195)), some (.ref (zr Z a1)), some (.int (jmmax x2 r2.1)), some (.int (x3 + 1))]) X dX9_callsAtOnce_21 rfl rfl (by decide) rfl ?_
    refine aw_goto (tgt := 4) X dX9_callsAtOnce_24 (by decide) ?_
    cases h
    refine aw_msk [true, true, true, true] ?_
    exact hi _ rfl
set_option maxRecDepth 100000 in
set_option maxHeartbeats 4000000 in
theorem w_X9_callsAtOnce {fr : Nat} (hfr : 2 ≤ fr) (Z : AZ) (X : AX Z cX9_callsAtOnce 4 RX9 (some .int) 0 fr) (a1 : Nat) (h1 : IO 0 a1 7) (s : Mem) (r : Int32 × Mem) (hz : zres Z = (some (.int r.1), r.2)) (h : f_X9_callsAtOnce a1 s = some r) : AW Z s 0 [some (.ref (zr Z 195)), some (.ref (zr Z a1)), none, none] [] := by
  unfold f_X9_callsAtOnce at h
  refine aw_iconst (v := 0) X dX9_callsAtOnce_0 (by decide) ?_
  refine aw_istore_n (L' := [some (.ref (zr Z 195)), some (.ref (zr Z a1)), some (.int 0), none]) X dX9_callsAtOnce_1 (by decide) rfl ?_
  refine aw_iconst (v := 0) X dX9_callsAtOnce_2 (by decide) ?_
  refine aw_istore_n (L' := [some (.ref (zr Z 195)), some (.ref (zr Z a1)), some (.int 0), some (.int 0)]) X dX9_callsAtOnce_3 (by decide) rfl ?_
  obtain ⟨r3, er3, h⟩ := bnd h
  refine aw_msk [true, true, true, true] ?_
  refine it_ok (P := fun y : Int32 × Int32 × Mem => AW Z y.2.2 4 [some (.ref (zr Z 195)), some (.ref (zr Z a1)), some (.int y.1), some (.int y.2.1)] []) (Q := fun b : Int32 × Mem => AW Z b.2 27 [none, none, some (.int b.1), none] []) (fun y q hq hi he => so_X9_callsAtOnce_4 hfr Z X a1 h1 y.1 y.2.1 y.2.2 q hq hi he) FUEL _ _ er3 ?_
  refine aw_iload_n X dX9_callsAtOnce_27 rfl ?_
  cases h
  exact aw_iret X dX9_callsAtOnce_28 rfl hz.symm
set_option maxRecDepth 100000 in
set_option maxHeartbeats 4000000 in
theorem ok_X9_callsAtOnce {a1 : Nat} (h1 : IO 0 a1 7) {s : Mem} {r : Int32 × Mem} (h : f_X9_callsAtOnce a1 s = some r) (l : Launch) (D : va_G) (ρ : Nat → Nat) (cA : ClassId × ClassId × ClassId) (τ : AT) : AM l D ρ cA 0 τ yX9_callsAtOnce cX9_callsAtOnce 4 (some .int) 2 [.ref (ρ 195), .ref (ρ a1)] (some (.int r.1)) s r.2 := by
  refine AM_of (L := [some (.ref (ρ 195)), some (.ref (ρ a1)), none, none]) (by decide) (by simp [Value.category]) (Nat.le_of_ble_eq_true rfl) (fun j v q => ?_) (fun Z X hρ hz hτ => ?_)
  · exact aL_ok (n := 2) [.ref (ρ 195), .ref (ρ a1)] j v q
  · subst hρ
    subst hτ
    exact w_X9_callsAtOnce (Nat.le_refl _) Z X a1 h1 s r hz h

theorem dX9_cut_0 : decode cX9_cut 0 = .ok (.iconst 0, 1) := by decide +kernel
theorem dX9_cut_1 : decode cX9_cut 1 = .ok (.istore 4, 2) := by decide +kernel
theorem dX9_cut_3 : decode cX9_cut 3 = .ok (.iconst 0, 1) := by decide +kernel
theorem dX9_cut_4 : decode cX9_cut 4 = .ok (.istore 5, 2) := by decide +kernel
theorem dX9_cut_6 : decode cX9_cut 6 = .ok (.iload 5, 2) := by decide +kernel
theorem dX9_cut_8 : decode cX9_cut 8 = .ok (.aload_n 1, 1) := by decide +kernel
theorem dX9_cut_9 : decode cX9_cut 9 = .ok (.getfield 68, 3) := by decide +kernel
theorem dX9_cut_12 : decode cX9_cut 12 = .ok (.getfield 25, 3) := by decide +kernel
theorem dX9_cut_15 : decode cX9_cut 15 = .ok (.if_icmp .ge 76, 3) := by decide +kernel
theorem dX9_cut_18 : decode cX9_cut 18 = .ok (.iload_n 2, 1) := by decide +kernel
theorem dX9_cut_19 : decode cX9_cut 19 = .ok (.aload_n 1, 1) := by decide +kernel
theorem dX9_cut_20 : decode cX9_cut 20 = .ok (.getfield 68, 3) := by decide +kernel
theorem dX9_cut_23 : decode cX9_cut 23 = .ok (.iload 5, 2) := by decide +kernel
theorem dX9_cut_25 : decode cX9_cut 25 = .ok (.invokevirtual 31, 3) := by decide +kernel
theorem dX9_cut_28 : decode cX9_cut 28 = .ok (.ishr, 1) := by decide +kernel
theorem dX9_cut_29 : decode cX9_cut 29 = .ok (.iconst 1, 1) := by decide +kernel
theorem dX9_cut_30 : decode cX9_cut 30 = .ok (.iand, 1) := by decide +kernel
theorem dX9_cut_31 : decode cX9_cut 31 = .ok (.iconst 1, 1) := by decide +kernel
theorem dX9_cut_32 : decode cX9_cut 32 = .ok (.if_icmp .ne 23, 3) := by decide +kernel
theorem dX9_cut_35 : decode cX9_cut 35 = .ok (.iload_n 2, 1) := by decide +kernel
theorem dX9_cut_36 : decode cX9_cut 36 = .ok (.aload_n 1, 1) := by decide +kernel
theorem dX9_cut_37 : decode cX9_cut 37 = .ok (.getfield 71, 3) := by decide +kernel
theorem dX9_cut_40 : decode cX9_cut 40 = .ok (.iload 5, 2) := by decide +kernel
theorem dX9_cut_42 : decode cX9_cut 42 = .ok (.invokevirtual 31, 3) := by decide +kernel
theorem dX9_cut_45 : decode cX9_cut 45 = .ok (.ishr, 1) := by decide +kernel
theorem dX9_cut_46 : decode cX9_cut 46 = .ok (.iconst 1, 1) := by decide +kernel
theorem dX9_cut_47 : decode cX9_cut 47 = .ok (.iand, 1) := by decide +kernel
theorem dX9_cut_48 : decode cX9_cut 48 = .ok (.ifCond .ne 7, 3) := by decide +kernel
theorem dX9_cut_51 : decode cX9_cut 51 = .ok (.iconst 1, 1) := by decide +kernel
theorem dX9_cut_52 : decode cX9_cut 52 = .ok (.goto 4, 3) := by decide +kernel
theorem dX9_cut_55 : decode cX9_cut 55 = .ok (.iconst 0, 1) := by decide +kernel
theorem dX9_cut_56 : decode cX9_cut 56 = .ok (.istore 6, 2) := by decide +kernel
theorem dX9_cut_58 : decode cX9_cut 58 = .ok (.iload 6, 2) := by decide +kernel
theorem dX9_cut_60 : decode cX9_cut 60 = .ok (.ifCond .eq 25, 3) := by decide +kernel
theorem dX9_cut_63 : decode cX9_cut 63 = .ok (.iload 4, 2) := by decide +kernel
theorem dX9_cut_65 : decode cX9_cut 65 = .ok (.iload_n 3, 1) := by decide +kernel
theorem dX9_cut_66 : decode cX9_cut 66 = .ok (.ifCond .eq 7, 3) := by decide +kernel
theorem dX9_cut_69 : decode cX9_cut 69 = .ok (.iconst 1, 1) := by decide +kernel
theorem dX9_cut_70 : decode cX9_cut 70 = .ok (.goto 12, 3) := by decide +kernel
theorem dX9_cut_73 : decode cX9_cut 73 = .ok (.aload_n 1, 1) := by decide +kernel
theorem dX9_cut_74 : decode cX9_cut 74 = .ok (.getfield 74, 3) := by decide +kernel
theorem dX9_cut_77 : decode cX9_cut 77 = .ok (.iload 5, 2) := by decide +kernel
theorem dX9_cut_79 : decode cX9_cut 79 = .ok (.invokevirtual 31, 3) := by decide +kernel
theorem dX9_cut_82 : decode cX9_cut 82 = .ok (.iadd, 1) := by decide +kernel
theorem dX9_cut_83 : decode cX9_cut 83 = .ok (.istore 4, 2) := by decide +kernel
theorem dX9_cut_85 : decode cX9_cut 85 = .ok (.iinc 5 1, 3) := by decide +kernel
theorem dX9_cut_88 : decode cX9_cut 88 = .ok (.goto (-82), 3) := by decide +kernel
theorem dX9_cut_91 : decode cX9_cut 91 = .ok (.iload 4, 2) := by decide +kernel
theorem dX9_cut_93 : decode cX9_cut 93 = .ok (.ireturn, 1) := by decide +kernel
set_option maxRecDepth 100000 in
set_option maxHeartbeats 4000000 in
theorem jo_X9_cut_56 {fr : Nat} (hfr : 1 ≤ fr) (Z : AZ) (X : AX Z cX9_cut 7 RX9 (some .int) 0 fr) (a1 : Nat) (h1 : IO 0 a1 7) (x2 : Int32) (x3 : Int32) (x4 : Int32) (x5 : Int32) (t0 : Int32) (s : Mem) (q : (Int32 × Int32 × Mem) ⊕ (Int32 × Mem)) (h : jn_X9_cut_56 a1 x2 x3 x4 x5 t0 s = some q) (hi : ∀ y : Int32 × Int32 × Mem, q = .inl y → AW Z y.2.2 6 [none, some (.ref (zr Z a1)), some (.int x2), some (.int x3), some (.int y.1), some (.int y.2.1), none] []) (he : ∀ b : Int32 × Mem, q = .inr b → AW Z b.2 91 [none, none, none, none, some (.int b.1), none, none] []) : AW Z s 56 [none, some (.ref (zr Z a1)), some (.int x2), some (.int x3), some (.int x4), some (.int x5), none] [.int t0] := by
  unfold jn_X9_cut_56 at h
  refine aw_istore (L' := [none, some (.ref (zr Z a1)), some (.int x2), some (.int x3), some (.int x4), some (.int x5), some (.int t0)]) X dX9_cut_56 (by decide) rfl ?_
  refine aw_iload X dX9_cut_58 rfl ?_
  refine aw_if_eq (tgt := 85) X dX9_cut_60 (by decide) (fun c4 => ?_) (fun c4 => ?_)
  · rw [if_pos c4] at h
    refine aw_iinc (v := (x5 + 1)) (L' := [none, some (.ref (zr Z a1)), some (.int x2), some (.int x3), some (.int x4), some (.int (x5 + 1)), some (.int t0)]) X dX9_cut_85 rfl rfl (by decide) rfl ?_
    refine aw_goto (tgt := 6) X dX9_cut_88 (by decide) ?_
    cases h
    refine aw_msk [false, true, true, true, true, true, false] ?_
    exact hi _ rfl
  · rw [if_neg c4] at h
    refine aw_iload X dX9_cut_63 rfl ?_
    refine aw_iload_n X dX9_cut_65 rfl ?_
    refine aw_if_eq (tgt := 73) X dX9_cut_66 (by decide) (fun c5 => ?_) (fun c5 => ?_)
    · rw [if_pos c5] at h
      refine aw_aload_n X dX9_cut_73 rfl ?_
      refine aw_getr X dX9_cut_74 fl_RX9_74 h1 (gt_RX8_6 h1) ?_
      refine aw_iload X dX9_cut_77 rfl ?_
      obtain ⟨r6, er6, h⟩ := bnd h
      refine aw_callV X dX9_cut_79 cv_RX9_31 (ok_X7_at (it_RX8_6 h1) er6 _ _ _ _ _) (it_RX8_6 h1) rfl (Nat.le_trans (by decide) hfr) (by decide) rfl rfl (Nat.le_of_ble_eq_true rfl) ?_
      refine aw_iadd X dX9_cut_82 ?_
      refine aw_istore (L' := [none, some (.ref (zr Z a1)), some (.int x2), some (.int x3), some (.int (x4 + r6.1)), some (.int x5), some (.int t0)]) X dX9_cut_83 (by decide) rfl ?_
      refine aw_iinc (v := (x5 + 1)) (L' := [none, some (.ref (zr Z a1)), some (.int x2), some (.int x3), some (.int (x4 + r6.1)), some (.int (x5 + 1)), some (.int t0)]) X dX9_cut_85 rfl rfl (by decide) rfl ?_
      refine aw_goto (tgt := 6) X dX9_cut_88 (by decide) ?_
      cases h
      refine aw_msk [false, true, true, true, true, true, false] ?_
      exact hi _ rfl
    · rw [if_neg c5] at h
      refine aw_iconst (v := 1) X dX9_cut_69 (by decide) ?_
      refine aw_goto (tgt := 82) X dX9_cut_70 (by decide) ?_
      refine aw_iadd X dX9_cut_82 ?_
      refine aw_istore (L' := [none, some (.ref (zr Z a1)), some (.int x2), some (.int x3), some (.int (x4 + 1)), some (.int x5), some (.int t0)]) X dX9_cut_83 (by decide) rfl ?_
      refine aw_iinc (v := (x5 + 1)) (L' := [none, some (.ref (zr Z a1)), some (.int x2), some (.int x3), some (.int (x4 + 1)), some (.int (x5 + 1)), some (.int t0)]) X dX9_cut_85 rfl rfl (by decide) rfl ?_
      refine aw_goto (tgt := 6) X dX9_cut_88 (by decide) ?_
      cases h
      refine aw_msk [false, true, true, true, true, true, false] ?_
      exact hi _ rfl
set_option maxRecDepth 100000 in
set_option maxHeartbeats 4000000 in
theorem jo_X9_cut_55 {fr : Nat} (hfr : 1 ≤ fr) (Z : AZ) (X : AX Z cX9_cut 7 RX9 (some .int) 0 fr) (a1 : Nat) (h1 : IO 0 a1 7) (x2 : Int32) (x3 : Int32) (x4 : Int32) (x5 : Int32) (s : Mem) (q : (Int32 × Int32 × Mem) ⊕ (Int32 × Mem)) (h : jn_X9_cut_55 a1 x2 x3 x4 x5 s = some q) (hi : ∀ y : Int32 × Int32 × Mem, q = .inl y → AW Z y.2.2 6 [none, some (.ref (zr Z a1)), some (.int x2), some (.int x3), some (.int y.1), some (.int y.2.1), none] []) (he : ∀ b : Int32 × Mem, q = .inr b → AW Z b.2 91 [none, none, none, none, some (.int b.1), none, none] []) : AW Z s 55 [none, some (.ref (zr Z a1)), some (.int x2), some (.int x3), some (.int x4), some (.int x5), none] [] := by
  unfold jn_X9_cut_55 at h
  refine aw_iconst (v := 0) X dX9_cut_55 (by decide) ?_
  refine aw_msk [false, true, true, true, true, true, false] ?_
  exact jo_X9_cut_56 hfr Z X a1 h1 _ _ _ _ _ _ _ h hi he
set_option maxRecDepth 100000 in
set_option maxHeartbeats 4000000 in
theorem so_X9_cut_6 {fr : Nat} (hfr : 1 ≤ fr) (Z : AZ) (X : AX Z cX9_cut 7 RX9 (some .int) 0 fr) (a1 : Nat) (h1 : IO 0 a1 7) (x2 : Int32) (x3 : Int32) (x4 : Int32) (x5 : Int32) (s : Mem) (q : (Int32 × Int32 × Mem) ⊕ (Int32 × Mem)) (h : st_X9_cut_6 a1 x2 x3 x4 x5 s = some q) (hi : ∀ y : Int32 × Int32 × Mem, q = .inl y → AW Z y.2.2 6 [none, some (.ref (zr Z a1)), some (.int x2), some (.int x3), some (.int y.1), some (.int y.2.1), none] []) (he : ∀ b : Int32 × Mem, q = .inr b → AW Z b.2 91 [none, none, none, none, some (.int b.1), none, none] []) : AW Z s 6 [none, some (.ref (zr Z a1)), some (.int x2), some (.int x3), some (.int x4), some (.int x5), none] [] := by
  unfold st_X9_cut_6 at h
  refine aw_iload X dX9_cut_6 rfl ?_
  refine aw_aload_n X dX9_cut_8 rfl ?_
  refine aw_getr X dX9_cut_9 fl_RX9_68 h1 (gt_RX8_4 h1) ?_
  refine aw_geti X dX9_cut_12 fl_RX9_25 (it_RX8_4 h1) (gt_RX7_1 (it_RX8_4 h1)) ?_
  refine aw_icmp_ge (tgt := 91) X dX9_cut_15 (by decide) (fun c1 => ?_) (fun c1 => ?_)
  · rw [if_pos c1] at h
    cases h
    refine aw_msk [false, false, false, false, true, false, false] ?_
    exact he _ rfl
  · rw [if_neg c1] at h
    refine aw_iload_n X dX9_cut_18 rfl ?_
    refine aw_aload_n X dX9_cut_19 rfl ?_
    refine aw_getr X dX9_cut_20 fl_RX9_68 h1 (gt_RX8_4 h1) ?_
    refine aw_iload X dX9_cut_23 rfl ?_
    obtain ⟨r2, er2, h⟩ := bnd h
    refine aw_callV X dX9_cut_25 cv_RX9_31 (ok_X7_at (it_RX8_4 h1) er2 _ _ _ _ _) (it_RX8_4 h1) rfl (Nat.le_trans (by decide) hfr) (by decide) rfl rfl (Nat.le_of_ble_eq_true rfl) ?_
    refine aw_ishr X dX9_cut_28 ?_
    refine aw_iconst (v := 1) X dX9_cut_29 (by decide) ?_
    refine aw_iand X dX9_cut_30 ?_
    refine aw_iconst (v := 1) X dX9_cut_31 (by decide) ?_
    refine aw_icmp_ne (tgt := 55) X dX9_cut_32 (by decide) (fun c3 => ?_) (fun c3 => ?_)
    · rw [if_neg c3] at h
      refine aw_msk [false, true, true, true, true, true, false] ?_
      exact jo_X9_cut_55 hfr Z X a1 h1 _ _ _ _ _ _ h hi he
    · rw [if_pos c3] at h
      refine aw_iload_n X dX9_cut_35 rfl ?_
      refine aw_aload_n X dX9_cut_36 rfl ?_
      refine aw_getr X dX9_cut_37 fl_RX9_71 h1 (gt_RX8_5 h1) ?_
      refine aw_iload X dX9_cut_40 rfl ?_
      obtain ⟨r7, er7, h⟩ := bnd h
      refine aw_callV X dX9_cut_42 cv_RX9_31 (ok_X7_at (it_RX8_5 h1) er7 _ _ _ _ _) (it_RX8_5 h1) rfl (Nat.le_trans (by decide) hfr) (by decide) rfl rfl (Nat.le_of_ble_eq_true rfl) ?_
      refine aw_ishr X dX9_cut_45 ?_
      refine aw_iconst (v := 1) X dX9_cut_46 (by decide) ?_
      refine aw_iand X dX9_cut_47 ?_
      refine aw_if_ne (tgt := 55) X dX9_cut_48 (by decide) (fun c8 => ?_) (fun c8 => ?_)
      · rw [if_neg c8] at h
        refine aw_msk [false, true, true, true, true, true, false] ?_
        exact jo_X9_cut_55 hfr Z X a1 h1 _ _ _ _ _ _ h hi he
      · rw [if_pos c8] at h
        refine aw_iconst (v := 1) X dX9_cut_51 (by decide) ?_
        refine aw_goto (tgt := 56) X dX9_cut_52 (by decide) ?_
        refine aw_msk [false, true, true, true, true, true, false] ?_
        exact jo_X9_cut_56 hfr Z X a1 h1 _ _ _ _ _ _ _ h hi he
set_option maxRecDepth 100000 in
set_option maxHeartbeats 4000000 in
theorem w_X9_cut {fr : Nat} (hfr : 1 ≤ fr) (Z : AZ) (X : AX Z cX9_cut 7 RX9 (some .int) 0 fr) (a1 : Nat) (h1 : IO 0 a1 7) (x2 : Int32) (x3 : Int32) (s : Mem) (r : Int32 × Mem) (hz : zres Z = (some (.int r.1), r.2)) (h : f_X9_cut a1 x2 x3 s = some r) : AW Z s 0 [some (.ref (zr Z 195)), some (.ref (zr Z a1)), some (.int x2), some (.int x3), none, none, none] [] := by
  unfold f_X9_cut at h
  refine aw_iconst (v := 0) X dX9_cut_0 (by decide) ?_
  refine aw_istore (L' := [some (.ref (zr Z 195)), some (.ref (zr Z a1)), some (.int x2), some (.int x3), some (.int 0), none, none]) X dX9_cut_1 (by decide) rfl ?_
  refine aw_iconst (v := 0) X dX9_cut_3 (by decide) ?_
  refine aw_istore (L' := [some (.ref (zr Z 195)), some (.ref (zr Z a1)), some (.int x2), some (.int x3), some (.int 0), some (.int 0), none]) X dX9_cut_4 (by decide) rfl ?_
  obtain ⟨r9, er9, h⟩ := bnd h
  refine aw_msk [false, true, true, true, true, true, false] ?_
  refine it_ok (P := fun y : Int32 × Int32 × Mem => AW Z y.2.2 6 [none, some (.ref (zr Z a1)), some (.int x2), some (.int x3), some (.int y.1), some (.int y.2.1), none] []) (Q := fun b : Int32 × Mem => AW Z b.2 91 [none, none, none, none, some (.int b.1), none, none] []) (fun y q hq hi he => so_X9_cut_6 hfr Z X a1 h1 x2 x3 y.1 y.2.1 y.2.2 q hq hi he) FUEL _ _ er9 ?_
  refine aw_iload X dX9_cut_91 rfl ?_
  cases h
  exact aw_iret X dX9_cut_93 rfl hz.symm
set_option maxRecDepth 100000 in
set_option maxHeartbeats 4000000 in
theorem ok_X9_cut {a1 : Nat} (h1 : IO 0 a1 7) {x2 x3 : Int32} {s : Mem} {r : Int32 × Mem} (h : f_X9_cut a1 x2 x3 s = some r) (l : Launch) (D : va_G) (ρ : Nat → Nat) (cA : ClassId × ClassId × ClassId) (τ : AT) : AM l D ρ cA 0 τ yX9_cut cX9_cut 7 (some .int) 1 [.ref (ρ 195), .ref (ρ a1), .int x2, .int x3] (some (.int r.1)) s r.2 := by
  refine AM_of (L := [some (.ref (ρ 195)), some (.ref (ρ a1)), some (.int x2), some (.int x3), none, none, none]) (by decide) (by simp [Value.category]) (Nat.le_of_ble_eq_true rfl) (fun j v q => ?_) (fun Z X hρ hz hτ => ?_)
  · exact aL_ok (n := 3) [.ref (ρ 195), .ref (ρ a1), .int x2, .int x3] j v q
  · subst hρ
    subst hτ
    exact w_X9_cut (Nat.le_refl _) Z X a1 h1 x2 x3 s r hz h

theorem dX9_leastCut_0 : decode cX9_leastCut 0 = .ok (.sipush 280, 3) := by decide +kernel
theorem dX9_leastCut_3 : decode cX9_leastCut 3 = .ok (.istore 5, 2) := by decide +kernel
theorem dX9_leastCut_5 : decode cX9_leastCut 5 = .ok (.iconst 0, 1) := by decide +kernel
theorem dX9_leastCut_6 : decode cX9_leastCut 6 = .ok (.istore 6, 2) := by decide +kernel
theorem dX9_leastCut_8 : decode cX9_leastCut 8 = .ok (.iload 6, 2) := by decide +kernel
theorem dX9_leastCut_10 : decode cX9_leastCut 10 = .ok (.bipush 64, 2) := by decide +kernel
theorem dX9_leastCut_12 : decode cX9_leastCut 12 = .ok (.if_icmp .ge 44, 3) := by decide +kernel
theorem dX9_leastCut_15 : decode cX9_leastCut 15 = .ok (.iload 6, 2) := by decide +kernel
theorem dX9_leastCut_17 : decode cX9_leastCut 17 = .ok (.iload_n 2, 1) := by decide +kernel
theorem dX9_leastCut_18 : decode cX9_leastCut 18 = .ok (.ishr, 1) := by decide +kernel
theorem dX9_leastCut_19 : decode cX9_leastCut 19 = .ok (.iconst 1, 1) := by decide +kernel
theorem dX9_leastCut_20 : decode cX9_leastCut 20 = .ok (.iand, 1) := by decide +kernel
theorem dX9_leastCut_21 : decode cX9_leastCut 21 = .ok (.iconst 1, 1) := by decide +kernel
theorem dX9_leastCut_22 : decode cX9_leastCut 22 = .ok (.if_icmp .ne 28, 3) := by decide +kernel
theorem dX9_leastCut_25 : decode cX9_leastCut 25 = .ok (.iload 6, 2) := by decide +kernel
theorem dX9_leastCut_27 : decode cX9_leastCut 27 = .ok (.iload_n 3, 1) := by decide +kernel
theorem dX9_leastCut_28 : decode cX9_leastCut 28 = .ok (.ishr, 1) := by decide +kernel
theorem dX9_leastCut_29 : decode cX9_leastCut 29 = .ok (.iconst 1, 1) := by decide +kernel
theorem dX9_leastCut_30 : decode cX9_leastCut 30 = .ok (.iand, 1) := by decide +kernel
theorem dX9_leastCut_31 : decode cX9_leastCut 31 = .ok (.ifCond .ne 19, 3) := by decide +kernel
theorem dX9_leastCut_34 : decode cX9_leastCut 34 = .ok (.iload 5, 2) := by decide +kernel
theorem dX9_leastCut_36 : decode cX9_leastCut 36 = .ok (.aload_n 0, 1) := by decide +kernel
theorem dX9_leastCut_37 : decode cX9_leastCut 37 = .ok (.aload_n 1, 1) := by decide +kernel
theorem dX9_leastCut_38 : decode cX9_leastCut 38 = .ok (.iload 6, 2) := by decide +kernel
theorem dX9_leastCut_40 : decode cX9_leastCut 40 = .ok (.iload 4, 2) := by decide +kernel
theorem dX9_leastCut_42 : decode cX9_leastCut 42 = .ok (.invokevirtual 64, 3) := by decide +kernel
theorem dX9_leastCut_45 : decode cX9_leastCut 45 = .ok (.invokestatic 35, 3) := by decide +kernel
theorem dX9_leastCut_48 : decode cX9_leastCut 48 = .ok (.istore 5, 2) := by decide +kernel
theorem dX9_leastCut_50 : decode cX9_leastCut 50 = .ok (.iinc 6 1, 3) := by decide +kernel
theorem dX9_leastCut_53 : decode cX9_leastCut 53 = .ok (.goto (-45), 3) := by decide +kernel
theorem dX9_leastCut_56 : decode cX9_leastCut 56 = .ok (.iload 5, 2) := by decide +kernel
theorem dX9_leastCut_58 : decode cX9_leastCut 58 = .ok (.ireturn, 1) := by decide +kernel
set_option maxRecDepth 100000 in
set_option maxHeartbeats 4000000 in
theorem so_X9_leastCut_8 {fr : Nat} (hfr : 2 ≤ fr) (Z : AZ) (X : AX Z cX9_leastCut 7 RX9 (some .int) 0 fr) (a1 : Nat) (h1 : IO 0 a1 7) (x2 : Int32) (x3 : Int32) (x4 : Int32) (x5 : Int32) (x6 : Int32) (s : Mem) (q : (Int32 × Int32 × Mem) ⊕ (Int32 × Mem)) (h : st_X9_leastCut_8 a1 x2 x3 x4 x5 x6 s = some q) (hi : ∀ y : Int32 × Int32 × Mem, q = .inl y → AW Z y.2.2 8 [some (.ref (zr Z 195)), some (.ref (zr Z a1)), some (.int x2), some (.int x3), some (.int x4), some (.int y.1), some (.int y.2.1)] []) (he : ∀ b : Int32 × Mem, q = .inr b → AW Z b.2 56 [none, none, none, none, none, some (.int b.1), none] []) : AW Z s 8 [some (.ref (zr Z 195)), some (.ref (zr Z a1)), some (.int x2), some (.int x3), some (.int x4), some (.int x5), some (.int x6)] [] := by
  unfold st_X9_leastCut_8 at h
  refine aw_iload X dX9_leastCut_8 rfl ?_
  refine aw_bipush (v := 64) X dX9_leastCut_10 (by decide) ?_
  refine aw_icmp_ge (tgt := 56) X dX9_leastCut_12 (by decide) (fun c1 => ?_) (fun c1 => ?_)
  · rw [if_pos c1] at h
    cases h
    refine aw_msk [false, false, false, false, false, true, false] ?_
    exact he _ rfl
  · rw [if_neg c1] at h
    refine aw_iload X dX9_leastCut_15 rfl ?_
    refine aw_iload_n X dX9_leastCut_17 rfl ?_
    refine aw_ishr X dX9_leastCut_18 ?_
    refine aw_iconst (v := 1) X dX9_leastCut_19 (by decide) ?_
    refine aw_iand X dX9_leastCut_20 ?_
    refine aw_iconst (v := 1) X dX9_leastCut_21 (by decide) ?_
    refine aw_icmp_ne (tgt := 50) X dX9_leastCut_22 (by decide) (fun c2 => ?_) (fun c2 => ?_)
    · rw [if_neg c2] at h
      refine aw_iinc (v := (x6 + 1)) (L' := [some (.ref (zr Z 195)), some (.ref (zr Z a1)), some (.int x2), some (.int x3), some (.int x4), some (.int x5), some (.int (x6 + 1))]) X dX9_leastCut_50 rfl rfl (by decide) rfl ?_
      refine aw_goto (tgt := 8) X dX9_leastCut_53 (by decide) ?_
      cases h
      refine aw_msk [true, true, true, true, true, true, true] ?_
      exact hi _ rfl
    · rw [if_pos c2] at h
      refine aw_iload X dX9_leastCut_25 rfl ?_
      refine aw_iload_n X dX9_leastCut_27 rfl ?_
      refine aw_ishr X dX9_leastCut_28 ?_
      refine aw_iconst (v := 1) X dX9_leastCut_29 (by decide) ?_
      refine aw_iand X dX9_leastCut_30 ?_
      refine aw_if_ne (tgt := 50) X dX9_leastCut_31 (by decide) (fun c3 => ?_) (fun c3 => ?_)
      · rw [if_neg c3] at h
        refine aw_iinc (v := (x6 + 1)) (L' := [some (.ref (zr Z 195)), some (.ref (zr Z a1)), some (.int x2), some (.int x3), some (.int x4), some (.int x5), some (.int (x6 + 1))]) X dX9_leastCut_50 rfl rfl (by decide) rfl ?_
        refine aw_goto (tgt := 8) X dX9_leastCut_53 (by decide) ?_
        cases h
        refine aw_msk [true, true, true, true, true, true, true] ?_
        exact hi _ rfl
      · rw [if_pos c3] at h
        refine aw_iload X dX9_leastCut_34 rfl ?_
        refine aw_aload_n X dX9_leastCut_36 rfl ?_
        refine aw_aload_n X dX9_leastCut_37 rfl ?_
        refine aw_iload X dX9_leastCut_38 rfl ?_
        refine aw_iload X dX9_leastCut_40 rfl ?_
        obtain ⟨r4, er4, h⟩ := bnd h
        refine aw_callV X dX9_leastCut_42 cv_RX9_64 (ok_X9_cut h1 er4 _ _ _ _ _) iu_RX9 rfl (Nat.le_trans (by decide) hfr) (by decide) rfl rfl (Nat.le_of_ble_eq_true rfl) ?_
        refine aw_mmin X (Nat.le_trans (by decide) hfr) dX9_leastCut_45 mc_RX9_35 rfl ?_
        refine aw_istore (L' := [some (.ref (zr Z 195)), some (.ref (zr Z a1)), some (.int x2), some (.int x3), some (.int x4), some (.int (jmmin x5 r4.1)), some (.int x6)]) X dX9_leastCut_48 (by decide) rfl ?_
        refine aw_iinc (v := (x6 + 1)) (L' := [some (.ref (zr Z 195)), some (.ref (zr Z a1)), some (.int x2), some (.int x3), some (.int x4), some (.int (jmmin x5 r4.1)), some (.int (x6 + 1))]) X dX9_leastCut_50 rfl rfl (by decide) rfl ?_
        refine aw_goto (tgt := 8) X dX9_leastCut_53 (by decide) ?_
        cases h
        refine aw_msk [true, true, true, true, true, true, true] ?_
        exact hi _ rfl
set_option maxRecDepth 100000 in
set_option maxHeartbeats 4000000 in
theorem w_X9_leastCut {fr : Nat} (hfr : 2 ≤ fr) (Z : AZ) (X : AX Z cX9_leastCut 7 RX9 (some .int) 0 fr) (a1 : Nat) (h1 : IO 0 a1 7) (x2 : Int32) (x3 : Int32) (x4 : Int32) (s : Mem) (r : Int32 × Mem) (hz : zres Z = (some (.int r.1), r.2)) (h : f_X9_leastCut a1 x2 x3 x4 s = some r) : AW Z s 0 [some (.ref (zr Z 195)), some (.ref (zr Z a1)), some (.int x2), some (.int x3), some (.int x4), none, none] [] := by
  unfold f_X9_leastCut at h
  refine aw_sipush (v := 280) X dX9_leastCut_0 (by decide) ?_
  refine aw_istore (L' := [some (.ref (zr Z 195)), some (.ref (zr Z a1)), some (.int x2), some (.int x3), some (.int x4), some (.int 280), none]) X dX9_leastCut_3 (by decide) rfl ?_
  refine aw_iconst (v := 0) X dX9_leastCut_5 (by decide) ?_
  refine aw_istore (L' := [some (.ref (zr Z 195)), some (.ref (zr Z a1)), some (.int x2), some (.int x3), some (.int x4), some (.int 280), some (.int 0)]) X dX9_leastCut_6 (by decide) rfl ?_
  obtain ⟨r5, er5, h⟩ := bnd h
  refine aw_msk [true, true, true, true, true, true, true] ?_
  refine it_ok (P := fun y : Int32 × Int32 × Mem => AW Z y.2.2 8 [some (.ref (zr Z 195)), some (.ref (zr Z a1)), some (.int x2), some (.int x3), some (.int x4), some (.int y.1), some (.int y.2.1)] []) (Q := fun b : Int32 × Mem => AW Z b.2 56 [none, none, none, none, none, some (.int b.1), none] []) (fun y q hq hi he => so_X9_leastCut_8 hfr Z X a1 h1 x2 x3 x4 y.1 y.2.1 y.2.2 q hq hi he) FUEL _ _ er5 ?_
  refine aw_iload X dX9_leastCut_56 rfl ?_
  cases h
  exact aw_iret X dX9_leastCut_58 rfl hz.symm
set_option maxRecDepth 100000 in
set_option maxHeartbeats 4000000 in
theorem ok_X9_leastCut {a1 : Nat} (h1 : IO 0 a1 7) {x2 x3 x4 : Int32} {s : Mem} {r : Int32 × Mem} (h : f_X9_leastCut a1 x2 x3 x4 s = some r) (l : Launch) (D : va_G) (ρ : Nat → Nat) (cA : ClassId × ClassId × ClassId) (τ : AT) : AM l D ρ cA 0 τ yX9_leastCut cX9_leastCut 7 (some .int) 2 [.ref (ρ 195), .ref (ρ a1), .int x2, .int x3, .int x4] (some (.int r.1)) s r.2 := by
  refine AM_of (L := [some (.ref (ρ 195)), some (.ref (ρ a1)), some (.int x2), some (.int x3), some (.int x4), none, none]) (by decide) (by simp [Value.category]) (Nat.le_of_ble_eq_true rfl) (fun j v q => ?_) (fun Z X hρ hz hτ => ?_)
  · exact aL_ok (n := 2) [.ref (ρ 195), .ref (ρ a1), .int x2, .int x3, .int x4] j v q
  · subst hρ
    subst hτ
    exact w_X9_leastCut (Nat.le_refl _) Z X a1 h1 x2 x3 x4 s r hz h

theorem dX9_valueAt_0 : decode cX9_valueAt 0 = .ok (.iconst 0, 1) := by decide +kernel
theorem dX9_valueAt_1 : decode cX9_valueAt 1 = .ok (.istore_n 3, 1) := by decide +kernel
theorem dX9_valueAt_2 : decode cX9_valueAt 2 = .ok (.aload_n 1, 1) := by decide +kernel
theorem dX9_valueAt_3 : decode cX9_valueAt 3 = .ok (.getfield 25, 3) := by decide +kernel
theorem dX9_valueAt_6 : decode cX9_valueAt 6 = .ok (.iconst 1, 1) := by decide +kernel
theorem dX9_valueAt_7 : decode cX9_valueAt 7 = .ok (.isub, 1) := by decide +kernel
theorem dX9_valueAt_8 : decode cX9_valueAt 8 = .ok (.istore 4, 2) := by decide +kernel
theorem dX9_valueAt_10 : decode cX9_valueAt 10 = .ok (.iload 4, 2) := by decide +kernel
theorem dX9_valueAt_12 : decode cX9_valueAt 12 = .ok (.ifCond .lt 20, 3) := by decide +kernel
theorem dX9_valueAt_15 : decode cX9_valueAt 15 = .ok (.iload_n 3, 1) := by decide +kernel
theorem dX9_valueAt_16 : decode cX9_valueAt 16 = .ok (.iload_n 2, 1) := by decide +kernel
theorem dX9_valueAt_17 : decode cX9_valueAt 17 = .ok (.imul, 1) := by decide +kernel
theorem dX9_valueAt_18 : decode cX9_valueAt 18 = .ok (.aload_n 1, 1) := by decide +kernel
theorem dX9_valueAt_19 : decode cX9_valueAt 19 = .ok (.iload 4, 2) := by decide +kernel
theorem dX9_valueAt_21 : decode cX9_valueAt 21 = .ok (.invokevirtual 31, 3) := by decide +kernel
theorem dX9_valueAt_24 : decode cX9_valueAt 24 = .ok (.iadd, 1) := by decide +kernel
theorem dX9_valueAt_25 : decode cX9_valueAt 25 = .ok (.istore_n 3, 1) := by decide +kernel
theorem dX9_valueAt_26 : decode cX9_valueAt 26 = .ok (.iinc 4 (-1), 3) := by decide +kernel
theorem dX9_valueAt_29 : decode cX9_valueAt 29 = .ok (.goto (-19), 3) := by decide +kernel
theorem dX9_valueAt_32 : decode cX9_valueAt 32 = .ok (.iload_n 3, 1) := by decide +kernel
theorem dX9_valueAt_33 : decode cX9_valueAt 33 = .ok (.ireturn, 1) := by decide +kernel
set_option maxRecDepth 100000 in
set_option maxHeartbeats 4000000 in
theorem so_X9_valueAt_10 {fr : Nat} (hfr : 1 ≤ fr) (Z : AZ) (X : AX Z cX9_valueAt 5 RX9 (some .int) 0 fr) (a1 : Nat) (h1 : IO 0 a1 6) (x2 : Int32) (x3 : Int32) (x4 : Int32) (s : Mem) (q : (Int32 × Int32 × Mem) ⊕ (Int32 × Mem)) (h : st_X9_valueAt_10 a1 x2 x3 x4 s = some q) (hi : ∀ y : Int32 × Int32 × Mem, q = .inl y → AW Z y.2.2 10 [none, some (.ref (zr Z a1)), some (.int x2), some (.int y.1), some (.int y.2.1)] []) (he : ∀ b : Int32 × Mem, q = .inr b → AW Z b.2 32 [none, none, none, some (.int b.1), none] []) : AW Z s 10 [none, some (.ref (zr Z a1)), some (.int x2), some (.int x3), some (.int x4)] [] := by
  unfold st_X9_valueAt_10 at h
  refine aw_iload X dX9_valueAt_10 rfl ?_
  refine aw_if_lt (tgt := 32) X dX9_valueAt_12 (by decide) (fun c1 => ?_) (fun c1 => ?_)
  · rw [if_pos c1] at h
    cases h
    refine aw_msk [false, false, false, true, false] ?_
    exact he _ rfl
  · rw [if_neg c1] at h
    refine aw_iload_n X dX9_valueAt_15 rfl ?_
    refine aw_iload_n X dX9_valueAt_16 rfl ?_
    refine aw_imul X dX9_valueAt_17 ?_
    refine aw_aload_n X dX9_valueAt_18 rfl ?_
    refine aw_iload X dX9_valueAt_19 rfl ?_
    obtain ⟨r2, er2, h⟩ := bnd h
    refine aw_callV X dX9_valueAt_21 cv_RX9_31 (ok_X7_at h1 er2 _ _ _ _ _) h1 rfl (Nat.le_trans (by decide) hfr) (by decide) rfl rfl (Nat.le_of_ble_eq_true rfl) ?_
    refine aw_iadd X dX9_valueAt_24 ?_
    refine aw_istore_n (L' := [none, some (.ref (zr Z a1)), some (.int x2), some (.int ((x3 * x2) + r2.1)), some (.int x4)]) X dX9_valueAt_25 (by decide) rfl ?_
    refine aw_iinc (v := (x4 + (-1))) (L' := [none, some (.ref (zr Z a1)), some (.int x2), some (.int ((x3 * x2) + r2.1)), some (.int (x4 + (-1)))]) X dX9_valueAt_26 rfl rfl (by decide) rfl ?_
    refine aw_goto (tgt := 10) X dX9_valueAt_29 (by decide) ?_
    refine aw_msk [false, true, true, true, true] ?_
    exact hiE2 (P := fun z3 z4 m => AW Z m 10 [none, some (.ref (zr Z a1)), some (.int x2), some (.int z3), some (.int z4)] []) hi (Option.some.inj h).symm
set_option maxRecDepth 100000 in
set_option maxHeartbeats 4000000 in
theorem w_X9_valueAt {fr : Nat} (hfr : 1 ≤ fr) (Z : AZ) (X : AX Z cX9_valueAt 5 RX9 (some .int) 0 fr) (a1 : Nat) (h1 : IO 0 a1 6) (x2 : Int32) (s : Mem) (r : Int32 × Mem) (hz : zres Z = (some (.int r.1), r.2)) (h : f_X9_valueAt a1 x2 s = some r) : AW Z s 0 [some (.ref (zr Z 195)), some (.ref (zr Z a1)), some (.int x2), none, none] [] := by
  unfold f_X9_valueAt at h
  refine aw_iconst (v := 0) X dX9_valueAt_0 (by decide) ?_
  refine aw_istore_n (L' := [some (.ref (zr Z 195)), some (.ref (zr Z a1)), some (.int x2), some (.int 0), none]) X dX9_valueAt_1 (by decide) rfl ?_
  refine aw_aload_n X dX9_valueAt_2 rfl ?_
  refine aw_geti X dX9_valueAt_3 fl_RX9_25 h1 (gt_RX7_1 h1) ?_
  refine aw_iconst (v := 1) X dX9_valueAt_6 (by decide) ?_
  refine aw_isub X dX9_valueAt_7 ?_
  refine aw_istore (L' := [some (.ref (zr Z 195)), some (.ref (zr Z a1)), some (.int x2), some (.int 0), some (.int ((s a1 1) - 1))]) X dX9_valueAt_8 (by decide) rfl ?_
  obtain ⟨r3, er3, h⟩ := bnd h
  refine aw_msk [false, true, true, true, true] ?_
  refine it_ok (P := fun y : Int32 × Int32 × Mem => AW Z y.2.2 10 [none, some (.ref (zr Z a1)), some (.int x2), some (.int y.1), some (.int y.2.1)] []) (Q := fun b : Int32 × Mem => AW Z b.2 32 [none, none, none, some (.int b.1), none] []) (fun y q hq hi he => so_X9_valueAt_10 hfr Z X a1 h1 x2 y.1 y.2.1 y.2.2 q hq hi he) FUEL _ _ er3 ?_
  refine aw_iload_n X dX9_valueAt_32 rfl ?_
  cases h
  exact aw_iret X dX9_valueAt_33 rfl hz.symm
set_option maxRecDepth 100000 in
set_option maxHeartbeats 4000000 in
theorem ok_X9_valueAt {a1 : Nat} (h1 : IO 0 a1 6) {x2 : Int32} {s : Mem} {r : Int32 × Mem} (h : f_X9_valueAt a1 x2 s = some r) (l : Launch) (D : va_G) (ρ : Nat → Nat) (cA : ClassId × ClassId × ClassId) (τ : AT) : AM l D ρ cA 0 τ yX9_valueAt cX9_valueAt 5 (some .int) 1 [.ref (ρ 195), .ref (ρ a1), .int x2] (some (.int r.1)) s r.2 := by
  refine AM_of (L := [some (.ref (ρ 195)), some (.ref (ρ a1)), some (.int x2), none, none]) (by decide) (by simp [Value.category]) (Nat.le_of_ble_eq_true rfl) (fun j v q => ?_) (fun Z X hρ hz hτ => ?_)
  · exact aL_ok (n := 2) [.ref (ρ 195), .ref (ρ a1), .int x2] j v q
  · subst hρ
    subst hτ
    exact w_X9_valueAt (Nat.le_refl _) Z X a1 h1 x2 s r hz h

theorem dX9_zeros_0 : decode cX9_zeros 0 = .ok (.iconst 0, 1) := by decide +kernel
theorem dX9_zeros_1 : decode cX9_zeros 1 = .ok (.istore_n 2, 1) := by decide +kernel
theorem dX9_zeros_2 : decode cX9_zeros 2 = .ok (.bipush (-9), 2) := by decide +kernel
theorem dX9_zeros_4 : decode cX9_zeros 4 = .ok (.istore_n 3, 1) := by decide +kernel
theorem dX9_zeros_5 : decode cX9_zeros 5 = .ok (.iload_n 3, 1) := by decide +kernel
theorem dX9_zeros_6 : decode cX9_zeros 6 = .ok (.bipush 9, 2) := by decide +kernel
theorem dX9_zeros_8 : decode cX9_zeros 8 = .ok (.if_icmp .gt 21, 3) := by decide +kernel
theorem dX9_zeros_11 : decode cX9_zeros 11 = .ok (.aload_n 0, 1) := by decide +kernel
theorem dX9_zeros_12 : decode cX9_zeros 12 = .ok (.aload_n 1, 1) := by decide +kernel
theorem dX9_zeros_13 : decode cX9_zeros 13 = .ok (.iload_n 3, 1) := by decide +kernel
theorem dX9_zeros_14 : decode cX9_zeros 14 = .ok (.invokevirtual 77, 3) := by decide +kernel
theorem dX9_zeros_17 : decode cX9_zeros 17 = .ok (.ifCond .ne 6, 3) := by decide +kernel
theorem dX9_zeros_20 : decode cX9_zeros 20 = .ok (.iinc 2 1, 3) := by decide +kernel
theorem dX9_zeros_23 : decode cX9_zeros 23 = .ok (.iinc 3 1, 3) := by decide +kernel
theorem dX9_zeros_26 : decode cX9_zeros 26 = .ok (.goto (-21), 3) := by decide +kernel
theorem dX9_zeros_29 : decode cX9_zeros 29 = .ok (.iload_n 2, 1) := by decide +kernel
theorem dX9_zeros_30 : decode cX9_zeros 30 = .ok (.ireturn, 1) := by decide +kernel
set_option maxRecDepth 100000 in
set_option maxHeartbeats 4000000 in
theorem so_X9_zeros_5 {fr : Nat} (hfr : 2 ≤ fr) (Z : AZ) (X : AX Z cX9_zeros 4 RX9 (some .int) 0 fr) (a1 : Nat) (h1 : IO 0 a1 6) (x2 : Int32) (x3 : Int32) (s : Mem) (q : (Int32 × Int32 × Mem) ⊕ (Int32 × Mem)) (h : st_X9_zeros_5 a1 x2 x3 s = some q) (hi : ∀ y : Int32 × Int32 × Mem, q = .inl y → AW Z y.2.2 5 [some (.ref (zr Z 195)), some (.ref (zr Z a1)), some (.int y.1), some (.int y.2.1)] []) (he : ∀ b : Int32 × Mem, q = .inr b → AW Z b.2 29 [none, none, some (.int b.1), none] []) : AW Z s 5 [some (.ref (zr Z 195)), some (.ref (zr Z a1)), some (.int x2), some (.int x3)] [] := by
  unfold st_X9_zeros_5 at h
  refine aw_iload_n X dX9_zeros_5 rfl ?_
  refine aw_bipush (v := 9) X dX9_zeros_6 (by decide) ?_
  refine aw_icmp_gt (tgt := 29) X dX9_zeros_8 (by decide) (fun c1 => ?_) (fun c1 => ?_)
  · rw [if_pos c1] at h
    cases h
    refine aw_msk [false, false, true, false] ?_
    exact he _ rfl
  · rw [if_neg c1] at h
    refine aw_aload_n X dX9_zeros_11 rfl ?_
    refine aw_aload_n X dX9_zeros_12 rfl ?_
    refine aw_iload_n X dX9_zeros_13 rfl ?_
    obtain ⟨r2, er2, h⟩ := bnd h
    refine aw_callV X dX9_zeros_14 cv_RX9_77 (ok_X9_valueAt h1 er2 _ _ _ _ _) iu_RX9 rfl (Nat.le_trans (by decide) hfr) (by decide) rfl rfl (Nat.le_of_ble_eq_true rfl) ?_
    refine aw_if_ne (tgt := 23) X dX9_zeros_17 (by decide) (fun c3 => ?_) (fun c3 => ?_)
    · rw [if_neg c3] at h
      refine aw_iinc (v := (x3 + 1)) (L' := [some (.ref (zr Z 195)), some (.ref (zr Z a1)), some (.int x2), some (.int (x3 + 1))]) X dX9_zeros_23 rfl rfl (by decide) rfl ?_
      refine aw_goto (tgt := 5) X dX9_zeros_26 (by decide) ?_
      cases h
      refine aw_msk [true, true, true, true] ?_
      exact hi _ rfl
    · rw [if_pos c3] at h
      refine aw_iinc (v := (x2 + 1)) (L' := [some (.ref (zr Z 195)), some (.ref (zr Z a1)), some (.int (x2 + 1)), some (.int x3)]) X dX9_zeros_20 rfl rfl (by decide) rfl ?_
      refine aw_iinc (v := (x3 + 1)) (L' := [some (.ref (zr Z 195)), some (.ref (zr Z a1)), some (.int (x2 + 1)), some (.int (x3 + 1))]) X dX9_zeros_23 rfl rfl (by decide) rfl ?_
      refine aw_goto (tgt := 5) X dX9_zeros_26 (by decide) ?_
      cases h
      refine aw_msk [true, true, true, true] ?_
      exact hi _ rfl
set_option maxRecDepth 100000 in
set_option maxHeartbeats 4000000 in
theorem w_X9_zeros {fr : Nat} (hfr : 2 ≤ fr) (Z : AZ) (X : AX Z cX9_zeros 4 RX9 (some .int) 0 fr) (a1 : Nat) (h1 : IO 0 a1 6) (s : Mem) (r : Int32 × Mem) (hz : zres Z = (some (.int r.1), r.2)) (h : f_X9_zeros a1 s = some r) : AW Z s 0 [some (.ref (zr Z 195)), some (.ref (zr Z a1)), none, none] [] := by
  unfold f_X9_zeros at h
  refine aw_iconst (v := 0) X dX9_zeros_0 (by decide) ?_
  refine aw_istore_n (L' := [some (.ref (zr Z 195)), some (.ref (zr Z a1)), some (.int 0), none]) X dX9_zeros_1 (by decide) rfl ?_
  refine aw_bipush (v := (-9)) X dX9_zeros_2 (by decide) ?_
  refine aw_istore_n (L' := [some (.ref (zr Z 195)), some (.ref (zr Z a1)), some (.int 0), some (.int (-9))]) X dX9_zeros_4 (by decide) rfl ?_
  obtain ⟨r4, er4, h⟩ := bnd h
  refine aw_msk [true, true, true, true] ?_
  refine it_ok (P := fun y : Int32 × Int32 × Mem => AW Z y.2.2 5 [some (.ref (zr Z 195)), some (.ref (zr Z a1)), some (.int y.1), some (.int y.2.1)] []) (Q := fun b : Int32 × Mem => AW Z b.2 29 [none, none, some (.int b.1), none] []) (fun y q hq hi he => so_X9_zeros_5 hfr Z X a1 h1 y.1 y.2.1 y.2.2 q hq hi he) FUEL _ _ er4 ?_
  refine aw_iload_n X dX9_zeros_29 rfl ?_
  cases h
  exact aw_iret X dX9_zeros_30 rfl hz.symm
set_option maxRecDepth 100000 in
set_option maxHeartbeats 4000000 in
theorem ok_X9_zeros {a1 : Nat} (h1 : IO 0 a1 6) {s : Mem} {r : Int32 × Mem} (h : f_X9_zeros a1 s = some r) (l : Launch) (D : va_G) (ρ : Nat → Nat) (cA : ClassId × ClassId × ClassId) (τ : AT) : AM l D ρ cA 0 τ yX9_zeros cX9_zeros 4 (some .int) 2 [.ref (ρ 195), .ref (ρ a1)] (some (.int r.1)) s r.2 := by
  refine AM_of (L := [some (.ref (ρ 195)), some (.ref (ρ a1)), none, none]) (by decide) (by simp [Value.category]) (Nat.le_of_ble_eq_true rfl) (fun j v q => ?_) (fun Z X hρ hz hτ => ?_)
  · exact aL_ok (n := 2) [.ref (ρ 195), .ref (ρ a1)] j v q
  · subst hρ
    subst hτ
    exact w_X9_zeros (Nat.le_refl _) Z X a1 h1 s r hz h

theorem dX9_productTerm_0 : decode cX9_productTerm 0 = .ok (.iconst 0, 1) := by decide +kernel
theorem dX9_productTerm_1 : decode cX9_productTerm 1 = .ok (.istore 4, 2) := by decide +kernel
theorem dX9_productTerm_3 : decode cX9_productTerm 3 = .ok (.iconst 0, 1) := by decide +kernel
theorem dX9_productTerm_4 : decode cX9_productTerm 4 = .ok (.istore 5, 2) := by decide +kernel
theorem dX9_productTerm_6 : decode cX9_productTerm 6 = .ok (.iload 5, 2) := by decide +kernel
theorem dX9_productTerm_8 : decode cX9_productTerm 8 = .ok (.aload_n 1, 1) := by decide +kernel
theorem dX9_productTerm_9 : decode cX9_productTerm 9 = .ok (.getfield 25, 3) := by decide +kernel
theorem dX9_productTerm_12 : decode cX9_productTerm 12 = .ok (.if_icmp .ge 47, 3) := by decide +kernel
theorem dX9_productTerm_15 : decode cX9_productTerm 15 = .ok (.iload_n 3, 1) := by decide +kernel
theorem dX9_productTerm_16 : decode cX9_productTerm 16 = .ok (.iload 5, 2) := by decide +kernel
theorem dX9_productTerm_18 : decode cX9_productTerm 18 = .ok (.isub, 1) := by decide +kernel
theorem dX9_productTerm_19 : decode cX9_productTerm 19 = .ok (.istore 6, 2) := by decide +kernel
theorem dX9_productTerm_21 : decode cX9_productTerm 21 = .ok (.iload 6, 2) := by decide +kernel
theorem dX9_productTerm_23 : decode cX9_productTerm 23 = .ok (.ifCond .lt 30, 3) := by decide +kernel
theorem dX9_productTerm_26 : decode cX9_productTerm 26 = .ok (.iload 6, 2) := by decide +kernel
theorem dX9_productTerm_28 : decode cX9_productTerm 28 = .ok (.aload_n 2, 1) := by decide +kernel
theorem dX9_productTerm_29 : decode cX9_productTerm 29 = .ok (.getfield 25, 3) := by decide +kernel
theorem dX9_productTerm_32 : decode cX9_productTerm 32 = .ok (.if_icmp .ge 21, 3) := by decide +kernel
theorem dX9_productTerm_35 : decode cX9_productTerm 35 = .ok (.iload 4, 2) := by decide +kernel
theorem dX9_productTerm_37 : decode cX9_productTerm 37 = .ok (.aload_n 1, 1) := by decide +kernel
theorem dX9_productTerm_38 : decode cX9_productTerm 38 = .ok (.iload 5, 2) := by decide +kernel
theorem dX9_productTerm_40 : decode cX9_productTerm 40 = .ok (.invokevirtual 31, 3) := by decide +kernel
theorem dX9_productTerm_43 : decode cX9_productTerm 43 = .ok (.aload_n 2, 1) := by decide +kernel
theorem dX9_productTerm_44 : decode cX9_productTerm 44 = .ok (.iload 6, 2) := by decide +kernel
theorem dX9_productTerm_46 : decode cX9_productTerm 46 = .ok (.invokevirtual 31, 3) := by decide +kernel
theorem dX9_productTerm_49 : decode cX9_productTerm 49 = .ok (.imul, 1) := by decide +kernel
theorem dX9_productTerm_50 : decode cX9_productTerm 50 = .ok (.iadd, 1) := by decide +kernel
theorem dX9_productTerm_51 : decode cX9_productTerm 51 = .ok (.istore 4, 2) := by decide +kernel
theorem dX9_productTerm_53 : decode cX9_productTerm 53 = .ok (.iinc 5 1, 3) := by decide +kernel
theorem dX9_productTerm_56 : decode cX9_productTerm 56 = .ok (.goto (-50), 3) := by decide +kernel
theorem dX9_productTerm_59 : decode cX9_productTerm 59 = .ok (.iload 4, 2) := by decide +kernel
theorem dX9_productTerm_61 : decode cX9_productTerm 61 = .ok (.ireturn, 1) := by decide +kernel
set_option maxRecDepth 100000 in
set_option maxHeartbeats 4000000 in
theorem so_X9_productTerm_6 {fr : Nat} (hfr : 1 ≤ fr) (Z : AZ) (X : AX Z cX9_productTerm 7 RX9 (some .int) 0 fr) (a1 : Nat) (a2 : Nat) (h1 : IO 0 a1 6) (h2 : IO 0 a2 6) (x3 : Int32) (x4 : Int32) (x5 : Int32) (s : Mem) (q : (Int32 × Int32 × Mem) ⊕ (Int32 × Mem)) (h : st_X9_productTerm_6 a1 a2 x3 x4 x5 s = some q) (hi : ∀ y : Int32 × Int32 × Mem, q = .inl y → AW Z y.2.2 6 [none, some (.ref (zr Z a1)), some (.ref (zr Z a2)), some (.int x3), some (.int y.1), some (.int y.2.1), none] []) (he : ∀ b : Int32 × Mem, q = .inr b → AW Z b.2 59 [none, none, none, none, some (.int b.1), none, none] []) : AW Z s 6 [none, some (.ref (zr Z a1)), some (.ref (zr Z a2)), some (.int x3), some (.int x4), some (.int x5), none] [] := by
  unfold st_X9_productTerm_6 at h
  refine aw_iload X dX9_productTerm_6 rfl ?_
  refine aw_aload_n X dX9_productTerm_8 rfl ?_
  refine aw_geti X dX9_productTerm_9 fl_RX9_25 h1 (gt_RX7_1 h1) ?_
  refine aw_icmp_ge (tgt := 59) X dX9_productTerm_12 (by decide) (fun c1 => ?_) (fun c1 => ?_)
  · rw [if_pos c1] at h
    cases h
    refine aw_msk [false, false, false, false, true, false, false] ?_
    exact he _ rfl
  · rw [if_neg c1] at h
    refine aw_iload_n X dX9_productTerm_15 rfl ?_
    refine aw_iload X dX9_productTerm_16 rfl ?_
    refine aw_isub X dX9_productTerm_18 ?_
    refine aw_istore (L' := [none, some (.ref (zr Z a1)), some (.ref (zr Z a2)), some (.int x3), some (.int x4), some (.int x5), some (.int (x3 - x5))]) X dX9_productTerm_19 (by decide) rfl ?_
    refine aw_iload X dX9_productTerm_21 rfl ?_
    refine aw_if_lt (tgt := 53) X dX9_productTerm_23 (by decide) (fun c2 => ?_) (fun c2 => ?_)
    · rw [if_pos c2] at h
      refine aw_iinc (v := (x5 + 1)) (L' := [none, some (.ref (zr Z a1)), some (.ref (zr Z a2)), some (.int x3), some (.int x4), some (.int (x5 + 1)), some (.int (x3 - x5))]) X dX9_productTerm_53 rfl rfl (by decide) rfl ?_
      refine aw_goto (tgt := 6) X dX9_productTerm_56 (by decide) ?_
      cases h
      refine aw_msk [false, true, true, true, true, true, false] ?_
      exact hi _ rfl
    · rw [if_neg c2] at h
      refine aw_iload X dX9_productTerm_26 rfl ?_
      refine aw_aload_n X dX9_productTerm_28 rfl ?_
      refine aw_geti X dX9_productTerm_29 fl_RX9_25 h2 (gt_RX7_1 h2) ?_
      refine aw_icmp_ge (tgt := 53) X dX9_productTerm_32 (by decide) (fun c3 => ?_) (fun c3 => ?_)
      · rw [if_pos c3] at h
        refine aw_iinc (v := (x5 + 1)) (L' := [none, some (.ref (zr Z a1)), some (.ref (zr Z a2)), some (.int x3), some (.int x4), some (.int (x5 + 1)), some (.int (x3 - x5))]) X dX9_productTerm_53 rfl rfl (by decide) rfl ?_
        refine aw_goto (tgt := 6) X dX9_productTerm_56 (by decide) ?_
        cases h
        refine aw_msk [false, true, true, true, true, true, false] ?_
        exact hi _ rfl
      · rw [if_neg c3] at h
        refine aw_iload X dX9_productTerm_35 rfl ?_
        refine aw_aload_n X dX9_productTerm_37 rfl ?_
        refine aw_iload X dX9_productTerm_38 rfl ?_
        obtain ⟨r4, er4, h⟩ := bnd h
        refine aw_callV X dX9_productTerm_40 cv_RX9_31 (ok_X7_at h1 er4 _ _ _ _ _) h1 rfl (Nat.le_trans (by decide) hfr) (by decide) rfl rfl (Nat.le_of_ble_eq_true rfl) ?_
        refine aw_aload_n X dX9_productTerm_43 rfl ?_
        refine aw_iload X dX9_productTerm_44 rfl ?_
        obtain ⟨r5, er5, h⟩ := bnd h
        refine aw_callV X dX9_productTerm_46 cv_RX9_31 (ok_X7_at h2 er5 _ _ _ _ _) h2 rfl (Nat.le_trans (by decide) hfr) (by decide) rfl rfl (Nat.le_of_ble_eq_true rfl) ?_
        refine aw_imul X dX9_productTerm_49 ?_
        refine aw_iadd X dX9_productTerm_50 ?_
        refine aw_istore (L' := [none, some (.ref (zr Z a1)), some (.ref (zr Z a2)), some (.int x3), some (.int (x4 + (r4.1 * r5.1))), some (.int x5), some (.int (x3 - x5))]) X dX9_productTerm_51 (by decide) rfl ?_
        refine aw_iinc (v := (x5 + 1)) (L' := [none, some (.ref (zr Z a1)), some (.ref (zr Z a2)), some (.int x3), some (.int (x4 + (r4.1 * r5.1))), some (.int (x5 + 1)), some (.int (x3 - x5))]) X dX9_productTerm_53 rfl rfl (by decide) rfl ?_
        refine aw_goto (tgt := 6) X dX9_productTerm_56 (by decide) ?_
        cases h
        refine aw_msk [false, true, true, true, true, true, false] ?_
        exact hi _ rfl
set_option maxRecDepth 100000 in
set_option maxHeartbeats 4000000 in
theorem w_X9_productTerm {fr : Nat} (hfr : 1 ≤ fr) (Z : AZ) (X : AX Z cX9_productTerm 7 RX9 (some .int) 0 fr) (a1 : Nat) (a2 : Nat) (h1 : IO 0 a1 6) (h2 : IO 0 a2 6) (x3 : Int32) (s : Mem) (r : Int32 × Mem) (hz : zres Z = (some (.int r.1), r.2)) (h : f_X9_productTerm a1 a2 x3 s = some r) : AW Z s 0 [some (.ref (zr Z 195)), some (.ref (zr Z a1)), some (.ref (zr Z a2)), some (.int x3), none, none, none] [] := by
  unfold f_X9_productTerm at h
  refine aw_iconst (v := 0) X dX9_productTerm_0 (by decide) ?_
  refine aw_istore (L' := [some (.ref (zr Z 195)), some (.ref (zr Z a1)), some (.ref (zr Z a2)), some (.int x3), some (.int 0), none, none]) X dX9_productTerm_1 (by decide) rfl ?_
  refine aw_iconst (v := 0) X dX9_productTerm_3 (by decide) ?_
  refine aw_istore (L' := [some (.ref (zr Z 195)), some (.ref (zr Z a1)), some (.ref (zr Z a2)), some (.int x3), some (.int 0), some (.int 0), none]) X dX9_productTerm_4 (by decide) rfl ?_
  obtain ⟨r6, er6, h⟩ := bnd h
  refine aw_msk [false, true, true, true, true, true, false] ?_
  refine it_ok (P := fun y : Int32 × Int32 × Mem => AW Z y.2.2 6 [none, some (.ref (zr Z a1)), some (.ref (zr Z a2)), some (.int x3), some (.int y.1), some (.int y.2.1), none] []) (Q := fun b : Int32 × Mem => AW Z b.2 59 [none, none, none, none, some (.int b.1), none, none] []) (fun y q hq hi he => so_X9_productTerm_6 hfr Z X a1 a2 h1 h2 x3 y.1 y.2.1 y.2.2 q hq hi he) FUEL _ _ er6 ?_
  refine aw_iload X dX9_productTerm_59 rfl ?_
  cases h
  exact aw_iret X dX9_productTerm_61 rfl hz.symm
set_option maxRecDepth 100000 in
set_option maxHeartbeats 4000000 in
theorem ok_X9_productTerm {a1 : Nat} {a2 : Nat} (h1 : IO 0 a1 6) (h2 : IO 0 a2 6) {x3 : Int32} {s : Mem} {r : Int32 × Mem} (h : f_X9_productTerm a1 a2 x3 s = some r) (l : Launch) (D : va_G) (ρ : Nat → Nat) (cA : ClassId × ClassId × ClassId) (τ : AT) : AM l D ρ cA 0 τ yX9_productTerm cX9_productTerm 7 (some .int) 1 [.ref (ρ 195), .ref (ρ a1), .ref (ρ a2), .int x3] (some (.int r.1)) s r.2 := by
  refine AM_of (L := [some (.ref (ρ 195)), some (.ref (ρ a1)), some (.ref (ρ a2)), some (.int x3), none, none, none]) (by decide) (by simp [Value.category]) (Nat.le_of_ble_eq_true rfl) (fun j v q => ?_) (fun Z X hρ hz hτ => ?_)
  · exact aL_ok (n := 3) [.ref (ρ 195), .ref (ρ a1), .ref (ρ a2), .int x3] j v q
  · subst hρ
    subst hτ
    exact w_X9_productTerm (Nat.le_refl _) Z X a1 a2 h1 h2 x3 s r hz h

theorem dX9_areBelow_0 : decode cX9_areBelow 0 = .ok (.iconst 0, 1) := by decide +kernel
theorem dX9_areBelow_1 : decode cX9_areBelow 1 = .ok (.istore_n 2, 1) := by decide +kernel
theorem dX9_areBelow_2 : decode cX9_areBelow 2 = .ok (.iload_n 2, 1) := by decide +kernel
theorem dX9_areBelow_3 : decode cX9_areBelow 3 = .ok (.aload_n 0, 1) := by decide +kernel
theorem dX9_areBelow_4 : decode cX9_areBelow 4 = .ok (.getfield 25, 3) := by decide +kernel
theorem dX9_areBelow_7 : decode cX9_areBelow 7 = .ok (.if_icmp .ge 20, 3) := by decide +kernel
theorem dX9_areBelow_10 : decode cX9_areBelow 10 = .ok (.aload_n 0, 1) := by decide +kernel
theorem dX9_areBelow_11 : decode cX9_areBelow 11 = .ok (.iload_n 2, 1) := by decide +kernel
theorem dX9_areBelow_12 : decode cX9_areBelow 12 = .ok (.invokevirtual 31, 3) := by decide +kernel
theorem dX9_areBelow_15 : decode cX9_areBelow 15 = .ok (.iload_n 1, 1) := by decide +kernel
theorem dX9_areBelow_16 : decode cX9_areBelow 16 = .ok (.if_icmp .lt 5, 3) := by decide +kernel
theorem dX9_areBelow_19 : decode cX9_areBelow 19 = .ok (.iconst 0, 1) := by decide +kernel
theorem dX9_areBelow_20 : decode cX9_areBelow 20 = .ok (.ireturn, 1) := by decide +kernel
theorem dX9_areBelow_21 : decode cX9_areBelow 21 = .ok (.iinc 2 1, 3) := by decide +kernel
theorem dX9_areBelow_24 : decode cX9_areBelow 24 = .ok (.goto (-22), 3) := by decide +kernel
theorem dX9_areBelow_27 : decode cX9_areBelow 27 = .ok (.iconst 1, 1) := by decide +kernel
theorem dX9_areBelow_28 : decode cX9_areBelow 28 = .ok (.ireturn, 1) := by decide +kernel
set_option maxRecDepth 100000 in
set_option maxHeartbeats 4000000 in
theorem so_X9_areBelow_2 {fr : Nat} (hfr : 1 ≤ fr) (Z : AZ) (X : AX Z cX9_areBelow 3 RX9 (some .boolean) 0 fr) (a0 : Nat) (h0 : IO 0 a0 6) (x1 : Int32) (x2 : Int32) (s : Mem) (q : (Int32 × Mem) ⊕ (Nat × Mem)) (h : st_X9_areBelow_2 a0 x1 x2 s = some q) (hi : ∀ y : Int32 × Mem, q = .inl y → AW Z y.2 2 [some (.ref (zr Z a0)), some (.int x1), some (.int y.1)] []) (he : ∀ b : Nat × Mem, q = .inr b → (b.1 = 0 → AW Z b.2 19 [none, none, none] []) ∧ (b.1 = 1 → AW Z b.2 27 [none, none, none] [])) : AW Z s 2 [some (.ref (zr Z a0)), some (.int x1), some (.int x2)] [] := by
  unfold st_X9_areBelow_2 at h
  refine aw_iload_n X dX9_areBelow_2 rfl ?_
  refine aw_aload_n X dX9_areBelow_3 rfl ?_
  refine aw_geti X dX9_areBelow_4 fl_RX9_25 h0 (gt_RX7_1 h0) ?_
  refine aw_icmp_ge (tgt := 27) X dX9_areBelow_7 (by decide) (fun c1 => ?_) (fun c1 => ?_)
  · rw [if_pos c1] at h
    cases h
    refine aw_msk [false, false, false] ?_
    exact (he _ rfl).2 rfl
  · rw [if_neg c1] at h
    refine aw_aload_n X dX9_areBelow_10 rfl ?_
    refine aw_iload_n X dX9_areBelow_11 rfl ?_
    obtain ⟨r2, er2, h⟩ := bnd h
    refine aw_callV X dX9_areBelow_12 cv_RX9_31 (ok_X7_at h0 er2 _ _ _ _ _) h0 rfl (Nat.le_trans (by decide) hfr) (by decide) rfl rfl (Nat.le_of_ble_eq_true rfl) ?_
    refine aw_iload_n X dX9_areBelow_15 rfl ?_
    refine aw_icmp_lt (tgt := 21) X dX9_areBelow_16 (by decide) (fun c3 => ?_) (fun c3 => ?_)
    · rw [if_pos c3] at h
      refine aw_iinc (v := (x2 + 1)) (L' := [some (.ref (zr Z a0)), some (.int x1), some (.int (x2 + 1))]) X dX9_areBelow_21 rfl rfl (by decide) rfl ?_
      refine aw_goto (tgt := 2) X dX9_areBelow_24 (by decide) ?_
      cases h
      refine aw_msk [true, true, true] ?_
      exact hi _ rfl
    · rw [if_neg c3] at h
      cases h
      refine aw_msk [false, false, false] ?_
      exact (he _ rfl).1 rfl
set_option maxRecDepth 100000 in
set_option maxHeartbeats 4000000 in
theorem w_X9_areBelow {fr : Nat} (hfr : 1 ≤ fr) (Z : AZ) (X : AX Z cX9_areBelow 3 RX9 (some .boolean) 0 fr) (a0 : Nat) (h0 : IO 0 a0 6) (x1 : Int32) (s : Mem) (r : Int32 × Mem) (hz : zres Z = (some (.int r.1), r.2)) (h : f_X9_areBelow a0 x1 s = some r) : AW Z s 0 [some (.ref (zr Z a0)), some (.int x1), none] [] := by
  unfold f_X9_areBelow at h
  refine aw_iconst (v := 0) X dX9_areBelow_0 (by decide) ?_
  refine aw_istore_n (L' := [some (.ref (zr Z a0)), some (.int x1), some (.int 0)]) X dX9_areBelow_1 (by decide) rfl ?_
  obtain ⟨r4, er4, h⟩ := bnd h
  refine aw_msk [true, true, true] ?_
  refine it_ok (P := fun y : Int32 × Mem => AW Z y.2 2 [some (.ref (zr Z a0)), some (.int x1), some (.int y.1)] []) (Q := fun b : Nat × Mem => (b.1 = 0 → AW Z b.2 19 [none, none, none] []) ∧ (b.1 = 1 → AW Z b.2 27 [none, none, none] [])) (fun y q hq hi he => so_X9_areBelow_2 hfr Z X a0 h0 x1 y.1 y.2 q hq hi he) FUEL _ _ er4 ?_
  refine ⟨fun c0 => ?_, fun c1 => ?_⟩
  · rw [if_pos c0] at h
    refine aw_iconst (v := 0) X dX9_areBelow_19 (by decide) ?_
    cases h
    exact aw_zret X dX9_areBelow_20 rfl rfl hz.symm
  · rw [if_neg (by rw [c1]; decide)] at h
    refine aw_iconst (v := 1) X dX9_areBelow_27 (by decide) ?_
    cases h
    exact aw_zret X dX9_areBelow_28 rfl rfl hz.symm
set_option maxRecDepth 100000 in
set_option maxHeartbeats 4000000 in
theorem ok_X9_areBelow {a0 : Nat} (h0 : IO 0 a0 6) {x1 : Int32} {s : Mem} {r : Int32 × Mem} (h : f_X9_areBelow a0 x1 s = some r) (l : Launch) (D : va_G) (ρ : Nat → Nat) (cA : ClassId × ClassId × ClassId) (τ : AT) : AM l D ρ cA 0 τ yX9_areBelow cX9_areBelow 3 (some .boolean) 1 [.ref (ρ a0), .int x1] (some (.int r.1)) s r.2 := by
  refine AM_of (L := [some (.ref (ρ a0)), some (.int x1), none]) (by decide) (by simp [Value.category]) (Nat.le_of_ble_eq_true rfl) (fun j v q => ?_) (fun Z X hρ hz hτ => ?_)
  · exact aL_ok (n := 1) [.ref (ρ a0), .int x1] j v q
  · subst hρ
    subst hτ
    exact w_X9_areBelow (Nat.le_refl _) Z X a0 h0 x1 s r hz h

theorem dX9_leastFree_0 : decode cX9_leastFree 0 = .ok (.iload_n 2, 1) := by decide +kernel
theorem dX9_leastFree_1 : decode cX9_leastFree 1 = .ok (.istore_n 3, 1) := by decide +kernel
theorem dX9_leastFree_2 : decode cX9_leastFree 2 = .ok (.iload_n 1, 1) := by decide +kernel
theorem dX9_leastFree_3 : decode cX9_leastFree 3 = .ok (.istore 4, 2) := by decide +kernel
theorem dX9_leastFree_5 : decode cX9_leastFree 5 = .ok (.iload 4, 2) := by decide +kernel
theorem dX9_leastFree_7 : decode cX9_leastFree 7 = .ok (.aload_n 0, 1) := by decide +kernel
theorem dX9_leastFree_8 : decode cX9_leastFree 8 = .ok (.getfield 25, 3) := by decide +kernel
theorem dX9_leastFree_11 : decode cX9_leastFree 11 = .ok (.if_icmp .ge 22, 3) := by decide +kernel
theorem dX9_leastFree_14 : decode cX9_leastFree 14 = .ok (.iload_n 3, 1) := by decide +kernel
theorem dX9_leastFree_15 : decode cX9_leastFree 15 = .ok (.iconst 1, 1) := by decide +kernel
theorem dX9_leastFree_16 : decode cX9_leastFree 16 = .ok (.aload_n 0, 1) := by decide +kernel
theorem dX9_leastFree_17 : decode cX9_leastFree 17 = .ok (.iload 4, 2) := by decide +kernel
theorem dX9_leastFree_19 : decode cX9_leastFree 19 = .ok (.invokevirtual 31, 3) := by decide +kernel
theorem dX9_leastFree_22 : decode cX9_leastFree 22 = .ok (.ishl, 1) := by decide +kernel
theorem dX9_leastFree_23 : decode cX9_leastFree 23 = .ok (.iconst (-1), 1) := by decide +kernel
theorem dX9_leastFree_24 : decode cX9_leastFree 24 = .ok (.ixor, 1) := by decide +kernel
theorem dX9_leastFree_25 : decode cX9_leastFree 25 = .ok (.iand, 1) := by decide +kernel
theorem dX9_leastFree_26 : decode cX9_leastFree 26 = .ok (.istore_n 3, 1) := by decide +kernel
theorem dX9_leastFree_27 : decode cX9_leastFree 27 = .ok (.iinc 4 1, 3) := by decide +kernel
theorem dX9_leastFree_30 : decode cX9_leastFree 30 = .ok (.goto (-25), 3) := by decide +kernel
theorem dX9_leastFree_33 : decode cX9_leastFree 33 = .ok (.iconst 0, 1) := by decide +kernel
theorem dX9_leastFree_34 : decode cX9_leastFree 34 = .ok (.istore 4, 2) := by decide +kernel
theorem dX9_leastFree_36 : decode cX9_leastFree 36 = .ok (.iload 4, 2) := by decide +kernel
theorem dX9_leastFree_38 : decode cX9_leastFree 38 = .ok (.bipush 8, 2) := by decide +kernel
theorem dX9_leastFree_40 : decode cX9_leastFree 40 = .ok (.if_icmp .ge 22, 3) := by decide +kernel
theorem dX9_leastFree_43 : decode cX9_leastFree 43 = .ok (.iload_n 3, 1) := by decide +kernel
theorem dX9_leastFree_44 : decode cX9_leastFree 44 = .ok (.iload 4, 2) := by decide +kernel
theorem dX9_leastFree_46 : decode cX9_leastFree 46 = .ok (.ishr, 1) := by decide +kernel
theorem dX9_leastFree_47 : decode cX9_leastFree 47 = .ok (.iconst 1, 1) := by decide +kernel
theorem dX9_leastFree_48 : decode cX9_leastFree 48 = .ok (.iand, 1) := by decide +kernel
theorem dX9_leastFree_49 : decode cX9_leastFree 49 = .ok (.iconst 1, 1) := by decide +kernel
theorem dX9_leastFree_50 : decode cX9_leastFree 50 = .ok (.if_icmp .ne 6, 3) := by decide +kernel
theorem dX9_leastFree_53 : decode cX9_leastFree 53 = .ok (.iload 4, 2) := by decide +kernel
theorem dX9_leastFree_55 : decode cX9_leastFree 55 = .ok (.ireturn, 1) := by decide +kernel
theorem dX9_leastFree_56 : decode cX9_leastFree 56 = .ok (.iinc 4 1, 3) := by decide +kernel
theorem dX9_leastFree_59 : decode cX9_leastFree 59 = .ok (.goto (-23), 3) := by decide +kernel
theorem dX9_leastFree_62 : decode cX9_leastFree 62 = .ok (.iconst (-1), 1) := by decide +kernel
theorem dX9_leastFree_63 : decode cX9_leastFree 63 = .ok (.ireturn, 1) := by decide +kernel
set_option maxRecDepth 100000 in
set_option maxHeartbeats 4000000 in
theorem so_X9_leastFree_5 {fr : Nat} (hfr : 1 ≤ fr) (Z : AZ) (X : AX Z cX9_leastFree 5 RX9 (some .int) 0 fr) (a0 : Nat) (h0 : IO 0 a0 6) (x3 : Int32) (x4 : Int32) (s : Mem) (q : (Int32 × Int32 × Mem) ⊕ (Int32 × Mem)) (h : st_X9_leastFree_5 a0 x3 x4 s = some q) (hi : ∀ y : Int32 × Int32 × Mem, q = .inl y → AW Z y.2.2 5 [some (.ref (zr Z a0)), none, none, some (.int y.1), some (.int y.2.1)] []) (he : ∀ b : Int32 × Mem, q = .inr b → AW Z b.2 33 [none, none, none, some (.int b.1), none] []) : AW Z s 5 [some (.ref (zr Z a0)), none, none, some (.int x3), some (.int x4)] [] := by
  unfold st_X9_leastFree_5 at h
  refine aw_iload X dX9_leastFree_5 rfl ?_
  refine aw_aload_n X dX9_leastFree_7 rfl ?_
  refine aw_geti X dX9_leastFree_8 fl_RX9_25 h0 (gt_RX7_1 h0) ?_
  refine aw_icmp_ge (tgt := 33) X dX9_leastFree_11 (by decide) (fun c1 => ?_) (fun c1 => ?_)
  · rw [if_pos c1] at h
    cases h
    refine aw_msk [false, false, false, true, false] ?_
    exact he _ rfl
  · rw [if_neg c1] at h
    refine aw_iload_n X dX9_leastFree_14 rfl ?_
    refine aw_iconst (v := 1) X dX9_leastFree_15 (by decide) ?_
    refine aw_aload_n X dX9_leastFree_16 rfl ?_
    refine aw_iload X dX9_leastFree_17 rfl ?_
    obtain ⟨r2, er2, h⟩ := bnd h
    refine aw_callV X dX9_leastFree_19 cv_RX9_31 (ok_X7_at h0 er2 _ _ _ _ _) h0 rfl (Nat.le_trans (by decide) hfr) (by decide) rfl rfl (Nat.le_of_ble_eq_true rfl) ?_
    refine aw_ishl X dX9_leastFree_22 ?_
    refine aw_iconst (v := (-1)) X dX9_leastFree_23 (by decide) ?_
    refine aw_ixor X dX9_leastFree_24 ?_
    refine aw_iand X dX9_leastFree_25 ?_
    refine aw_istore_n (L' := [some (.ref (zr Z a0)), none, none, some (.int (x3 &&& ((1 <<< (r2.1 &&& 31)) ^^^ (-1)))), some (.int x4)]) X dX9_leastFree_26 (by decide) rfl ?_
    refine aw_iinc (v := (x4 + 1)) (L' := [some (.ref (zr Z a0)), none, none, some (.int (x3 &&& ((1 <<< (r2.1 &&& 31)) ^^^ (-1)))), some (.int (x4 + 1))]) X dX9_leastFree_27 rfl rfl (by decide) rfl ?_
    refine aw_goto (tgt := 5) X dX9_leastFree_30 (by decide) ?_
    cases h
    refine aw_msk [true, false, false, true, true] ?_
    exact hi _ rfl
set_option maxRecDepth 100000 in
set_option maxHeartbeats 4000000 in
theorem so_X9_leastFree_36 {fr : Nat} (hfr : 1 ≤ fr) (Z : AZ) (X : AX Z cX9_leastFree 5 RX9 (some .int) 0 fr) (a0 : Nat) (h0 : IO 0 a0 6) (x3 : Int32) (x4 : Int32) (s : Mem) (q : (Int32 × Mem) ⊕ (Nat × Int32 × Mem)) (h : st_X9_leastFree_36 a0 x3 x4 s = some q) (hi : ∀ y : Int32 × Mem, q = .inl y → AW Z y.2 36 [none, none, none, some (.int x3), some (.int y.1)] []) (he : ∀ b : Nat × Int32 × Mem, q = .inr b → (b.1 = 0 → AW Z b.2.2 53 [none, none, none, none, some (.int b.2.1)] []) ∧ (b.1 = 1 → AW Z b.2.2 62 [none, none, none, none, none] [])) : AW Z s 36 [none, none, none, some (.int x3), some (.int x4)] [] := by
  unfold st_X9_leastFree_36 at h
  refine aw_iload X dX9_leastFree_36 rfl ?_
  refine aw_bipush (v := 8) X dX9_leastFree_38 (by decide) ?_
  refine aw_icmp_ge (tgt := 62) X dX9_leastFree_40 (by decide) (fun c4 => ?_) (fun c4 => ?_)
  · rw [if_pos c4] at h
    cases h
    refine aw_msk [false, false, false, false, false] ?_
    exact (he _ rfl).2 rfl
  · rw [if_neg c4] at h
    refine aw_iload_n X dX9_leastFree_43 rfl ?_
    refine aw_iload X dX9_leastFree_44 rfl ?_
    refine aw_ishr X dX9_leastFree_46 ?_
    refine aw_iconst (v := 1) X dX9_leastFree_47 (by decide) ?_
    refine aw_iand X dX9_leastFree_48 ?_
    refine aw_iconst (v := 1) X dX9_leastFree_49 (by decide) ?_
    refine aw_icmp_ne (tgt := 56) X dX9_leastFree_50 (by decide) (fun c5 => ?_) (fun c5 => ?_)
    · rw [if_neg c5] at h
      refine aw_iinc (v := (x4 + 1)) (L' := [none, none, none, some (.int x3), some (.int (x4 + 1))]) X dX9_leastFree_56 rfl rfl (by decide) rfl ?_
      refine aw_goto (tgt := 36) X dX9_leastFree_59 (by decide) ?_
      cases h
      refine aw_msk [false, false, false, true, true] ?_
      exact hi _ rfl
    · rw [if_pos c5] at h
      cases h
      refine aw_msk [false, false, false, false, true] ?_
      exact (he _ rfl).1 rfl
set_option maxRecDepth 100000 in
set_option maxHeartbeats 4000000 in
theorem w_X9_leastFree {fr : Nat} (hfr : 1 ≤ fr) (Z : AZ) (X : AX Z cX9_leastFree 5 RX9 (some .int) 0 fr) (a0 : Nat) (h0 : IO 0 a0 6) (x1 : Int32) (x2 : Int32) (s : Mem) (r : Int32 × Mem) (hz : zres Z = (some (.int r.1), r.2)) (h : f_X9_leastFree a0 x1 x2 s = some r) : AW Z s 0 [some (.ref (zr Z a0)), some (.int x1), some (.int x2), none, none] [] := by
  unfold f_X9_leastFree at h
  refine aw_iload_n X dX9_leastFree_0 rfl ?_
  refine aw_istore_n (L' := [some (.ref (zr Z a0)), some (.int x1), some (.int x2), some (.int x2), none]) X dX9_leastFree_1 (by decide) rfl ?_
  refine aw_iload_n X dX9_leastFree_2 rfl ?_
  refine aw_istore (L' := [some (.ref (zr Z a0)), some (.int x1), some (.int x2), some (.int x2), some (.int x1)]) X dX9_leastFree_3 (by decide) rfl ?_
  obtain ⟨r3, er3, h⟩ := bnd h
  refine aw_msk [true, false, false, true, true] ?_
  refine it_ok (P := fun y : Int32 × Int32 × Mem => AW Z y.2.2 5 [some (.ref (zr Z a0)), none, none, some (.int y.1), some (.int y.2.1)] []) (Q := fun b : Int32 × Mem => AW Z b.2 33 [none, none, none, some (.int b.1), none] []) (fun y q hq hi he => so_X9_leastFree_5 hfr Z X a0 h0 y.1 y.2.1 y.2.2 q hq hi he) FUEL _ _ er3 ?_
  refine aw_iconst (v := 0) X dX9_leastFree_33 (by decide) ?_
  refine aw_istore (L' := [none, none, none, some (.int r3.1), some (.int 0)]) X dX9_leastFree_34 (by decide) rfl ?_
  obtain ⟨r6, er6, h⟩ := bnd h
  refine aw_msk [false, false, false, true, true] ?_
  refine it_ok (P := fun y : Int32 × Mem => AW Z y.2 36 [none, none, none, some (.int r3.1), some (.int y.1)] []) (Q := fun b : Nat × Int32 × Mem => (b.1 = 0 → AW Z b.2.2 53 [none, none, none, none, some (.int b.2.1)] []) ∧ (b.1 = 1 → AW Z b.2.2 62 [none, none, none, none, none] [])) (fun y q hq hi he => so_X9_leastFree_36 hfr Z X a0 h0 r3.1 y.1 y.2 q hq hi he) FUEL _ _ er6 ?_
  refine ⟨fun c0 => ?_, fun c1 => ?_⟩
  · rw [if_pos c0] at h
    refine aw_iload X dX9_leastFree_53 rfl ?_
    cases h
    exact aw_iret X dX9_leastFree_55 rfl hz.symm
  · rw [if_neg (by rw [c1]; decide)] at h
    refine aw_iconst (v := (-1)) X dX9_leastFree_62 (by decide) ?_
    cases h
    exact aw_iret X dX9_leastFree_63 rfl hz.symm
set_option maxRecDepth 100000 in
set_option maxHeartbeats 4000000 in
theorem ok_X9_leastFree {a0 : Nat} (h0 : IO 0 a0 6) {x1 x2 : Int32} {s : Mem} {r : Int32 × Mem} (h : f_X9_leastFree a0 x1 x2 s = some r) (l : Launch) (D : va_G) (ρ : Nat → Nat) (cA : ClassId × ClassId × ClassId) (τ : AT) : AM l D ρ cA 0 τ yX9_leastFree cX9_leastFree 5 (some .int) 1 [.ref (ρ a0), .int x1, .int x2] (some (.int r.1)) s r.2 := by
  refine AM_of (L := [some (.ref (ρ a0)), some (.int x1), some (.int x2), none, none]) (by decide) (by simp [Value.category]) (Nat.le_of_ble_eq_true rfl) (fun j v q => ?_) (fun Z X hρ hz hτ => ?_)
  · exact aL_ok (n := 2) [.ref (ρ a0), .int x1, .int x2] j v q
  · subst hρ
    subst hτ
    exact w_X9_leastFree (Nat.le_refl _) Z X a0 h0 x1 x2 s r hz h

theorem dX9_growTree_0 : decode cX9_growTree 0 = .ok (.aload_n 1, 1) := by decide +kernel
theorem dX9_growTree_1 : decode cX9_growTree 1 = .ok (.getfield 25, 3) := by decide +kernel
theorem dX9_growTree_4 : decode cX9_growTree 4 = .ok (.iconst 2, 1) := by decide +kernel
theorem dX9_growTree_5 : decode cX9_growTree 5 = .ok (.iadd, 1) := by decide +kernel
theorem dX9_growTree_6 : decode cX9_growTree 6 = .ok (.istore_n 2, 1) := by decide +kernel
theorem dX9_growTree_7 : decode cX9_growTree 7 = .ok (.iload_n 2, 1) := by decide +kernel
theorem dX9_growTree_8 : decode cX9_growTree 8 = .ok (.bipush 8, 2) := by decide +kernel
theorem dX9_growTree_10 : decode cX9_growTree 10 = .ok (.if_icmp .gt 11, 3) := by decide +kernel
theorem dX9_growTree_13 : decode cX9_growTree 13 = .ok (.aload_n 1, 1) := by decide +kernel
theorem dX9_growTree_14 : decode cX9_growTree 14 = .ok (.iload_n 2, 1) := by decide +kernel
theorem dX9_growTree_15 : decode cX9_growTree 15 = .ok (.invokestatic 81, 3) := by decide +kernel
theorem dX9_growTree_18 : decode cX9_growTree 18 = .ok (.ifCond .ne 5, 3) := by decide +kernel
theorem dX9_growTree_21 : decode cX9_growTree 21 = .ok (.iconst 0, 1) := by decide +kernel
theorem dX9_growTree_22 : decode cX9_growTree 22 = .ok (.ireturn, 1) := by decide +kernel
theorem dX9_growTree_23 : decode cX9_growTree 23 = .ok (.iconst 1, 1) := by decide +kernel
theorem dX9_growTree_24 : decode cX9_growTree 24 = .ok (.iload_n 2, 1) := by decide +kernel
theorem dX9_growTree_25 : decode cX9_growTree 25 = .ok (.ishl, 1) := by decide +kernel
theorem dX9_growTree_26 : decode cX9_growTree 26 = .ok (.iconst 1, 1) := by decide +kernel
theorem dX9_growTree_27 : decode cX9_growTree 27 = .ok (.isub, 1) := by decide +kernel
theorem dX9_growTree_28 : decode cX9_growTree 28 = .ok (.istore_n 3, 1) := by decide +kernel
theorem dX9_growTree_29 : decode cX9_growTree 29 = .ok (.iconst 0, 1) := by decide +kernel
theorem dX9_growTree_30 : decode cX9_growTree 30 = .ok (.istore 4, 2) := by decide +kernel
theorem dX9_growTree_32 : decode cX9_growTree 32 = .ok (.iload 4, 2) := by decide +kernel
theorem dX9_growTree_34 : decode cX9_growTree 34 = .ok (.aload_n 1, 1) := by decide +kernel
theorem dX9_growTree_35 : decode cX9_growTree 35 = .ok (.getfield 25, 3) := by decide +kernel
theorem dX9_growTree_38 : decode cX9_growTree 38 = .ok (.if_icmp .ge 48, 3) := by decide +kernel
theorem dX9_growTree_41 : decode cX9_growTree 41 = .ok (.aload_n 1, 1) := by decide +kernel
theorem dX9_growTree_42 : decode cX9_growTree 42 = .ok (.iload 4, 2) := by decide +kernel
theorem dX9_growTree_44 : decode cX9_growTree 44 = .ok (.iload_n 3, 1) := by decide +kernel
theorem dX9_growTree_45 : decode cX9_growTree 45 = .ok (.invokestatic 85, 3) := by decide +kernel
theorem dX9_growTree_48 : decode cX9_growTree 48 = .ok (.istore 5, 2) := by decide +kernel
theorem dX9_growTree_50 : decode cX9_growTree 50 = .ok (.iload 5, 2) := by decide +kernel
theorem dX9_growTree_52 : decode cX9_growTree 52 = .ok (.iconst (-1), 1) := by decide +kernel
theorem dX9_growTree_53 : decode cX9_growTree 53 = .ok (.if_icmp .ne 5, 3) := by decide +kernel
theorem dX9_growTree_56 : decode cX9_growTree 56 = .ok (.iconst 0, 1) := by decide +kernel
theorem dX9_growTree_57 : decode cX9_growTree 57 = .ok (.ireturn, 1) := by decide +kernel
theorem dX9_growTree_58 : decode cX9_growTree 58 = .ok (.aload_n 0, 1) := by decide +kernel
theorem dX9_growTree_59 : decode cX9_growTree 59 = .ok (.getfield 22, 3) := by decide +kernel
theorem dX9_growTree_62 : decode cX9_growTree 62 = .ok (.iload 5, 2) := by decide +kernel
theorem dX9_growTree_64 : decode cX9_growTree 64 = .ok (.aload_n 1, 1) := by decide +kernel
theorem dX9_growTree_65 : decode cX9_growTree 65 = .ok (.iload 4, 2) := by decide +kernel
theorem dX9_growTree_67 : decode cX9_growTree 67 = .ok (.invokevirtual 31, 3) := by decide +kernel
theorem dX9_growTree_70 : decode cX9_growTree 70 = .ok (.iastore, 1) := by decide +kernel
theorem dX9_growTree_71 : decode cX9_growTree 71 = .ok (.iload_n 3, 1) := by decide +kernel
theorem dX9_growTree_72 : decode cX9_growTree 72 = .ok (.iconst 1, 1) := by decide +kernel
theorem dX9_growTree_73 : decode cX9_growTree 73 = .ok (.iload 5, 2) := by decide +kernel
theorem dX9_growTree_75 : decode cX9_growTree 75 = .ok (.ishl, 1) := by decide +kernel
theorem dX9_growTree_76 : decode cX9_growTree 76 = .ok (.iconst (-1), 1) := by decide +kernel
theorem dX9_growTree_77 : decode cX9_growTree 77 = .ok (.ixor, 1) := by decide +kernel
theorem dX9_growTree_78 : decode cX9_growTree 78 = .ok (.iand, 1) := by decide +kernel
theorem dX9_growTree_79 : decode cX9_growTree 79 = .ok (.istore_n 3, 1) := by decide +kernel
theorem dX9_growTree_80 : decode cX9_growTree 80 = .ok (.iinc 4 1, 3) := by decide +kernel
theorem dX9_growTree_83 : decode cX9_growTree 83 = .ok (.goto (-51), 3) := by decide +kernel
theorem dX9_growTree_86 : decode cX9_growTree 86 = .ok (.aload_n 1, 1) := by decide +kernel
theorem dX9_growTree_87 : decode cX9_growTree 87 = .ok (.aload_n 1, 1) := by decide +kernel
theorem dX9_growTree_88 : decode cX9_growTree 88 = .ok (.getfield 25, 3) := by decide +kernel
theorem dX9_growTree_91 : decode cX9_growTree 91 = .ok (.iload_n 3, 1) := by decide +kernel
theorem dX9_growTree_92 : decode cX9_growTree 92 = .ok (.invokestatic 85, 3) := by decide +kernel
theorem dX9_growTree_95 : decode cX9_growTree 95 = .ok (.istore 4, 2) := by decide +kernel
theorem dX9_growTree_97 : decode cX9_growTree 97 = .ok (.iload 4, 2) := by decide +kernel
theorem dX9_growTree_99 : decode cX9_growTree 99 = .ok (.iconst (-1), 1) := by decide +kernel
theorem dX9_growTree_100 : decode cX9_growTree 100 = .ok (.if_icmp .ne 5, 3) := by decide +kernel
theorem dX9_growTree_103 : decode cX9_growTree 103 = .ok (.iconst 0, 1) := by decide +kernel
theorem dX9_growTree_104 : decode cX9_growTree 104 = .ok (.ireturn, 1) := by decide +kernel
theorem dX9_growTree_105 : decode cX9_growTree 105 = .ok (.aload_n 1, 1) := by decide +kernel
theorem dX9_growTree_106 : decode cX9_growTree 106 = .ok (.aload_n 1, 1) := by decide +kernel
theorem dX9_growTree_107 : decode cX9_growTree 107 = .ok (.getfield 25, 3) := by decide +kernel
theorem dX9_growTree_110 : decode cX9_growTree 110 = .ok (.iload_n 3, 1) := by decide +kernel
theorem dX9_growTree_111 : decode cX9_growTree 111 = .ok (.iconst 1, 1) := by decide +kernel
theorem dX9_growTree_112 : decode cX9_growTree 112 = .ok (.iload 4, 2) := by decide +kernel
theorem dX9_growTree_114 : decode cX9_growTree 114 = .ok (.ishl, 1) := by decide +kernel
theorem dX9_growTree_115 : decode cX9_growTree 115 = .ok (.iconst (-1), 1) := by decide +kernel
theorem dX9_growTree_116 : decode cX9_growTree 116 = .ok (.ixor, 1) := by decide +kernel
theorem dX9_growTree_117 : decode cX9_growTree 117 = .ok (.iand, 1) := by decide +kernel
theorem dX9_growTree_118 : decode cX9_growTree 118 = .ok (.invokestatic 85, 3) := by decide +kernel
theorem dX9_growTree_121 : decode cX9_growTree 121 = .ok (.istore 5, 2) := by decide +kernel
theorem dX9_growTree_123 : decode cX9_growTree 123 = .ok (.iload 5, 2) := by decide +kernel
theorem dX9_growTree_125 : decode cX9_growTree 125 = .ok (.iconst (-1), 1) := by decide +kernel
theorem dX9_growTree_126 : decode cX9_growTree 126 = .ok (.if_icmp .ne 5, 3) := by decide +kernel
theorem dX9_growTree_129 : decode cX9_growTree 129 = .ok (.iconst 0, 1) := by decide +kernel
theorem dX9_growTree_130 : decode cX9_growTree 130 = .ok (.ireturn, 1) := by decide +kernel
theorem dX9_growTree_131 : decode cX9_growTree 131 = .ok (.aload_n 0, 1) := by decide +kernel
theorem dX9_growTree_132 : decode cX9_growTree 132 = .ok (.getfield 22, 3) := by decide +kernel
theorem dX9_growTree_135 : decode cX9_growTree 135 = .ok (.iload 4, 2) := by decide +kernel
theorem dX9_growTree_137 : decode cX9_growTree 137 = .ok (.iload 5, 2) := by decide +kernel
theorem dX9_growTree_139 : decode cX9_growTree 139 = .ok (.iastore, 1) := by decide +kernel
theorem dX9_growTree_140 : decode cX9_growTree 140 = .ok (.aload_n 0, 1) := by decide +kernel
theorem dX9_growTree_141 : decode cX9_growTree 141 = .ok (.getfield 22, 3) := by decide +kernel
theorem dX9_growTree_144 : decode cX9_growTree 144 = .ok (.iload 5, 2) := by decide +kernel
theorem dX9_growTree_146 : decode cX9_growTree 146 = .ok (.iconst (-1), 1) := by decide +kernel
theorem dX9_growTree_147 : decode cX9_growTree 147 = .ok (.iastore, 1) := by decide +kernel
theorem dX9_growTree_148 : decode cX9_growTree 148 = .ok (.iconst 1, 1) := by decide +kernel
theorem dX9_growTree_149 : decode cX9_growTree 149 = .ok (.ireturn, 1) := by decide +kernel
set_option maxRecDepth 100000 in
set_option maxHeartbeats 4000000 in
theorem so_X9_growTree_32 {fr : Nat} (hfr : 2 ≤ fr) (Z : AZ) (X : AX Z cX9_growTree 6 RX9 (some .boolean) 0 fr) (a1 : Nat) (h1 : IO 0 a1 6) (x3 : Int32) (x4 : Int32) (s : Mem) (q : (Int32 × Int32 × Mem) ⊕ (Nat × Int32 × Mem)) (h : st_X9_growTree_32 a1 x3 x4 s = some q) (hi : ∀ y : Int32 × Int32 × Mem, q = .inl y → AW Z y.2.2 32 [some (.ref (zr Z 195)), some (.ref (zr Z a1)), none, some (.int y.1), some (.int y.2.1), none] []) (he : ∀ b : Nat × Int32 × Mem, q = .inr b → (b.1 = 0 → AW Z b.2.2 56 [none, none, none, none, none, none] []) ∧ (b.1 = 1 → AW Z b.2.2 86 [some (.ref (zr Z 195)), some (.ref (zr Z a1)), none, some (.int b.2.1), none, none] [])) : AW Z s 32 [some (.ref (zr Z 195)), some (.ref (zr Z a1)), none, some (.int x3), some (.int x4), none] [] := by
  unfold st_X9_growTree_32 at h
  refine aw_iload X dX9_growTree_32 rfl ?_
  refine aw_aload_n X dX9_growTree_34 rfl ?_
  refine aw_geti X dX9_growTree_35 fl_RX9_25 h1 (gt_RX7_1 h1) ?_
  refine aw_icmp_ge (tgt := 86) X dX9_growTree_38 (by decide) (fun c4 => ?_) (fun c4 => ?_)
  · rw [if_pos c4] at h
    cases h
    refine aw_msk [true, true, false, true, false, false] ?_
    exact (he _ rfl).2 rfl
  · rw [if_neg c4] at h
    refine aw_aload_n X dX9_growTree_41 rfl ?_
    refine aw_iload X dX9_growTree_42 rfl ?_
    refine aw_iload_n X dX9_growTree_44 rfl ?_
    obtain ⟨r5, er5, h⟩ := bnd h
    refine aw_callS X dX9_growTree_45 cv_RX9_85 (ok_X9_leastFree h1 er5 _ _ _ _ _) (Nat.le_trans (by decide) hfr) (by decide) rfl rfl (Nat.le_of_ble_eq_true rfl) ?_
    refine aw_istore (L' := [some (.ref (zr Z 195)), some (.ref (zr Z a1)), none, some (.int x3), some (.int x4), some (.int r5.1)]) X dX9_growTree_48 (by decide) rfl ?_
    refine aw_iload X dX9_growTree_50 rfl ?_
    refine aw_iconst (v := (-1)) X dX9_growTree_52 (by decide) ?_
    refine aw_icmp_ne (tgt := 58) X dX9_growTree_53 (by decide) (fun c6 => ?_) (fun c6 => ?_)
    · rw [if_neg c6] at h
      refine aw_aload_n X dX9_growTree_58 rfl ?_
      refine aw_getr X dX9_growTree_59 fl_RX9_22 iu_RX9 gu_RX9_3 ?_
      refine aw_iload X dX9_growTree_62 rfl ?_
      refine aw_aload_n X dX9_growTree_64 rfl ?_
      refine aw_iload X dX9_growTree_65 rfl ?_
      obtain ⟨r7, er7, h⟩ := bnd h
      refine aw_callV X dX9_growTree_67 cv_RX9_31 (ok_X7_at h1 er7 _ _ _ _ _) h1 rfl (Nat.le_trans (by decide) hfr) (by decide) rfl rfl (Nat.le_of_ble_eq_true rfl) ?_
      obtain ⟨s8, es8, h⟩ := bnd h
      refine aw_iast X dX9_growTree_70 iu_RX9_3 es8 ?_
      refine aw_iload_n X dX9_growTree_71 rfl ?_
      refine aw_iconst (v := 1) X dX9_growTree_72 (by decide) ?_
      refine aw_iload X dX9_growTree_73 rfl ?_
      refine aw_ishl X dX9_growTree_75 ?_
      refine aw_iconst (v := (-1)) X dX9_growTree_76 (by decide) ?_
      refine aw_ixor X dX9_growTree_77 ?_
      refine aw_iand X dX9_growTree_78 ?_
      refine aw_istore_n (L' := [some (.ref (zr Z 195)), some (.ref (zr Z a1)), none, some (.int (x3 &&& ((1 <<< (r5.1 &&& 31)) ^^^ (-1)))), some (.int x4), some (.int r5.1)]) X dX9_growTree_79 (by decide) rfl ?_
      refine aw_iinc (v := (x4 + 1)) (L' := [some (.ref (zr Z 195)), some (.ref (zr Z a1)), none, some (.int (x3 &&& ((1 <<< (r5.1 &&& 31)) ^^^ (-1)))), some (.int (x4 + 1)), some (.int r5.1)]) X dX9_growTree_80 rfl rfl (by decide) rfl ?_
      refine aw_goto (tgt := 32) X dX9_growTree_83 (by decide) ?_
      cases h
      refine aw_msk [true, true, false, true, true, false] ?_
      exact hi _ rfl
    · rw [if_pos c6] at h
      cases h
      refine aw_msk [false, false, false, false, false, false] ?_
      exact (he _ rfl).1 rfl
set_option maxRecDepth 100000 in
set_option maxHeartbeats 4000000 in
theorem w_X9_growTree {fr : Nat} (hfr : 2 ≤ fr) (Z : AZ) (X : AX Z cX9_growTree 6 RX9 (some .boolean) 0 fr) (a1 : Nat) (h1 : IO 0 a1 6) (s : Mem) (r : Int32 × Mem) (hz : zres Z = (some (.int r.1), r.2)) (h : f_X9_growTree a1 s = some r) : AW Z s 0 [some (.ref (zr Z 195)), some (.ref (zr Z a1)), none, none, none, none] [] := by
  unfold f_X9_growTree at h
  refine aw_aload_n X dX9_growTree_0 rfl ?_
  refine aw_geti X dX9_growTree_1 fl_RX9_25 h1 (gt_RX7_1 h1) ?_
  refine aw_iconst (v := 2) X dX9_growTree_4 (by decide) ?_
  refine aw_iadd X dX9_growTree_5 ?_
  refine aw_istore_n (L' := [some (.ref (zr Z 195)), some (.ref (zr Z a1)), some (.int ((s a1 1) + 2)), none, none, none]) X dX9_growTree_6 (by decide) rfl ?_
  refine aw_iload_n X dX9_growTree_7 rfl ?_
  refine aw_bipush (v := 8) X dX9_growTree_8 (by decide) ?_
  refine aw_icmp_gt (tgt := 21) X dX9_growTree_10 (by decide) (fun c1 => ?_) (fun c1 => ?_)
  · rw [if_pos c1] at h
    refine aw_iconst (v := 0) X dX9_growTree_21 (by decide) ?_
    cases h
    exact aw_zret X dX9_growTree_22 rfl rfl hz.symm
  · rw [if_neg c1] at h
    refine aw_aload_n X dX9_growTree_13 rfl ?_
    refine aw_iload_n X dX9_growTree_14 rfl ?_
    obtain ⟨r2, er2, h⟩ := bnd h
    refine aw_callS X dX9_growTree_15 cv_RX9_81 (ok_X9_areBelow h1 er2 _ _ _ _ _) (Nat.le_trans (by decide) hfr) (by decide) rfl rfl (Nat.le_of_ble_eq_true rfl) ?_
    refine aw_if_ne (tgt := 23) X dX9_growTree_18 (by decide) (fun c3 => ?_) (fun c3 => ?_)
    · rw [if_neg c3] at h
      refine aw_iconst (v := 1) X dX9_growTree_23 (by decide) ?_
      refine aw_iload_n X dX9_growTree_24 rfl ?_
      refine aw_ishl X dX9_growTree_25 ?_
      refine aw_iconst (v := 1) X dX9_growTree_26 (by decide) ?_
      refine aw_isub X dX9_growTree_27 ?_
      refine aw_istore_n (L' := [some (.ref (zr Z 195)), some (.ref (zr Z a1)), some (.int ((s a1 1) + 2)), some (.int ((1 <<< (((s a1 1) + 2) &&& 31)) - 1)), none, none]) X dX9_growTree_28 (by decide) rfl ?_
      refine aw_iconst (v := 0) X dX9_growTree_29 (by decide) ?_
      refine aw_istore (L' := [some (.ref (zr Z 195)), some (.ref (zr Z a1)), some (.int ((s a1 1) + 2)), some (.int ((1 <<< (((s a1 1) + 2) &&& 31)) - 1)), some (.int 0), none]) X dX9_growTree_30 (by decide) rfl ?_
      obtain ⟨r9, er9, h⟩ := bnd h
      refine aw_msk [true, true, false, true, true, false] ?_
      refine it_ok (P := fun y : Int32 × Int32 × Mem => AW Z y.2.2 32 [some (.ref (zr Z 195)), some (.ref (zr Z a1)), none, some (.int y.1), some (.int y.2.1), none] []) (Q := fun b : Nat × Int32 × Mem => (b.1 = 0 → AW Z b.2.2 56 [none, none, none, none, none, none] []) ∧ (b.1 = 1 → AW Z b.2.2 86 [some (.ref (zr Z 195)), some (.ref (zr Z a1)), none, some (.int b.2.1), none, none] [])) (fun y q hq hi he => so_X9_growTree_32 hfr Z X a1 h1 y.1 y.2.1 y.2.2 q hq hi he) FUEL _ _ er9 ?_
      refine ⟨fun c0 => ?_, fun c1 => ?_⟩
      · rw [if_pos c0] at h
        refine aw_iconst (v := 0) X dX9_growTree_56 (by decide) ?_
        cases h
        exact aw_zret X dX9_growTree_57 rfl rfl hz.symm
      · rw [if_neg (by rw [c1]; decide)] at h
        refine aw_aload_n X dX9_growTree_86 rfl ?_
        refine aw_aload_n X dX9_growTree_87 rfl ?_
        refine aw_geti X dX9_growTree_88 fl_RX9_25 h1 (gt_RX7_1 h1) ?_
        refine aw_iload_n X dX9_growTree_91 rfl ?_
        obtain ⟨r10, er10, h⟩ := bnd h
        refine aw_callS X dX9_growTree_92 cv_RX9_85 (ok_X9_leastFree h1 er10 _ _ _ _ _) (Nat.le_trans (by decide) hfr) (by decide) rfl rfl (Nat.le_of_ble_eq_true rfl) ?_
        refine aw_istore (L' := [some (.ref (zr Z 195)), some (.ref (zr Z a1)), none, some (.int r9.2.1), some (.int r10.1), none]) X dX9_growTree_95 (by decide) rfl ?_
        refine aw_iload X dX9_growTree_97 rfl ?_
        refine aw_iconst (v := (-1)) X dX9_growTree_99 (by decide) ?_
        refine aw_icmp_ne (tgt := 105) X dX9_growTree_100 (by decide) (fun c11 => ?_) (fun c11 => ?_)
        · rw [if_neg c11] at h
          refine aw_aload_n X dX9_growTree_105 rfl ?_
          refine aw_aload_n X dX9_growTree_106 rfl ?_
          refine aw_geti X dX9_growTree_107 fl_RX9_25 h1 (gt_RX7_1 h1) ?_
          refine aw_iload_n X dX9_growTree_110 rfl ?_
          refine aw_iconst (v := 1) X dX9_growTree_111 (by decide) ?_
          refine aw_iload X dX9_growTree_112 rfl ?_
          refine aw_ishl X dX9_growTree_114 ?_
          refine aw_iconst (v := (-1)) X dX9_growTree_115 (by decide) ?_
          refine aw_ixor X dX9_growTree_116 ?_
          refine aw_iand X dX9_growTree_117 ?_
          obtain ⟨r12, er12, h⟩ := bnd h
          refine aw_callS X dX9_growTree_118 cv_RX9_85 (ok_X9_leastFree h1 er12 _ _ _ _ _) (Nat.le_trans (by decide) hfr) (by decide) rfl rfl (Nat.le_of_ble_eq_true rfl) ?_
          refine aw_istore (L' := [some (.ref (zr Z 195)), some (.ref (zr Z a1)), none, some (.int r9.2.1), some (.int r10.1), some (.int r12.1)]) X dX9_growTree_121 (by decide) rfl ?_
          refine aw_iload X dX9_growTree_123 rfl ?_
          refine aw_iconst (v := (-1)) X dX9_growTree_125 (by decide) ?_
          refine aw_icmp_ne (tgt := 131) X dX9_growTree_126 (by decide) (fun c13 => ?_) (fun c13 => ?_)
          · rw [if_neg c13] at h
            refine aw_aload_n X dX9_growTree_131 rfl ?_
            refine aw_getr X dX9_growTree_132 fl_RX9_22 iu_RX9 gu_RX9_3 ?_
            refine aw_iload X dX9_growTree_135 rfl ?_
            refine aw_iload X dX9_growTree_137 rfl ?_
            obtain ⟨s14, es14, h⟩ := bnd h
            refine aw_iast X dX9_growTree_139 iu_RX9_3 es14 ?_
            refine aw_aload_n X dX9_growTree_140 rfl ?_
            refine aw_getr X dX9_growTree_141 fl_RX9_22 iu_RX9 gu_RX9_3 ?_
            refine aw_iload X dX9_growTree_144 rfl ?_
            refine aw_iconst (v := (-1)) X dX9_growTree_146 (by decide) ?_
            obtain ⟨s15, es15, h⟩ := bnd h
            refine aw_iast X dX9_growTree_147 iu_RX9_3 es15 ?_
            refine aw_iconst (v := 1) X dX9_growTree_148 (by decide) ?_
            cases h
            exact aw_zret X dX9_growTree_149 rfl rfl hz.symm
          · rw [if_pos c13] at h
            refine aw_iconst (v := 0) X dX9_growTree_129 (by decide) ?_
            cases h
            exact aw_zret X dX9_growTree_130 rfl rfl hz.symm
        · rw [if_pos c11] at h
          refine aw_iconst (v := 0) X dX9_growTree_103 (by decide) ?_
          cases h
          exact aw_zret X dX9_growTree_104 rfl rfl hz.symm
    · rw [if_pos c3] at h
      refine aw_iconst (v := 0) X dX9_growTree_21 (by decide) ?_
      cases h
      exact aw_zret X dX9_growTree_22 rfl rfl hz.symm
set_option maxRecDepth 100000 in
set_option maxHeartbeats 4000000 in
theorem ok_X9_growTree {a1 : Nat} (h1 : IO 0 a1 6) {s : Mem} {r : Int32 × Mem} (h : f_X9_growTree a1 s = some r) (l : Launch) (D : va_G) (ρ : Nat → Nat) (cA : ClassId × ClassId × ClassId) (τ : AT) : AM l D ρ cA 0 τ yX9_growTree cX9_growTree 6 (some .boolean) 2 [.ref (ρ 195), .ref (ρ a1)] (some (.int r.1)) s r.2 := by
  refine AM_of (L := [some (.ref (ρ 195)), some (.ref (ρ a1)), none, none, none, none]) (by decide) (by simp [Value.category]) (Nat.le_of_ble_eq_true rfl) (fun j v q => ?_) (fun Z X hρ hz hτ => ?_)
  · exact aL_ok (n := 4) [.ref (ρ 195), .ref (ρ a1)] j v q
  · subst hρ
    subst hτ
    exact w_X9_growTree (Nat.le_refl _) Z X a1 h1 s r hz h
