/-! ===== walks: X12_way .. X12_step ===== -/
theorem dX12_way_0 : decode cX12_way 0 = .ok (.aload_n 0, 1) := by decide +kernel
theorem dX12_way_1 : decode cX12_way 1 = .ok (.iconst 0, 1) := by decide +kernel
theorem dX12_way_2 : decode cX12_way 2 = .ok (.putfield 122, 3) := by decide +kernel
theorem dX12_way_5 : decode cX12_way 5 = .ok (.iload_n 1, 1) := by decide +kernel
theorem dX12_way_6 : decode cX12_way 6 = .ok (.iconst (-1), 1) := by decide +kernel
theorem dX12_way_7 : decode cX12_way 7 = .ok (.if_icmp .ne 10, 3) := by decide +kernel
theorem dX12_way_10 : decode cX12_way 10 = .ok (.aload_n 0, 1) := by decide +kernel
theorem dX12_way_11 : decode cX12_way 11 = .ok (.iconst 0, 1) := by decide +kernel
theorem dX12_way_12 : decode cX12_way 12 = .ok (.putfield 436, 3) := by decide +kernel
theorem dX12_way_15 : decode cX12_way 15 = .ok (.iconst 0, 1) := by decide +kernel
theorem dX12_way_16 : decode cX12_way 16 = .ok (.ireturn, 1) := by decide +kernel
theorem dX12_way_17 : decode cX12_way 17 = .ok (.aload_n 0, 1) := by decide +kernel
theorem dX12_way_18 : decode cX12_way 18 = .ok (.iload_n 1, 1) := by decide +kernel
theorem dX12_way_19 : decode cX12_way 19 = .ok (.iconst 0, 1) := by decide +kernel
theorem dX12_way_20 : decode cX12_way 20 = .ok (.iconst 5, 1) := by decide +kernel
theorem dX12_way_21 : decode cX12_way 21 = .ok (.invokevirtual 137, 3) := by decide +kernel
theorem dX12_way_24 : decode cX12_way 24 = .ok (.ifCond .eq 38, 3) := by decide +kernel
theorem dX12_way_27 : decode cX12_way 27 = .ok (.aload_n 0, 1) := by decide +kernel
theorem dX12_way_28 : decode cX12_way 28 = .ok (.iload_n 2, 1) := by decide +kernel
theorem dX12_way_29 : decode cX12_way 29 = .ok (.iconst 0, 1) := by decide +kernel
theorem dX12_way_30 : decode cX12_way 30 = .ok (.iconst 5, 1) := by decide +kernel
theorem dX12_way_31 : decode cX12_way 31 = .ok (.invokevirtual 137, 3) := by decide +kernel
theorem dX12_way_34 : decode cX12_way 34 = .ok (.ifCond .eq 28, 3) := by decide +kernel
theorem dX12_way_37 : decode cX12_way 37 = .ok (.iload_n 1, 1) := by decide +kernel
theorem dX12_way_38 : decode cX12_way 38 = .ok (.iload_n 2, 1) := by decide +kernel
theorem dX12_way_39 : decode cX12_way 39 = .ok (.if_icmp .eq 23, 3) := by decide +kernel
theorem dX12_way_42 : decode cX12_way 42 = .ok (.aload_n 0, 1) := by decide +kernel
theorem dX12_way_43 : decode cX12_way 43 = .ok (.iload_n 3, 1) := by decide +kernel
theorem dX12_way_44 : decode cX12_way 44 = .ok (.iconst 1, 1) := by decide +kernel
theorem dX12_way_45 : decode cX12_way 45 = .ok (.bipush 20, 2) := by decide +kernel
theorem dX12_way_47 : decode cX12_way 47 = .ok (.invokevirtual 137, 3) := by decide +kernel
theorem dX12_way_50 : decode cX12_way 50 = .ok (.ifCond .eq 12, 3) := by decide +kernel
theorem dX12_way_53 : decode cX12_way 53 = .ok (.aload_n 0, 1) := by decide +kernel
theorem dX12_way_54 : decode cX12_way 54 = .ok (.getfield 436, 3) := by decide +kernel
theorem dX12_way_57 : decode cX12_way 57 = .ok (.bipush 14, 2) := by decide +kernel
theorem dX12_way_59 : decode cX12_way 59 = .ok (.if_icmp .ne 5, 3) := by decide +kernel
theorem dX12_way_62 : decode cX12_way 62 = .ok (.iconst (-1), 1) := by decide +kernel
theorem dX12_way_63 : decode cX12_way 63 = .ok (.ireturn, 1) := by decide +kernel
theorem dX12_way_64 : decode cX12_way 64 = .ok (.aload_n 0, 1) := by decide +kernel
theorem dX12_way_65 : decode cX12_way 65 = .ok (.getfield 86, 3) := by decide +kernel
theorem dX12_way_68 : decode cX12_way 68 = .ok (.aload_n 0, 1) := by decide +kernel
theorem dX12_way_69 : decode cX12_way 69 = .ok (.getfield 436, 3) := by decide +kernel
theorem dX12_way_72 : decode cX12_way 72 = .ok (.iload_n 1, 1) := by decide +kernel
theorem dX12_way_73 : decode cX12_way 73 = .ok (.iastore, 1) := by decide +kernel
theorem dX12_way_74 : decode cX12_way 74 = .ok (.aload_n 0, 1) := by decide +kernel
theorem dX12_way_75 : decode cX12_way 75 = .ok (.getfield 89, 3) := by decide +kernel
theorem dX12_way_78 : decode cX12_way 78 = .ok (.aload_n 0, 1) := by decide +kernel
theorem dX12_way_79 : decode cX12_way 79 = .ok (.getfield 436, 3) := by decide +kernel
theorem dX12_way_82 : decode cX12_way 82 = .ok (.iload_n 2, 1) := by decide +kernel
theorem dX12_way_83 : decode cX12_way 83 = .ok (.iastore, 1) := by decide +kernel
theorem dX12_way_84 : decode cX12_way 84 = .ok (.aload_n 0, 1) := by decide +kernel
theorem dX12_way_85 : decode cX12_way 85 = .ok (.getfield 92, 3) := by decide +kernel
theorem dX12_way_88 : decode cX12_way 88 = .ok (.aload_n 0, 1) := by decide +kernel
theorem dX12_way_89 : decode cX12_way 89 = .ok (.getfield 436, 3) := by decide +kernel
theorem dX12_way_92 : decode cX12_way 92 = .ok (.iload_n 3, 1) := by decide +kernel
theorem dX12_way_93 : decode cX12_way 93 = .ok (.iastore, 1) := by decide +kernel
theorem dX12_way_94 : decode cX12_way 94 = .ok (.aload_n 0, 1) := by decide +kernel
theorem dX12_way_95 : decode cX12_way 95 = .ok (.aload_n 0, 1) := by decide +kernel
theorem dX12_way_96 : decode cX12_way 96 = .ok (.getfield 436, 3) := by decide +kernel
theorem dX12_way_99 : decode cX12_way 99 = .ok (.iconst 1, 1) := by decide +kernel
theorem dX12_way_100 : decode cX12_way 100 = .ok (.iadd, 1) := by decide +kernel
theorem dX12_way_101 : decode cX12_way 101 = .ok (.putfield 436, 3) := by decide +kernel
theorem dX12_way_104 : decode cX12_way 104 = .ok (.aload_n 0, 1) := by decide +kernel
theorem dX12_way_105 : decode cX12_way 105 = .ok (.getfield 436, 3) := by decide +kernel
theorem dX12_way_108 : decode cX12_way 108 = .ok (.ireturn, 1) := by decide +kernel
set_option maxRecDepth 100000 in
set_option maxHeartbeats 4000000 in
theorem w_X12_way {fr : Nat} (hfr : 1 ≤ fr) (Z : AZ) (X : AX Z cX12_way 4 RX12 (some .int) 1 fr) (x1 : Int32) (x2 : Int32) (x3 : Int32) (s : Mem) (r : Int32 × Mem) (hz : zres Z = (some (.int r.1), r.2)) (h : f_X12_way x1 x2 x3 s = some r) : AW Z s 0 [some (.ref (zr Z 0)), some (.int x1), some (.int x2), some (.int x3)] [] := by
  unfold f_X12_way at h
  refine aw_aload_n X dX12_way_0 rfl ?_
  refine aw_iconst (v := 0) X dX12_way_1 (by decide) ?_
  refine aw_put X dX12_way_2 fp_RX12_122 iu_RX12 gu_RX12_0 rfl rfl ?_
  refine aw_iload_n X dX12_way_5 rfl ?_
  refine aw_iconst (v := (-1)) X dX12_way_6 (by decide) ?_
  refine aw_icmp_ne (tgt := 17) X dX12_way_7 (by decide) (fun c1 => ?_) (fun c1 => ?_)
  · rw [if_neg c1] at h
    refine aw_aload_n X dX12_way_17 rfl ?_
    refine aw_iload_n X dX12_way_18 rfl ?_
    refine aw_iconst (v := 0) X dX12_way_19 (by decide) ?_
    refine aw_iconst (v := 5) X dX12_way_20 (by decide) ?_
    obtain ⟨r2, er2, h⟩ := bnd h
    refine aw_callV X dX12_way_21 cv_RX12_137 (ok_X12_isIn er2 _ _ _ _ _) iu_RX12 rfl (Nat.le_trans (by decide) hfr) (by decide) rfl rfl (Nat.le_of_ble_eq_true rfl) ?_
    refine aw_if_eq (tgt := 62) X dX12_way_24 (by decide) (fun c3 => ?_) (fun c3 => ?_)
    · rw [if_pos c3] at h
      refine aw_iconst (v := (-1)) X dX12_way_62 (by decide) ?_
      cases h
      exact aw_iret X dX12_way_63 rfl hz.symm
    · rw [if_neg c3] at h
      refine aw_aload_n X dX12_way_27 rfl ?_
      refine aw_iload_n X dX12_way_28 rfl ?_
      refine aw_iconst (v := 0) X dX12_way_29 (by decide) ?_
      refine aw_iconst (v := 5) X dX12_way_30 (by decide) ?_
      obtain ⟨r4, er4, h⟩ := bnd h
      refine aw_callV X dX12_way_31 cv_RX12_137 (ok_X12_isIn er4 _ _ _ _ _) iu_RX12 rfl (Nat.le_trans (by decide) hfr) (by decide) rfl rfl (Nat.le_of_ble_eq_true rfl) ?_
      refine aw_if_eq (tgt := 62) X dX12_way_34 (by decide) (fun c5 => ?_) (fun c5 => ?_)
      · rw [if_pos c5] at h
        refine aw_iconst (v := (-1)) X dX12_way_62 (by decide) ?_
        cases h
        exact aw_iret X dX12_way_63 rfl hz.symm
      · rw [if_neg c5] at h
        refine aw_iload_n X dX12_way_37 rfl ?_
        refine aw_iload_n X dX12_way_38 rfl ?_
        refine aw_icmp_eq (tgt := 62) X dX12_way_39 (by decide) (fun c6 => ?_) (fun c6 => ?_)
        · rw [if_pos c6] at h
          refine aw_iconst (v := (-1)) X dX12_way_62 (by decide) ?_
          cases h
          exact aw_iret X dX12_way_63 rfl hz.symm
        · rw [if_neg c6] at h
          refine aw_aload_n X dX12_way_42 rfl ?_
          refine aw_iload_n X dX12_way_43 rfl ?_
          refine aw_iconst (v := 1) X dX12_way_44 (by decide) ?_
          refine aw_bipush (v := 20) X dX12_way_45 (by decide) ?_
          obtain ⟨r7, er7, h⟩ := bnd h
          refine aw_callV X dX12_way_47 cv_RX12_137 (ok_X12_isIn er7 _ _ _ _ _) iu_RX12 rfl (Nat.le_trans (by decide) hfr) (by decide) rfl rfl (Nat.le_of_ble_eq_true rfl) ?_
          refine aw_if_eq (tgt := 62) X dX12_way_50 (by decide) (fun c8 => ?_) (fun c8 => ?_)
          · rw [if_pos c8] at h
            refine aw_iconst (v := (-1)) X dX12_way_62 (by decide) ?_
            cases h
            exact aw_iret X dX12_way_63 rfl hz.symm
          · rw [if_neg c8] at h
            refine aw_aload_n X dX12_way_53 rfl ?_
            refine aw_geti X dX12_way_54 fl_RX12_436 iu_RX12 gu_RX12_46 ?_
            refine aw_bipush (v := 14) X dX12_way_57 (by decide) ?_
            refine aw_icmp_ne (tgt := 64) X dX12_way_59 (by decide) (fun c9 => ?_) (fun c9 => ?_)
            · rw [if_neg c9] at h
              refine aw_aload_n X dX12_way_64 rfl ?_
              refine aw_getr X dX12_way_65 fl_RX12_86 iu_RX12 gu_RX12_47 ?_
              refine aw_aload_n X dX12_way_68 rfl ?_
              refine aw_geti X dX12_way_69 fl_RX12_436 iu_RX12 gu_RX12_46 ?_
              refine aw_iload_n X dX12_way_72 rfl ?_
              obtain ⟨s10, es10, h⟩ := bnd h
              refine aw_iast X dX12_way_73 iu_RX12_47 es10 ?_
              refine aw_aload_n X dX12_way_74 rfl ?_
              refine aw_getr X dX12_way_75 fl_RX12_89 iu_RX12 gu_RX12_48 ?_
              refine aw_aload_n X dX12_way_78 rfl ?_
              refine aw_geti X dX12_way_79 fl_RX12_436 iu_RX12 gu_RX12_46 ?_
              refine aw_iload_n X dX12_way_82 rfl ?_
              obtain ⟨s11, es11, h⟩ := bnd h
              refine aw_iast X dX12_way_83 iu_RX12_48 es11 ?_
              refine aw_aload_n X dX12_way_84 rfl ?_
              refine aw_getr X dX12_way_85 fl_RX12_92 iu_RX12 gu_RX12_49 ?_
              refine aw_aload_n X dX12_way_88 rfl ?_
              refine aw_geti X dX12_way_89 fl_RX12_436 iu_RX12 gu_RX12_46 ?_
              refine aw_iload_n X dX12_way_92 rfl ?_
              obtain ⟨s12, es12, h⟩ := bnd h
              refine aw_iast X dX12_way_93 iu_RX12_49 es12 ?_
              refine aw_aload_n X dX12_way_94 rfl ?_
              refine aw_aload_n X dX12_way_95 rfl ?_
              refine aw_geti X dX12_way_96 fl_RX12_436 iu_RX12 gu_RX12_46 ?_
              refine aw_iconst (v := 1) X dX12_way_99 (by decide) ?_
              refine aw_iadd X dX12_way_100 ?_
              refine aw_put X dX12_way_101 fp_RX12_436 iu_RX12 gu_RX12_46 rfl rfl ?_
              refine aw_aload_n X dX12_way_104 rfl ?_
              refine aw_geti X dX12_way_105 fl_RX12_436 iu_RX12 gu_RX12_46 ?_
              cases h
              exact aw_iret X dX12_way_108 rfl hz.symm
            · rw [if_pos c9] at h
              refine aw_iconst (v := (-1)) X dX12_way_62 (by decide) ?_
              cases h
              exact aw_iret X dX12_way_63 rfl hz.symm
  · rw [if_pos c1] at h
    refine aw_aload_n X dX12_way_10 rfl ?_
    refine aw_iconst (v := 0) X dX12_way_11 (by decide) ?_
    refine aw_put X dX12_way_12 fp_RX12_436 iu_RX12 gu_RX12_46 rfl rfl ?_
    refine aw_iconst (v := 0) X dX12_way_15 (by decide) ?_
    cases h
    exact aw_iret X dX12_way_16 rfl hz.symm
set_option maxRecDepth 100000 in
set_option maxHeartbeats 4000000 in
theorem ok_X12_way {x1 x2 x3 : Int32} {s : Mem} {r : Int32 × Mem} (h : f_X12_way x1 x2 x3 s = some r) (l : Launch) (D : va_G) (ρ : Nat → Nat) (cA : ClassId × ClassId × ClassId) (τ : AT) : AM l D ρ cA 1 τ yX12_way cX12_way 4 (some .int) 1 [.ref (ρ 0), .int x1, .int x2, .int x3] (some (.int r.1)) s r.2 := by
  refine AM_of (L := [some (.ref (ρ 0)), some (.int x1), some (.int x2), some (.int x3)]) (by decide) (by simp [Value.category]) (Nat.le_of_ble_eq_true rfl) (fun j v q => ?_) (fun Z X hρ hz hτ => ?_)
  · exact aL_ok (n := 0) [.ref (ρ 0), .int x1, .int x2, .int x3] j v q
  · subst hρ
    subst hτ
    exact w_X12_way (Nat.le_refl _) Z X x1 x2 x3 s r hz h

theorem dX12_gossip_0 : decode cX12_gossip 0 = .ok (.aload_n 0, 1) := by decide +kernel
theorem dX12_gossip_1 : decode cX12_gossip 1 = .ok (.iconst 0, 1) := by decide +kernel
theorem dX12_gossip_2 : decode cX12_gossip 2 = .ok (.putfield 122, 3) := by decide +kernel
theorem dX12_gossip_5 : decode cX12_gossip 5 = .ok (.aload_n 0, 1) := by decide +kernel
theorem dX12_gossip_6 : decode cX12_gossip 6 = .ok (.iload_n 1, 1) := by decide +kernel
theorem dX12_gossip_7 : decode cX12_gossip 7 = .ok (.iconst 0, 1) := by decide +kernel
theorem dX12_gossip_8 : decode cX12_gossip 8 = .ok (.iconst 5, 1) := by decide +kernel
theorem dX12_gossip_9 : decode cX12_gossip 9 = .ok (.invokevirtual 137, 3) := by decide +kernel
theorem dX12_gossip_12 : decode cX12_gossip 12 = .ok (.ifCond .eq 28, 3) := by decide +kernel
theorem dX12_gossip_15 : decode cX12_gossip 15 = .ok (.aload_n 0, 1) := by decide +kernel
theorem dX12_gossip_16 : decode cX12_gossip 16 = .ok (.iload_n 2, 1) := by decide +kernel
theorem dX12_gossip_17 : decode cX12_gossip 17 = .ok (.iconst 0, 1) := by decide +kernel
theorem dX12_gossip_18 : decode cX12_gossip 18 = .ok (.iconst 5, 1) := by decide +kernel
theorem dX12_gossip_19 : decode cX12_gossip 19 = .ok (.invokevirtual 137, 3) := by decide +kernel
theorem dX12_gossip_22 : decode cX12_gossip 22 = .ok (.ifCond .eq 18, 3) := by decide +kernel
theorem dX12_gossip_25 : decode cX12_gossip 25 = .ok (.iload_n 1, 1) := by decide +kernel
theorem dX12_gossip_26 : decode cX12_gossip 26 = .ok (.iload_n 2, 1) := by decide +kernel
theorem dX12_gossip_27 : decode cX12_gossip 27 = .ok (.if_icmp .eq 13, 3) := by decide +kernel
theorem dX12_gossip_30 : decode cX12_gossip 30 = .ok (.aload_n 0, 1) := by decide +kernel
theorem dX12_gossip_31 : decode cX12_gossip 31 = .ok (.iload_n 3, 1) := by decide +kernel
theorem dX12_gossip_32 : decode cX12_gossip 32 = .ok (.iconst 0, 1) := by decide +kernel
theorem dX12_gossip_33 : decode cX12_gossip 33 = .ok (.iconst 1, 1) := by decide +kernel
theorem dX12_gossip_34 : decode cX12_gossip 34 = .ok (.invokevirtual 137, 3) := by decide +kernel
theorem dX12_gossip_37 : decode cX12_gossip 37 = .ok (.ifCond .ne 5, 3) := by decide +kernel
theorem dX12_gossip_40 : decode cX12_gossip 40 = .ok (.iconst (-1), 1) := by decide +kernel
theorem dX12_gossip_41 : decode cX12_gossip 41 = .ok (.ireturn, 1) := by decide +kernel
theorem dX12_gossip_42 : decode cX12_gossip 42 = .ok (.ldc_w 439, 3) := by decide +kernel
theorem dX12_gossip_45 : decode cX12_gossip 45 = .ok (.istore 4, 2) := by decide +kernel
theorem dX12_gossip_47 : decode cX12_gossip 47 = .ok (.iconst 0, 1) := by decide +kernel
theorem dX12_gossip_48 : decode cX12_gossip 48 = .ok (.istore 5, 2) := by decide +kernel
theorem dX12_gossip_50 : decode cX12_gossip 50 = .ok (.iload 5, 2) := by decide +kernel
theorem dX12_gossip_52 : decode cX12_gossip 52 = .ok (.bipush 64, 2) := by decide +kernel
theorem dX12_gossip_54 : decode cX12_gossip 54 = .ok (.if_icmp .ge 115, 3) := by decide +kernel
theorem dX12_gossip_57 : decode cX12_gossip 57 = .ok (.aload_n 0, 1) := by decide +kernel
theorem dX12_gossip_58 : decode cX12_gossip 58 = .ok (.iload 5, 2) := by decide +kernel
theorem dX12_gossip_60 : decode cX12_gossip 60 = .ok (.iload_n 1, 1) := by decide +kernel
theorem dX12_gossip_61 : decode cX12_gossip 61 = .ok (.invokevirtual 314, 3) := by decide +kernel
theorem dX12_gossip_64 : decode cX12_gossip 64 = .ok (.ifCond .eq 99, 3) := by decide +kernel
theorem dX12_gossip_67 : decode cX12_gossip 67 = .ok (.aload_n 0, 1) := by decide +kernel
theorem dX12_gossip_68 : decode cX12_gossip 68 = .ok (.iload 5, 2) := by decide +kernel
theorem dX12_gossip_70 : decode cX12_gossip 70 = .ok (.iload_n 2, 1) := by decide +kernel
theorem dX12_gossip_71 : decode cX12_gossip 71 = .ok (.invokevirtual 314, 3) := by decide +kernel
theorem dX12_gossip_74 : decode cX12_gossip 74 = .ok (.ifCond .eq 6, 3) := by decide +kernel
theorem dX12_gossip_77 : decode cX12_gossip 77 = .ok (.goto 86, 3) := by decide +kernel
theorem dX12_gossip_80 : decode cX12_gossip 80 = .ok (.iconst 0, 1) := by decide +kernel
theorem dX12_gossip_81 : decode cX12_gossip 81 = .ok (.istore 6, 2) := by decide +kernel
theorem dX12_gossip_83 : decode cX12_gossip 83 = .ok (.iconst 0, 1) := by decide +kernel
theorem dX12_gossip_84 : decode cX12_gossip 84 = .ok (.istore 7, 2) := by decide +kernel
theorem dX12_gossip_86 : decode cX12_gossip 86 = .ok (.iload 7, 2) := by decide +kernel
theorem dX12_gossip_88 : decode cX12_gossip 88 = .ok (.aload_n 0, 1) := by decide +kernel
theorem dX12_gossip_89 : decode cX12_gossip 89 = .ok (.getfield 436, 3) := by decide +kernel
theorem dX12_gossip_92 : decode cX12_gossip 92 = .ok (.if_icmp .ge 61, 3) := by decide +kernel
theorem dX12_gossip_95 : decode cX12_gossip 95 = .ok (.aload_n 0, 1) := by decide +kernel
theorem dX12_gossip_96 : decode cX12_gossip 96 = .ok (.iload 5, 2) := by decide +kernel
theorem dX12_gossip_98 : decode cX12_gossip 98 = .ok (.aload_n 0, 1) := by decide +kernel
theorem dX12_gossip_99 : decode cX12_gossip 99 = .ok (.getfield 86, 3) := by decide +kernel
theorem dX12_gossip_102 : decode cX12_gossip 102 = .ok (.iload 7, 2) := by decide +kernel
theorem dX12_gossip_104 : decode cX12_gossip 104 = .ok (.iaload, 1) := by decide +kernel
theorem dX12_gossip_105 : decode cX12_gossip 105 = .ok (.invokevirtual 314, 3) := by decide +kernel
theorem dX12_gossip_108 : decode cX12_gossip 108 = .ok (.ifCond .eq 39, 3) := by decide +kernel
theorem dX12_gossip_111 : decode cX12_gossip 111 = .ok (.aload_n 0, 1) := by decide +kernel
theorem dX12_gossip_112 : decode cX12_gossip 112 = .ok (.iload 5, 2) := by decide +kernel
theorem dX12_gossip_114 : decode cX12_gossip 114 = .ok (.aload_n 0, 1) := by decide +kernel
theorem dX12_gossip_115 : decode cX12_gossip 115 = .ok (.getfield 89, 3) := by decide +kernel
theorem dX12_gossip_118 : decode cX12_gossip 118 = .ok (.iload 7, 2) := by decide +kernel
theorem dX12_gossip_120 : decode cX12_gossip 120 = .ok (.iaload, 1) := by decide +kernel
theorem dX12_gossip_121 : decode cX12_gossip 121 = .ok (.invokevirtual 314, 3) := by decide +kernel
theorem dX12_gossip_124 : decode cX12_gossip 124 = .ok (.ifCond .ne 23, 3) := by decide +kernel
theorem dX12_gossip_127 : decode cX12_gossip 127 = .ok (.iload 6, 2) := by decide +kernel
theorem dX12_gossip_129 : decode cX12_gossip 129 = .ok (.iload_n 3, 1) := by decide +kernel
theorem dX12_gossip_130 : decode cX12_gossip 130 = .ok (.ifCond .ne 13, 3) := by decide +kernel
theorem dX12_gossip_133 : decode cX12_gossip 133 = .ok (.aload_n 0, 1) := by decide +kernel
theorem dX12_gossip_134 : decode cX12_gossip 134 = .ok (.getfield 92, 3) := by decide +kernel
theorem dX12_gossip_137 : decode cX12_gossip 137 = .ok (.iload 7, 2) := by decide +kernel
theorem dX12_gossip_139 : decode cX12_gossip 139 = .ok (.iaload, 1) := by decide +kernel
theorem dX12_gossip_140 : decode cX12_gossip 140 = .ok (.goto 4, 3) := by decide +kernel
theorem dX12_gossip_143 : decode cX12_gossip 143 = .ok (.iconst 1, 1) := by decide +kernel
theorem dX12_gossip_144 : decode cX12_gossip 144 = .ok (.iadd, 1) := by decide +kernel
theorem dX12_gossip_145 : decode cX12_gossip 145 = .ok (.istore 6, 2) := by decide +kernel
theorem dX12_gossip_147 : decode cX12_gossip 147 = .ok (.iinc 7 1, 3) := by decide +kernel
theorem dX12_gossip_150 : decode cX12_gossip 150 = .ok (.goto (-64), 3) := by decide +kernel
theorem dX12_gossip_153 : decode cX12_gossip 153 = .ok (.aload_n 0, 1) := by decide +kernel
theorem dX12_gossip_154 : decode cX12_gossip 154 = .ok (.iload 4, 2) := by decide +kernel
theorem dX12_gossip_156 : decode cX12_gossip 156 = .ok (.iload 6, 2) := by decide +kernel
theorem dX12_gossip_158 : decode cX12_gossip 158 = .ok (.invokevirtual 346, 3) := by decide +kernel
theorem dX12_gossip_161 : decode cX12_gossip 161 = .ok (.istore 4, 2) := by decide +kernel
theorem dX12_gossip_163 : decode cX12_gossip 163 = .ok (.iinc 5 1, 3) := by decide +kernel
theorem dX12_gossip_166 : decode cX12_gossip 166 = .ok (.goto (-116), 3) := by decide +kernel
theorem dX12_gossip_169 : decode cX12_gossip 169 = .ok (.iload 4, 2) := by decide +kernel
theorem dX12_gossip_171 : decode cX12_gossip 171 = .ok (.ireturn, 1) := by decide +kernel
set_option maxRecDepth 100000 in
set_option maxHeartbeats 4000000 in
theorem so_X12_gossip_86 {fr : Nat} (hfr : 1 ≤ fr) (Z : AZ) (X : AX Z cX12_gossip 8 RX12 (some .int) 1 fr) (x1 : Int32) (x2 : Int32) (x3 : Int32) (x4 : Int32) (x5 : Int32) (x6 : Int32) (x7 : Int32) (s : Mem) (q : (Int32 × Int32 × Mem) ⊕ (Int32 × Mem)) (h : st_X12_gossip_86 x1 x2 x3 x4 x5 x6 x7 s = some q) (hi : ∀ y : Int32 × Int32 × Mem, q = .inl y → AW Z y.2.2 86 [some (.ref (zr Z 0)), some (.int x1), some (.int x2), some (.int x3), some (.int x4), some (.int x5), some (.int y.1), some (.int y.2.1)] []) (he : ∀ b : Int32 × Mem, q = .inr b → AW Z b.2 153 [some (.ref (zr Z 0)), some (.int x1), some (.int x2), some (.int x3), some (.int x4), some (.int x5), some (.int b.1), none] []) : AW Z s 86 [some (.ref (zr Z 0)), some (.int x1), some (.int x2), some (.int x3), some (.int x4), some (.int x5), some (.int x6), some (.int x7)] [] := by
  unfold st_X12_gossip_86 at h
  refine aw_iload X dX12_gossip_86 rfl ?_
  refine aw_aload_n X dX12_gossip_88 rfl ?_
  refine aw_geti X dX12_gossip_89 fl_RX12_436 iu_RX12 gu_RX12_46 ?_
  refine aw_icmp_ge (tgt := 153) X dX12_gossip_92 (by decide) (fun c13 => ?_) (fun c13 => ?_)
  · rw [if_pos c13] at h
    cases h
    refine aw_msk [true, true, true, true, true, true, true, false] ?_
    exact he _ rfl
  · rw [if_neg c13] at h
    refine aw_aload_n X dX12_gossip_95 rfl ?_
    refine aw_iload X dX12_gossip_96 rfl ?_
    refine aw_aload_n X dX12_gossip_98 rfl ?_
    refine aw_getr X dX12_gossip_99 fl_RX12_86 iu_RX12 gu_RX12_47 ?_
    refine aw_iload X dX12_gossip_102 rfl ?_
    obtain ⟨v14, ev14, h⟩ := bnd h
    refine aw_iald X dX12_gossip_104 iu_RX12_47 ev14 ?_
    obtain ⟨r15, er15, h⟩ := bnd h
    refine aw_callV X dX12_gossip_105 cv_RX12_314 (ok_X12_has er15 _ _ _ _ _) iu_RX12 rfl (Nat.le_trans (by decide) hfr) (by decide) rfl rfl (Nat.le_of_ble_eq_true rfl) ?_
    refine aw_if_eq (tgt := 147) X dX12_gossip_108 (by decide) (fun c16 => ?_) (fun c16 => ?_)
    · rw [if_pos c16] at h
      refine aw_iinc (v := (x7 + 1)) (L' := [some (.ref (zr Z 0)), some (.int x1), some (.int x2), some (.int x3), some (.int x4), some (.int x5), some (.int x6), some (.int (x7 + 1))]) X dX12_gossip_147 rfl rfl (by decide) rfl ?_
      refine aw_goto (tgt := 86) X dX12_gossip_150 (by decide) ?_
      cases h
      refine aw_msk [true, true, true, true, true, true, true, true] ?_
      exact hi _ rfl
    · rw [if_neg c16] at h
      refine aw_aload_n X dX12_gossip_111 rfl ?_
      refine aw_iload X dX12_gossip_112 rfl ?_
      refine aw_aload_n X dX12_gossip_114 rfl ?_
      refine aw_getr X dX12_gossip_115 fl_RX12_89 iu_RX12 gu_RX12_48 ?_
      refine aw_iload X dX12_gossip_118 rfl ?_
      obtain ⟨v17, ev17, h⟩ := bnd h
      refine aw_iald X dX12_gossip_120 iu_RX12_48 ev17 ?_
      obtain ⟨r18, er18, h⟩ := bnd h
      refine aw_callV X dX12_gossip_121 cv_RX12_314 (ok_X12_has er18 _ _ _ _ _) iu_RX12 rfl (Nat.le_trans (by decide) hfr) (by decide) rfl rfl (Nat.le_of_ble_eq_true rfl) ?_
      refine aw_if_ne (tgt := 147) X dX12_gossip_124 (by decide) (fun c19 => ?_) (fun c19 => ?_)
      · rw [if_neg c19] at h
        refine aw_iinc (v := (x7 + 1)) (L' := [some (.ref (zr Z 0)), some (.int x1), some (.int x2), some (.int x3), some (.int x4), some (.int x5), some (.int x6), some (.int (x7 + 1))]) X dX12_gossip_147 rfl rfl (by decide) rfl ?_
        refine aw_goto (tgt := 86) X dX12_gossip_150 (by decide) ?_
        cases h
        refine aw_msk [true, true, true, true, true, true, true, true] ?_
        exact hi _ rfl
      · rw [if_pos c19] at h
        refine aw_iload X dX12_gossip_127 rfl ?_
        refine aw_iload_n X dX12_gossip_129 rfl ?_
        refine aw_if_ne (tgt := 143) X dX12_gossip_130 (by decide) (fun c20 => ?_) (fun c20 => ?_)
        · rw [if_neg c20] at h
          refine aw_iconst (v := 1) X dX12_gossip_143 (by decide) ?_
          refine aw_iadd X dX12_gossip_144 ?_
          refine aw_istore (L' := [some (.ref (zr Z 0)), some (.int x1), some (.int x2), some (.int x3), some (.int x4), some (.int x5), some (.int (x6 + 1)), some (.int x7)]) X dX12_gossip_145 (by decide) rfl ?_
          refine aw_iinc (v := (x7 + 1)) (L' := [some (.ref (zr Z 0)), some (.int x1), some (.int x2), some (.int x3), some (.int x4), some (.int x5), some (.int (x6 + 1)), some (.int (x7 + 1))]) X dX12_gossip_147 rfl rfl (by decide) rfl ?_
          refine aw_goto (tgt := 86) X dX12_gossip_150 (by decide) ?_
          cases h
          refine aw_msk [true, true, true, true, true, true, true, true] ?_
          exact hi _ rfl
        · rw [if_pos c20] at h
          refine aw_aload_n X dX12_gossip_133 rfl ?_
          refine aw_getr X dX12_gossip_134 fl_RX12_92 iu_RX12 gu_RX12_49 ?_
          refine aw_iload X dX12_gossip_137 rfl ?_
          obtain ⟨v21, ev21, h⟩ := bnd h
          refine aw_iald X dX12_gossip_139 iu_RX12_49 ev21 ?_
          refine aw_goto (tgt := 144) X dX12_gossip_140 (by decide) ?_
          refine aw_iadd X dX12_gossip_144 ?_
          refine aw_istore (L' := [some (.ref (zr Z 0)), some (.int x1), some (.int x2), some (.int x3), some (.int x4), some (.int x5), some (.int (x6 + v21)), some (.int x7)]) X dX12_gossip_145 (by decide) rfl ?_
          refine aw_iinc (v := (x7 + 1)) (L' := [some (.ref (zr Z 0)), some (.int x1), some (.int x2), some (.int x3), some (.int x4), some (.int x5), some (.int (x6 + v21)), some (.int (x7 + 1))]) X dX12_gossip_147 rfl rfl (by decide) rfl ?_
          refine aw_goto (tgt := 86) X dX12_gossip_150 (by decide) ?_
          cases h
          refine aw_msk [true, true, true, true, true, true, true, true] ?_
          exact hi _ rfl
set_option maxRecDepth 100000 in
set_option maxHeartbeats 4000000 in
theorem so_X12_gossip_50 {fr : Nat} (hfr : 1 ≤ fr) (Z : AZ) (X : AX Z cX12_gossip 8 RX12 (some .int) 1 fr) (x1 : Int32) (x2 : Int32) (x3 : Int32) (x4 : Int32) (x5 : Int32) (s : Mem) (q : (Int32 × Int32 × Mem) ⊕ (Int32 × Mem)) (h : st_X12_gossip_50 x1 x2 x3 x4 x5 s = some q) (hi : ∀ y : Int32 × Int32 × Mem, q = .inl y → AW Z y.2.2 50 [some (.ref (zr Z 0)), some (.int x1), some (.int x2), some (.int x3), some (.int y.1), some (.int y.2.1), none, none] []) (he : ∀ b : Int32 × Mem, q = .inr b → AW Z b.2 169 [none, none, none, none, some (.int b.1), none, none, none] []) : AW Z s 50 [some (.ref (zr Z 0)), some (.int x1), some (.int x2), some (.int x3), some (.int x4), some (.int x5), none, none] [] := by
  unfold st_X12_gossip_50 at h
  refine aw_iload X dX12_gossip_50 rfl ?_
  refine aw_bipush (v := 64) X dX12_gossip_52 (by decide) ?_
  refine aw_icmp_ge (tgt := 169) X dX12_gossip_54 (by decide) (fun c8 => ?_) (fun c8 => ?_)
  · rw [if_pos c8] at h
    cases h
    refine aw_msk [false, false, false, false, true, false, false, false] ?_
    exact he _ rfl
  · rw [if_neg c8] at h
    refine aw_aload_n X dX12_gossip_57 rfl ?_
    refine aw_iload X dX12_gossip_58 rfl ?_
    refine aw_iload_n X dX12_gossip_60 rfl ?_
    obtain ⟨r9, er9, h⟩ := bnd h
    refine aw_callV X dX12_gossip_61 cv_RX12_314 (ok_X12_has er9 _ _ _ _ _) iu_RX12 rfl (Nat.le_trans (by decide) hfr) (by decide) rfl rfl (Nat.le_of_ble_eq_true rfl) ?_
    refine aw_if_eq (tgt := 163) X dX12_gossip_64 (by decide) (fun c10 => ?_) (fun c10 => ?_)
    · rw [if_pos c10] at h
      refine aw_iinc (v := (x5 + 1)) (L' := [some (.ref (zr Z 0)), some (.int x1), some (.int x2), some (.int x3), some (.int x4), some (.int (x5 + 1)), none, none]) X dX12_gossip_163 rfl rfl (by decide) rfl ?_
      refine aw_goto (tgt := 50) X dX12_gossip_166 (by decide) ?_
      cases h
      refine aw_msk [true, true, true, true, true, true, false, false] ?_
      exact hi _ rfl
    · rw [if_neg c10] at h
      refine aw_aload_n X dX12_gossip_67 rfl ?_
      refine aw_iload X dX12_gossip_68 rfl ?_
      refine aw_iload_n X dX12_gossip_70 rfl ?_
      obtain ⟨r11, er11, h⟩ := bnd h
      refine aw_callV X dX12_gossip_71 cv_RX12_314 (ok_X12_has er11 _ _ _ _ _) iu_RX12 rfl (Nat.le_trans (by decide) hfr) (by decide) rfl rfl (Nat.le_of_ble_eq_true rfl) ?_
      refine aw_if_eq (tgt := 80) X dX12_gossip_74 (by decide) (fun c12 => ?_) (fun c12 => ?_)
      · rw [if_pos c12] at h
        refine aw_iconst (v := 0) X dX12_gossip_80 (by decide) ?_
        refine aw_istore (L' := [some (.ref (zr Z 0)), some (.int x1), some (.int x2), some (.int x3), some (.int x4), some (.int x5), some (.int 0), none]) X dX12_gossip_81 (by decide) rfl ?_
        refine aw_iconst (v := 0) X dX12_gossip_83 (by decide) ?_
        refine aw_istore (L' := [some (.ref (zr Z 0)), some (.int x1), some (.int x2), some (.int x3), some (.int x4), some (.int x5), some (.int 0), some (.int 0)]) X dX12_gossip_84 (by decide) rfl ?_
        obtain ⟨r22, er22, h⟩ := bnd h
        refine aw_msk [true, true, true, true, true, true, true, true] ?_
        refine it_ok (P := fun y : Int32 × Int32 × Mem => AW Z y.2.2 86 [some (.ref (zr Z 0)), some (.int x1), some (.int x2), some (.int x3), some (.int x4), some (.int x5), some (.int y.1), some (.int y.2.1)] []) (Q := fun b : Int32 × Mem => AW Z b.2 153 [some (.ref (zr Z 0)), some (.int x1), some (.int x2), some (.int x3), some (.int x4), some (.int x5), some (.int b.1), none] []) (fun y q hq hi he => so_X12_gossip_86 hfr Z X x1 x2 x3 x4 x5 y.1 y.2.1 y.2.2 q hq hi he) FUEL _ _ er22 ?_
        refine aw_aload_n X dX12_gossip_153 rfl ?_
        refine aw_iload X dX12_gossip_154 rfl ?_
        refine aw_iload X dX12_gossip_156 rfl ?_
        obtain ⟨r23, er23, h⟩ := bnd h
        refine aw_callV X dX12_gossip_158 cv_RX12_346 (ok_X12_lesser er23 _ _ _ _ _) iu_RX12 rfl (Nat.le_trans (by decide) hfr) (by decide) rfl rfl (Nat.le_of_ble_eq_true rfl) ?_
        refine aw_istore (L' := [some (.ref (zr Z 0)), some (.int x1), some (.int x2), some (.int x3), some (.int r23.1), some (.int x5), some (.int r22.1), none]) X dX12_gossip_161 (by decide) rfl ?_
        refine aw_iinc (v := (x5 + 1)) (L' := [some (.ref (zr Z 0)), some (.int x1), some (.int x2), some (.int x3), some (.int r23.1), some (.int (x5 + 1)), some (.int r22.1), none]) X dX12_gossip_163 rfl rfl (by decide) rfl ?_
        refine aw_goto (tgt := 50) X dX12_gossip_166 (by decide) ?_
        cases h
        refine aw_msk [true, true, true, true, true, true, false, false] ?_
        exact hi _ rfl
      · rw [if_neg c12] at h
        refine aw_goto (tgt := 163) X dX12_gossip_77 (by decide) ?_
        refine aw_iinc (v := (x5 + 1)) (L' := [some (.ref (zr Z 0)), some (.int x1), some (.int x2), some (.int x3), some (.int x4), some (.int (x5 + 1)), none, none]) X dX12_gossip_163 rfl rfl (by decide) rfl ?_
        refine aw_goto (tgt := 50) X dX12_gossip_166 (by decide) ?_
        cases h
        refine aw_msk [true, true, true, true, true, true, false, false] ?_
        exact hi _ rfl
set_option maxRecDepth 100000 in
set_option maxHeartbeats 4000000 in
theorem w_X12_gossip {fr : Nat} (hfr : 1 ≤ fr) (Z : AZ) (X : AX Z cX12_gossip 8 RX12 (some .int) 1 fr) (x1 : Int32) (x2 : Int32) (x3 : Int32) (s : Mem) (r : Int32 × Mem) (hz : zres Z = (some (.int r.1), r.2)) (h : f_X12_gossip x1 x2 x3 s = some r) : AW Z s 0 [some (.ref (zr Z 0)), some (.int x1), some (.int x2), some (.int x3), none, none, none, none] [] := by
  unfold f_X12_gossip at h
  refine aw_aload_n X dX12_gossip_0 rfl ?_
  refine aw_iconst (v := 0) X dX12_gossip_1 (by decide) ?_
  refine aw_put X dX12_gossip_2 fp_RX12_122 iu_RX12 gu_RX12_0 rfl rfl ?_
  refine aw_aload_n X dX12_gossip_5 rfl ?_
  refine aw_iload_n X dX12_gossip_6 rfl ?_
  refine aw_iconst (v := 0) X dX12_gossip_7 (by decide) ?_
  refine aw_iconst (v := 5) X dX12_gossip_8 (by decide) ?_
  obtain ⟨r1, er1, h⟩ := bnd h
  refine aw_callV X dX12_gossip_9 cv_RX12_137 (ok_X12_isIn er1 _ _ _ _ _) iu_RX12 rfl (Nat.le_trans (by decide) hfr) (by decide) rfl rfl (Nat.le_of_ble_eq_true rfl) ?_
  refine aw_if_eq (tgt := 40) X dX12_gossip_12 (by decide) (fun c2 => ?_) (fun c2 => ?_)
  · rw [if_pos c2] at h
    refine aw_iconst (v := (-1)) X dX12_gossip_40 (by decide) ?_
    cases h
    exact aw_iret X dX12_gossip_41 rfl hz.symm
  · rw [if_neg c2] at h
    refine aw_aload_n X dX12_gossip_15 rfl ?_
    refine aw_iload_n X dX12_gossip_16 rfl ?_
    refine aw_iconst (v := 0) X dX12_gossip_17 (by decide) ?_
    refine aw_iconst (v := 5) X dX12_gossip_18 (by decide) ?_
    obtain ⟨r3, er3, h⟩ := bnd h
    refine aw_callV X dX12_gossip_19 cv_RX12_137 (ok_X12_isIn er3 _ _ _ _ _) iu_RX12 rfl (Nat.le_trans (by decide) hfr) (by decide) rfl rfl (Nat.le_of_ble_eq_true rfl) ?_
    refine aw_if_eq (tgt := 40) X dX12_gossip_22 (by decide) (fun c4 => ?_) (fun c4 => ?_)
    · rw [if_pos c4] at h
      refine aw_iconst (v := (-1)) X dX12_gossip_40 (by decide) ?_
      cases h
      exact aw_iret X dX12_gossip_41 rfl hz.symm
    · rw [if_neg c4] at h
      refine aw_iload_n X dX12_gossip_25 rfl ?_
      refine aw_iload_n X dX12_gossip_26 rfl ?_
      refine aw_icmp_eq (tgt := 40) X dX12_gossip_27 (by decide) (fun c5 => ?_) (fun c5 => ?_)
      · rw [if_pos c5] at h
        refine aw_iconst (v := (-1)) X dX12_gossip_40 (by decide) ?_
        cases h
        exact aw_iret X dX12_gossip_41 rfl hz.symm
      · rw [if_neg c5] at h
        refine aw_aload_n X dX12_gossip_30 rfl ?_
        refine aw_iload_n X dX12_gossip_31 rfl ?_
        refine aw_iconst (v := 0) X dX12_gossip_32 (by decide) ?_
        refine aw_iconst (v := 1) X dX12_gossip_33 (by decide) ?_
        obtain ⟨r6, er6, h⟩ := bnd h
        refine aw_callV X dX12_gossip_34 cv_RX12_137 (ok_X12_isIn er6 _ _ _ _ _) iu_RX12 rfl (Nat.le_trans (by decide) hfr) (by decide) rfl rfl (Nat.le_of_ble_eq_true rfl) ?_
        refine aw_if_ne (tgt := 42) X dX12_gossip_37 (by decide) (fun c7 => ?_) (fun c7 => ?_)
        · rw [if_neg c7] at h
          refine aw_ldcw X dX12_gossip_42 kc_RX12_439 ?_
          refine aw_istore (L' := [some (.ref (zr Z 0)), some (.int x1), some (.int x2), some (.int x3), some (.int 100000000), none, none, none]) X dX12_gossip_45 (by decide) rfl ?_
          refine aw_iconst (v := 0) X dX12_gossip_47 (by decide) ?_
          refine aw_istore (L' := [some (.ref (zr Z 0)), some (.int x1), some (.int x2), some (.int x3), some (.int 100000000), some (.int 0), none, none]) X dX12_gossip_48 (by decide) rfl ?_
          obtain ⟨r24, er24, h⟩ := bnd h
          refine aw_msk [true, true, true, true, true, true, false, false] ?_
          refine it_ok (P := fun y : Int32 × Int32 × Mem => AW Z y.2.2 50 [some (.ref (zr Z 0)), some (.int x1), some (.int x2), some (.int x3), some (.int y.1), some (.int y.2.1), none, none] []) (Q := fun b : Int32 × Mem => AW Z b.2 169 [none, none, none, none, some (.int b.1), none, none, none] []) (fun y q hq hi he => so_X12_gossip_50 hfr Z X x1 x2 x3 y.1 y.2.1 y.2.2 q hq hi he) FUEL _ _ er24 ?_
          refine aw_iload X dX12_gossip_169 rfl ?_
          cases h
          exact aw_iret X dX12_gossip_171 rfl hz.symm
        · rw [if_pos c7] at h
          refine aw_iconst (v := (-1)) X dX12_gossip_40 (by decide) ?_
          cases h
          exact aw_iret X dX12_gossip_41 rfl hz.symm
set_option maxRecDepth 100000 in
set_option maxHeartbeats 4000000 in
theorem ok_X12_gossip {x1 x2 x3 : Int32} {s : Mem} {r : Int32 × Mem} (h : f_X12_gossip x1 x2 x3 s = some r) (l : Launch) (D : va_G) (ρ : Nat → Nat) (cA : ClassId × ClassId × ClassId) (τ : AT) : AM l D ρ cA 1 τ yX12_gossip cX12_gossip 8 (some .int) 1 [.ref (ρ 0), .int x1, .int x2, .int x3] (some (.int r.1)) s r.2 := by
  refine AM_of (L := [some (.ref (ρ 0)), some (.int x1), some (.int x2), some (.int x3), none, none, none, none]) (by decide) (by simp [Value.category]) (Nat.le_of_ble_eq_true rfl) (fun j v q => ?_) (fun Z X hρ hz hτ => ?_)
  · exact aL_ok (n := 4) [.ref (ρ 0), .int x1, .int x2, .int x3] j v q
  · subst hρ
    subst hτ
    exact w_X12_gossip (Nat.le_refl _) Z X x1 x2 x3 s r hz h

theorem dX12_term_0 : decode cX12_term 0 = .ok (.aload_n 0, 1) := by decide +kernel
theorem dX12_term_1 : decode cX12_term 1 = .ok (.iconst 0, 1) := by decide +kernel
theorem dX12_term_2 : decode cX12_term 2 = .ok (.putfield 122, 3) := by decide +kernel
theorem dX12_term_5 : decode cX12_term 5 = .ok (.aload_n 0, 1) := by decide +kernel
theorem dX12_term_6 : decode cX12_term 6 = .ok (.iload_n 1, 1) := by decide +kernel
theorem dX12_term_7 : decode cX12_term 7 = .ok (.iconst 0, 1) := by decide +kernel
theorem dX12_term_8 : decode cX12_term 8 = .ok (.iconst 1, 1) := by decide +kernel
theorem dX12_term_9 : decode cX12_term 9 = .ok (.invokevirtual 137, 3) := by decide +kernel
theorem dX12_term_12 : decode cX12_term 12 = .ok (.ifCond .ne 5, 3) := by decide +kernel
theorem dX12_term_15 : decode cX12_term 15 = .ok (.iconst (-1), 1) := by decide +kernel
theorem dX12_term_16 : decode cX12_term 16 = .ok (.ireturn, 1) := by decide +kernel
theorem dX12_term_17 : decode cX12_term 17 = .ok (.iload_n 2, 1) := by decide +kernel
theorem dX12_term_18 : decode cX12_term 18 = .ok (.bipush (-10), 2) := by decide +kernel
theorem dX12_term_20 : decode cX12_term 20 = .ok (.if_icmp .ne 12, 3) := by decide +kernel
theorem dX12_term_23 : decode cX12_term 23 = .ok (.aload_n 0, 1) := by decide +kernel
theorem dX12_term_24 : decode cX12_term 24 = .ok (.getfield 95, 3) := by decide +kernel
theorem dX12_term_27 : decode cX12_term 27 = .ok (.iload_n 1, 1) := by decide +kernel
theorem dX12_term_28 : decode cX12_term 28 = .ok (.iconst 0, 1) := by decide +kernel
theorem dX12_term_29 : decode cX12_term 29 = .ok (.iastore, 1) := by decide +kernel
theorem dX12_term_30 : decode cX12_term 30 = .ok (.iconst 0, 1) := by decide +kernel
theorem dX12_term_31 : decode cX12_term 31 = .ok (.ireturn, 1) := by decide +kernel
theorem dX12_term_32 : decode cX12_term 32 = .ok (.aload_n 0, 1) := by decide +kernel
theorem dX12_term_33 : decode cX12_term 33 = .ok (.iload_n 2, 1) := by decide +kernel
theorem dX12_term_34 : decode cX12_term 34 = .ok (.bipush (-9), 2) := by decide +kernel
theorem dX12_term_36 : decode cX12_term 36 = .ok (.bipush 9, 2) := by decide +kernel
theorem dX12_term_38 : decode cX12_term 38 = .ok (.invokevirtual 137, 3) := by decide +kernel
theorem dX12_term_41 : decode cX12_term 41 = .ok (.ifCond .eq 14, 3) := by decide +kernel
theorem dX12_term_44 : decode cX12_term 44 = .ok (.aload_n 0, 1) := by decide +kernel
theorem dX12_term_45 : decode cX12_term 45 = .ok (.getfield 95, 3) := by decide +kernel
theorem dX12_term_48 : decode cX12_term 48 = .ok (.iload_n 1, 1) := by decide +kernel
theorem dX12_term_49 : decode cX12_term 49 = .ok (.iaload, 1) := by decide +kernel
theorem dX12_term_50 : decode cX12_term 50 = .ok (.bipush 6, 2) := by decide +kernel
theorem dX12_term_52 : decode cX12_term 52 = .ok (.if_icmp .ne 5, 3) := by decide +kernel
theorem dX12_term_55 : decode cX12_term 55 = .ok (.iconst (-1), 1) := by decide +kernel
theorem dX12_term_56 : decode cX12_term 56 = .ok (.ireturn, 1) := by decide +kernel
theorem dX12_term_57 : decode cX12_term 57 = .ok (.aload_n 0, 1) := by decide +kernel
theorem dX12_term_58 : decode cX12_term 58 = .ok (.getfield 98, 3) := by decide +kernel
theorem dX12_term_61 : decode cX12_term 61 = .ok (.bipush 6, 2) := by decide +kernel
theorem dX12_term_63 : decode cX12_term 63 = .ok (.iload_n 1, 1) := by decide +kernel
theorem dX12_term_64 : decode cX12_term 64 = .ok (.imul, 1) := by decide +kernel
theorem dX12_term_65 : decode cX12_term 65 = .ok (.aload_n 0, 1) := by decide +kernel
theorem dX12_term_66 : decode cX12_term 66 = .ok (.getfield 95, 3) := by decide +kernel
theorem dX12_term_69 : decode cX12_term 69 = .ok (.iload_n 1, 1) := by decide +kernel
theorem dX12_term_70 : decode cX12_term 70 = .ok (.iaload, 1) := by decide +kernel
theorem dX12_term_71 : decode cX12_term 71 = .ok (.iadd, 1) := by decide +kernel
theorem dX12_term_72 : decode cX12_term 72 = .ok (.iload_n 2, 1) := by decide +kernel
theorem dX12_term_73 : decode cX12_term 73 = .ok (.iastore, 1) := by decide +kernel
theorem dX12_term_74 : decode cX12_term 74 = .ok (.aload_n 0, 1) := by decide +kernel
theorem dX12_term_75 : decode cX12_term 75 = .ok (.getfield 95, 3) := by decide +kernel
theorem dX12_term_78 : decode cX12_term 78 = .ok (.iload_n 1, 1) := by decide +kernel
theorem dX12_term_79 : decode cX12_term 79 = .ok (.aload_n 0, 1) := by decide +kernel
theorem dX12_term_80 : decode cX12_term 80 = .ok (.getfield 95, 3) := by decide +kernel
theorem dX12_term_83 : decode cX12_term 83 = .ok (.iload_n 1, 1) := by decide +kernel
theorem dX12_term_84 : decode cX12_term 84 = .ok (.iaload, 1) := by decide +kernel
theorem dX12_term_85 : decode cX12_term 85 = .ok (.iconst 1, 1) := by decide +kernel
theorem dX12_term_86 : decode cX12_term 86 = .ok (.iadd, 1) := by decide +kernel
theorem dX12_term_87 : decode cX12_term 87 = .ok (.iastore, 1) := by decide +kernel
theorem dX12_term_88 : decode cX12_term 88 = .ok (.aload_n 0, 1) := by decide +kernel
theorem dX12_term_89 : decode cX12_term 89 = .ok (.getfield 95, 3) := by decide +kernel
theorem dX12_term_92 : decode cX12_term 92 = .ok (.iload_n 1, 1) := by decide +kernel
theorem dX12_term_93 : decode cX12_term 93 = .ok (.iaload, 1) := by decide +kernel
theorem dX12_term_94 : decode cX12_term 94 = .ok (.ireturn, 1) := by decide +kernel
set_option maxRecDepth 100000 in
set_option maxHeartbeats 4000000 in
theorem w_X12_term {fr : Nat} (hfr : 1 ≤ fr) (Z : AZ) (X : AX Z cX12_term 3 RX12 (some .int) 1 fr) (x1 : Int32) (x2 : Int32) (s : Mem) (r : Int32 × Mem) (hz : zres Z = (some (.int r.1), r.2)) (h : f_X12_term x1 x2 s = some r) : AW Z s 0 [some (.ref (zr Z 0)), some (.int x1), some (.int x2)] [] := by
  unfold f_X12_term at h
  refine aw_aload_n X dX12_term_0 rfl ?_
  refine aw_iconst (v := 0) X dX12_term_1 (by decide) ?_
  refine aw_put X dX12_term_2 fp_RX12_122 iu_RX12 gu_RX12_0 rfl rfl ?_
  refine aw_aload_n X dX12_term_5 rfl ?_
  refine aw_iload_n X dX12_term_6 rfl ?_
  refine aw_iconst (v := 0) X dX12_term_7 (by decide) ?_
  refine aw_iconst (v := 1) X dX12_term_8 (by decide) ?_
  obtain ⟨r1, er1, h⟩ := bnd h
  refine aw_callV X dX12_term_9 cv_RX12_137 (ok_X12_isIn er1 _ _ _ _ _) iu_RX12 rfl (Nat.le_trans (by decide) hfr) (by decide) rfl rfl (Nat.le_of_ble_eq_true rfl) ?_
  refine aw_if_ne (tgt := 17) X dX12_term_12 (by decide) (fun c2 => ?_) (fun c2 => ?_)
  · rw [if_neg c2] at h
    refine aw_iload_n X dX12_term_17 rfl ?_
    refine aw_bipush (v := (-10)) X dX12_term_18 (by decide) ?_
    refine aw_icmp_ne (tgt := 32) X dX12_term_20 (by decide) (fun c3 => ?_) (fun c3 => ?_)
    · rw [if_neg c3] at h
      refine aw_aload_n X dX12_term_32 rfl ?_
      refine aw_iload_n X dX12_term_33 rfl ?_
      refine aw_bipush (v := (-9)) X dX12_term_34 (by decide) ?_
      refine aw_bipush (v := 9) X dX12_term_36 (by decide) ?_
      obtain ⟨r4, er4, h⟩ := bnd h
      refine aw_callV X dX12_term_38 cv_RX12_137 (ok_X12_isIn er4 _ _ _ _ _) iu_RX12 rfl (Nat.le_trans (by decide) hfr) (by decide) rfl rfl (Nat.le_of_ble_eq_true rfl) ?_
      refine aw_if_eq (tgt := 55) X dX12_term_41 (by decide) (fun c5 => ?_) (fun c5 => ?_)
      · rw [if_pos c5] at h
        refine aw_iconst (v := (-1)) X dX12_term_55 (by decide) ?_
        cases h
        exact aw_iret X dX12_term_56 rfl hz.symm
      · rw [if_neg c5] at h
        refine aw_aload_n X dX12_term_44 rfl ?_
        refine aw_getr X dX12_term_45 fl_RX12_95 iu_RX12 gu_RX12_50 ?_
        refine aw_iload_n X dX12_term_48 rfl ?_
        obtain ⟨v6, ev6, h⟩ := bnd h
        refine aw_iald X dX12_term_49 iu_RX12_50 ev6 ?_
        refine aw_bipush (v := 6) X dX12_term_50 (by decide) ?_
        refine aw_icmp_ne (tgt := 57) X dX12_term_52 (by decide) (fun c7 => ?_) (fun c7 => ?_)
        · rw [if_neg c7] at h
          refine aw_aload_n X dX12_term_57 rfl ?_
          refine aw_getr X dX12_term_58 fl_RX12_98 iu_RX12 gu_RX12_51 ?_
          refine aw_bipush (v := 6) X dX12_term_61 (by decide) ?_
          refine aw_iload_n X dX12_term_63 rfl ?_
          refine aw_imul X dX12_term_64 ?_
          refine aw_aload_n X dX12_term_65 rfl ?_
          refine aw_getr X dX12_term_66 fl_RX12_95 iu_RX12 gu_RX12_50 ?_
          refine aw_iload_n X dX12_term_69 rfl ?_
          obtain ⟨v8, ev8, h⟩ := bnd h
          refine aw_iald X dX12_term_70 iu_RX12_50 ev8 ?_
          refine aw_iadd X dX12_term_71 ?_
          refine aw_iload_n X dX12_term_72 rfl ?_
          obtain ⟨s9, es9, h⟩ := bnd h
          refine aw_iast X dX12_term_73 iu_RX12_51 es9 ?_
          refine aw_aload_n X dX12_term_74 rfl ?_
          refine aw_getr X dX12_term_75 fl_RX12_95 iu_RX12 gu_RX12_50 ?_
          refine aw_iload_n X dX12_term_78 rfl ?_
          refine aw_aload_n X dX12_term_79 rfl ?_
          refine aw_getr X dX12_term_80 fl_RX12_95 iu_RX12 gu_RX12_50 ?_
          refine aw_iload_n X dX12_term_83 rfl ?_
          obtain ⟨v10, ev10, h⟩ := bnd h
          refine aw_iald X dX12_term_84 iu_RX12_50 ev10 ?_
          refine aw_iconst (v := 1) X dX12_term_85 (by decide) ?_
          refine aw_iadd X dX12_term_86 ?_
          obtain ⟨s11, es11, h⟩ := bnd h
          refine aw_iast X dX12_term_87 iu_RX12_50 es11 ?_
          refine aw_aload_n X dX12_term_88 rfl ?_
          refine aw_getr X dX12_term_89 fl_RX12_95 iu_RX12 gu_RX12_50 ?_
          refine aw_iload_n X dX12_term_92 rfl ?_
          obtain ⟨v12, ev12, h⟩ := bnd h
          refine aw_iald X dX12_term_93 iu_RX12_50 ev12 ?_
          cases h
          exact aw_iret X dX12_term_94 rfl hz.symm
        · rw [if_pos c7] at h
          refine aw_iconst (v := (-1)) X dX12_term_55 (by decide) ?_
          cases h
          exact aw_iret X dX12_term_56 rfl hz.symm
    · rw [if_pos c3] at h
      refine aw_aload_n X dX12_term_23 rfl ?_
      refine aw_getr X dX12_term_24 fl_RX12_95 iu_RX12 gu_RX12_50 ?_
      refine aw_iload_n X dX12_term_27 rfl ?_
      refine aw_iconst (v := 0) X dX12_term_28 (by decide) ?_
      obtain ⟨s13, es13, h⟩ := bnd h
      refine aw_iast X dX12_term_29 iu_RX12_50 es13 ?_
      refine aw_iconst (v := 0) X dX12_term_30 (by decide) ?_
      cases h
      exact aw_iret X dX12_term_31 rfl hz.symm
  · rw [if_pos c2] at h
    refine aw_iconst (v := (-1)) X dX12_term_15 (by decide) ?_
    cases h
    exact aw_iret X dX12_term_16 rfl hz.symm
set_option maxRecDepth 100000 in
set_option maxHeartbeats 4000000 in
theorem ok_X12_term {x1 x2 : Int32} {s : Mem} {r : Int32 × Mem} (h : f_X12_term x1 x2 s = some r) (l : Launch) (D : va_G) (ρ : Nat → Nat) (cA : ClassId × ClassId × ClassId) (τ : AT) : AM l D ρ cA 1 τ yX12_term cX12_term 3 (some .int) 1 [.ref (ρ 0), .int x1, .int x2] (some (.int r.1)) s r.2 := by
  refine AM_of (L := [some (.ref (ρ 0)), some (.int x1), some (.int x2)]) (by decide) (by simp [Value.category]) (Nat.le_of_ble_eq_true rfl) (fun j v q => ?_) (fun Z X hρ hz hτ => ?_)
  · exact aL_ok (n := 0) [.ref (ρ 0), .int x1, .int x2] j v q
  · subst hρ
    subst hτ
    exact w_X12_term (Nat.le_refl _) Z X x1 x2 s r hz h

theorem dX12_termsAt_0 : decode cX12_termsAt 0 = .ok (.iconst 0, 1) := by decide +kernel
theorem dX12_termsAt_1 : decode cX12_termsAt 1 = .ok (.istore_n 3, 1) := by decide +kernel
theorem dX12_termsAt_2 : decode cX12_termsAt 2 = .ok (.aload_n 0, 1) := by decide +kernel
theorem dX12_termsAt_3 : decode cX12_termsAt 3 = .ok (.getfield 95, 3) := by decide +kernel
theorem dX12_termsAt_6 : decode cX12_termsAt 6 = .ok (.iload_n 1, 1) := by decide +kernel
theorem dX12_termsAt_7 : decode cX12_termsAt 7 = .ok (.iaload, 1) := by decide +kernel
theorem dX12_termsAt_8 : decode cX12_termsAt 8 = .ok (.iconst 1, 1) := by decide +kernel
theorem dX12_termsAt_9 : decode cX12_termsAt 9 = .ok (.isub, 1) := by decide +kernel
theorem dX12_termsAt_10 : decode cX12_termsAt 10 = .ok (.istore 4, 2) := by decide +kernel
theorem dX12_termsAt_12 : decode cX12_termsAt 12 = .ok (.iload 4, 2) := by decide +kernel
theorem dX12_termsAt_14 : decode cX12_termsAt 14 = .ok (.ifCond .lt 26, 3) := by decide +kernel
theorem dX12_termsAt_17 : decode cX12_termsAt 17 = .ok (.iload_n 3, 1) := by decide +kernel
theorem dX12_termsAt_18 : decode cX12_termsAt 18 = .ok (.iload_n 2, 1) := by decide +kernel
theorem dX12_termsAt_19 : decode cX12_termsAt 19 = .ok (.imul, 1) := by decide +kernel
theorem dX12_termsAt_20 : decode cX12_termsAt 20 = .ok (.aload_n 0, 1) := by decide +kernel
theorem dX12_termsAt_21 : decode cX12_termsAt 21 = .ok (.getfield 98, 3) := by decide +kernel
theorem dX12_termsAt_24 : decode cX12_termsAt 24 = .ok (.bipush 6, 2) := by decide +kernel
theorem dX12_termsAt_26 : decode cX12_termsAt 26 = .ok (.iload_n 1, 1) := by decide +kernel
theorem dX12_termsAt_27 : decode cX12_termsAt 27 = .ok (.imul, 1) := by decide +kernel
theorem dX12_termsAt_28 : decode cX12_termsAt 28 = .ok (.iload 4, 2) := by decide +kernel
theorem dX12_termsAt_30 : decode cX12_termsAt 30 = .ok (.iadd, 1) := by decide +kernel
theorem dX12_termsAt_31 : decode cX12_termsAt 31 = .ok (.iaload, 1) := by decide +kernel
theorem dX12_termsAt_32 : decode cX12_termsAt 32 = .ok (.iadd, 1) := by decide +kernel
theorem dX12_termsAt_33 : decode cX12_termsAt 33 = .ok (.istore_n 3, 1) := by decide +kernel
theorem dX12_termsAt_34 : decode cX12_termsAt 34 = .ok (.iinc 4 (-1), 3) := by decide +kernel
theorem dX12_termsAt_37 : decode cX12_termsAt 37 = .ok (.goto (-25), 3) := by decide +kernel
theorem dX12_termsAt_40 : decode cX12_termsAt 40 = .ok (.iload_n 3, 1) := by decide +kernel
theorem dX12_termsAt_41 : decode cX12_termsAt 41 = .ok (.ireturn, 1) := by decide +kernel
set_option maxRecDepth 100000 in
set_option maxHeartbeats 4000000 in
theorem so_X12_termsAt_12 {fr : Nat} (hfr : 0 ≤ fr) (Z : AZ) (X : AX Z cX12_termsAt 5 RX12 (some .int) 1 fr) (x1 : Int32) (x2 : Int32) (x3 : Int32) (x4 : Int32) (s : Mem) (q : (Int32 × Int32 × Mem) ⊕ (Int32 × Mem)) (h : st_X12_termsAt_12 x1 x2 x3 x4 s = some q) (hi : ∀ y : Int32 × Int32 × Mem, q = .inl y → AW Z y.2.2 12 [some (.ref (zr Z 0)), some (.int x1), some (.int x2), some (.int y.1), some (.int y.2.1)] []) (he : ∀ b : Int32 × Mem, q = .inr b → AW Z b.2 40 [none, none, none, some (.int b.1), none] []) : AW Z s 12 [some (.ref (zr Z 0)), some (.int x1), some (.int x2), some (.int x3), some (.int x4)] [] := by
  unfold st_X12_termsAt_12 at h
  refine aw_iload X dX12_termsAt_12 rfl ?_
  refine aw_if_lt (tgt := 40) X dX12_termsAt_14 (by decide) (fun c2 => ?_) (fun c2 => ?_)
  · rw [if_pos c2] at h
    cases h
    refine aw_msk [false, false, false, true, false] ?_
    exact he _ rfl
  · rw [if_neg c2] at h
    refine aw_iload_n X dX12_termsAt_17 rfl ?_
    refine aw_iload_n X dX12_termsAt_18 rfl ?_
    refine aw_imul X dX12_termsAt_19 ?_
    refine aw_aload_n X dX12_termsAt_20 rfl ?_
    refine aw_getr X dX12_termsAt_21 fl_RX12_98 iu_RX12 gu_RX12_51 ?_
    refine aw_bipush (v := 6) X dX12_termsAt_24 (by decide) ?_
    refine aw_iload_n X dX12_termsAt_26 rfl ?_
    refine aw_imul X dX12_termsAt_27 ?_
    refine aw_iload X dX12_termsAt_28 rfl ?_
    refine aw_iadd X dX12_termsAt_30 ?_
    obtain ⟨v3, ev3, h⟩ := bnd h
    refine aw_iald X dX12_termsAt_31 iu_RX12_51 ev3 ?_
    refine aw_iadd X dX12_termsAt_32 ?_
    refine aw_istore_n (L' := [some (.ref (zr Z 0)), some (.int x1), some (.int x2), some (.int ((x3 * x2) + v3)), some (.int x4)]) X dX12_termsAt_33 (by decide) rfl ?_
    refine aw_iinc (v := (x4 + (-1))) (L' := [some (.ref (zr Z 0)), some (.int x1), some (.int x2), some (.int ((x3 * x2) + v3)), some (.int (x4 + (-1)))]) X dX12_termsAt_34 rfl rfl (by decide) rfl ?_
    refine aw_goto (tgt := 12) X dX12_termsAt_37 (by decide) ?_
    cases h
    refine aw_msk [true, true, true, true, true] ?_
    exact hi _ rfl
set_option maxRecDepth 100000 in
set_option maxHeartbeats 4000000 in
theorem w_X12_termsAt {fr : Nat} (hfr : 0 ≤ fr) (Z : AZ) (X : AX Z cX12_termsAt 5 RX12 (some .int) 1 fr) (x1 : Int32) (x2 : Int32) (s : Mem) (r : Int32 × Mem) (hz : zres Z = (some (.int r.1), r.2)) (h : f_X12_termsAt x1 x2 s = some r) : AW Z s 0 [some (.ref (zr Z 0)), some (.int x1), some (.int x2), none, none] [] := by
  unfold f_X12_termsAt at h
  refine aw_iconst (v := 0) X dX12_termsAt_0 (by decide) ?_
  refine aw_istore_n (L' := [some (.ref (zr Z 0)), some (.int x1), some (.int x2), some (.int 0), none]) X dX12_termsAt_1 (by decide) rfl ?_
  refine aw_aload_n X dX12_termsAt_2 rfl ?_
  refine aw_getr X dX12_termsAt_3 fl_RX12_95 iu_RX12 gu_RX12_50 ?_
  refine aw_iload_n X dX12_termsAt_6 rfl ?_
  obtain ⟨v1, ev1, h⟩ := bnd h
  refine aw_iald X dX12_termsAt_7 iu_RX12_50 ev1 ?_
  refine aw_iconst (v := 1) X dX12_termsAt_8 (by decide) ?_
  refine aw_isub X dX12_termsAt_9 ?_
  refine aw_istore (L' := [some (.ref (zr Z 0)), some (.int x1), some (.int x2), some (.int 0), some (.int (v1 - 1))]) X dX12_termsAt_10 (by decide) rfl ?_
  obtain ⟨r4, er4, h⟩ := bnd h
  refine aw_msk [true, true, true, true, true] ?_
  refine it_ok (P := fun y : Int32 × Int32 × Mem => AW Z y.2.2 12 [some (.ref (zr Z 0)), some (.int x1), some (.int x2), some (.int y.1), some (.int y.2.1)] []) (Q := fun b : Int32 × Mem => AW Z b.2 40 [none, none, none, some (.int b.1), none] []) (fun y q hq hi he => so_X12_termsAt_12 hfr Z X x1 x2 y.1 y.2.1 y.2.2 q hq hi he) FUEL _ _ er4 ?_
  refine aw_iload_n X dX12_termsAt_40 rfl ?_
  cases h
  exact aw_iret X dX12_termsAt_41 rfl hz.symm
set_option maxRecDepth 100000 in
set_option maxHeartbeats 4000000 in
theorem ok_X12_termsAt {x1 x2 : Int32} {s : Mem} {r : Int32 × Mem} (h : f_X12_termsAt x1 x2 s = some r) (l : Launch) (D : va_G) (ρ : Nat → Nat) (cA : ClassId × ClassId × ClassId) (τ : AT) : AM l D ρ cA 1 τ yX12_termsAt cX12_termsAt 5 (some .int) 0 [.ref (ρ 0), .int x1, .int x2] (some (.int r.1)) s r.2 := by
  refine AM_of (L := [some (.ref (ρ 0)), some (.int x1), some (.int x2), none, none]) (by decide) (by simp [Value.category]) (Nat.le_of_ble_eq_true rfl) (fun j v q => ?_) (fun Z X hρ hz hτ => ?_)
  · exact aL_ok (n := 2) [.ref (ρ 0), .int x1, .int x2] j v q
  · subst hρ
    subst hτ
    exact w_X12_termsAt (Nat.le_refl _) Z X x1 x2 s r hz h

theorem dX12_terms_0 : decode cX12_terms 0 = .ok (.aload_n 0, 1) := by decide +kernel
theorem dX12_terms_1 : decode cX12_terms 1 = .ok (.iconst 0, 1) := by decide +kernel
theorem dX12_terms_2 : decode cX12_terms 2 = .ok (.putfield 122, 3) := by decide +kernel
theorem dX12_terms_5 : decode cX12_terms 5 = .ok (.aload_n 0, 1) := by decide +kernel
theorem dX12_terms_6 : decode cX12_terms 6 = .ok (.iload_n 1, 1) := by decide +kernel
theorem dX12_terms_7 : decode cX12_terms 7 = .ok (.iconst 0, 1) := by decide +kernel
theorem dX12_terms_8 : decode cX12_terms 8 = .ok (.iconst 1, 1) := by decide +kernel
theorem dX12_terms_9 : decode cX12_terms 9 = .ok (.invokevirtual 137, 3) := by decide +kernel
theorem dX12_terms_12 : decode cX12_terms 12 = .ok (.ifCond .eq 24, 3) := by decide +kernel
theorem dX12_terms_15 : decode cX12_terms 15 = .ok (.aload_n 0, 1) := by decide +kernel
theorem dX12_terms_16 : decode cX12_terms 16 = .ok (.iload_n 2, 1) := by decide +kernel
theorem dX12_terms_17 : decode cX12_terms 17 = .ok (.bipush (-9), 2) := by decide +kernel
theorem dX12_terms_19 : decode cX12_terms 19 = .ok (.bipush 9, 2) := by decide +kernel
theorem dX12_terms_21 : decode cX12_terms 21 = .ok (.invokevirtual 137, 3) := by decide +kernel
theorem dX12_terms_24 : decode cX12_terms 24 = .ok (.ifCond .eq 12, 3) := by decide +kernel
theorem dX12_terms_27 : decode cX12_terms 27 = .ok (.aload_n 0, 1) := by decide +kernel
theorem dX12_terms_28 : decode cX12_terms 28 = .ok (.iload_n 1, 1) := by decide +kernel
theorem dX12_terms_29 : decode cX12_terms 29 = .ok (.iload_n 2, 1) := by decide +kernel
theorem dX12_terms_30 : decode cX12_terms 30 = .ok (.invokevirtual 440, 3) := by decide +kernel
theorem dX12_terms_33 : decode cX12_terms 33 = .ok (.goto 6, 3) := by decide +kernel
theorem dX12_terms_36 : decode cX12_terms 36 = .ok (.ldc_w 443, 3) := by decide +kernel
theorem dX12_terms_39 : decode cX12_terms 39 = .ok (.ireturn, 1) := by decide +kernel
set_option maxRecDepth 100000 in
set_option maxHeartbeats 4000000 in
theorem w_X12_terms {fr : Nat} (hfr : 1 ≤ fr) (Z : AZ) (X : AX Z cX12_terms 3 RX12 (some .int) 1 fr) (x1 : Int32) (x2 : Int32) (s : Mem) (r : Int32 × Mem) (hz : zres Z = (some (.int r.1), r.2)) (h : f_X12_terms x1 x2 s = some r) : AW Z s 0 [some (.ref (zr Z 0)), some (.int x1), some (.int x2)] [] := by
  unfold f_X12_terms at h
  refine aw_aload_n X dX12_terms_0 rfl ?_
  refine aw_iconst (v := 0) X dX12_terms_1 (by decide) ?_
  refine aw_put X dX12_terms_2 fp_RX12_122 iu_RX12 gu_RX12_0 rfl rfl ?_
  refine aw_aload_n X dX12_terms_5 rfl ?_
  refine aw_iload_n X dX12_terms_6 rfl ?_
  refine aw_iconst (v := 0) X dX12_terms_7 (by decide) ?_
  refine aw_iconst (v := 1) X dX12_terms_8 (by decide) ?_
  obtain ⟨r1, er1, h⟩ := bnd h
  refine aw_callV X dX12_terms_9 cv_RX12_137 (ok_X12_isIn er1 _ _ _ _ _) iu_RX12 rfl (Nat.le_trans (by decide) hfr) (by decide) rfl rfl (Nat.le_of_ble_eq_true rfl) ?_
  refine aw_if_eq (tgt := 36) X dX12_terms_12 (by decide) (fun c2 => ?_) (fun c2 => ?_)
  · rw [if_pos c2] at h
    refine aw_ldcw X dX12_terms_36 kc_RX12_443 ?_
    cases h
    exact aw_iret X dX12_terms_39 rfl hz.symm
  · rw [if_neg c2] at h
    refine aw_aload_n X dX12_terms_15 rfl ?_
    refine aw_iload_n X dX12_terms_16 rfl ?_
    refine aw_bipush (v := (-9)) X dX12_terms_17 (by decide) ?_
    refine aw_bipush (v := 9) X dX12_terms_19 (by decide) ?_
    obtain ⟨r3, er3, h⟩ := bnd h
    refine aw_callV X dX12_terms_21 cv_RX12_137 (ok_X12_isIn er3 _ _ _ _ _) iu_RX12 rfl (Nat.le_trans (by decide) hfr) (by decide) rfl rfl (Nat.le_of_ble_eq_true rfl) ?_
    refine aw_if_eq (tgt := 36) X dX12_terms_24 (by decide) (fun c4 => ?_) (fun c4 => ?_)
    · rw [if_pos c4] at h
      refine aw_ldcw X dX12_terms_36 kc_RX12_443 ?_
      cases h
      exact aw_iret X dX12_terms_39 rfl hz.symm
    · rw [if_neg c4] at h
      refine aw_aload_n X dX12_terms_27 rfl ?_
      refine aw_iload_n X dX12_terms_28 rfl ?_
      refine aw_iload_n X dX12_terms_29 rfl ?_
      obtain ⟨r5, er5, h⟩ := bnd h
      refine aw_callV X dX12_terms_30 cv_RX12_440 (ok_X12_termsAt er5 _ _ _ _ _) iu_RX12 rfl (Nat.le_trans (by decide) hfr) (by decide) rfl rfl (Nat.le_of_ble_eq_true rfl) ?_
      refine aw_goto (tgt := 39) X dX12_terms_33 (by decide) ?_
      cases h
      exact aw_iret X dX12_terms_39 rfl hz.symm
set_option maxRecDepth 100000 in
set_option maxHeartbeats 4000000 in
theorem ok_X12_terms {x1 x2 : Int32} {s : Mem} {r : Int32 × Mem} (h : f_X12_terms x1 x2 s = some r) (l : Launch) (D : va_G) (ρ : Nat → Nat) (cA : ClassId × ClassId × ClassId) (τ : AT) : AM l D ρ cA 1 τ yX12_terms cX12_terms 3 (some .int) 1 [.ref (ρ 0), .int x1, .int x2] (some (.int r.1)) s r.2 := by
  refine AM_of (L := [some (.ref (ρ 0)), some (.int x1), some (.int x2)]) (by decide) (by simp [Value.category]) (Nat.le_of_ble_eq_true rfl) (fun j v q => ?_) (fun Z X hρ hz hτ => ?_)
  · exact aL_ok (n := 0) [.ref (ρ 0), .int x1, .int x2] j v q
  · subst hρ
    subst hτ
    exact w_X12_terms (Nat.le_refl _) Z X x1 x2 s r hz h

theorem dX12_product_0 : decode cX12_product 0 = .ok (.aload_n 0, 1) := by decide +kernel
theorem dX12_product_1 : decode cX12_product 1 = .ok (.iconst 0, 1) := by decide +kernel
theorem dX12_product_2 : decode cX12_product 2 = .ok (.putfield 122, 3) := by decide +kernel
theorem dX12_product_5 : decode cX12_product 5 = .ok (.iconst 0, 1) := by decide +kernel
theorem dX12_product_6 : decode cX12_product 6 = .ok (.istore_n 2, 1) := by decide +kernel
theorem dX12_product_7 : decode cX12_product 7 = .ok (.aload_n 0, 1) := by decide +kernel
theorem dX12_product_8 : decode cX12_product 8 = .ok (.iload_n 1, 1) := by decide +kernel
theorem dX12_product_9 : decode cX12_product 9 = .ok (.iconst 0, 1) := by decide +kernel
theorem dX12_product_10 : decode cX12_product 10 = .ok (.iconst 1, 1) := by decide +kernel
theorem dX12_product_11 : decode cX12_product 11 = .ok (.invokevirtual 137, 3) := by decide +kernel
theorem dX12_product_14 : decode cX12_product 14 = .ok (.ifCond .eq 33, 3) := by decide +kernel
theorem dX12_product_17 : decode cX12_product 17 = .ok (.bipush (-9), 2) := by decide +kernel
theorem dX12_product_19 : decode cX12_product 19 = .ok (.istore_n 3, 1) := by decide +kernel
theorem dX12_product_20 : decode cX12_product 20 = .ok (.iload_n 3, 1) := by decide +kernel
theorem dX12_product_21 : decode cX12_product 21 = .ok (.bipush 10, 2) := by decide +kernel
theorem dX12_product_23 : decode cX12_product 23 = .ok (.if_icmp .ge 22, 3) := by decide +kernel
theorem dX12_product_26 : decode cX12_product 26 = .ok (.aload_n 0, 1) := by decide +kernel
theorem dX12_product_27 : decode cX12_product 27 = .ok (.iload_n 1, 1) := by decide +kernel
theorem dX12_product_28 : decode cX12_product 28 = .ok (.iload_n 3, 1) := by decide +kernel
theorem dX12_product_29 : decode cX12_product 29 = .ok (.invokevirtual 440, 3) := by decide +kernel
theorem dX12_product_32 : decode cX12_product 32 = .ok (.ifCond .ne 7, 3) := by decide +kernel
theorem dX12_product_35 : decode cX12_product 35 = .ok (.iload_n 2, 1) := by decide +kernel
theorem dX12_product_36 : decode cX12_product 36 = .ok (.iconst 1, 1) := by decide +kernel
theorem dX12_product_37 : decode cX12_product 37 = .ok (.iadd, 1) := by decide +kernel
theorem dX12_product_38 : decode cX12_product 38 = .ok (.istore_n 2, 1) := by decide +kernel
theorem dX12_product_39 : decode cX12_product 39 = .ok (.iinc 3 1, 3) := by decide +kernel
theorem dX12_product_42 : decode cX12_product 42 = .ok (.goto (-22), 3) := by decide +kernel
theorem dX12_product_45 : decode cX12_product 45 = .ok (.iload_n 2, 1) := by decide +kernel
theorem dX12_product_46 : decode cX12_product 46 = .ok (.ireturn, 1) := by decide +kernel
theorem dX12_product_47 : decode cX12_product 47 = .ok (.aload_n 0, 1) := by decide +kernel
theorem dX12_product_48 : decode cX12_product 48 = .ok (.iload_n 1, 1) := by decide +kernel
theorem dX12_product_49 : decode cX12_product 49 = .ok (.bipush 10, 2) := by decide +kernel
theorem dX12_product_51 : decode cX12_product 51 = .ok (.bipush 20, 2) := by decide +kernel
theorem dX12_product_53 : decode cX12_product 53 = .ok (.invokevirtual 137, 3) := by decide +kernel
theorem dX12_product_56 : decode cX12_product 56 = .ok (.ifCond .ne 7, 3) := by decide +kernel
theorem dX12_product_59 : decode cX12_product 59 = .ok (.ldc_w 443, 3) := by decide +kernel
theorem dX12_product_62 : decode cX12_product 62 = .ok (.ireturn, 1) := by decide +kernel
theorem dX12_product_63 : decode cX12_product 63 = .ok (.iconst 0, 1) := by decide +kernel
theorem dX12_product_64 : decode cX12_product 64 = .ok (.istore_n 3, 1) := by decide +kernel
theorem dX12_product_65 : decode cX12_product 65 = .ok (.iload_n 3, 1) := by decide +kernel
theorem dX12_product_66 : decode cX12_product 66 = .ok (.aload_n 0, 1) := by decide +kernel
theorem dX12_product_67 : decode cX12_product 67 = .ok (.getfield 95, 3) := by decide +kernel
theorem dX12_product_70 : decode cX12_product 70 = .ok (.iconst 0, 1) := by decide +kernel
theorem dX12_product_71 : decode cX12_product 71 = .ok (.iaload, 1) := by decide +kernel
theorem dX12_product_72 : decode cX12_product 72 = .ok (.if_icmp .ge 55, 3) := by decide +kernel
theorem dX12_product_75 : decode cX12_product 75 = .ok (.aload_n 0, 1) := by decide +kernel
theorem dX12_product_76 : decode cX12_product 76 = .ok (.iload_n 1, 1) := by decide +kernel
theorem dX12_product_77 : decode cX12_product 77 = .ok (.bipush 10, 2) := by decide +kernel
theorem dX12_product_79 : decode cX12_product 79 = .ok (.isub, 1) := by decide +kernel
theorem dX12_product_80 : decode cX12_product 80 = .ok (.iload_n 3, 1) := by decide +kernel
theorem dX12_product_81 : decode cX12_product 81 = .ok (.isub, 1) := by decide +kernel
theorem dX12_product_82 : decode cX12_product 82 = .ok (.iconst 0, 1) := by decide +kernel
theorem dX12_product_83 : decode cX12_product 83 = .ok (.aload_n 0, 1) := by decide +kernel
theorem dX12_product_84 : decode cX12_product 84 = .ok (.getfield 95, 3) := by decide +kernel
theorem dX12_product_87 : decode cX12_product 87 = .ok (.iconst 1, 1) := by decide +kernel
theorem dX12_product_88 : decode cX12_product 88 = .ok (.iaload, 1) := by decide +kernel
theorem dX12_product_89 : decode cX12_product 89 = .ok (.iconst 1, 1) := by decide +kernel
theorem dX12_product_90 : decode cX12_product 90 = .ok (.isub, 1) := by decide +kernel
theorem dX12_product_91 : decode cX12_product 91 = .ok (.invokevirtual 137, 3) := by decide +kernel
theorem dX12_product_94 : decode cX12_product 94 = .ok (.ifCond .eq 27, 3) := by decide +kernel
theorem dX12_product_97 : decode cX12_product 97 = .ok (.iload_n 2, 1) := by decide +kernel
theorem dX12_product_98 : decode cX12_product 98 = .ok (.aload_n 0, 1) := by decide +kernel
theorem dX12_product_99 : decode cX12_product 99 = .ok (.getfield 98, 3) := by decide +kernel
theorem dX12_product_102 : decode cX12_product 102 = .ok (.iload_n 3, 1) := by decide +kernel
theorem dX12_product_103 : decode cX12_product 103 = .ok (.iaload, 1) := by decide +kernel
theorem dX12_product_104 : decode cX12_product 104 = .ok (.aload_n 0, 1) := by decide +kernel
theorem dX12_product_105 : decode cX12_product 105 = .ok (.getfield 98, 3) := by decide +kernel
theorem dX12_product_108 : decode cX12_product 108 = .ok (.bipush 6, 2) := by decide +kernel
theorem dX12_product_110 : decode cX12_product 110 = .ok (.iload_n 1, 1) := by decide +kernel
theorem dX12_product_111 : decode cX12_product 111 = .ok (.iadd, 1) := by decide +kernel
theorem dX12_product_112 : decode cX12_product 112 = .ok (.bipush 10, 2) := by decide +kernel
theorem dX12_product_114 : decode cX12_product 114 = .ok (.isub, 1) := by decide +kernel
theorem dX12_product_115 : decode cX12_product 115 = .ok (.iload_n 3, 1) := by decide +kernel
theorem dX12_product_116 : decode cX12_product 116 = .ok (.isub, 1) := by decide +kernel
theorem dX12_product_117 : decode cX12_product 117 = .ok (.iaload, 1) := by decide +kernel
theorem dX12_product_118 : decode cX12_product 118 = .ok (.imul, 1) := by decide +kernel
theorem dX12_product_119 : decode cX12_product 119 = .ok (.iadd, 1) := by decide +kernel
theorem dX12_product_120 : decode cX12_product 120 = .ok (.istore_n 2, 1) := by decide +kernel
theorem dX12_product_121 : decode cX12_product 121 = .ok (.iinc 3 1, 3) := by decide +kernel
theorem dX12_product_124 : decode cX12_product 124 = .ok (.goto (-59), 3) := by decide +kernel
theorem dX12_product_127 : decode cX12_product 127 = .ok (.iload_n 2, 1) := by decide +kernel
theorem dX12_product_128 : decode cX12_product 128 = .ok (.ireturn, 1) := by decide +kernel
set_option maxRecDepth 100000 in
set_option maxHeartbeats 4000000 in
theorem so_X12_product_65 {fr : Nat} (hfr : 1 ≤ fr) (Z : AZ) (X : AX Z cX12_product 4 RX12 (some .int) 1 fr) (x1 : Int32) (x2 : Int32) (x3 : Int32) (s : Mem) (q : (Int32 × Int32 × Mem) ⊕ (Int32 × Mem)) (h : st_X12_product_65 x1 x2 x3 s = some q) (hi : ∀ y : Int32 × Int32 × Mem, q = .inl y → AW Z y.2.2 65 [some (.ref (zr Z 0)), some (.int x1), some (.int y.1), some (.int y.2.1)] []) (he : ∀ b : Int32 × Mem, q = .inr b → AW Z b.2 127 [none, none, some (.int b.1), none] []) : AW Z s 65 [some (.ref (zr Z 0)), some (.int x1), some (.int x2), some (.int x3)] [] := by
  unfold st_X12_product_65 at h
  refine aw_iload_n X dX12_product_65 rfl ?_
  refine aw_aload_n X dX12_product_66 rfl ?_
  refine aw_getr X dX12_product_67 fl_RX12_95 iu_RX12 gu_RX12_50 ?_
  refine aw_iconst (v := 0) X dX12_product_70 (by decide) ?_
  obtain ⟨v5, ev5, h⟩ := bnd h
  refine aw_iald X dX12_product_71 iu_RX12_50 ev5 ?_
  refine aw_icmp_ge (tgt := 127) X dX12_product_72 (by decide) (fun c6 => ?_) (fun c6 => ?_)
  · rw [if_pos c6] at h
    cases h
    refine aw_msk [false, false, true, false] ?_
    exact he _ rfl
  · rw [if_neg c6] at h
    refine aw_aload_n X dX12_product_75 rfl ?_
    refine aw_iload_n X dX12_product_76 rfl ?_
    refine aw_bipush (v := 10) X dX12_product_77 (by decide) ?_
    refine aw_isub X dX12_product_79 ?_
    refine aw_iload_n X dX12_product_80 rfl ?_
    refine aw_isub X dX12_product_81 ?_
    refine aw_iconst (v := 0) X dX12_product_82 (by decide) ?_
    refine aw_aload_n X dX12_product_83 rfl ?_
    refine aw_getr X dX12_product_84 fl_RX12_95 iu_RX12 gu_RX12_50 ?_
    refine aw_iconst (v := 1) X dX12_product_87 (by decide) ?_
    obtain ⟨v7, ev7, h⟩ := bnd h
    refine aw_iald X dX12_product_88 iu_RX12_50 ev7 ?_
    refine aw_iconst (v := 1) X dX12_product_89 (by decide) ?_
    refine aw_isub X dX12_product_90 ?_
    obtain ⟨r8, er8, h⟩ := bnd h
    refine aw_callV X dX12_product_91 cv_RX12_137 (ok_X12_isIn er8 _ _ _ _ _) iu_RX12 rfl (Nat.le_trans (by decide) hfr) (by decide) rfl rfl (Nat.le_of_ble_eq_true rfl) ?_
    refine aw_if_eq (tgt := 121) X dX12_product_94 (by decide) (fun c9 => ?_) (fun c9 => ?_)
    · rw [if_pos c9] at h
      refine aw_iinc (v := (x3 + 1)) (L' := [some (.ref (zr Z 0)), some (.int x1), some (.int x2), some (.int (x3 + 1))]) X dX12_product_121 rfl rfl (by decide) rfl ?_
      refine aw_goto (tgt := 65) X dX12_product_124 (by decide) ?_
      cases h
      refine aw_msk [true, true, true, true] ?_
      exact hi _ rfl
    · rw [if_neg c9] at h
      refine aw_iload_n X dX12_product_97 rfl ?_
      refine aw_aload_n X dX12_product_98 rfl ?_
      refine aw_getr X dX12_product_99 fl_RX12_98 iu_RX12 gu_RX12_51 ?_
      refine aw_iload_n X dX12_product_102 rfl ?_
      obtain ⟨v10, ev10, h⟩ := bnd h
      refine aw_iald X dX12_product_103 iu_RX12_51 ev10 ?_
      refine aw_aload_n X dX12_product_104 rfl ?_
      refine aw_getr X dX12_product_105 fl_RX12_98 iu_RX12 gu_RX12_51 ?_
      refine aw_bipush (v := 6) X dX12_product_108 (by decide) ?_
      refine aw_iload_n X dX12_product_110 rfl ?_
      refine aw_iadd X dX12_product_111 ?_
      refine aw_bipush (v := 10) X dX12_product_112 (by decide) ?_
      refine aw_isub X dX12_product_114 ?_
      refine aw_iload_n X dX12_product_115 rfl ?_
      refine aw_isub X dX12_product_116 ?_
      obtain ⟨v11, ev11, h⟩ := bnd h
      refine aw_iald X dX12_product_117 iu_RX12_51 ev11 ?_
      refine aw_imul X dX12_product_118 ?_
      refine aw_iadd X dX12_product_119 ?_
      refine aw_istore_n (L' := [some (.ref (zr Z 0)), some (.int x1), some (.int (x2 + (v10 * v11))), some (.int x3)]) X dX12_product_120 (by decide) rfl ?_
      refine aw_iinc (v := (x3 + 1)) (L' := [some (.ref (zr Z 0)), some (.int x1), some (.int (x2 + (v10 * v11))), some (.int (x3 + 1))]) X dX12_product_121 rfl rfl (by decide) rfl ?_
      refine aw_goto (tgt := 65) X dX12_product_124 (by decide) ?_
      cases h
      refine aw_msk [true, true, true, true] ?_
      exact hi _ rfl
set_option maxRecDepth 100000 in
set_option maxHeartbeats 4000000 in
theorem so_X12_product_20 {fr : Nat} (hfr : 1 ≤ fr) (Z : AZ) (X : AX Z cX12_product 4 RX12 (some .int) 1 fr) (x1 : Int32) (x2 : Int32) (x3 : Int32) (s : Mem) (q : (Int32 × Int32 × Mem) ⊕ (Int32 × Mem)) (h : st_X12_product_20 x1 x2 x3 s = some q) (hi : ∀ y : Int32 × Int32 × Mem, q = .inl y → AW Z y.2.2 20 [some (.ref (zr Z 0)), some (.int x1), some (.int y.1), some (.int y.2.1)] []) (he : ∀ b : Int32 × Mem, q = .inr b → AW Z b.2 45 [none, none, some (.int b.1), none] []) : AW Z s 20 [some (.ref (zr Z 0)), some (.int x1), some (.int x2), some (.int x3)] [] := by
  unfold st_X12_product_20 at h
  refine aw_iload_n X dX12_product_20 rfl ?_
  refine aw_bipush (v := 10) X dX12_product_21 (by decide) ?_
  refine aw_icmp_ge (tgt := 45) X dX12_product_23 (by decide) (fun c13 => ?_) (fun c13 => ?_)
  · rw [if_pos c13] at h
    cases h
    refine aw_msk [false, false, true, false] ?_
    exact he _ rfl
  · rw [if_neg c13] at h
    refine aw_aload_n X dX12_product_26 rfl ?_
    refine aw_iload_n X dX12_product_27 rfl ?_
    refine aw_iload_n X dX12_product_28 rfl ?_
    obtain ⟨r14, er14, h⟩ := bnd h
    refine aw_callV X dX12_product_29 cv_RX12_440 (ok_X12_termsAt er14 _ _ _ _ _) iu_RX12 rfl (Nat.le_trans (by decide) hfr) (by decide) rfl rfl (Nat.le_of_ble_eq_true rfl) ?_
    refine aw_if_ne (tgt := 39) X dX12_product_32 (by decide) (fun c15 => ?_) (fun c15 => ?_)
    · rw [if_neg c15] at h
      refine aw_iinc (v := (x3 + 1)) (L' := [some (.ref (zr Z 0)), some (.int x1), some (.int x2), some (.int (x3 + 1))]) X dX12_product_39 rfl rfl (by decide) rfl ?_
      refine aw_goto (tgt := 20) X dX12_product_42 (by decide) ?_
      cases h
      refine aw_msk [true, true, true, true] ?_
      exact hi _ rfl
    · rw [if_pos c15] at h
      refine aw_iload_n X dX12_product_35 rfl ?_
      refine aw_iconst (v := 1) X dX12_product_36 (by decide) ?_
      refine aw_iadd X dX12_product_37 ?_
      refine aw_istore_n (L' := [some (.ref (zr Z 0)), some (.int x1), some (.int (x2 + 1)), some (.int x3)]) X dX12_product_38 (by decide) rfl ?_
      refine aw_iinc (v := (x3 + 1)) (L' := [some (.ref (zr Z 0)), some (.int x1), some (.int (x2 + 1)), some (.int (x3 + 1))]) X dX12_product_39 rfl rfl (by decide) rfl ?_
      refine aw_goto (tgt := 20) X dX12_product_42 (by decide) ?_
      cases h
      refine aw_msk [true, true, true, true] ?_
      exact hi _ rfl
set_option maxRecDepth 100000 in
set_option maxHeartbeats 4000000 in
theorem w_X12_product {fr : Nat} (hfr : 1 ≤ fr) (Z : AZ) (X : AX Z cX12_product 4 RX12 (some .int) 1 fr) (x1 : Int32) (s : Mem) (r : Int32 × Mem) (hz : zres Z = (some (.int r.1), r.2)) (h : f_X12_product x1 s = some r) : AW Z s 0 [some (.ref (zr Z 0)), some (.int x1), none, none] [] := by
  unfold f_X12_product at h
  refine aw_aload_n X dX12_product_0 rfl ?_
  refine aw_iconst (v := 0) X dX12_product_1 (by decide) ?_
  refine aw_put X dX12_product_2 fp_RX12_122 iu_RX12 gu_RX12_0 rfl rfl ?_
  refine aw_iconst (v := 0) X dX12_product_5 (by decide) ?_
  refine aw_istore_n (L' := [some (.ref (zr Z 0)), some (.int x1), some (.int 0), none]) X dX12_product_6 (by decide) rfl ?_
  refine aw_aload_n X dX12_product_7 rfl ?_
  refine aw_iload_n X dX12_product_8 rfl ?_
  refine aw_iconst (v := 0) X dX12_product_9 (by decide) ?_
  refine aw_iconst (v := 1) X dX12_product_10 (by decide) ?_
  obtain ⟨r1, er1, h⟩ := bnd h
  refine aw_callV X dX12_product_11 cv_RX12_137 (ok_X12_isIn er1 _ _ _ _ _) iu_RX12 rfl (Nat.le_trans (by decide) hfr) (by decide) rfl rfl (Nat.le_of_ble_eq_true rfl) ?_
  refine aw_if_eq (tgt := 47) X dX12_product_14 (by decide) (fun c2 => ?_) (fun c2 => ?_)
  · rw [if_pos c2] at h
    refine aw_aload_n X dX12_product_47 rfl ?_
    refine aw_iload_n X dX12_product_48 rfl ?_
    refine aw_bipush (v := 10) X dX12_product_49 (by decide) ?_
    refine aw_bipush (v := 20) X dX12_product_51 (by decide) ?_
    obtain ⟨r3, er3, h⟩ := bnd h
    refine aw_callV X dX12_product_53 cv_RX12_137 (ok_X12_isIn er3 _ _ _ _ _) iu_RX12 rfl (Nat.le_trans (by decide) hfr) (by decide) rfl rfl (Nat.le_of_ble_eq_true rfl) ?_
    refine aw_if_ne (tgt := 63) X dX12_product_56 (by decide) (fun c4 => ?_) (fun c4 => ?_)
    · rw [if_neg c4] at h
      refine aw_iconst (v := 0) X dX12_product_63 (by decide) ?_
      refine aw_istore_n (L' := [some (.ref (zr Z 0)), some (.int x1), some (.int 0), some (.int 0)]) X dX12_product_64 (by decide) rfl ?_
      obtain ⟨r12, er12, h⟩ := bnd h
      refine aw_msk [true, true, true, true] ?_
      refine it_ok (P := fun y : Int32 × Int32 × Mem => AW Z y.2.2 65 [some (.ref (zr Z 0)), some (.int x1), some (.int y.1), some (.int y.2.1)] []) (Q := fun b : Int32 × Mem => AW Z b.2 127 [none, none, some (.int b.1), none] []) (fun y q hq hi he => so_X12_product_65 hfr Z X x1 y.1 y.2.1 y.2.2 q hq hi he) FUEL _ _ er12 ?_
      refine aw_iload_n X dX12_product_127 rfl ?_
      cases h
      exact aw_iret X dX12_product_128 rfl hz.symm
    · rw [if_pos c4] at h
      refine aw_ldcw X dX12_product_59 kc_RX12_443 ?_
      cases h
      exact aw_iret X dX12_product_62 rfl hz.symm
  · rw [if_neg c2] at h
    refine aw_bipush (v := (-9)) X dX12_product_17 (by decide) ?_
    refine aw_istore_n (L' := [some (.ref (zr Z 0)), some (.int x1), some (.int 0), some (.int (-9))]) X dX12_product_19 (by decide) rfl ?_
    obtain ⟨r16, er16, h⟩ := bnd h
    refine aw_msk [true, true, true, true] ?_
    refine it_ok (P := fun y : Int32 × Int32 × Mem => AW Z y.2.2 20 [some (.ref (zr Z 0)), some (.int x1), some (.int y.1), some (.int y.2.1)] []) (Q := fun b : Int32 × Mem => AW Z b.2 45 [none, none, some (.int b.1), none] []) (fun y q hq hi he => so_X12_product_20 hfr Z X x1 y.1 y.2.1 y.2.2 q hq hi he) FUEL _ _ er16 ?_
    refine aw_iload_n X dX12_product_45 rfl ?_
    cases h
    exact aw_iret X dX12_product_46 rfl hz.symm
set_option maxRecDepth 100000 in
set_option maxHeartbeats 4000000 in
theorem ok_X12_product {x1 : Int32} {s : Mem} {r : Int32 × Mem} (h : f_X12_product x1 s = some r) (l : Launch) (D : va_G) (ρ : Nat → Nat) (cA : ClassId × ClassId × ClassId) (τ : AT) : AM l D ρ cA 1 τ yX12_product cX12_product 4 (some .int) 1 [.ref (ρ 0), .int x1] (some (.int r.1)) s r.2 := by
  refine AM_of (L := [some (.ref (ρ 0)), some (.int x1), none, none]) (by decide) (by simp [Value.category]) (Nat.le_of_ble_eq_true rfl) (fun j v q => ?_) (fun Z X hρ hz hτ => ?_)
  · exact aL_ok (n := 2) [.ref (ρ 0), .int x1] j v q
  · subst hρ
    subst hτ
    exact w_X12_product (Nat.le_refl _) Z X x1 s r hz h

theorem dX12_turnedIn_0 : decode cX12_turnedIn 0 = .ok (.iconst 0, 1) := by decide +kernel
theorem dX12_turnedIn_1 : decode cX12_turnedIn 1 = .ok (.istore_n 3, 1) := by decide +kernel
theorem dX12_turnedIn_2 : decode cX12_turnedIn 2 = .ok (.iload_n 1, 1) := by decide +kernel
theorem dX12_turnedIn_3 : decode cX12_turnedIn 3 = .ok (.istore 4, 2) := by decide +kernel
theorem dX12_turnedIn_5 : decode cX12_turnedIn 5 = .ok (.iload 4, 2) := by decide +kernel
theorem dX12_turnedIn_7 : decode cX12_turnedIn 7 = .ok (.ifCond .le 21, 3) := by decide +kernel
theorem dX12_turnedIn_10 : decode cX12_turnedIn 10 = .ok (.iload_n 3, 1) := by decide +kernel
theorem dX12_turnedIn_11 : decode cX12_turnedIn 11 = .ok (.iload_n 2, 1) := by decide +kernel
theorem dX12_turnedIn_12 : decode cX12_turnedIn 12 = .ok (.imul, 1) := by decide +kernel
theorem dX12_turnedIn_13 : decode cX12_turnedIn 13 = .ok (.iload 4, 2) := by decide +kernel
theorem dX12_turnedIn_15 : decode cX12_turnedIn 15 = .ok (.iload_n 2, 1) := by decide +kernel
theorem dX12_turnedIn_16 : decode cX12_turnedIn 16 = .ok (.irem, 1) := by decide +kernel
theorem dX12_turnedIn_17 : decode cX12_turnedIn 17 = .ok (.iadd, 1) := by decide +kernel
theorem dX12_turnedIn_18 : decode cX12_turnedIn 18 = .ok (.istore_n 3, 1) := by decide +kernel
theorem dX12_turnedIn_19 : decode cX12_turnedIn 19 = .ok (.iload 4, 2) := by decide +kernel
theorem dX12_turnedIn_21 : decode cX12_turnedIn 21 = .ok (.iload_n 2, 1) := by decide +kernel
theorem dX12_turnedIn_22 : decode cX12_turnedIn 22 = .ok (.idiv, 1) := by decide +kernel
theorem dX12_turnedIn_23 : decode cX12_turnedIn 23 = .ok (.istore 4, 2) := by decide +kernel
theorem dX12_turnedIn_25 : decode cX12_turnedIn 25 = .ok (.goto (-20), 3) := by decide +kernel
theorem dX12_turnedIn_28 : decode cX12_turnedIn 28 = .ok (.iload_n 3, 1) := by decide +kernel
theorem dX12_turnedIn_29 : decode cX12_turnedIn 29 = .ok (.ireturn, 1) := by decide +kernel
set_option maxRecDepth 100000 in
set_option maxHeartbeats 4000000 in
theorem so_X12_turnedIn_5 {fr : Nat} (hfr : 0 ≤ fr) (Z : AZ) (X : AX Z cX12_turnedIn 5 RX12 (some .int) 1 fr) (x2 : Int32) (x3 : Int32) (x4 : Int32) (s : Mem) (q : (Int32 × Int32 × Mem) ⊕ (Int32 × Mem)) (h : st_X12_turnedIn_5 x2 x3 x4 s = some q) (hi : ∀ y : Int32 × Int32 × Mem, q = .inl y → AW Z y.2.2 5 [none, none, some (.int x2), some (.int y.1), some (.int y.2.1)] []) (he : ∀ b : Int32 × Mem, q = .inr b → AW Z b.2 28 [none, none, none, some (.int b.1), none] []) : AW Z s 5 [none, none, some (.int x2), some (.int x3), some (.int x4)] [] := by
  unfold st_X12_turnedIn_5 at h
  refine aw_iload X dX12_turnedIn_5 rfl ?_
  refine aw_if_le (tgt := 28) X dX12_turnedIn_7 (by decide) (fun c1 => ?_) (fun c1 => ?_)
  · rw [if_pos c1] at h
    cases h
    refine aw_msk [false, false, false, true, false] ?_
    exact he _ rfl
  · rw [if_neg c1] at h
    refine aw_iload_n X dX12_turnedIn_10 rfl ?_
    refine aw_iload_n X dX12_turnedIn_11 rfl ?_
    refine aw_imul X dX12_turnedIn_12 ?_
    refine aw_iload X dX12_turnedIn_13 rfl ?_
    refine aw_iload_n X dX12_turnedIn_15 rfl ?_
    by_cases c2 : x2 = 0
    · rw [if_pos c2] at h
      cases h
    rw [if_neg c2] at h
    refine aw_irem X dX12_turnedIn_16 c2 ?_
    refine aw_iadd X dX12_turnedIn_17 ?_
    refine aw_istore_n (L' := [none, none, some (.int x2), some (.int ((x3 * x2) + (x4 % x2))), some (.int x4)]) X dX12_turnedIn_18 (by decide) rfl ?_
    refine aw_iload X dX12_turnedIn_19 rfl ?_
    refine aw_iload_n X dX12_turnedIn_21 rfl ?_
    by_cases c3 : x2 = 0
    · rw [if_pos c3] at h
      cases h
    rw [if_neg c3] at h
    refine aw_idiv X dX12_turnedIn_22 c3 ?_
    refine aw_istore (L' := [none, none, some (.int x2), some (.int ((x3 * x2) + (x4 % x2))), some (.int (x4 / x2))]) X dX12_turnedIn_23 (by decide) rfl ?_
    refine aw_goto (tgt := 5) X dX12_turnedIn_25 (by decide) ?_
    cases h
    refine aw_msk [false, false, true, true, true] ?_
    exact hi _ rfl
set_option maxRecDepth 100000 in
set_option maxHeartbeats 4000000 in
theorem w_X12_turnedIn {fr : Nat} (hfr : 0 ≤ fr) (Z : AZ) (X : AX Z cX12_turnedIn 5 RX12 (some .int) 1 fr) (x1 : Int32) (x2 : Int32) (s : Mem) (r : Int32 × Mem) (hz : zres Z = (some (.int r.1), r.2)) (h : f_X12_turnedIn x1 x2 s = some r) : AW Z s 0 [some (.ref (zr Z 0)), some (.int x1), some (.int x2), none, none] [] := by
  unfold f_X12_turnedIn at h
  refine aw_iconst (v := 0) X dX12_turnedIn_0 (by decide) ?_
  refine aw_istore_n (L' := [some (.ref (zr Z 0)), some (.int x1), some (.int x2), some (.int 0), none]) X dX12_turnedIn_1 (by decide) rfl ?_
  refine aw_iload_n X dX12_turnedIn_2 rfl ?_
  refine aw_istore (L' := [some (.ref (zr Z 0)), some (.int x1), some (.int x2), some (.int 0), some (.int x1)]) X dX12_turnedIn_3 (by decide) rfl ?_
  obtain ⟨r4, er4, h⟩ := bnd h
  refine aw_msk [false, false, true, true, true] ?_
  refine it_ok (P := fun y : Int32 × Int32 × Mem => AW Z y.2.2 5 [none, none, some (.int x2), some (.int y.1), some (.int y.2.1)] []) (Q := fun b : Int32 × Mem => AW Z b.2 28 [none, none, none, some (.int b.1), none] []) (fun y q hq hi he => so_X12_turnedIn_5 hfr Z X x2 y.1 y.2.1 y.2.2 q hq hi he) FUEL _ _ er4 ?_
  refine aw_iload_n X dX12_turnedIn_28 rfl ?_
  cases h
  exact aw_iret X dX12_turnedIn_29 rfl hz.symm
set_option maxRecDepth 100000 in
set_option maxHeartbeats 4000000 in
theorem ok_X12_turnedIn {x1 x2 : Int32} {s : Mem} {r : Int32 × Mem} (h : f_X12_turnedIn x1 x2 s = some r) (l : Launch) (D : va_G) (ρ : Nat → Nat) (cA : ClassId × ClassId × ClassId) (τ : AT) : AM l D ρ cA 1 τ yX12_turnedIn cX12_turnedIn 5 (some .int) 0 [.ref (ρ 0), .int x1, .int x2] (some (.int r.1)) s r.2 := by
  refine AM_of (L := [some (.ref (ρ 0)), some (.int x1), some (.int x2), none, none]) (by decide) (by simp [Value.category]) (Nat.le_of_ble_eq_true rfl) (fun j v q => ?_) (fun Z X hρ hz hτ => ?_)
  · exact aL_ok (n := 2) [.ref (ρ 0), .int x1, .int x2] j v q
  · subst hρ
    subst hτ
    exact w_X12_turnedIn (Nat.le_refl _) Z X x1 x2 s r hz h

theorem dX12_tongues_0 : decode cX12_tongues 0 = .ok (.aload_n 0, 1) := by decide +kernel
theorem dX12_tongues_1 : decode cX12_tongues 1 = .ok (.iconst 0, 1) := by decide +kernel
theorem dX12_tongues_2 : decode cX12_tongues 2 = .ok (.putfield 122, 3) := by decide +kernel
theorem dX12_tongues_5 : decode cX12_tongues 5 = .ok (.aload_n 0, 1) := by decide +kernel
theorem dX12_tongues_6 : decode cX12_tongues 6 = .ok (.iload_n 1, 1) := by decide +kernel
theorem dX12_tongues_7 : decode cX12_tongues 7 = .ok (.iconst 1, 1) := by decide +kernel
theorem dX12_tongues_8 : decode cX12_tongues 8 = .ok (.sipush 9999, 3) := by decide +kernel
theorem dX12_tongues_11 : decode cX12_tongues 11 = .ok (.invokevirtual 137, 3) := by decide +kernel
theorem dX12_tongues_14 : decode cX12_tongues 14 = .ok (.ifCond .eq 29, 3) := by decide +kernel
theorem dX12_tongues_17 : decode cX12_tongues 17 = .ok (.aload_n 0, 1) := by decide +kernel
theorem dX12_tongues_18 : decode cX12_tongues 18 = .ok (.iload_n 3, 1) := by decide +kernel
theorem dX12_tongues_19 : decode cX12_tongues 19 = .ok (.iconst 0, 1) := by decide +kernel
theorem dX12_tongues_20 : decode cX12_tongues 20 = .ok (.iconst 2, 1) := by decide +kernel
theorem dX12_tongues_21 : decode cX12_tongues 21 = .ok (.invokevirtual 137, 3) := by decide +kernel
theorem dX12_tongues_24 : decode cX12_tongues 24 = .ok (.ifCond .eq 19, 3) := by decide +kernel
theorem dX12_tongues_27 : decode cX12_tongues 27 = .ok (.iload_n 3, 1) := by decide +kernel
theorem dX12_tongues_28 : decode cX12_tongues 28 = .ok (.iconst 2, 1) := by decide +kernel
theorem dX12_tongues_29 : decode cX12_tongues 29 = .ok (.if_icmp .ge 16, 3) := by decide +kernel
theorem dX12_tongues_32 : decode cX12_tongues 32 = .ok (.aload_n 0, 1) := by decide +kernel
theorem dX12_tongues_33 : decode cX12_tongues 33 = .ok (.iload_n 2, 1) := by decide +kernel
theorem dX12_tongues_34 : decode cX12_tongues 34 = .ok (.iconst 2, 1) := by decide +kernel
theorem dX12_tongues_35 : decode cX12_tongues 35 = .ok (.bipush 16, 2) := by decide +kernel
theorem dX12_tongues_37 : decode cX12_tongues 37 = .ok (.invokevirtual 137, 3) := by decide +kernel
theorem dX12_tongues_40 : decode cX12_tongues 40 = .ok (.ifCond .ne 5, 3) := by decide +kernel
theorem dX12_tongues_43 : decode cX12_tongues 43 = .ok (.iconst (-1), 1) := by decide +kernel
theorem dX12_tongues_44 : decode cX12_tongues 44 = .ok (.ireturn, 1) := by decide +kernel
theorem dX12_tongues_45 : decode cX12_tongues 45 = .ok (.iload_n 3, 1) := by decide +kernel
theorem dX12_tongues_46 : decode cX12_tongues 46 = .ok (.iconst 1, 1) := by decide +kernel
theorem dX12_tongues_47 : decode cX12_tongues 47 = .ok (.if_icmp .ne 19, 3) := by decide +kernel
theorem dX12_tongues_50 : decode cX12_tongues 50 = .ok (.aload_n 0, 1) := by decide +kernel
theorem dX12_tongues_51 : decode cX12_tongues 51 = .ok (.iload_n 1, 1) := by decide +kernel
theorem dX12_tongues_52 : decode cX12_tongues 52 = .ok (.iload_n 2, 1) := by decide +kernel
theorem dX12_tongues_53 : decode cX12_tongues 53 = .ok (.invokevirtual 444, 3) := by decide +kernel
theorem dX12_tongues_56 : decode cX12_tongues 56 = .ok (.iload_n 1, 1) := by decide +kernel
theorem dX12_tongues_57 : decode cX12_tongues 57 = .ok (.if_icmp .ne 7, 3) := by decide +kernel
theorem dX12_tongues_60 : decode cX12_tongues 60 = .ok (.iconst 1, 1) := by decide +kernel
theorem dX12_tongues_61 : decode cX12_tongues 61 = .ok (.goto 4, 3) := by decide +kernel
theorem dX12_tongues_64 : decode cX12_tongues 64 = .ok (.iconst 0, 1) := by decide +kernel
theorem dX12_tongues_65 : decode cX12_tongues 65 = .ok (.ireturn, 1) := by decide +kernel
theorem dX12_tongues_66 : decode cX12_tongues 66 = .ok (.iload_n 3, 1) := by decide +kernel
theorem dX12_tongues_67 : decode cX12_tongues 67 = .ok (.iconst 2, 1) := by decide +kernel
theorem dX12_tongues_68 : decode cX12_tongues 68 = .ok (.if_icmp .ne 35, 3) := by decide +kernel
theorem dX12_tongues_71 : decode cX12_tongues 71 = .ok (.iconst 2, 1) := by decide +kernel
theorem dX12_tongues_72 : decode cX12_tongues 72 = .ok (.istore 4, 2) := by decide +kernel
theorem dX12_tongues_74 : decode cX12_tongues 74 = .ok (.iload 4, 2) := by decide +kernel
theorem dX12_tongues_76 : decode cX12_tongues 76 = .ok (.bipush 17, 2) := by decide +kernel
theorem dX12_tongues_78 : decode cX12_tongues 78 = .ok (.if_icmp .ge 23, 3) := by decide +kernel
theorem dX12_tongues_81 : decode cX12_tongues 81 = .ok (.aload_n 0, 1) := by decide +kernel
theorem dX12_tongues_82 : decode cX12_tongues 82 = .ok (.iload_n 1, 1) := by decide +kernel
theorem dX12_tongues_83 : decode cX12_tongues 83 = .ok (.iload 4, 2) := by decide +kernel
theorem dX12_tongues_85 : decode cX12_tongues 85 = .ok (.invokevirtual 444, 3) := by decide +kernel
theorem dX12_tongues_88 : decode cX12_tongues 88 = .ok (.iload_n 1, 1) := by decide +kernel
theorem dX12_tongues_89 : decode cX12_tongues 89 = .ok (.if_icmp .ne 6, 3) := by decide +kernel
theorem dX12_tongues_92 : decode cX12_tongues 92 = .ok (.iload 4, 2) := by decide +kernel
theorem dX12_tongues_94 : decode cX12_tongues 94 = .ok (.ireturn, 1) := by decide +kernel
theorem dX12_tongues_95 : decode cX12_tongues 95 = .ok (.iinc 4 1, 3) := by decide +kernel
theorem dX12_tongues_98 : decode cX12_tongues 98 = .ok (.goto (-24), 3) := by decide +kernel
theorem dX12_tongues_101 : decode cX12_tongues 101 = .ok (.iconst (-1), 1) := by decide +kernel
theorem dX12_tongues_102 : decode cX12_tongues 102 = .ok (.ireturn, 1) := by decide +kernel
theorem dX12_tongues_103 : decode cX12_tongues 103 = .ok (.iconst 0, 1) := by decide +kernel
theorem dX12_tongues_104 : decode cX12_tongues 104 = .ok (.istore 4, 2) := by decide +kernel
theorem dX12_tongues_106 : decode cX12_tongues 106 = .ok (.iload_n 1, 1) := by decide +kernel
theorem dX12_tongues_107 : decode cX12_tongues 107 = .ok (.istore 5, 2) := by decide +kernel
theorem dX12_tongues_109 : decode cX12_tongues 109 = .ok (.iload 5, 2) := by decide +kernel
theorem dX12_tongues_111 : decode cX12_tongues 111 = .ok (.ifCond .le 21, 3) := by decide +kernel
theorem dX12_tongues_114 : decode cX12_tongues 114 = .ok (.iload 4, 2) := by decide +kernel
theorem dX12_tongues_116 : decode cX12_tongues 116 = .ok (.iload 5, 2) := by decide +kernel
theorem dX12_tongues_118 : decode cX12_tongues 118 = .ok (.iload_n 2, 1) := by decide +kernel
theorem dX12_tongues_119 : decode cX12_tongues 119 = .ok (.irem, 1) := by decide +kernel
theorem dX12_tongues_120 : decode cX12_tongues 120 = .ok (.iadd, 1) := by decide +kernel
theorem dX12_tongues_121 : decode cX12_tongues 121 = .ok (.istore 4, 2) := by decide +kernel
theorem dX12_tongues_123 : decode cX12_tongues 123 = .ok (.iload 5, 2) := by decide +kernel
theorem dX12_tongues_125 : decode cX12_tongues 125 = .ok (.iload_n 2, 1) := by decide +kernel
theorem dX12_tongues_126 : decode cX12_tongues 126 = .ok (.idiv, 1) := by decide +kernel
theorem dX12_tongues_127 : decode cX12_tongues 127 = .ok (.istore 5, 2) := by decide +kernel
theorem dX12_tongues_129 : decode cX12_tongues 129 = .ok (.goto (-20), 3) := by decide +kernel
theorem dX12_tongues_132 : decode cX12_tongues 132 = .ok (.iload 4, 2) := by decide +kernel
theorem dX12_tongues_134 : decode cX12_tongues 134 = .ok (.ireturn, 1) := by decide +kernel
set_option maxRecDepth 100000 in
set_option maxHeartbeats 4000000 in
theorem so_X12_tongues_109 {fr : Nat} (hfr : 1 ≤ fr) (Z : AZ) (X : AX Z cX12_tongues 6 RX12 (some .int) 1 fr) (x2 : Int32) (x4 : Int32) (x5 : Int32) (s : Mem) (q : (Int32 × Int32 × Mem) ⊕ (Int32 × Mem)) (h : st_X12_tongues_109 x2 x4 x5 s = some q) (hi : ∀ y : Int32 × Int32 × Mem, q = .inl y → AW Z y.2.2 109 [none, none, some (.int x2), none, some (.int y.1), some (.int y.2.1)] []) (he : ∀ b : Int32 × Mem, q = .inr b → AW Z b.2 132 [none, none, none, none, some (.int b.1), none] []) : AW Z s 109 [none, none, some (.int x2), none, some (.int x4), some (.int x5)] [] := by
  unfold st_X12_tongues_109 at h
  refine aw_iload X dX12_tongues_109 rfl ?_
  refine aw_if_le (tgt := 132) X dX12_tongues_111 (by decide) (fun c8 => ?_) (fun c8 => ?_)
  · rw [if_pos c8] at h
    cases h
    refine aw_msk [false, false, false, false, true, false] ?_
    exact he _ rfl
  · rw [if_neg c8] at h
    refine aw_iload X dX12_tongues_114 rfl ?_
    refine aw_iload X dX12_tongues_116 rfl ?_
    refine aw_iload_n X dX12_tongues_118 rfl ?_
    by_cases c9 : x2 = 0
    · rw [if_pos c9] at h
      cases h
    rw [if_neg c9] at h
    refine aw_irem X dX12_tongues_119 c9 ?_
    refine aw_iadd X dX12_tongues_120 ?_
    refine aw_istore (L' := [none, none, some (.int x2), none, some (.int (x4 + (x5 % x2))), some (.int x5)]) X dX12_tongues_121 (by decide) rfl ?_
    refine aw_iload X dX12_tongues_123 rfl ?_
    refine aw_iload_n X dX12_tongues_125 rfl ?_
    by_cases c10 : x2 = 0
    · rw [if_pos c10] at h
      cases h
    rw [if_neg c10] at h
    refine aw_idiv X dX12_tongues_126 c10 ?_
    refine aw_istore (L' := [none, none, some (.int x2), none, some (.int (x4 + (x5 % x2))), some (.int (x5 / x2))]) X dX12_tongues_127 (by decide) rfl ?_
    refine aw_goto (tgt := 109) X dX12_tongues_129 (by decide) ?_
    cases h
    refine aw_msk [false, false, true, false, true, true] ?_
    exact hi _ rfl
set_option maxRecDepth 100000 in
set_option maxHeartbeats 4000000 in
theorem so_X12_tongues_74 {fr : Nat} (hfr : 1 ≤ fr) (Z : AZ) (X : AX Z cX12_tongues 6 RX12 (some .int) 1 fr) (x1 : Int32) (x4 : Int32) (s : Mem) (q : (Int32 × Mem) ⊕ (Nat × Int32 × Mem)) (h : st_X12_tongues_74 x1 x4 s = some q) (hi : ∀ y : Int32 × Mem, q = .inl y → AW Z y.2 74 [some (.ref (zr Z 0)), some (.int x1), none, none, some (.int y.1), none] []) (he : ∀ b : Nat × Int32 × Mem, q = .inr b → (b.1 = 0 → AW Z b.2.2 92 [none, none, none, none, some (.int b.2.1), none] []) ∧ (b.1 = 1 → AW Z b.2.2 101 [none, none, none, none, none, none] [])) : AW Z s 74 [some (.ref (zr Z 0)), some (.int x1), none, none, some (.int x4), none] [] := by
  unfold st_X12_tongues_74 at h
  refine aw_iload X dX12_tongues_74 rfl ?_
  refine aw_bipush (v := 17) X dX12_tongues_76 (by decide) ?_
  refine aw_icmp_ge (tgt := 101) X dX12_tongues_78 (by decide) (fun c12 => ?_) (fun c12 => ?_)
  · rw [if_pos c12] at h
    cases h
    refine aw_msk [false, false, false, false, false, false] ?_
    exact (he _ rfl).2 rfl
  · rw [if_neg c12] at h
    refine aw_aload_n X dX12_tongues_81 rfl ?_
    refine aw_iload_n X dX12_tongues_82 rfl ?_
    refine aw_iload X dX12_tongues_83 rfl ?_
    obtain ⟨r13, er13, h⟩ := bnd h
    refine aw_callV X dX12_tongues_85 cv_RX12_444 (ok_X12_turnedIn er13 _ _ _ _ _) iu_RX12 rfl (Nat.le_trans (by decide) hfr) (by decide) rfl rfl (Nat.le_of_ble_eq_true rfl) ?_
    refine aw_iload_n X dX12_tongues_88 rfl ?_
    refine aw_icmp_ne (tgt := 95) X dX12_tongues_89 (by decide) (fun c14 => ?_) (fun c14 => ?_)
    · rw [if_neg c14] at h
      refine aw_iinc (v := (x4 + 1)) (L' := [some (.ref (zr Z 0)), some (.int x1), none, none, some (.int (x4 + 1)), none]) X dX12_tongues_95 rfl rfl (by decide) rfl ?_
      refine aw_goto (tgt := 74) X dX12_tongues_98 (by decide) ?_
      cases h
      refine aw_msk [true, true, false, false, true, false] ?_
      exact hi _ rfl
    · rw [if_pos c14] at h
      cases h
      refine aw_msk [false, false, false, false, true, false] ?_
      exact (he _ rfl).1 rfl
set_option maxRecDepth 100000 in
set_option maxHeartbeats 4000000 in
theorem jo_X12_tongues_45 {fr : Nat} (hfr : 1 ≤ fr) (Z : AZ) (X : AX Z cX12_tongues 6 RX12 (some .int) 1 fr) (x1 : Int32) (x2 : Int32) (x3 : Int32) (s : Mem) (r : Int32 × Mem) (hz : zres Z = (some (.int r.1), r.2)) (h : jn_X12_tongues_45 x1 x2 x3 s = some r) : AW Z s 45 [some (.ref (zr Z 0)), some (.int x1), some (.int x2), some (.int x3), none, none] [] := by
  unfold jn_X12_tongues_45 at h
  refine aw_iload_n X dX12_tongues_45 rfl ?_
  refine aw_iconst (v := 1) X dX12_tongues_46 (by decide) ?_
  refine aw_icmp_ne (tgt := 66) X dX12_tongues_47 (by decide) (fun c6 => ?_) (fun c6 => ?_)
  · rw [if_neg c6] at h
    refine aw_iload_n X dX12_tongues_66 rfl ?_
    refine aw_iconst (v := 2) X dX12_tongues_67 (by decide) ?_
    refine aw_icmp_ne (tgt := 103) X dX12_tongues_68 (by decide) (fun c7 => ?_) (fun c7 => ?_)
    · rw [if_neg c7] at h
      refine aw_iconst (v := 0) X dX12_tongues_103 (by decide) ?_
      refine aw_istore (L' := [some (.ref (zr Z 0)), some (.int x1), some (.int x2), some (.int x3), some (.int 0), none]) X dX12_tongues_104 (by decide) rfl ?_
      refine aw_iload_n X dX12_tongues_106 rfl ?_
      refine aw_istore (L' := [some (.ref (zr Z 0)), some (.int x1), some (.int x2), some (.int x3), some (.int 0), some (.int x1)]) X dX12_tongues_107 (by decide) rfl ?_
      obtain ⟨r11, er11, h⟩ := bnd h
      refine aw_msk [false, false, true, false, true, true] ?_
      refine it_ok (P := fun y : Int32 × Int32 × Mem => AW Z y.2.2 109 [none, none, some (.int x2), none, some (.int y.1), some (.int y.2.1)] []) (Q := fun b : Int32 × Mem => AW Z b.2 132 [none, none, none, none, some (.int b.1), none] []) (fun y q hq hi he => so_X12_tongues_109 hfr Z X x2 y.1 y.2.1 y.2.2 q hq hi he) FUEL _ _ er11 ?_
      refine aw_iload X dX12_tongues_132 rfl ?_
      cases h
      exact aw_iret X dX12_tongues_134 rfl hz.symm
    · rw [if_pos c7] at h
      refine aw_iconst (v := 2) X dX12_tongues_71 (by decide) ?_
      refine aw_istore (L' := [some (.ref (zr Z 0)), some (.int x1), some (.int x2), some (.int x3), some (.int 2), none]) X dX12_tongues_72 (by decide) rfl ?_
      obtain ⟨r15, er15, h⟩ := bnd h
      refine aw_msk [true, true, false, false, true, false] ?_
      refine it_ok (P := fun y : Int32 × Mem => AW Z y.2 74 [some (.ref (zr Z 0)), some (.int x1), none, none, some (.int y.1), none] []) (Q := fun b : Nat × Int32 × Mem => (b.1 = 0 → AW Z b.2.2 92 [none, none, none, none, some (.int b.2.1), none] []) ∧ (b.1 = 1 → AW Z b.2.2 101 [none, none, none, none, none, none] [])) (fun y q hq hi he => so_X12_tongues_74 hfr Z X x1 y.1 y.2 q hq hi he) FUEL _ _ er15 ?_
      refine ⟨fun c0 => ?_, fun c1 => ?_⟩
      · rw [if_pos c0] at h
        refine aw_iload X dX12_tongues_92 rfl ?_
        cases h
        exact aw_iret X dX12_tongues_94 rfl hz.symm
      · rw [if_neg (by rw [c1]; decide)] at h
        refine aw_iconst (v := (-1)) X dX12_tongues_101 (by decide) ?_
        cases h
        exact aw_iret X dX12_tongues_102 rfl hz.symm
  · rw [if_pos c6] at h
    refine aw_aload_n X dX12_tongues_50 rfl ?_
    refine aw_iload_n X dX12_tongues_51 rfl ?_
    refine aw_iload_n X dX12_tongues_52 rfl ?_
    obtain ⟨r16, er16, h⟩ := bnd h
    refine aw_callV X dX12_tongues_53 cv_RX12_444 (ok_X12_turnedIn er16 _ _ _ _ _) iu_RX12 rfl (Nat.le_trans (by decide) hfr) (by decide) rfl rfl (Nat.le_of_ble_eq_true rfl) ?_
    refine aw_iload_n X dX12_tongues_56 rfl ?_
    refine aw_icmp_ne (tgt := 64) X dX12_tongues_57 (by decide) (fun c17 => ?_) (fun c17 => ?_)
    · rw [if_neg c17] at h
      refine aw_iconst (v := 0) X dX12_tongues_64 (by decide) ?_
      cases h
      exact aw_iret X dX12_tongues_65 rfl hz.symm
    · rw [if_pos c17] at h
      refine aw_iconst (v := 1) X dX12_tongues_60 (by decide) ?_
      refine aw_goto (tgt := 65) X dX12_tongues_61 (by decide) ?_
      cases h
      exact aw_iret X dX12_tongues_65 rfl hz.symm
set_option maxRecDepth 100000 in
set_option maxHeartbeats 4000000 in
theorem w_X12_tongues {fr : Nat} (hfr : 1 ≤ fr) (Z : AZ) (X : AX Z cX12_tongues 6 RX12 (some .int) 1 fr) (x1 : Int32) (x2 : Int32) (x3 : Int32) (s : Mem) (r : Int32 × Mem) (hz : zres Z = (some (.int r.1), r.2)) (h : f_X12_tongues x1 x2 x3 s = some r) : AW Z s 0 [some (.ref (zr Z 0)), some (.int x1), some (.int x2), some (.int x3), none, none] [] := by
  unfold f_X12_tongues at h
  refine aw_aload_n X dX12_tongues_0 rfl ?_
  refine aw_iconst (v := 0) X dX12_tongues_1 (by decide) ?_
  refine aw_put X dX12_tongues_2 fp_RX12_122 iu_RX12 gu_RX12_0 rfl rfl ?_
  refine aw_aload_n X dX12_tongues_5 rfl ?_
  refine aw_iload_n X dX12_tongues_6 rfl ?_
  refine aw_iconst (v := 1) X dX12_tongues_7 (by decide) ?_
  refine aw_sipush (v := 9999) X dX12_tongues_8 (by decide) ?_
  obtain ⟨r1, er1, h⟩ := bnd h
  refine aw_callV X dX12_tongues_11 cv_RX12_137 (ok_X12_isIn er1 _ _ _ _ _) iu_RX12 rfl (Nat.le_trans (by decide) hfr) (by decide) rfl rfl (Nat.le_of_ble_eq_true rfl) ?_
  refine aw_if_eq (tgt := 43) X dX12_tongues_14 (by decide) (fun c2 => ?_) (fun c2 => ?_)
  · rw [if_pos c2] at h
    refine aw_iconst (v := (-1)) X dX12_tongues_43 (by decide) ?_
    cases h
    exact aw_iret X dX12_tongues_44 rfl hz.symm
  · rw [if_neg c2] at h
    refine aw_aload_n X dX12_tongues_17 rfl ?_
    refine aw_iload_n X dX12_tongues_18 rfl ?_
    refine aw_iconst (v := 0) X dX12_tongues_19 (by decide) ?_
    refine aw_iconst (v := 2) X dX12_tongues_20 (by decide) ?_
    obtain ⟨r3, er3, h⟩ := bnd h
    refine aw_callV X dX12_tongues_21 cv_RX12_137 (ok_X12_isIn er3 _ _ _ _ _) iu_RX12 rfl (Nat.le_trans (by decide) hfr) (by decide) rfl rfl (Nat.le_of_ble_eq_true rfl) ?_
    refine aw_if_eq (tgt := 43) X dX12_tongues_24 (by decide) (fun c4 => ?_) (fun c4 => ?_)
    · rw [if_pos c4] at h
      refine aw_iconst (v := (-1)) X dX12_tongues_43 (by decide) ?_
      cases h
      exact aw_iret X dX12_tongues_44 rfl hz.symm
    · rw [if_neg c4] at h
      refine aw_iload_n X dX12_tongues_27 rfl ?_
      refine aw_iconst (v := 2) X dX12_tongues_28 (by decide) ?_
      refine aw_icmp_ge (tgt := 45) X dX12_tongues_29 (by decide) (fun c5 => ?_) (fun c5 => ?_)
      · rw [if_pos c5] at h
        refine aw_msk [true, true, true, true, false, false] ?_
        exact jo_X12_tongues_45 hfr Z X _ _ _ _ _ hz h
      · rw [if_neg c5] at h
        refine aw_aload_n X dX12_tongues_32 rfl ?_
        refine aw_iload_n X dX12_tongues_33 rfl ?_
        refine aw_iconst (v := 2) X dX12_tongues_34 (by decide) ?_
        refine aw_bipush (v := 16) X dX12_tongues_35 (by decide) ?_
        obtain ⟨r18, er18, h⟩ := bnd h
        refine aw_callV X dX12_tongues_37 cv_RX12_137 (ok_X12_isIn er18 _ _ _ _ _) iu_RX12 rfl (Nat.le_trans (by decide) hfr) (by decide) rfl rfl (Nat.le_of_ble_eq_true rfl) ?_
        refine aw_if_ne (tgt := 45) X dX12_tongues_40 (by decide) (fun c19 => ?_) (fun c19 => ?_)
        · rw [if_neg c19] at h
          refine aw_msk [true, true, true, true, false, false] ?_
          exact jo_X12_tongues_45 hfr Z X _ _ _ _ _ hz h
        · rw [if_pos c19] at h
          refine aw_iconst (v := (-1)) X dX12_tongues_43 (by decide) ?_
          cases h
          exact aw_iret X dX12_tongues_44 rfl hz.symm
set_option maxRecDepth 100000 in
set_option maxHeartbeats 4000000 in
theorem ok_X12_tongues {x1 x2 x3 : Int32} {s : Mem} {r : Int32 × Mem} (h : f_X12_tongues x1 x2 x3 s = some r) (l : Launch) (D : va_G) (ρ : Nat → Nat) (cA : ClassId × ClassId × ClassId) (τ : AT) : AM l D ρ cA 1 τ yX12_tongues cX12_tongues 6 (some .int) 1 [.ref (ρ 0), .int x1, .int x2, .int x3] (some (.int r.1)) s r.2 := by
  refine AM_of (L := [some (.ref (ρ 0)), some (.int x1), some (.int x2), some (.int x3), none, none]) (by decide) (by simp [Value.category]) (Nat.le_of_ble_eq_true rfl) (fun j v q => ?_) (fun Z X hρ hz hτ => ?_)
  · exact aL_ok (n := 2) [.ref (ρ 0), .int x1, .int x2, .int x3] j v q
  · subst hρ
    subst hτ
    exact w_X12_tongues (Nat.le_refl _) Z X x1 x2 x3 s r hz h

theorem dX12_waysOfTwo_0 : decode cX12_waysOfTwo 0 = .ok (.iconst 0, 1) := by decide +kernel
theorem dX12_waysOfTwo_1 : decode cX12_waysOfTwo 1 = .ok (.istore_n 2, 1) := by decide +kernel
theorem dX12_waysOfTwo_2 : decode cX12_waysOfTwo 2 = .ok (.iconst 0, 1) := by decide +kernel
theorem dX12_waysOfTwo_3 : decode cX12_waysOfTwo 3 = .ok (.istore_n 3, 1) := by decide +kernel
theorem dX12_waysOfTwo_4 : decode cX12_waysOfTwo 4 = .ok (.iconst 2, 1) := by decide +kernel
theorem dX12_waysOfTwo_5 : decode cX12_waysOfTwo 5 = .ok (.iload_n 3, 1) := by decide +kernel
theorem dX12_waysOfTwo_6 : decode cX12_waysOfTwo 6 = .ok (.imul, 1) := by decide +kernel
theorem dX12_waysOfTwo_7 : decode cX12_waysOfTwo 7 = .ok (.iload_n 3, 1) := by decide +kernel
theorem dX12_waysOfTwo_8 : decode cX12_waysOfTwo 8 = .ok (.imul, 1) := by decide +kernel
theorem dX12_waysOfTwo_9 : decode cX12_waysOfTwo 9 = .ok (.iload_n 1, 1) := by decide +kernel
theorem dX12_waysOfTwo_10 : decode cX12_waysOfTwo 10 = .ok (.if_icmp .gt 51, 3) := by decide +kernel
theorem dX12_waysOfTwo_13 : decode cX12_waysOfTwo 13 = .ok (.iload_n 3, 1) := by decide +kernel
theorem dX12_waysOfTwo_14 : decode cX12_waysOfTwo 14 = .ok (.istore 4, 2) := by decide +kernel
theorem dX12_waysOfTwo_16 : decode cX12_waysOfTwo 16 = .ok (.iload_n 3, 1) := by decide +kernel
theorem dX12_waysOfTwo_17 : decode cX12_waysOfTwo 17 = .ok (.iload_n 3, 1) := by decide +kernel
theorem dX12_waysOfTwo_18 : decode cX12_waysOfTwo 18 = .ok (.imul, 1) := by decide +kernel
theorem dX12_waysOfTwo_19 : decode cX12_waysOfTwo 19 = .ok (.iload 4, 2) := by decide +kernel
theorem dX12_waysOfTwo_21 : decode cX12_waysOfTwo 21 = .ok (.iload 4, 2) := by decide +kernel
theorem dX12_waysOfTwo_23 : decode cX12_waysOfTwo 23 = .ok (.imul, 1) := by decide +kernel
theorem dX12_waysOfTwo_24 : decode cX12_waysOfTwo 24 = .ok (.iadd, 1) := by decide +kernel
theorem dX12_waysOfTwo_25 : decode cX12_waysOfTwo 25 = .ok (.iload_n 1, 1) := by decide +kernel
theorem dX12_waysOfTwo_26 : decode cX12_waysOfTwo 26 = .ok (.if_icmp .ge 12, 3) := by decide +kernel
theorem dX12_waysOfTwo_29 : decode cX12_waysOfTwo 29 = .ok (.iload 4, 2) := by decide +kernel
theorem dX12_waysOfTwo_31 : decode cX12_waysOfTwo 31 = .ok (.iconst 1, 1) := by decide +kernel
theorem dX12_waysOfTwo_32 : decode cX12_waysOfTwo 32 = .ok (.iadd, 1) := by decide +kernel
theorem dX12_waysOfTwo_33 : decode cX12_waysOfTwo 33 = .ok (.istore 4, 2) := by decide +kernel
theorem dX12_waysOfTwo_35 : decode cX12_waysOfTwo 35 = .ok (.goto (-19), 3) := by decide +kernel
theorem dX12_waysOfTwo_38 : decode cX12_waysOfTwo 38 = .ok (.iload_n 3, 1) := by decide +kernel
theorem dX12_waysOfTwo_39 : decode cX12_waysOfTwo 39 = .ok (.iload_n 3, 1) := by decide +kernel
theorem dX12_waysOfTwo_40 : decode cX12_waysOfTwo 40 = .ok (.imul, 1) := by decide +kernel
theorem dX12_waysOfTwo_41 : decode cX12_waysOfTwo 41 = .ok (.iload 4, 2) := by decide +kernel
theorem dX12_waysOfTwo_43 : decode cX12_waysOfTwo 43 = .ok (.iload 4, 2) := by decide +kernel
theorem dX12_waysOfTwo_45 : decode cX12_waysOfTwo 45 = .ok (.imul, 1) := by decide +kernel
theorem dX12_waysOfTwo_46 : decode cX12_waysOfTwo 46 = .ok (.iadd, 1) := by decide +kernel
theorem dX12_waysOfTwo_47 : decode cX12_waysOfTwo 47 = .ok (.iload_n 1, 1) := by decide +kernel
theorem dX12_waysOfTwo_48 : decode cX12_waysOfTwo 48 = .ok (.if_icmp .ne 7, 3) := by decide +kernel
theorem dX12_waysOfTwo_51 : decode cX12_waysOfTwo 51 = .ok (.iload_n 2, 1) := by decide +kernel
theorem dX12_waysOfTwo_52 : decode cX12_waysOfTwo 52 = .ok (.iconst 1, 1) := by decide +kernel
theorem dX12_waysOfTwo_53 : decode cX12_waysOfTwo 53 = .ok (.iadd, 1) := by decide +kernel
theorem dX12_waysOfTwo_54 : decode cX12_waysOfTwo 54 = .ok (.istore_n 2, 1) := by decide +kernel
theorem dX12_waysOfTwo_55 : decode cX12_waysOfTwo 55 = .ok (.iinc 3 1, 3) := by decide +kernel
theorem dX12_waysOfTwo_58 : decode cX12_waysOfTwo 58 = .ok (.goto (-54), 3) := by decide +kernel
theorem dX12_waysOfTwo_61 : decode cX12_waysOfTwo 61 = .ok (.iload_n 2, 1) := by decide +kernel
theorem dX12_waysOfTwo_62 : decode cX12_waysOfTwo 62 = .ok (.ireturn, 1) := by decide +kernel
set_option maxRecDepth 100000 in
set_option maxHeartbeats 4000000 in
theorem so_X12_waysOfTwo_16 {fr : Nat} (hfr : 0 ≤ fr) (Z : AZ) (X : AX Z cX12_waysOfTwo 5 RX12 (some .int) 1 fr) (x1 : Int32) (x2 : Int32) (x3 : Int32) (x4 : Int32) (s : Mem) (q : (Int32 × Mem) ⊕ (Int32 × Mem)) (h : st_X12_waysOfTwo_16 x1 x2 x3 x4 s = some q) (hi : ∀ y : Int32 × Mem, q = .inl y → AW Z y.2 16 [none, some (.int x1), some (.int x2), some (.int x3), some (.int y.1)] []) (he : ∀ b : Int32 × Mem, q = .inr b → AW Z b.2 38 [none, some (.int x1), some (.int x2), some (.int x3), some (.int b.1)] []) : AW Z s 16 [none, some (.int x1), some (.int x2), some (.int x3), some (.int x4)] [] := by
  unfold st_X12_waysOfTwo_16 at h
  refine aw_iload_n X dX12_waysOfTwo_16 rfl ?_
  refine aw_iload_n X dX12_waysOfTwo_17 rfl ?_
  refine aw_imul X dX12_waysOfTwo_18 ?_
  refine aw_iload X dX12_waysOfTwo_19 rfl ?_
  refine aw_iload X dX12_waysOfTwo_21 rfl ?_
  refine aw_imul X dX12_waysOfTwo_23 ?_
  refine aw_iadd X dX12_waysOfTwo_24 ?_
  refine aw_iload_n X dX12_waysOfTwo_25 rfl ?_
  refine aw_icmp_ge (tgt := 38) X dX12_waysOfTwo_26 (by decide) (fun c2 => ?_) (fun c2 => ?_)
  · rw [if_pos c2] at h
    cases h
    refine aw_msk [false, true, true, true, true] ?_
    exact he _ rfl
  · rw [if_neg c2] at h
    refine aw_iload X dX12_waysOfTwo_29 rfl ?_
    refine aw_iconst (v := 1) X dX12_waysOfTwo_31 (by decide) ?_
    refine aw_iadd X dX12_waysOfTwo_32 ?_
    refine aw_istore (L' := [none, some (.int x1), some (.int x2), some (.int x3), some (.int (x4 + 1))]) X dX12_waysOfTwo_33 (by decide) rfl ?_
    refine aw_goto (tgt := 16) X dX12_waysOfTwo_35 (by decide) ?_
    cases h
    refine aw_msk [false, true, true, true, true] ?_
    exact hi _ rfl
set_option maxRecDepth 100000 in
set_option maxHeartbeats 4000000 in
theorem so_X12_waysOfTwo_4 {fr : Nat} (hfr : 0 ≤ fr) (Z : AZ) (X : AX Z cX12_waysOfTwo 5 RX12 (some .int) 1 fr) (x1 : Int32) (x2 : Int32) (x3 : Int32) (s : Mem) (q : (Int32 × Int32 × Mem) ⊕ (Int32 × Mem)) (h : st_X12_waysOfTwo_4 x1 x2 x3 s = some q) (hi : ∀ y : Int32 × Int32 × Mem, q = .inl y → AW Z y.2.2 4 [none, some (.int x1), some (.int y.1), some (.int y.2.1), none] []) (he : ∀ b : Int32 × Mem, q = .inr b → AW Z b.2 61 [none, none, some (.int b.1), none, none] []) : AW Z s 4 [none, some (.int x1), some (.int x2), some (.int x3), none] [] := by
  unfold st_X12_waysOfTwo_4 at h
  refine aw_iconst (v := 2) X dX12_waysOfTwo_4 (by decide) ?_
  refine aw_iload_n X dX12_waysOfTwo_5 rfl ?_
  refine aw_imul X dX12_waysOfTwo_6 ?_
  refine aw_iload_n X dX12_waysOfTwo_7 rfl ?_
  refine aw_imul X dX12_waysOfTwo_8 ?_
  refine aw_iload_n X dX12_waysOfTwo_9 rfl ?_
  refine aw_icmp_gt (tgt := 61) X dX12_waysOfTwo_10 (by decide) (fun c1 => ?_) (fun c1 => ?_)
  · rw [if_pos c1] at h
    cases h
    refine aw_msk [false, false, true, false, false] ?_
    exact he _ rfl
  · rw [if_neg c1] at h
    refine aw_iload_n X dX12_waysOfTwo_13 rfl ?_
    refine aw_istore (L' := [none, some (.int x1), some (.int x2), some (.int x3), some (.int x3)]) X dX12_waysOfTwo_14 (by decide) rfl ?_
    obtain ⟨r3, er3, h⟩ := bnd h
    refine aw_msk [false, true, true, true, true] ?_
    refine it_ok (P := fun y : Int32 × Mem => AW Z y.2 16 [none, some (.int x1), some (.int x2), some (.int x3), some (.int y.1)] []) (Q := fun b : Int32 × Mem => AW Z b.2 38 [none, some (.int x1), some (.int x2), some (.int x3), some (.int b.1)] []) (fun y q hq hi he => so_X12_waysOfTwo_16 hfr Z X x1 x2 x3 y.1 y.2 q hq hi he) FUEL _ _ er3 ?_
    refine aw_iload_n X dX12_waysOfTwo_38 rfl ?_
    refine aw_iload_n X dX12_waysOfTwo_39 rfl ?_
    refine aw_imul X dX12_waysOfTwo_40 ?_
    refine aw_iload X dX12_waysOfTwo_41 rfl ?_
    refine aw_iload X dX12_waysOfTwo_43 rfl ?_
    refine aw_imul X dX12_waysOfTwo_45 ?_
    refine aw_iadd X dX12_waysOfTwo_46 ?_
    refine aw_iload_n X dX12_waysOfTwo_47 rfl ?_
    refine aw_icmp_ne (tgt := 55) X dX12_waysOfTwo_48 (by decide) (fun c4 => ?_) (fun c4 => ?_)
    · rw [if_neg c4] at h
      refine aw_iinc (v := (x3 + 1)) (L' := [none, some (.int x1), some (.int x2), some (.int (x3 + 1)), some (.int r3.1)]) X dX12_waysOfTwo_55 rfl rfl (by decide) rfl ?_
      refine aw_goto (tgt := 4) X dX12_waysOfTwo_58 (by decide) ?_
      cases h
      refine aw_msk [false, true, true, true, false] ?_
      exact hi _ rfl
    · rw [if_pos c4] at h
      refine aw_iload_n X dX12_waysOfTwo_51 rfl ?_
      refine aw_iconst (v := 1) X dX12_waysOfTwo_52 (by decide) ?_
      refine aw_iadd X dX12_waysOfTwo_53 ?_
      refine aw_istore_n (L' := [none, some (.int x1), some (.int (x2 + 1)), some (.int x3), some (.int r3.1)]) X dX12_waysOfTwo_54 (by decide) rfl ?_
      refine aw_iinc (v := (x3 + 1)) (L' := [none, some (.int x1), some (.int (x2 + 1)), some (.int (x3 + 1)), some (.int r3.1)]) X dX12_waysOfTwo_55 rfl rfl (by decide) rfl ?_
      refine aw_goto (tgt := 4) X dX12_waysOfTwo_58 (by decide) ?_
      cases h
      refine aw_msk [false, true, true, true, false] ?_
      exact hi _ rfl
set_option maxRecDepth 100000 in
set_option maxHeartbeats 4000000 in
theorem w_X12_waysOfTwo {fr : Nat} (hfr : 0 ≤ fr) (Z : AZ) (X : AX Z cX12_waysOfTwo 5 RX12 (some .int) 1 fr) (x1 : Int32) (s : Mem) (r : Int32 × Mem) (hz : zres Z = (some (.int r.1), r.2)) (h : f_X12_waysOfTwo x1 s = some r) : AW Z s 0 [some (.ref (zr Z 0)), some (.int x1), none, none, none] [] := by
  unfold f_X12_waysOfTwo at h
  refine aw_iconst (v := 0) X dX12_waysOfTwo_0 (by decide) ?_
  refine aw_istore_n (L' := [some (.ref (zr Z 0)), some (.int x1), some (.int 0), none, none]) X dX12_waysOfTwo_1 (by decide) rfl ?_
  refine aw_iconst (v := 0) X dX12_waysOfTwo_2 (by decide) ?_
  refine aw_istore_n (L' := [some (.ref (zr Z 0)), some (.int x1), some (.int 0), some (.int 0), none]) X dX12_waysOfTwo_3 (by decide) rfl ?_
  obtain ⟨r5, er5, h⟩ := bnd h
  refine aw_msk [false, true, true, true, false] ?_
  refine it_ok (P := fun y : Int32 × Int32 × Mem => AW Z y.2.2 4 [none, some (.int x1), some (.int y.1), some (.int y.2.1), none] []) (Q := fun b : Int32 × Mem => AW Z b.2 61 [none, none, some (.int b.1), none, none] []) (fun y q hq hi he => so_X12_waysOfTwo_4 hfr Z X x1 y.1 y.2.1 y.2.2 q hq hi he) FUEL _ _ er5 ?_
  refine aw_iload_n X dX12_waysOfTwo_61 rfl ?_
  cases h
  exact aw_iret X dX12_waysOfTwo_62 rfl hz.symm
set_option maxRecDepth 100000 in
set_option maxHeartbeats 4000000 in
theorem ok_X12_waysOfTwo {x1 : Int32} {s : Mem} {r : Int32 × Mem} (h : f_X12_waysOfTwo x1 s = some r) (l : Launch) (D : va_G) (ρ : Nat → Nat) (cA : ClassId × ClassId × ClassId) (τ : AT) : AM l D ρ cA 1 τ yX12_waysOfTwo cX12_waysOfTwo 5 (some .int) 0 [.ref (ρ 0), .int x1] (some (.int r.1)) s r.2 := by
  refine AM_of (L := [some (.ref (ρ 0)), some (.int x1), none, none, none]) (by decide) (by simp [Value.category]) (Nat.le_of_ble_eq_true rfl) (fun j v q => ?_) (fun Z X hρ hz hτ => ?_)
  · exact aL_ok (n := 3) [.ref (ρ 0), .int x1] j v q
  · subst hρ
    subst hτ
    exact w_X12_waysOfTwo (Nat.le_refl _) Z X x1 s r hz h

theorem dX12_fewSquares_0 : decode cX12_fewSquares 0 = .ok (.iconst 1, 1) := by decide +kernel
theorem dX12_fewSquares_1 : decode cX12_fewSquares 1 = .ok (.istore_n 2, 1) := by decide +kernel
theorem dX12_fewSquares_2 : decode cX12_fewSquares 2 = .ok (.iload_n 2, 1) := by decide +kernel
theorem dX12_fewSquares_3 : decode cX12_fewSquares 3 = .ok (.iload_n 2, 1) := by decide +kernel
theorem dX12_fewSquares_4 : decode cX12_fewSquares 4 = .ok (.imul, 1) := by decide +kernel
theorem dX12_fewSquares_5 : decode cX12_fewSquares 5 = .ok (.iload_n 1, 1) := by decide +kernel
theorem dX12_fewSquares_6 : decode cX12_fewSquares 6 = .ok (.if_icmp .gt 18, 3) := by decide +kernel
theorem dX12_fewSquares_9 : decode cX12_fewSquares 9 = .ok (.iload_n 2, 1) := by decide +kernel
theorem dX12_fewSquares_10 : decode cX12_fewSquares 10 = .ok (.iload_n 2, 1) := by decide +kernel
theorem dX12_fewSquares_11 : decode cX12_fewSquares 11 = .ok (.imul, 1) := by decide +kernel
theorem dX12_fewSquares_12 : decode cX12_fewSquares 12 = .ok (.iload_n 1, 1) := by decide +kernel
theorem dX12_fewSquares_13 : decode cX12_fewSquares 13 = .ok (.if_icmp .ne 5, 3) := by decide +kernel
theorem dX12_fewSquares_16 : decode cX12_fewSquares 16 = .ok (.iconst 1, 1) := by decide +kernel
theorem dX12_fewSquares_17 : decode cX12_fewSquares 17 = .ok (.ireturn, 1) := by decide +kernel
theorem dX12_fewSquares_18 : decode cX12_fewSquares 18 = .ok (.iinc 2 1, 3) := by decide +kernel
theorem dX12_fewSquares_21 : decode cX12_fewSquares 21 = .ok (.goto (-19), 3) := by decide +kernel
theorem dX12_fewSquares_24 : decode cX12_fewSquares 24 = .ok (.aload_n 0, 1) := by decide +kernel
theorem dX12_fewSquares_25 : decode cX12_fewSquares 25 = .ok (.iload_n 1, 1) := by decide +kernel
theorem dX12_fewSquares_26 : decode cX12_fewSquares 26 = .ok (.invokevirtual 447, 3) := by decide +kernel
theorem dX12_fewSquares_29 : decode cX12_fewSquares 29 = .ok (.ifCond .le 5, 3) := by decide +kernel
theorem dX12_fewSquares_32 : decode cX12_fewSquares 32 = .ok (.iconst 2, 1) := by decide +kernel
theorem dX12_fewSquares_33 : decode cX12_fewSquares 33 = .ok (.ireturn, 1) := by decide +kernel
theorem dX12_fewSquares_34 : decode cX12_fewSquares 34 = .ok (.iconst 1, 1) := by decide +kernel
theorem dX12_fewSquares_35 : decode cX12_fewSquares 35 = .ok (.istore_n 2, 1) := by decide +kernel
theorem dX12_fewSquares_36 : decode cX12_fewSquares 36 = .ok (.iload_n 2, 1) := by decide +kernel
theorem dX12_fewSquares_37 : decode cX12_fewSquares 37 = .ok (.iload_n 2, 1) := by decide +kernel
theorem dX12_fewSquares_38 : decode cX12_fewSquares 38 = .ok (.imul, 1) := by decide +kernel
theorem dX12_fewSquares_39 : decode cX12_fewSquares 39 = .ok (.iload_n 1, 1) := by decide +kernel
theorem dX12_fewSquares_40 : decode cX12_fewSquares 40 = .ok (.if_icmp .ge 23, 3) := by decide +kernel
theorem dX12_fewSquares_43 : decode cX12_fewSquares 43 = .ok (.aload_n 0, 1) := by decide +kernel
theorem dX12_fewSquares_44 : decode cX12_fewSquares 44 = .ok (.iload_n 1, 1) := by decide +kernel
theorem dX12_fewSquares_45 : decode cX12_fewSquares 45 = .ok (.iload_n 2, 1) := by decide +kernel
theorem dX12_fewSquares_46 : decode cX12_fewSquares 46 = .ok (.iload_n 2, 1) := by decide +kernel
theorem dX12_fewSquares_47 : decode cX12_fewSquares 47 = .ok (.imul, 1) := by decide +kernel
theorem dX12_fewSquares_48 : decode cX12_fewSquares 48 = .ok (.isub, 1) := by decide +kernel
theorem dX12_fewSquares_49 : decode cX12_fewSquares 49 = .ok (.invokevirtual 447, 3) := by decide +kernel
theorem dX12_fewSquares_52 : decode cX12_fewSquares 52 = .ok (.ifCond .le 5, 3) := by decide +kernel
theorem dX12_fewSquares_55 : decode cX12_fewSquares 55 = .ok (.iconst 3, 1) := by decide +kernel
theorem dX12_fewSquares_56 : decode cX12_fewSquares 56 = .ok (.ireturn, 1) := by decide +kernel
theorem dX12_fewSquares_57 : decode cX12_fewSquares 57 = .ok (.iinc 2 1, 3) := by decide +kernel
theorem dX12_fewSquares_60 : decode cX12_fewSquares 60 = .ok (.goto (-24), 3) := by decide +kernel
theorem dX12_fewSquares_63 : decode cX12_fewSquares 63 = .ok (.iconst 4, 1) := by decide +kernel
theorem dX12_fewSquares_64 : decode cX12_fewSquares 64 = .ok (.ireturn, 1) := by decide +kernel
set_option maxRecDepth 100000 in
set_option maxHeartbeats 4000000 in
theorem so_X12_fewSquares_2 {fr : Nat} (hfr : 1 ≤ fr) (Z : AZ) (X : AX Z cX12_fewSquares 3 RX12 (some .int) 1 fr) (x1 : Int32) (x2 : Int32) (s : Mem) (q : (Int32 × Mem) ⊕ (Nat × Mem)) (h : st_X12_fewSquares_2 x1 x2 s = some q) (hi : ∀ y : Int32 × Mem, q = .inl y → AW Z y.2 2 [some (.ref (zr Z 0)), some (.int x1), some (.int y.1)] []) (he : ∀ b : Nat × Mem, q = .inr b → (b.1 = 0 → AW Z b.2 16 [none, none, none] []) ∧ (b.1 = 1 → AW Z b.2 24 [some (.ref (zr Z 0)), some (.int x1), none] [])) : AW Z s 2 [some (.ref (zr Z 0)), some (.int x1), some (.int x2)] [] := by
  unfold st_X12_fewSquares_2 at h
  refine aw_iload_n X dX12_fewSquares_2 rfl ?_
  refine aw_iload_n X dX12_fewSquares_3 rfl ?_
  refine aw_imul X dX12_fewSquares_4 ?_
  refine aw_iload_n X dX12_fewSquares_5 rfl ?_
  refine aw_icmp_gt (tgt := 24) X dX12_fewSquares_6 (by decide) (fun c1 => ?_) (fun c1 => ?_)
  · rw [if_pos c1] at h
    cases h
    refine aw_msk [true, true, false] ?_
    exact (he _ rfl).2 rfl
  · rw [if_neg c1] at h
    refine aw_iload_n X dX12_fewSquares_9 rfl ?_
    refine aw_iload_n X dX12_fewSquares_10 rfl ?_
    refine aw_imul X dX12_fewSquares_11 ?_
    refine aw_iload_n X dX12_fewSquares_12 rfl ?_
    refine aw_icmp_ne (tgt := 18) X dX12_fewSquares_13 (by decide) (fun c2 => ?_) (fun c2 => ?_)
    · rw [if_neg c2] at h
      refine aw_iinc (v := (x2 + 1)) (L' := [some (.ref (zr Z 0)), some (.int x1), some (.int (x2 + 1))]) X dX12_fewSquares_18 rfl rfl (by decide) rfl ?_
      refine aw_goto (tgt := 2) X dX12_fewSquares_21 (by decide) ?_
      cases h
      refine aw_msk [true, true, true] ?_
      exact hi _ rfl
    · rw [if_pos c2] at h
      cases h
      refine aw_msk [false, false, false] ?_
      exact (he _ rfl).1 rfl
set_option maxRecDepth 100000 in
set_option maxHeartbeats 4000000 in
theorem so_X12_fewSquares_36 {fr : Nat} (hfr : 1 ≤ fr) (Z : AZ) (X : AX Z cX12_fewSquares 3 RX12 (some .int) 1 fr) (x1 : Int32) (x2 : Int32) (s : Mem) (q : (Int32 × Mem) ⊕ (Nat × Mem)) (h : st_X12_fewSquares_36 x1 x2 s = some q) (hi : ∀ y : Int32 × Mem, q = .inl y → AW Z y.2 36 [some (.ref (zr Z 0)), some (.int x1), some (.int y.1)] []) (he : ∀ b : Nat × Mem, q = .inr b → (b.1 = 0 → AW Z b.2 55 [none, none, none] []) ∧ (b.1 = 1 → AW Z b.2 63 [none, none, none] [])) : AW Z s 36 [some (.ref (zr Z 0)), some (.int x1), some (.int x2)] [] := by
  unfold st_X12_fewSquares_36 at h
  refine aw_iload_n X dX12_fewSquares_36 rfl ?_
  refine aw_iload_n X dX12_fewSquares_37 rfl ?_
  refine aw_imul X dX12_fewSquares_38 ?_
  refine aw_iload_n X dX12_fewSquares_39 rfl ?_
  refine aw_icmp_ge (tgt := 63) X dX12_fewSquares_40 (by decide) (fun c6 => ?_) (fun c6 => ?_)
  · rw [if_pos c6] at h
    cases h
    refine aw_msk [false, false, false] ?_
    exact (he _ rfl).2 rfl
  · rw [if_neg c6] at h
    refine aw_aload_n X dX12_fewSquares_43 rfl ?_
    refine aw_iload_n X dX12_fewSquares_44 rfl ?_
    refine aw_iload_n X dX12_fewSquares_45 rfl ?_
    refine aw_iload_n X dX12_fewSquares_46 rfl ?_
    refine aw_imul X dX12_fewSquares_47 ?_
    refine aw_isub X dX12_fewSquares_48 ?_
    obtain ⟨r7, er7, h⟩ := bnd h
    refine aw_callV X dX12_fewSquares_49 cv_RX12_447 (ok_X12_waysOfTwo er7 _ _ _ _ _) iu_RX12 rfl (Nat.le_trans (by decide) hfr) (by decide) rfl rfl (Nat.le_of_ble_eq_true rfl) ?_
    refine aw_if_le (tgt := 57) X dX12_fewSquares_52 (by decide) (fun c8 => ?_) (fun c8 => ?_)
    · rw [if_pos c8] at h
      refine aw_iinc (v := (x2 + 1)) (L' := [some (.ref (zr Z 0)), some (.int x1), some (.int (x2 + 1))]) X dX12_fewSquares_57 rfl rfl (by decide) rfl ?_
      refine aw_goto (tgt := 36) X dX12_fewSquares_60 (by decide) ?_
      cases h
      refine aw_msk [true, true, true] ?_
      exact hi _ rfl
    · rw [if_neg c8] at h
      cases h
      refine aw_msk [false, false, false] ?_
      exact (he _ rfl).1 rfl
set_option maxRecDepth 100000 in
set_option maxHeartbeats 4000000 in
theorem w_X12_fewSquares {fr : Nat} (hfr : 1 ≤ fr) (Z : AZ) (X : AX Z cX12_fewSquares 3 RX12 (some .int) 1 fr) (x1 : Int32) (s : Mem) (r : Int32 × Mem) (hz : zres Z = (some (.int r.1), r.2)) (h : f_X12_fewSquares x1 s = some r) : AW Z s 0 [some (.ref (zr Z 0)), some (.int x1), none] [] := by
  unfold f_X12_fewSquares at h
  refine aw_iconst (v := 1) X dX12_fewSquares_0 (by decide) ?_
  refine aw_istore_n (L' := [some (.ref (zr Z 0)), some (.int x1), some (.int 1)]) X dX12_fewSquares_1 (by decide) rfl ?_
  obtain ⟨r3, er3, h⟩ := bnd h
  refine aw_msk [true, true, true] ?_
  refine it_ok (P := fun y : Int32 × Mem => AW Z y.2 2 [some (.ref (zr Z 0)), some (.int x1), some (.int y.1)] []) (Q := fun b : Nat × Mem => (b.1 = 0 → AW Z b.2 16 [none, none, none] []) ∧ (b.1 = 1 → AW Z b.2 24 [some (.ref (zr Z 0)), some (.int x1), none] [])) (fun y q hq hi he => so_X12_fewSquares_2 hfr Z X x1 y.1 y.2 q hq hi he) FUEL _ _ er3 ?_
  refine ⟨fun c0 => ?_, fun c1 => ?_⟩
  · rw [if_pos c0] at h
    refine aw_iconst (v := 1) X dX12_fewSquares_16 (by decide) ?_
    cases h
    exact aw_iret X dX12_fewSquares_17 rfl hz.symm
  · rw [if_neg (by rw [c1]; decide)] at h
    refine aw_aload_n X dX12_fewSquares_24 rfl ?_
    refine aw_iload_n X dX12_fewSquares_25 rfl ?_
    obtain ⟨r4, er4, h⟩ := bnd h
    refine aw_callV X dX12_fewSquares_26 cv_RX12_447 (ok_X12_waysOfTwo er4 _ _ _ _ _) iu_RX12 rfl (Nat.le_trans (by decide) hfr) (by decide) rfl rfl (Nat.le_of_ble_eq_true rfl) ?_
    refine aw_if_le (tgt := 34) X dX12_fewSquares_29 (by decide) (fun c5 => ?_) (fun c5 => ?_)
    · rw [if_pos c5] at h
      refine aw_iconst (v := 1) X dX12_fewSquares_34 (by decide) ?_
      refine aw_istore_n (L' := [some (.ref (zr Z 0)), some (.int x1), some (.int 1)]) X dX12_fewSquares_35 (by decide) rfl ?_
      obtain ⟨r9, er9, h⟩ := bnd h
      refine aw_msk [true, true, true] ?_
      refine it_ok (P := fun y : Int32 × Mem => AW Z y.2 36 [some (.ref (zr Z 0)), some (.int x1), some (.int y.1)] []) (Q := fun b : Nat × Mem => (b.1 = 0 → AW Z b.2 55 [none, none, none] []) ∧ (b.1 = 1 → AW Z b.2 63 [none, none, none] [])) (fun y q hq hi he => so_X12_fewSquares_36 hfr Z X x1 y.1 y.2 q hq hi he) FUEL _ _ er9 ?_
      refine ⟨fun c0 => ?_, fun c1 => ?_⟩
      · rw [if_pos c0] at h
        refine aw_iconst (v := 3) X dX12_fewSquares_55 (by decide) ?_
        cases h
        exact aw_iret X dX12_fewSquares_56 rfl hz.symm
      · rw [if_neg (by rw [c1]; decide)] at h
        refine aw_iconst (v := 4) X dX12_fewSquares_63 (by decide) ?_
        cases h
        exact aw_iret X dX12_fewSquares_64 rfl hz.symm
    · rw [if_neg c5] at h
      refine aw_iconst (v := 2) X dX12_fewSquares_32 (by decide) ?_
      cases h
      exact aw_iret X dX12_fewSquares_33 rfl hz.symm
set_option maxRecDepth 100000 in
set_option maxHeartbeats 4000000 in
theorem ok_X12_fewSquares {x1 : Int32} {s : Mem} {r : Int32 × Mem} (h : f_X12_fewSquares x1 s = some r) (l : Launch) (D : va_G) (ρ : Nat → Nat) (cA : ClassId × ClassId × ClassId) (τ : AT) : AM l D ρ cA 1 τ yX12_fewSquares cX12_fewSquares 3 (some .int) 1 [.ref (ρ 0), .int x1] (some (.int r.1)) s r.2 := by
  refine AM_of (L := [some (.ref (ρ 0)), some (.int x1), none]) (by decide) (by simp [Value.category]) (Nat.le_of_ble_eq_true rfl) (fun j v q => ?_) (fun Z X hρ hz hτ => ?_)
  · exact aL_ok (n := 1) [.ref (ρ 0), .int x1] j v q
  · subst hρ
    subst hτ
    exact w_X12_fewSquares (Nat.le_refl _) Z X x1 s r hz h

theorem dX12_squares_0 : decode cX12_squares 0 = .ok (.aload_n 0, 1) := by decide +kernel
theorem dX12_squares_1 : decode cX12_squares 1 = .ok (.iconst 0, 1) := by decide +kernel
theorem dX12_squares_2 : decode cX12_squares 2 = .ok (.putfield 122, 3) := by decide +kernel
theorem dX12_squares_5 : decode cX12_squares 5 = .ok (.aload_n 0, 1) := by decide +kernel
theorem dX12_squares_6 : decode cX12_squares 6 = .ok (.iload_n 1, 1) := by decide +kernel
theorem dX12_squares_7 : decode cX12_squares 7 = .ok (.iconst 1, 1) := by decide +kernel
theorem dX12_squares_8 : decode cX12_squares 8 = .ok (.sipush 9999, 3) := by decide +kernel
theorem dX12_squares_11 : decode cX12_squares 11 = .ok (.invokevirtual 137, 3) := by decide +kernel
theorem dX12_squares_14 : decode cX12_squares 14 = .ok (.ifCond .eq 13, 3) := by decide +kernel
theorem dX12_squares_17 : decode cX12_squares 17 = .ok (.aload_n 0, 1) := by decide +kernel
theorem dX12_squares_18 : decode cX12_squares 18 = .ok (.iload_n 2, 1) := by decide +kernel
theorem dX12_squares_19 : decode cX12_squares 19 = .ok (.iconst 0, 1) := by decide +kernel
theorem dX12_squares_20 : decode cX12_squares 20 = .ok (.iconst 1, 1) := by decide +kernel
theorem dX12_squares_21 : decode cX12_squares 21 = .ok (.invokevirtual 137, 3) := by decide +kernel
theorem dX12_squares_24 : decode cX12_squares 24 = .ok (.ifCond .ne 5, 3) := by decide +kernel
theorem dX12_squares_27 : decode cX12_squares 27 = .ok (.iconst (-1), 1) := by decide +kernel
theorem dX12_squares_28 : decode cX12_squares 28 = .ok (.ireturn, 1) := by decide +kernel
theorem dX12_squares_29 : decode cX12_squares 29 = .ok (.iload_n 2, 1) := by decide +kernel
theorem dX12_squares_30 : decode cX12_squares 30 = .ok (.ifCond .ne 11, 3) := by decide +kernel
theorem dX12_squares_33 : decode cX12_squares 33 = .ok (.aload_n 0, 1) := by decide +kernel
theorem dX12_squares_34 : decode cX12_squares 34 = .ok (.iload_n 1, 1) := by decide +kernel
theorem dX12_squares_35 : decode cX12_squares 35 = .ok (.invokevirtual 450, 3) := by decide +kernel
theorem dX12_squares_38 : decode cX12_squares 38 = .ok (.goto 8, 3) := by decide +kernel
theorem dX12_squares_41 : decode cX12_squares 41 = .ok (.aload_n 0, 1) := by decide +kernel
theorem dX12_squares_42 : decode cX12_squares 42 = .ok (.iload_n 1, 1) := by decide +kernel
theorem dX12_squares_43 : decode cX12_squares 43 = .ok (.invokevirtual 447, 3) := by decide +kernel
theorem dX12_squares_46 : decode cX12_squares 46 = .ok (.ireturn, 1) := by decide +kernel
set_option maxRecDepth 100000 in
set_option maxHeartbeats 4000000 in
theorem w_X12_squares {fr : Nat} (hfr : 2 ≤ fr) (Z : AZ) (X : AX Z cX12_squares 3 RX12 (some .int) 1 fr) (x1 : Int32) (x2 : Int32) (s : Mem) (r : Int32 × Mem) (hz : zres Z = (some (.int r.1), r.2)) (h : f_X12_squares x1 x2 s = some r) : AW Z s 0 [some (.ref (zr Z 0)), some (.int x1), some (.int x2)] [] := by
  unfold f_X12_squares at h
  refine aw_aload_n X dX12_squares_0 rfl ?_
  refine aw_iconst (v := 0) X dX12_squares_1 (by decide) ?_
  refine aw_put X dX12_squares_2 fp_RX12_122 iu_RX12 gu_RX12_0 rfl rfl ?_
  refine aw_aload_n X dX12_squares_5 rfl ?_
  refine aw_iload_n X dX12_squares_6 rfl ?_
  refine aw_iconst (v := 1) X dX12_squares_7 (by decide) ?_
  refine aw_sipush (v := 9999) X dX12_squares_8 (by decide) ?_
  obtain ⟨r1, er1, h⟩ := bnd h
  refine aw_callV X dX12_squares_11 cv_RX12_137 (ok_X12_isIn er1 _ _ _ _ _) iu_RX12 rfl (Nat.le_trans (by decide) hfr) (by decide) rfl rfl (Nat.le_of_ble_eq_true rfl) ?_
  refine aw_if_eq (tgt := 27) X dX12_squares_14 (by decide) (fun c2 => ?_) (fun c2 => ?_)
  · rw [if_pos c2] at h
    refine aw_iconst (v := (-1)) X dX12_squares_27 (by decide) ?_
    cases h
    exact aw_iret X dX12_squares_28 rfl hz.symm
  · rw [if_neg c2] at h
    refine aw_aload_n X dX12_squares_17 rfl ?_
    refine aw_iload_n X dX12_squares_18 rfl ?_
    refine aw_iconst (v := 0) X dX12_squares_19 (by decide) ?_
    refine aw_iconst (v := 1) X dX12_squares_20 (by decide) ?_
    obtain ⟨r3, er3, h⟩ := bnd h
    refine aw_callV X dX12_squares_21 cv_RX12_137 (ok_X12_isIn er3 _ _ _ _ _) iu_RX12 rfl (Nat.le_trans (by decide) hfr) (by decide) rfl rfl (Nat.le_of_ble_eq_true rfl) ?_
    refine aw_if_ne (tgt := 29) X dX12_squares_24 (by decide) (fun c4 => ?_) (fun c4 => ?_)
    · rw [if_neg c4] at h
      refine aw_iload_n X dX12_squares_29 rfl ?_
      refine aw_if_ne (tgt := 41) X dX12_squares_30 (by decide) (fun c5 => ?_) (fun c5 => ?_)
      · rw [if_neg c5] at h
        refine aw_aload_n X dX12_squares_41 rfl ?_
        refine aw_iload_n X dX12_squares_42 rfl ?_
        obtain ⟨r6, er6, h⟩ := bnd h
        refine aw_callV X dX12_squares_43 cv_RX12_447 (ok_X12_waysOfTwo er6 _ _ _ _ _) iu_RX12 rfl (Nat.le_trans (by decide) hfr) (by decide) rfl rfl (Nat.le_of_ble_eq_true rfl) ?_
        cases h
        exact aw_iret X dX12_squares_46 rfl hz.symm
      · rw [if_pos c5] at h
        refine aw_aload_n X dX12_squares_33 rfl ?_
        refine aw_iload_n X dX12_squares_34 rfl ?_
        obtain ⟨r7, er7, h⟩ := bnd h
        refine aw_callV X dX12_squares_35 cv_RX12_450 (ok_X12_fewSquares er7 _ _ _ _ _) iu_RX12 rfl (Nat.le_trans (by decide) hfr) (by decide) rfl rfl (Nat.le_of_ble_eq_true rfl) ?_
        refine aw_goto (tgt := 46) X dX12_squares_38 (by decide) ?_
        cases h
        exact aw_iret X dX12_squares_46 rfl hz.symm
    · rw [if_pos c4] at h
      refine aw_iconst (v := (-1)) X dX12_squares_27 (by decide) ?_
      cases h
      exact aw_iret X dX12_squares_28 rfl hz.symm
set_option maxRecDepth 100000 in
set_option maxHeartbeats 4000000 in
theorem ok_X12_squares {x1 x2 : Int32} {s : Mem} {r : Int32 × Mem} (h : f_X12_squares x1 x2 s = some r) (l : Launch) (D : va_G) (ρ : Nat → Nat) (cA : ClassId × ClassId × ClassId) (τ : AT) : AM l D ρ cA 1 τ yX12_squares cX12_squares 3 (some .int) 2 [.ref (ρ 0), .int x1, .int x2] (some (.int r.1)) s r.2 := by
  refine AM_of (L := [some (.ref (ρ 0)), some (.int x1), some (.int x2)]) (by decide) (by simp [Value.category]) (Nat.le_of_ble_eq_true rfl) (fun j v q => ?_) (fun Z X hρ hz hτ => ?_)
  · exact aL_ok (n := 0) [.ref (ρ 0), .int x1, .int x2] j v q
  · subst hρ
    subst hτ
    exact w_X12_squares (Nat.le_refl _) Z X x1 x2 s r hz h

theorem dX12_kin_0 : decode cX12_kin 0 = .ok (.aload_n 0, 1) := by decide +kernel
theorem dX12_kin_1 : decode cX12_kin 1 = .ok (.iconst 0, 1) := by decide +kernel
theorem dX12_kin_2 : decode cX12_kin 2 = .ok (.putfield 122, 3) := by decide +kernel
theorem dX12_kin_5 : decode cX12_kin 5 = .ok (.iload_n 1, 1) := by decide +kernel
theorem dX12_kin_6 : decode cX12_kin 6 = .ok (.iconst (-1), 1) := by decide +kernel
theorem dX12_kin_7 : decode cX12_kin 7 = .ok (.if_icmp .ne 10, 3) := by decide +kernel
theorem dX12_kin_10 : decode cX12_kin 10 = .ok (.aload_n 0, 1) := by decide +kernel
theorem dX12_kin_11 : decode cX12_kin 11 = .ok (.iconst 0, 1) := by decide +kernel
theorem dX12_kin_12 : decode cX12_kin 12 = .ok (.putfield 453, 3) := by decide +kernel
theorem dX12_kin_15 : decode cX12_kin 15 = .ok (.iconst 0, 1) := by decide +kernel
theorem dX12_kin_16 : decode cX12_kin 16 = .ok (.ireturn, 1) := by decide +kernel
theorem dX12_kin_17 : decode cX12_kin 17 = .ok (.aload_n 0, 1) := by decide +kernel
theorem dX12_kin_18 : decode cX12_kin 18 = .ok (.iload_n 1, 1) := by decide +kernel
theorem dX12_kin_19 : decode cX12_kin 19 = .ok (.iconst 0, 1) := by decide +kernel
theorem dX12_kin_20 : decode cX12_kin 20 = .ok (.bipush 7, 2) := by decide +kernel
theorem dX12_kin_22 : decode cX12_kin 22 = .ok (.invokevirtual 137, 3) := by decide +kernel
theorem dX12_kin_25 : decode cX12_kin 25 = .ok (.ifCond .eq 12, 3) := by decide +kernel
theorem dX12_kin_28 : decode cX12_kin 28 = .ok (.aload_n 0, 1) := by decide +kernel
theorem dX12_kin_29 : decode cX12_kin 29 = .ok (.getfield 453, 3) := by decide +kernel
theorem dX12_kin_32 : decode cX12_kin 32 = .ok (.bipush 6, 2) := by decide +kernel
theorem dX12_kin_34 : decode cX12_kin 34 = .ok (.if_icmp .ne 5, 3) := by decide +kernel
theorem dX12_kin_37 : decode cX12_kin 37 = .ok (.iconst (-1), 1) := by decide +kernel
theorem dX12_kin_38 : decode cX12_kin 38 = .ok (.ireturn, 1) := by decide +kernel
theorem dX12_kin_39 : decode cX12_kin 39 = .ok (.aload_n 0, 1) := by decide +kernel
theorem dX12_kin_40 : decode cX12_kin 40 = .ok (.getfield 101, 3) := by decide +kernel
theorem dX12_kin_43 : decode cX12_kin 43 = .ok (.aload_n 0, 1) := by decide +kernel
theorem dX12_kin_44 : decode cX12_kin 44 = .ok (.getfield 453, 3) := by decide +kernel
theorem dX12_kin_47 : decode cX12_kin 47 = .ok (.iload_n 1, 1) := by decide +kernel
theorem dX12_kin_48 : decode cX12_kin 48 = .ok (.iastore, 1) := by decide +kernel
theorem dX12_kin_49 : decode cX12_kin 49 = .ok (.aload_n 0, 1) := by decide +kernel
theorem dX12_kin_50 : decode cX12_kin 50 = .ok (.aload_n 0, 1) := by decide +kernel
theorem dX12_kin_51 : decode cX12_kin 51 = .ok (.getfield 453, 3) := by decide +kernel
theorem dX12_kin_54 : decode cX12_kin 54 = .ok (.iconst 1, 1) := by decide +kernel
theorem dX12_kin_55 : decode cX12_kin 55 = .ok (.iadd, 1) := by decide +kernel
theorem dX12_kin_56 : decode cX12_kin 56 = .ok (.putfield 453, 3) := by decide +kernel
theorem dX12_kin_59 : decode cX12_kin 59 = .ok (.aload_n 0, 1) := by decide +kernel
theorem dX12_kin_60 : decode cX12_kin 60 = .ok (.getfield 453, 3) := by decide +kernel
theorem dX12_kin_63 : decode cX12_kin 63 = .ok (.ireturn, 1) := by decide +kernel
set_option maxRecDepth 100000 in
set_option maxHeartbeats 4000000 in
theorem w_X12_kin {fr : Nat} (hfr : 1 ≤ fr) (Z : AZ) (X : AX Z cX12_kin 2 RX12 (some .int) 1 fr) (x1 : Int32) (s : Mem) (r : Int32 × Mem) (hz : zres Z = (some (.int r.1), r.2)) (h : f_X12_kin x1 s = some r) : AW Z s 0 [some (.ref (zr Z 0)), some (.int x1)] [] := by
  unfold f_X12_kin at h
  refine aw_aload_n X dX12_kin_0 rfl ?_
  refine aw_iconst (v := 0) X dX12_kin_1 (by decide) ?_
  refine aw_put X dX12_kin_2 fp_RX12_122 iu_RX12 gu_RX12_0 rfl rfl ?_
  refine aw_iload_n X dX12_kin_5 rfl ?_
  refine aw_iconst (v := (-1)) X dX12_kin_6 (by decide) ?_
  refine aw_icmp_ne (tgt := 17) X dX12_kin_7 (by decide) (fun c1 => ?_) (fun c1 => ?_)
  · rw [if_neg c1] at h
    refine aw_aload_n X dX12_kin_17 rfl ?_
    refine aw_iload_n X dX12_kin_18 rfl ?_
    refine aw_iconst (v := 0) X dX12_kin_19 (by decide) ?_
    refine aw_bipush (v := 7) X dX12_kin_20 (by decide) ?_
    obtain ⟨r2, er2, h⟩ := bnd h
    refine aw_callV X dX12_kin_22 cv_RX12_137 (ok_X12_isIn er2 _ _ _ _ _) iu_RX12 rfl (Nat.le_trans (by decide) hfr) (by decide) rfl rfl (Nat.le_of_ble_eq_true rfl) ?_
    refine aw_if_eq (tgt := 37) X dX12_kin_25 (by decide) (fun c3 => ?_) (fun c3 => ?_)
    · rw [if_pos c3] at h
      refine aw_iconst (v := (-1)) X dX12_kin_37 (by decide) ?_
      cases h
      exact aw_iret X dX12_kin_38 rfl hz.symm
    · rw [if_neg c3] at h
      refine aw_aload_n X dX12_kin_28 rfl ?_
      refine aw_geti X dX12_kin_29 fl_RX12_453 iu_RX12 gu_RX12_52 ?_
      refine aw_bipush (v := 6) X dX12_kin_32 (by decide) ?_
      refine aw_icmp_ne (tgt := 39) X dX12_kin_34 (by decide) (fun c4 => ?_) (fun c4 => ?_)
      · rw [if_neg c4] at h
        refine aw_aload_n X dX12_kin_39 rfl ?_
        refine aw_getr X dX12_kin_40 fl_RX12_101 iu_RX12 gu_RX12_53 ?_
        refine aw_aload_n X dX12_kin_43 rfl ?_
        refine aw_geti X dX12_kin_44 fl_RX12_453 iu_RX12 gu_RX12_52 ?_
        refine aw_iload_n X dX12_kin_47 rfl ?_
        obtain ⟨s5, es5, h⟩ := bnd h
        refine aw_iast X dX12_kin_48 iu_RX12_53 es5 ?_
        refine aw_aload_n X dX12_kin_49 rfl ?_
        refine aw_aload_n X dX12_kin_50 rfl ?_
        refine aw_geti X dX12_kin_51 fl_RX12_453 iu_RX12 gu_RX12_52 ?_
        refine aw_iconst (v := 1) X dX12_kin_54 (by decide) ?_
        refine aw_iadd X dX12_kin_55 ?_
        refine aw_put X dX12_kin_56 fp_RX12_453 iu_RX12 gu_RX12_52 rfl rfl ?_
        refine aw_aload_n X dX12_kin_59 rfl ?_
        refine aw_geti X dX12_kin_60 fl_RX12_453 iu_RX12 gu_RX12_52 ?_
        cases h
        exact aw_iret X dX12_kin_63 rfl hz.symm
      · rw [if_pos c4] at h
        refine aw_iconst (v := (-1)) X dX12_kin_37 (by decide) ?_
        cases h
        exact aw_iret X dX12_kin_38 rfl hz.symm
  · rw [if_pos c1] at h
    refine aw_aload_n X dX12_kin_10 rfl ?_
    refine aw_iconst (v := 0) X dX12_kin_11 (by decide) ?_
    refine aw_put X dX12_kin_12 fp_RX12_453 iu_RX12 gu_RX12_52 rfl rfl ?_
    refine aw_iconst (v := 0) X dX12_kin_15 (by decide) ?_
    cases h
    exact aw_iret X dX12_kin_16 rfl hz.symm
set_option maxRecDepth 100000 in
set_option maxHeartbeats 4000000 in
theorem ok_X12_kin {x1 : Int32} {s : Mem} {r : Int32 × Mem} (h : f_X12_kin x1 s = some r) (l : Launch) (D : va_G) (ρ : Nat → Nat) (cA : ClassId × ClassId × ClassId) (τ : AT) : AM l D ρ cA 1 τ yX12_kin cX12_kin 2 (some .int) 1 [.ref (ρ 0), .int x1] (some (.int r.1)) s r.2 := by
  refine AM_of (L := [some (.ref (ρ 0)), some (.int x1)]) (by decide) (by simp [Value.category]) (Nat.le_of_ble_eq_true rfl) (fun j v q => ?_) (fun Z X hρ hz hτ => ?_)
  · exact aL_ok (n := 0) [.ref (ρ 0), .int x1] j v q
  · subst hρ
    subst hτ
    exact w_X12_kin (Nat.le_refl _) Z X x1 s r hz h

theorem dX12_isInRow_0 : decode cX12_isInRow 0 = .ok (.iload_n 2, 1) := by decide +kernel
theorem dX12_isInRow_1 : decode cX12_isInRow 1 = .ok (.istore_n 3, 1) := by decide +kernel
theorem dX12_isInRow_2 : decode cX12_isInRow 2 = .ok (.iload_n 3, 1) := by decide +kernel
theorem dX12_isInRow_3 : decode cX12_isInRow 3 = .ok (.aload_n 0, 1) := by decide +kernel
theorem dX12_isInRow_4 : decode cX12_isInRow 4 = .ok (.getfield 453, 3) := by decide +kernel
theorem dX12_isInRow_7 : decode cX12_isInRow 7 = .ok (.if_icmp .ge 21, 3) := by decide +kernel
theorem dX12_isInRow_10 : decode cX12_isInRow 10 = .ok (.aload_n 0, 1) := by decide +kernel
theorem dX12_isInRow_11 : decode cX12_isInRow 11 = .ok (.getfield 101, 3) := by decide +kernel
theorem dX12_isInRow_14 : decode cX12_isInRow 14 = .ok (.iload_n 3, 1) := by decide +kernel
theorem dX12_isInRow_15 : decode cX12_isInRow 15 = .ok (.iaload, 1) := by decide +kernel
theorem dX12_isInRow_16 : decode cX12_isInRow 16 = .ok (.iload_n 1, 1) := by decide +kernel
theorem dX12_isInRow_17 : decode cX12_isInRow 17 = .ok (.if_icmp .ne 5, 3) := by decide +kernel
theorem dX12_isInRow_20 : decode cX12_isInRow 20 = .ok (.iconst 1, 1) := by decide +kernel
theorem dX12_isInRow_21 : decode cX12_isInRow 21 = .ok (.ireturn, 1) := by decide +kernel
theorem dX12_isInRow_22 : decode cX12_isInRow 22 = .ok (.iinc 3 1, 3) := by decide +kernel
theorem dX12_isInRow_25 : decode cX12_isInRow 25 = .ok (.goto (-23), 3) := by decide +kernel
theorem dX12_isInRow_28 : decode cX12_isInRow 28 = .ok (.iconst 0, 1) := by decide +kernel
theorem dX12_isInRow_29 : decode cX12_isInRow 29 = .ok (.ireturn, 1) := by decide +kernel
set_option maxRecDepth 100000 in
set_option maxHeartbeats 4000000 in
theorem so_X12_isInRow_2 {fr : Nat} (hfr : 0 ≤ fr) (Z : AZ) (X : AX Z cX12_isInRow 4 RX12 (some .boolean) 1 fr) (x1 : Int32) (x3 : Int32) (s : Mem) (q : (Int32 × Mem) ⊕ (Nat × Mem)) (h : st_X12_isInRow_2 x1 x3 s = some q) (hi : ∀ y : Int32 × Mem, q = .inl y → AW Z y.2 2 [some (.ref (zr Z 0)), some (.int x1), none, some (.int y.1)] []) (he : ∀ b : Nat × Mem, q = .inr b → (b.1 = 0 → AW Z b.2 20 [none, none, none, none] []) ∧ (b.1 = 1 → AW Z b.2 28 [none, none, none, none] [])) : AW Z s 2 [some (.ref (zr Z 0)), some (.int x1), none, some (.int x3)] [] := by
  unfold st_X12_isInRow_2 at h
  refine aw_iload_n X dX12_isInRow_2 rfl ?_
  refine aw_aload_n X dX12_isInRow_3 rfl ?_
  refine aw_geti X dX12_isInRow_4 fl_RX12_453 iu_RX12 gu_RX12_52 ?_
  refine aw_icmp_ge (tgt := 28) X dX12_isInRow_7 (by decide) (fun c1 => ?_) (fun c1 => ?_)
  · rw [if_pos c1] at h
    cases h
    refine aw_msk [false, false, false, false] ?_
    exact (he _ rfl).2 rfl
  · rw [if_neg c1] at h
    refine aw_aload_n X dX12_isInRow_10 rfl ?_
    refine aw_getr X dX12_isInRow_11 fl_RX12_101 iu_RX12 gu_RX12_53 ?_
    refine aw_iload_n X dX12_isInRow_14 rfl ?_
    obtain ⟨v2, ev2, h⟩ := bnd h
    refine aw_iald X dX12_isInRow_15 iu_RX12_53 ev2 ?_
    refine aw_iload_n X dX12_isInRow_16 rfl ?_
    refine aw_icmp_ne (tgt := 22) X dX12_isInRow_17 (by decide) (fun c3 => ?_) (fun c3 => ?_)
    · rw [if_neg c3] at h
      refine aw_iinc (v := (x3 + 1)) (L' := [some (.ref (zr Z 0)), some (.int x1), none, some (.int (x3 + 1))]) X dX12_isInRow_22 rfl rfl (by decide) rfl ?_
      refine aw_goto (tgt := 2) X dX12_isInRow_25 (by decide) ?_
      cases h
      refine aw_msk [true, true, false, true] ?_
      exact hi _ rfl
    · rw [if_pos c3] at h
      cases h
      refine aw_msk [false, false, false, false] ?_
      exact (he _ rfl).1 rfl
set_option maxRecDepth 100000 in
set_option maxHeartbeats 4000000 in
theorem w_X12_isInRow {fr : Nat} (hfr : 0 ≤ fr) (Z : AZ) (X : AX Z cX12_isInRow 4 RX12 (some .boolean) 1 fr) (x1 : Int32) (x2 : Int32) (s : Mem) (r : Int32 × Mem) (hz : zres Z = (some (.int r.1), r.2)) (h : f_X12_isInRow x1 x2 s = some r) : AW Z s 0 [some (.ref (zr Z 0)), some (.int x1), some (.int x2), none] [] := by
  unfold f_X12_isInRow at h
  refine aw_iload_n X dX12_isInRow_0 rfl ?_
  refine aw_istore_n (L' := [some (.ref (zr Z 0)), some (.int x1), some (.int x2), some (.int x2)]) X dX12_isInRow_1 (by decide) rfl ?_
  obtain ⟨r4, er4, h⟩ := bnd h
  refine aw_msk [true, true, false, true] ?_
  refine it_ok (P := fun y : Int32 × Mem => AW Z y.2 2 [some (.ref (zr Z 0)), some (.int x1), none, some (.int y.1)] []) (Q := fun b : Nat × Mem => (b.1 = 0 → AW Z b.2 20 [none, none, none, none] []) ∧ (b.1 = 1 → AW Z b.2 28 [none, none, none, none] [])) (fun y q hq hi he => so_X12_isInRow_2 hfr Z X x1 y.1 y.2 q hq hi he) FUEL _ _ er4 ?_
  refine ⟨fun c0 => ?_, fun c1 => ?_⟩
  · rw [if_pos c0] at h
    refine aw_iconst (v := 1) X dX12_isInRow_20 (by decide) ?_
    cases h
    exact aw_zret X dX12_isInRow_21 rfl rfl hz.symm
  · rw [if_neg (by rw [c1]; decide)] at h
    refine aw_iconst (v := 0) X dX12_isInRow_28 (by decide) ?_
    cases h
    exact aw_zret X dX12_isInRow_29 rfl rfl hz.symm
set_option maxRecDepth 100000 in
set_option maxHeartbeats 4000000 in
theorem ok_X12_isInRow {x1 x2 : Int32} {s : Mem} {r : Int32 × Mem} (h : f_X12_isInRow x1 x2 s = some r) (l : Launch) (D : va_G) (ρ : Nat → Nat) (cA : ClassId × ClassId × ClassId) (τ : AT) : AM l D ρ cA 1 τ yX12_isInRow cX12_isInRow 4 (some .boolean) 0 [.ref (ρ 0), .int x1, .int x2] (some (.int r.1)) s r.2 := by
  refine AM_of (L := [some (.ref (ρ 0)), some (.int x1), some (.int x2), none]) (by decide) (by simp [Value.category]) (Nat.le_of_ble_eq_true rfl) (fun j v q => ?_) (fun Z X hρ hz hτ => ?_)
  · exact aL_ok (n := 1) [.ref (ρ 0), .int x1, .int x2] j v q
  · subst hρ
    subst hτ
    exact w_X12_isInRow (Nat.le_refl _) Z X x1 x2 s r hz h

theorem dX12_joins_0 : decode cX12_joins 0 = .ok (.aload_n 0, 1) := by decide +kernel
theorem dX12_joins_1 : decode cX12_joins 1 = .ok (.getfield 104, 3) := by decide +kernel
theorem dX12_joins_4 : decode cX12_joins 4 = .ok (.bipush 8, 2) := by decide +kernel
theorem dX12_joins_6 : decode cX12_joins 6 = .ok (.iload_n 1, 1) := by decide +kernel
theorem dX12_joins_7 : decode cX12_joins 7 = .ok (.imul, 1) := by decide +kernel
theorem dX12_joins_8 : decode cX12_joins 8 = .ok (.iload_n 2, 1) := by decide +kernel
theorem dX12_joins_9 : decode cX12_joins 9 = .ok (.iadd, 1) := by decide +kernel
theorem dX12_joins_10 : decode cX12_joins 10 = .ok (.iconst 1, 1) := by decide +kernel
theorem dX12_joins_11 : decode cX12_joins 11 = .ok (.iastore, 1) := by decide +kernel
theorem dX12_joins_12 : decode cX12_joins 12 = .ok (.aload_n 0, 1) := by decide +kernel
theorem dX12_joins_13 : decode cX12_joins 13 = .ok (.getfield 104, 3) := by decide +kernel
theorem dX12_joins_16 : decode cX12_joins 16 = .ok (.bipush 8, 2) := by decide +kernel
theorem dX12_joins_18 : decode cX12_joins 18 = .ok (.iload_n 2, 1) := by decide +kernel
theorem dX12_joins_19 : decode cX12_joins 19 = .ok (.imul, 1) := by decide +kernel
theorem dX12_joins_20 : decode cX12_joins 20 = .ok (.iload_n 1, 1) := by decide +kernel
theorem dX12_joins_21 : decode cX12_joins 21 = .ok (.iadd, 1) := by decide +kernel
theorem dX12_joins_22 : decode cX12_joins 22 = .ok (.iconst 1, 1) := by decide +kernel
theorem dX12_joins_23 : decode cX12_joins 23 = .ok (.iastore, 1) := by decide +kernel
theorem dX12_joins_24 : decode cX12_joins 24 = .ok (.return_, 1) := by decide +kernel
set_option maxRecDepth 100000 in
set_option maxHeartbeats 4000000 in
theorem w_X12_joins {fr : Nat} (hfr : 0 ≤ fr) (Z : AZ) (X : AX Z cX12_joins 3 RX12 none 1 fr) (x1 : Int32) (x2 : Int32) (s : Mem) (r : Mem) (hz : zres Z = (none, r)) (h : f_X12_joins x1 x2 s = some r) : AW Z s 0 [some (.ref (zr Z 0)), some (.int x1), some (.int x2)] [] := by
  unfold f_X12_joins at h
  refine aw_aload_n X dX12_joins_0 rfl ?_
  refine aw_getr X dX12_joins_1 fl_RX12_104 iu_RX12 gu_RX12_54 ?_
  refine aw_bipush (v := 8) X dX12_joins_4 (by decide) ?_
  refine aw_iload_n X dX12_joins_6 rfl ?_
  refine aw_imul X dX12_joins_7 ?_
  refine aw_iload_n X dX12_joins_8 rfl ?_
  refine aw_iadd X dX12_joins_9 ?_
  refine aw_iconst (v := 1) X dX12_joins_10 (by decide) ?_
  obtain ⟨s1, es1, h⟩ := bnd h
  refine aw_iast X dX12_joins_11 iu_RX12_54 es1 ?_
  refine aw_aload_n X dX12_joins_12 rfl ?_
  refine aw_getr X dX12_joins_13 fl_RX12_104 iu_RX12 gu_RX12_54 ?_
  refine aw_bipush (v := 8) X dX12_joins_16 (by decide) ?_
  refine aw_iload_n X dX12_joins_18 rfl ?_
  refine aw_imul X dX12_joins_19 ?_
  refine aw_iload_n X dX12_joins_20 rfl ?_
  refine aw_iadd X dX12_joins_21 ?_
  refine aw_iconst (v := 1) X dX12_joins_22 (by decide) ?_
  obtain ⟨s2, es2, h⟩ := bnd h
  refine aw_iast X dX12_joins_23 iu_RX12_54 es2 ?_
  cases h
  exact aw_vret X dX12_joins_24 rfl hz.symm
set_option maxRecDepth 100000 in
set_option maxHeartbeats 4000000 in
theorem ok_X12_joins {x1 x2 : Int32} {s : Mem} {r : Mem} (h : f_X12_joins x1 x2 s = some r) (l : Launch) (D : va_G) (ρ : Nat → Nat) (cA : ClassId × ClassId × ClassId) (τ : AT) : AM l D ρ cA 1 τ yX12_joins cX12_joins 3 none 0 [.ref (ρ 0), .int x1, .int x2] none s r := by
  refine AM_of (L := [some (.ref (ρ 0)), some (.int x1), some (.int x2)]) (by decide) (by simp [Value.category]) (Nat.le_of_ble_eq_true rfl) (fun j v q => ?_) (fun Z X hρ hz hτ => ?_)
  · exact aL_ok (n := 0) [.ref (ρ 0), .int x1, .int x2] j v q
  · subst hρ
    subst hτ
    exact w_X12_joins (Nat.le_refl _) Z X x1 x2 s r hz h

theorem dX12_growsTree_0 : decode cX12_growsTree 0 = .ok (.aload_n 0, 1) := by decide +kernel
theorem dX12_growsTree_1 : decode cX12_growsTree 1 = .ok (.getfield 453, 3) := by decide +kernel
theorem dX12_growsTree_4 : decode cX12_growsTree 4 = .ok (.iconst 2, 1) := by decide +kernel
theorem dX12_growsTree_5 : decode cX12_growsTree 5 = .ok (.iadd, 1) := by decide +kernel
theorem dX12_growsTree_6 : decode cX12_growsTree 6 = .ok (.istore_n 1, 1) := by decide +kernel
theorem dX12_growsTree_7 : decode cX12_growsTree 7 = .ok (.iconst 0, 1) := by decide +kernel
theorem dX12_growsTree_8 : decode cX12_growsTree 8 = .ok (.istore_n 2, 1) := by decide +kernel
theorem dX12_growsTree_9 : decode cX12_growsTree 9 = .ok (.iload_n 2, 1) := by decide +kernel
theorem dX12_growsTree_10 : decode cX12_growsTree 10 = .ok (.aload_n 0, 1) := by decide +kernel
theorem dX12_growsTree_11 : decode cX12_growsTree 11 = .ok (.getfield 453, 3) := by decide +kernel
theorem dX12_growsTree_14 : decode cX12_growsTree 14 = .ok (.if_icmp .ge 21, 3) := by decide +kernel
theorem dX12_growsTree_17 : decode cX12_growsTree 17 = .ok (.aload_n 0, 1) := by decide +kernel
theorem dX12_growsTree_18 : decode cX12_growsTree 18 = .ok (.getfield 101, 3) := by decide +kernel
theorem dX12_growsTree_21 : decode cX12_growsTree 21 = .ok (.iload_n 2, 1) := by decide +kernel
theorem dX12_growsTree_22 : decode cX12_growsTree 22 = .ok (.iaload, 1) := by decide +kernel
theorem dX12_growsTree_23 : decode cX12_growsTree 23 = .ok (.iload_n 1, 1) := by decide +kernel
theorem dX12_growsTree_24 : decode cX12_growsTree 24 = .ok (.if_icmp .lt 5, 3) := by decide +kernel
theorem dX12_growsTree_27 : decode cX12_growsTree 27 = .ok (.iconst 0, 1) := by decide +kernel
theorem dX12_growsTree_28 : decode cX12_growsTree 28 = .ok (.ireturn, 1) := by decide +kernel
theorem dX12_growsTree_29 : decode cX12_growsTree 29 = .ok (.iinc 2 1, 3) := by decide +kernel
theorem dX12_growsTree_32 : decode cX12_growsTree 32 = .ok (.goto (-23), 3) := by decide +kernel
theorem dX12_growsTree_35 : decode cX12_growsTree 35 = .ok (.iconst 0, 1) := by decide +kernel
theorem dX12_growsTree_36 : decode cX12_growsTree 36 = .ok (.istore_n 2, 1) := by decide +kernel
theorem dX12_growsTree_37 : decode cX12_growsTree 37 = .ok (.iload_n 2, 1) := by decide +kernel
theorem dX12_growsTree_38 : decode cX12_growsTree 38 = .ok (.bipush 64, 2) := by decide +kernel
theorem dX12_growsTree_40 : decode cX12_growsTree 40 = .ok (.if_icmp .ge 29, 3) := by decide +kernel
theorem dX12_growsTree_43 : decode cX12_growsTree 43 = .ok (.aload_n 0, 1) := by decide +kernel
theorem dX12_growsTree_44 : decode cX12_growsTree 44 = .ok (.getfield 104, 3) := by decide +kernel
theorem dX12_growsTree_47 : decode cX12_growsTree 47 = .ok (.iload_n 2, 1) := by decide +kernel
theorem dX12_growsTree_48 : decode cX12_growsTree 48 = .ok (.iload_n 2, 1) := by decide +kernel
theorem dX12_growsTree_49 : decode cX12_growsTree 49 = .ok (.bipush 9, 2) := by decide +kernel
theorem dX12_growsTree_51 : decode cX12_growsTree 51 = .ok (.irem, 1) := by decide +kernel
theorem dX12_growsTree_52 : decode cX12_growsTree 52 = .ok (.ifCond .ne 7, 3) := by decide +kernel
theorem dX12_growsTree_55 : decode cX12_growsTree 55 = .ok (.iconst 0, 1) := by decide +kernel
theorem dX12_growsTree_56 : decode cX12_growsTree 56 = .ok (.goto 6, 3) := by decide +kernel
theorem dX12_growsTree_59 : decode cX12_growsTree 59 = .ok (.ldc_w 439, 3) := by decide +kernel
theorem dX12_growsTree_62 : decode cX12_growsTree 62 = .ok (.iastore, 1) := by decide +kernel
theorem dX12_growsTree_63 : decode cX12_growsTree 63 = .ok (.iinc 2 1, 3) := by decide +kernel
theorem dX12_growsTree_66 : decode cX12_growsTree 66 = .ok (.goto (-29), 3) := by decide +kernel
theorem dX12_growsTree_69 : decode cX12_growsTree 69 = .ok (.iconst 1, 1) := by decide +kernel
theorem dX12_growsTree_70 : decode cX12_growsTree 70 = .ok (.iload_n 1, 1) := by decide +kernel
theorem dX12_growsTree_71 : decode cX12_growsTree 71 = .ok (.ishl, 1) := by decide +kernel
theorem dX12_growsTree_72 : decode cX12_growsTree 72 = .ok (.iconst 1, 1) := by decide +kernel
theorem dX12_growsTree_73 : decode cX12_growsTree 73 = .ok (.isub, 1) := by decide +kernel
theorem dX12_growsTree_74 : decode cX12_growsTree 74 = .ok (.istore_n 2, 1) := by decide +kernel
theorem dX12_growsTree_75 : decode cX12_growsTree 75 = .ok (.iconst 0, 1) := by decide +kernel
theorem dX12_growsTree_76 : decode cX12_growsTree 76 = .ok (.istore_n 3, 1) := by decide +kernel
theorem dX12_growsTree_77 : decode cX12_growsTree 77 = .ok (.iload_n 3, 1) := by decide +kernel
theorem dX12_growsTree_78 : decode cX12_growsTree 78 = .ok (.aload_n 0, 1) := by decide +kernel
theorem dX12_growsTree_79 : decode cX12_growsTree 79 = .ok (.getfield 453, 3) := by decide +kernel
theorem dX12_growsTree_82 : decode cX12_growsTree 82 = .ok (.if_icmp .ge 62, 3) := by decide +kernel
theorem dX12_growsTree_85 : decode cX12_growsTree 85 = .ok (.iconst 0, 1) := by decide +kernel
theorem dX12_growsTree_86 : decode cX12_growsTree 86 = .ok (.istore 4, 2) := by decide +kernel
theorem dX12_growsTree_88 : decode cX12_growsTree 88 = .ok (.aload_n 0, 1) := by decide +kernel
theorem dX12_growsTree_89 : decode cX12_growsTree 89 = .ok (.iload_n 2, 1) := by decide +kernel
theorem dX12_growsTree_90 : decode cX12_growsTree 90 = .ok (.iload 4, 2) := by decide +kernel
theorem dX12_growsTree_92 : decode cX12_growsTree 92 = .ok (.invokevirtual 314, 3) := by decide +kernel
theorem dX12_growsTree_95 : decode cX12_growsTree 95 = .ok (.ifCond .eq 13, 3) := by decide +kernel
theorem dX12_growsTree_98 : decode cX12_growsTree 98 = .ok (.aload_n 0, 1) := by decide +kernel
theorem dX12_growsTree_99 : decode cX12_growsTree 99 = .ok (.iload 4, 2) := by decide +kernel
theorem dX12_growsTree_101 : decode cX12_growsTree 101 = .ok (.iload_n 3, 1) := by decide +kernel
theorem dX12_growsTree_102 : decode cX12_growsTree 102 = .ok (.invokevirtual 456, 3) := by decide +kernel
theorem dX12_growsTree_105 : decode cX12_growsTree 105 = .ok (.ifCond .eq 12, 3) := by decide +kernel
theorem dX12_growsTree_108 : decode cX12_growsTree 108 = .ok (.iload 4, 2) := by decide +kernel
theorem dX12_growsTree_110 : decode cX12_growsTree 110 = .ok (.iconst 1, 1) := by decide +kernel
theorem dX12_growsTree_111 : decode cX12_growsTree 111 = .ok (.iadd, 1) := by decide +kernel
theorem dX12_growsTree_112 : decode cX12_growsTree 112 = .ok (.istore 4, 2) := by decide +kernel
theorem dX12_growsTree_114 : decode cX12_growsTree 114 = .ok (.goto (-26), 3) := by decide +kernel
theorem dX12_growsTree_117 : decode cX12_growsTree 117 = .ok (.aload_n 0, 1) := by decide +kernel
theorem dX12_growsTree_118 : decode cX12_growsTree 118 = .ok (.iload 4, 2) := by decide +kernel
theorem dX12_growsTree_120 : decode cX12_growsTree 120 = .ok (.aload_n 0, 1) := by decide +kernel
theorem dX12_growsTree_121 : decode cX12_growsTree 121 = .ok (.getfield 101, 3) := by decide +kernel
theorem dX12_growsTree_124 : decode cX12_growsTree 124 = .ok (.iload_n 3, 1) := by decide +kernel
theorem dX12_growsTree_125 : decode cX12_growsTree 125 = .ok (.iaload, 1) := by decide +kernel
theorem dX12_growsTree_126 : decode cX12_growsTree 126 = .ok (.invokevirtual 459, 3) := by decide +kernel
theorem dX12_growsTree_129 : decode cX12_growsTree 129 = .ok (.iload_n 2, 1) := by decide +kernel
theorem dX12_growsTree_130 : decode cX12_growsTree 130 = .ok (.iconst 1, 1) := by decide +kernel
theorem dX12_growsTree_131 : decode cX12_growsTree 131 = .ok (.iload 4, 2) := by decide +kernel
theorem dX12_growsTree_133 : decode cX12_growsTree 133 = .ok (.ishl, 1) := by decide +kernel
theorem dX12_growsTree_134 : decode cX12_growsTree 134 = .ok (.iconst (-1), 1) := by decide +kernel
theorem dX12_growsTree_135 : decode cX12_growsTree 135 = .ok (.ixor, 1) := by decide +kernel
theorem dX12_growsTree_136 : decode cX12_growsTree 136 = .ok (.iand, 1) := by decide +kernel
theorem dX12_growsTree_137 : decode cX12_growsTree 137 = .ok (.istore_n 2, 1) := by decide +kernel
theorem dX12_growsTree_138 : decode cX12_growsTree 138 = .ok (.iinc 3 1, 3) := by decide +kernel
theorem dX12_growsTree_141 : decode cX12_growsTree 141 = .ok (.goto (-64), 3) := by decide +kernel
theorem dX12_growsTree_144 : decode cX12_growsTree 144 = .ok (.iconst 0, 1) := by decide +kernel
theorem dX12_growsTree_145 : decode cX12_growsTree 145 = .ok (.istore_n 3, 1) := by decide +kernel
theorem dX12_growsTree_146 : decode cX12_growsTree 146 = .ok (.aload_n 0, 1) := by decide +kernel
theorem dX12_growsTree_147 : decode cX12_growsTree 147 = .ok (.iload_n 2, 1) := by decide +kernel
theorem dX12_growsTree_148 : decode cX12_growsTree 148 = .ok (.iload_n 3, 1) := by decide +kernel
theorem dX12_growsTree_149 : decode cX12_growsTree 149 = .ok (.invokevirtual 314, 3) := by decide +kernel
theorem dX12_growsTree_152 : decode cX12_growsTree 152 = .ok (.ifCond .ne 10, 3) := by decide +kernel
theorem dX12_growsTree_155 : decode cX12_growsTree 155 = .ok (.iload_n 3, 1) := by decide +kernel
theorem dX12_growsTree_156 : decode cX12_growsTree 156 = .ok (.iconst 1, 1) := by decide +kernel
theorem dX12_growsTree_157 : decode cX12_growsTree 157 = .ok (.iadd, 1) := by decide +kernel
theorem dX12_growsTree_158 : decode cX12_growsTree 158 = .ok (.istore_n 3, 1) := by decide +kernel
theorem dX12_growsTree_159 : decode cX12_growsTree 159 = .ok (.goto (-13), 3) := by decide +kernel
theorem dX12_growsTree_162 : decode cX12_growsTree 162 = .ok (.iload_n 3, 1) := by decide +kernel
theorem dX12_growsTree_163 : decode cX12_growsTree 163 = .ok (.iconst 1, 1) := by decide +kernel
theorem dX12_growsTree_164 : decode cX12_growsTree 164 = .ok (.iadd, 1) := by decide +kernel
theorem dX12_growsTree_165 : decode cX12_growsTree 165 = .ok (.istore 4, 2) := by decide +kernel
theorem dX12_growsTree_167 : decode cX12_growsTree 167 = .ok (.aload_n 0, 1) := by decide +kernel
theorem dX12_growsTree_168 : decode cX12_growsTree 168 = .ok (.iload_n 2, 1) := by decide +kernel
theorem dX12_growsTree_169 : decode cX12_growsTree 169 = .ok (.iload 4, 2) := by decide +kernel
theorem dX12_growsTree_171 : decode cX12_growsTree 171 = .ok (.invokevirtual 314, 3) := by decide +kernel
theorem dX12_growsTree_174 : decode cX12_growsTree 174 = .ok (.ifCond .ne 12, 3) := by decide +kernel
theorem dX12_growsTree_177 : decode cX12_growsTree 177 = .ok (.iload 4, 2) := by decide +kernel
theorem dX12_growsTree_179 : decode cX12_growsTree 179 = .ok (.iconst 1, 1) := by decide +kernel
theorem dX12_growsTree_180 : decode cX12_growsTree 180 = .ok (.iadd, 1) := by decide +kernel
theorem dX12_growsTree_181 : decode cX12_growsTree 181 = .ok (.istore 4, 2) := by decide +kernel
theorem dX12_growsTree_183 : decode cX12_growsTree 183 = .ok (.goto (-16), 3) := by decide +kernel
theorem dX12_growsTree_186 : decode cX12_growsTree 186 = .ok (.aload_n 0, 1) := by decide +kernel
theorem dX12_growsTree_187 : decode cX12_growsTree 187 = .ok (.iload_n 3, 1) := by decide +kernel
theorem dX12_growsTree_188 : decode cX12_growsTree 188 = .ok (.iload 4, 2) := by decide +kernel
theorem dX12_growsTree_190 : decode cX12_growsTree 190 = .ok (.invokevirtual 459, 3) := by decide +kernel
theorem dX12_growsTree_193 : decode cX12_growsTree 193 = .ok (.iconst 0, 1) := by decide +kernel
theorem dX12_growsTree_194 : decode cX12_growsTree 194 = .ok (.istore 5, 2) := by decide +kernel
theorem dX12_growsTree_196 : decode cX12_growsTree 196 = .ok (.iload 5, 2) := by decide +kernel
theorem dX12_growsTree_198 : decode cX12_growsTree 198 = .ok (.iload_n 1, 1) := by decide +kernel
theorem dX12_growsTree_199 : decode cX12_growsTree 199 = .ok (.if_icmp .ge 96, 3) := by decide +kernel
theorem dX12_growsTree_202 : decode cX12_growsTree 202 = .ok (.iconst 0, 1) := by decide +kernel
theorem dX12_growsTree_203 : decode cX12_growsTree 203 = .ok (.istore 6, 2) := by decide +kernel
theorem dX12_growsTree_205 : decode cX12_growsTree 205 = .ok (.iload 6, 2) := by decide +kernel
theorem dX12_growsTree_207 : decode cX12_growsTree 207 = .ok (.iload_n 1, 1) := by decide +kernel
theorem dX12_growsTree_208 : decode cX12_growsTree 208 = .ok (.if_icmp .ge 81, 3) := by decide +kernel
theorem dX12_growsTree_211 : decode cX12_growsTree 211 = .ok (.iconst 0, 1) := by decide +kernel
theorem dX12_growsTree_212 : decode cX12_growsTree 212 = .ok (.istore 7, 2) := by decide +kernel
theorem dX12_growsTree_214 : decode cX12_growsTree 214 = .ok (.iload 7, 2) := by decide +kernel
theorem dX12_growsTree_216 : decode cX12_growsTree 216 = .ok (.iload_n 1, 1) := by decide +kernel
theorem dX12_growsTree_217 : decode cX12_growsTree 217 = .ok (.if_icmp .ge 66, 3) := by decide +kernel
theorem dX12_growsTree_220 : decode cX12_growsTree 220 = .ok (.aload_n 0, 1) := by decide +kernel
theorem dX12_growsTree_221 : decode cX12_growsTree 221 = .ok (.getfield 104, 3) := by decide +kernel
theorem dX12_growsTree_224 : decode cX12_growsTree 224 = .ok (.bipush 8, 2) := by decide +kernel
theorem dX12_growsTree_226 : decode cX12_growsTree 226 = .ok (.iload 6, 2) := by decide +kernel
theorem dX12_growsTree_228 : decode cX12_growsTree 228 = .ok (.imul, 1) := by decide +kernel
theorem dX12_growsTree_229 : decode cX12_growsTree 229 = .ok (.iload 7, 2) := by decide +kernel
theorem dX12_growsTree_231 : decode cX12_growsTree 231 = .ok (.iadd, 1) := by decide +kernel
theorem dX12_growsTree_232 : decode cX12_growsTree 232 = .ok (.aload_n 0, 1) := by decide +kernel
theorem dX12_growsTree_233 : decode cX12_growsTree 233 = .ok (.aload_n 0, 1) := by decide +kernel
theorem dX12_growsTree_234 : decode cX12_growsTree 234 = .ok (.getfield 104, 3) := by decide +kernel
theorem dX12_growsTree_237 : decode cX12_growsTree 237 = .ok (.bipush 8, 2) := by decide +kernel
theorem dX12_growsTree_239 : decode cX12_growsTree 239 = .ok (.iload 6, 2) := by decide +kernel
theorem dX12_growsTree_241 : decode cX12_growsTree 241 = .ok (.imul, 1) := by decide +kernel
theorem dX12_growsTree_242 : decode cX12_growsTree 242 = .ok (.iload 7, 2) := by decide +kernel
theorem dX12_growsTree_244 : decode cX12_growsTree 244 = .ok (.iadd, 1) := by decide +kernel
theorem dX12_growsTree_245 : decode cX12_growsTree 245 = .ok (.iaload, 1) := by decide +kernel
theorem dX12_growsTree_246 : decode cX12_growsTree 246 = .ok (.aload_n 0, 1) := by decide +kernel
theorem dX12_growsTree_247 : decode cX12_growsTree 247 = .ok (.getfield 104, 3) := by decide +kernel
theorem dX12_growsTree_250 : decode cX12_growsTree 250 = .ok (.bipush 8, 2) := by decide +kernel
theorem dX12_growsTree_252 : decode cX12_growsTree 252 = .ok (.iload 6, 2) := by decide +kernel
theorem dX12_growsTree_254 : decode cX12_growsTree 254 = .ok (.imul, 1) := by decide +kernel
theorem dX12_growsTree_255 : decode cX12_growsTree 255 = .ok (.iload 5, 2) := by decide +kernel
theorem dX12_growsTree_257 : decode cX12_growsTree 257 = .ok (.iadd, 1) := by decide +kernel
theorem dX12_growsTree_258 : decode cX12_growsTree 258 = .ok (.iaload, 1) := by decide +kernel
theorem dX12_growsTree_259 : decode cX12_growsTree 259 = .ok (.aload_n 0, 1) := by decide +kernel
theorem dX12_growsTree_260 : decode cX12_growsTree 260 = .ok (.getfield 104, 3) := by decide +kernel
theorem dX12_growsTree_263 : decode cX12_growsTree 263 = .ok (.bipush 8, 2) := by decide +kernel
theorem dX12_growsTree_265 : decode cX12_growsTree 265 = .ok (.iload 5, 2) := by decide +kernel
theorem dX12_growsTree_267 : decode cX12_growsTree 267 = .ok (.imul, 1) := by decide +kernel
theorem dX12_growsTree_268 : decode cX12_growsTree 268 = .ok (.iload 7, 2) := by decide +kernel
theorem dX12_growsTree_270 : decode cX12_growsTree 270 = .ok (.iadd, 1) := by decide +kernel
theorem dX12_growsTree_271 : decode cX12_growsTree 271 = .ok (.iaload, 1) := by decide +kernel
theorem dX12_growsTree_272 : decode cX12_growsTree 272 = .ok (.iadd, 1) := by decide +kernel
theorem dX12_growsTree_273 : decode cX12_growsTree 273 = .ok (.invokevirtual 346, 3) := by decide +kernel
theorem dX12_growsTree_276 : decode cX12_growsTree 276 = .ok (.iastore, 1) := by decide +kernel
theorem dX12_growsTree_277 : decode cX12_growsTree 277 = .ok (.iinc 7 1, 3) := by decide +kernel
theorem dX12_growsTree_280 : decode cX12_growsTree 280 = .ok (.goto (-66), 3) := by decide +kernel
theorem dX12_growsTree_283 : decode cX12_growsTree 283 = .ok (.iinc 6 1, 3) := by decide +kernel
theorem dX12_growsTree_286 : decode cX12_growsTree 286 = .ok (.goto (-81), 3) := by decide +kernel
theorem dX12_growsTree_289 : decode cX12_growsTree 289 = .ok (.iinc 5 1, 3) := by decide +kernel
theorem dX12_growsTree_292 : decode cX12_growsTree 292 = .ok (.goto (-96), 3) := by decide +kernel
theorem dX12_growsTree_295 : decode cX12_growsTree 295 = .ok (.iconst 1, 1) := by decide +kernel
theorem dX12_growsTree_296 : decode cX12_growsTree 296 = .ok (.ireturn, 1) := by decide +kernel
set_option maxRecDepth 100000 in
set_option maxHeartbeats 4000000 in
theorem so_X12_growsTree_9 {fr : Nat} (hfr : 1 ≤ fr) (Z : AZ) (X : AX Z cX12_growsTree 8 RX12 (some .boolean) 1 fr) (x1 : Int32) (x2 : Int32) (s : Mem) (q : (Int32 × Mem) ⊕ (Nat × Mem)) (h : st_X12_growsTree_9 x1 x2 s = some q) (hi : ∀ y : Int32 × Mem, q = .inl y → AW Z y.2 9 [some (.ref (zr Z 0)), some (.int x1), some (.int y.1), none, none, none, none, none] []) (he : ∀ b : Nat × Mem, q = .inr b → (b.1 = 0 → AW Z b.2 27 [none, none, none, none, none, none, none, none] []) ∧ (b.1 = 1 → AW Z b.2 35 [some (.ref (zr Z 0)), some (.int x1), none, none, none, none, none, none] [])) : AW Z s 9 [some (.ref (zr Z 0)), some (.int x1), some (.int x2), none, none, none, none, none] [] := by
  unfold st_X12_growsTree_9 at h
  refine aw_iload_n X dX12_growsTree_9 rfl ?_
  refine aw_aload_n X dX12_growsTree_10 rfl ?_
  refine aw_geti X dX12_growsTree_11 fl_RX12_453 iu_RX12 gu_RX12_52 ?_
  refine aw_icmp_ge (tgt := 35) X dX12_growsTree_14 (by decide) (fun c1 => ?_) (fun c1 => ?_)
  · rw [if_pos c1] at h
    cases h
    refine aw_msk [true, true, false, false, false, false, false, false] ?_
    exact (he _ rfl).2 rfl
  · rw [if_neg c1] at h
    refine aw_aload_n X dX12_growsTree_17 rfl ?_
    refine aw_getr X dX12_growsTree_18 fl_RX12_101 iu_RX12 gu_RX12_53 ?_
    refine aw_iload_n X dX12_growsTree_21 rfl ?_
    obtain ⟨v2, ev2, h⟩ := bnd h
    refine aw_iald X dX12_growsTree_22 iu_RX12_53 ev2 ?_
    refine aw_iload_n X dX12_growsTree_23 rfl ?_
    refine aw_icmp_lt (tgt := 29) X dX12_growsTree_24 (by decide) (fun c3 => ?_) (fun c3 => ?_)
    · rw [if_pos c3] at h
      refine aw_iinc (v := (x2 + 1)) (L' := [some (.ref (zr Z 0)), some (.int x1), some (.int (x2 + 1)), none, none, none, none, none]) X dX12_growsTree_29 rfl rfl (by decide) rfl ?_
      refine aw_goto (tgt := 9) X dX12_growsTree_32 (by decide) ?_
      cases h
      refine aw_msk [true, true, true, false, false, false, false, false] ?_
      exact hi _ rfl
    · rw [if_neg c3] at h
      cases h
      refine aw_msk [false, false, false, false, false, false, false, false] ?_
      exact (he _ rfl).1 rfl
set_option maxRecDepth 100000 in
set_option maxHeartbeats 4000000 in
theorem so_X12_growsTree_37 {fr : Nat} (hfr : 1 ≤ fr) (Z : AZ) (X : AX Z cX12_growsTree 8 RX12 (some .boolean) 1 fr) (x1 : Int32) (x2 : Int32) (s : Mem) (q : (Int32 × Mem) ⊕ (Mem)) (h : st_X12_growsTree_37 x1 x2 s = some q) (hi : ∀ y : Int32 × Mem, q = .inl y → AW Z y.2 37 [some (.ref (zr Z 0)), some (.int x1), some (.int y.1), none, none, none, none, none] []) (he : ∀ b : Mem, q = .inr b → AW Z b 69 [some (.ref (zr Z 0)), some (.int x1), none, none, none, none, none, none] []) : AW Z s 37 [some (.ref (zr Z 0)), some (.int x1), some (.int x2), none, none, none, none, none] [] := by
  unfold st_X12_growsTree_37 at h
  refine aw_iload_n X dX12_growsTree_37 rfl ?_
  refine aw_bipush (v := 64) X dX12_growsTree_38 (by decide) ?_
  refine aw_icmp_ge (tgt := 69) X dX12_growsTree_40 (by decide) (fun c5 => ?_) (fun c5 => ?_)
  · rw [if_pos c5] at h
    cases h
    refine aw_msk [true, true, false, false, false, false, false, false] ?_
    exact he _ rfl
  · rw [if_neg c5] at h
    refine aw_aload_n X dX12_growsTree_43 rfl ?_
    refine aw_getr X dX12_growsTree_44 fl_RX12_104 iu_RX12 gu_RX12_54 ?_
    refine aw_iload_n X dX12_growsTree_47 rfl ?_
    refine aw_iload_n X dX12_growsTree_48 rfl ?_
    refine aw_bipush (v := 9) X dX12_growsTree_49 (by decide) ?_
    refine aw_irem X dX12_growsTree_51 (by decide) ?_
    refine aw_if_ne (tgt := 59) X dX12_growsTree_52 (by decide) (fun c6 => ?_) (fun c6 => ?_)
    · rw [if_neg c6] at h
      refine aw_ldcw X dX12_growsTree_59 kc_RX12_439 ?_
      obtain ⟨s7, es7, h⟩ := bnd h
      refine aw_iast X dX12_growsTree_62 iu_RX12_54 es7 ?_
      refine aw_iinc (v := (x2 + 1)) (L' := [some (.ref (zr Z 0)), some (.int x1), some (.int (x2 + 1)), none, none, none, none, none]) X dX12_growsTree_63 rfl rfl (by decide) rfl ?_
      refine aw_goto (tgt := 37) X dX12_growsTree_66 (by decide) ?_
      cases h
      refine aw_msk [true, true, true, false, false, false, false, false] ?_
      exact hi _ rfl
    · rw [if_pos c6] at h
      refine aw_iconst (v := 0) X dX12_growsTree_55 (by decide) ?_
      refine aw_goto (tgt := 62) X dX12_growsTree_56 (by decide) ?_
      obtain ⟨s8, es8, h⟩ := bnd h
      refine aw_iast X dX12_growsTree_62 iu_RX12_54 es8 ?_
      refine aw_iinc (v := (x2 + 1)) (L' := [some (.ref (zr Z 0)), some (.int x1), some (.int (x2 + 1)), none, none, none, none, none]) X dX12_growsTree_63 rfl rfl (by decide) rfl ?_
      refine aw_goto (tgt := 37) X dX12_growsTree_66 (by decide) ?_
      cases h
      refine aw_msk [true, true, true, false, false, false, false, false] ?_
      exact hi _ rfl
set_option maxRecDepth 100000 in
set_option maxHeartbeats 4000000 in
theorem so_X12_growsTree_88 {fr : Nat} (hfr : 1 ≤ fr) (Z : AZ) (X : AX Z cX12_growsTree 8 RX12 (some .boolean) 1 fr) (x1 : Int32) (x2 : Int32) (x3 : Int32) (x4 : Int32) (s : Mem) (q : (Int32 × Mem) ⊕ (Int32 × Mem)) (h : st_X12_growsTree_88 x1 x2 x3 x4 s = some q) (hi : ∀ y : Int32 × Mem, q = .inl y → AW Z y.2 88 [some (.ref (zr Z 0)), some (.int x1), some (.int x2), some (.int x3), some (.int y.1), none, none, none] []) (he : ∀ b : Int32 × Mem, q = .inr b → AW Z b.2 117 [some (.ref (zr Z 0)), some (.int x1), some (.int x2), some (.int x3), some (.int b.1), none, none, none] []) : AW Z s 88 [some (.ref (zr Z 0)), some (.int x1), some (.int x2), some (.int x3), some (.int x4), none, none, none] [] := by
  unfold st_X12_growsTree_88 at h
  refine aw_aload_n X dX12_growsTree_88 rfl ?_
  refine aw_iload_n X dX12_growsTree_89 rfl ?_
  refine aw_iload X dX12_growsTree_90 rfl ?_
  obtain ⟨r11, er11, h⟩ := bnd h
  refine aw_callV X dX12_growsTree_92 cv_RX12_314 (ok_X12_has er11 _ _ _ _ _) iu_RX12 rfl (Nat.le_trans (by decide) hfr) (by decide) rfl rfl (Nat.le_of_ble_eq_true rfl) ?_
  refine aw_if_eq (tgt := 108) X dX12_growsTree_95 (by decide) (fun c12 => ?_) (fun c12 => ?_)
  · rw [if_pos c12] at h
    refine aw_iload X dX12_growsTree_108 rfl ?_
    refine aw_iconst (v := 1) X dX12_growsTree_110 (by decide) ?_
    refine aw_iadd X dX12_growsTree_111 ?_
    refine aw_istore (L' := [some (.ref (zr Z 0)), some (.int x1), some (.int x2), some (.int x3), some (.int (x4 + 1)), none, none, none]) X dX12_growsTree_112 (by decide) rfl ?_
    refine aw_goto (tgt := 88) X dX12_growsTree_114 (by decide) ?_
    cases h
    refine aw_msk [true, true, true, true, true, false, false, false] ?_
    exact hi _ rfl
  · rw [if_neg c12] at h
    refine aw_aload_n X dX12_growsTree_98 rfl ?_
    refine aw_iload X dX12_growsTree_99 rfl ?_
    refine aw_iload_n X dX12_growsTree_101 rfl ?_
    obtain ⟨r13, er13, h⟩ := bnd h
    refine aw_callV X dX12_growsTree_102 cv_RX12_456 (ok_X12_isInRow er13 _ _ _ _ _) iu_RX12 rfl (Nat.le_trans (by decide) hfr) (by decide) rfl rfl (Nat.le_of_ble_eq_true rfl) ?_
    refine aw_if_eq (tgt := 117) X dX12_growsTree_105 (by decide) (fun c14 => ?_) (fun c14 => ?_)
    · rw [if_pos c14] at h
      cases h
      refine aw_msk [true, true, true, true, true, false, false, false] ?_
      exact he _ rfl
    · rw [if_neg c14] at h
      refine aw_iload X dX12_growsTree_108 rfl ?_
      refine aw_iconst (v := 1) X dX12_growsTree_110 (by decide) ?_
      refine aw_iadd X dX12_growsTree_111 ?_
      refine aw_istore (L' := [some (.ref (zr Z 0)), some (.int x1), some (.int x2), some (.int x3), some (.int (x4 + 1)), none, none, none]) X dX12_growsTree_112 (by decide) rfl ?_
      refine aw_goto (tgt := 88) X dX12_growsTree_114 (by decide) ?_
      cases h
      refine aw_msk [true, true, true, true, true, false, false, false] ?_
      exact hi _ rfl
set_option maxRecDepth 100000 in
set_option maxHeartbeats 4000000 in
theorem so_X12_growsTree_77 {fr : Nat} (hfr : 1 ≤ fr) (Z : AZ) (X : AX Z cX12_growsTree 8 RX12 (some .boolean) 1 fr) (x1 : Int32) (x2 : Int32) (x3 : Int32) (s : Mem) (q : (Int32 × Int32 × Mem) ⊕ (Int32 × Mem)) (h : st_X12_growsTree_77 x1 x2 x3 s = some q) (hi : ∀ y : Int32 × Int32 × Mem, q = .inl y → AW Z y.2.2 77 [some (.ref (zr Z 0)), some (.int x1), some (.int y.1), some (.int y.2.1), none, none, none, none] []) (he : ∀ b : Int32 × Mem, q = .inr b → AW Z b.2 144 [some (.ref (zr Z 0)), some (.int x1), some (.int b.1), none, none, none, none, none] []) : AW Z s 77 [some (.ref (zr Z 0)), some (.int x1), some (.int x2), some (.int x3), none, none, none, none] [] := by
  unfold st_X12_growsTree_77 at h
  refine aw_iload_n X dX12_growsTree_77 rfl ?_
  refine aw_aload_n X dX12_growsTree_78 rfl ?_
  refine aw_geti X dX12_growsTree_79 fl_RX12_453 iu_RX12 gu_RX12_52 ?_
  refine aw_icmp_ge (tgt := 144) X dX12_growsTree_82 (by decide) (fun c10 => ?_) (fun c10 => ?_)
  · rw [if_pos c10] at h
    cases h
    refine aw_msk [true, true, true, false, false, false, false, false] ?_
    exact he _ rfl
  · rw [if_neg c10] at h
    refine aw_iconst (v := 0) X dX12_growsTree_85 (by decide) ?_
    refine aw_istore (L' := [some (.ref (zr Z 0)), some (.int x1), some (.int x2), some (.int x3), some (.int 0), none, none, none]) X dX12_growsTree_86 (by decide) rfl ?_
    obtain ⟨r15, er15, h⟩ := bnd h
    refine aw_msk [true, true, true, true, true, false, false, false] ?_
    refine it_ok (P := fun y : Int32 × Mem => AW Z y.2 88 [some (.ref (zr Z 0)), some (.int x1), some (.int x2), some (.int x3), some (.int y.1), none, none, none] []) (Q := fun b : Int32 × Mem => AW Z b.2 117 [some (.ref (zr Z 0)), some (.int x1), some (.int x2), some (.int x3), some (.int b.1), none, none, none] []) (fun y q hq hi he => so_X12_growsTree_88 hfr Z X x1 x2 x3 y.1 y.2 q hq hi he) FUEL _ _ er15 ?_
    refine aw_aload_n X dX12_growsTree_117 rfl ?_
    refine aw_iload X dX12_growsTree_118 rfl ?_
    refine aw_aload_n X dX12_growsTree_120 rfl ?_
    refine aw_getr X dX12_growsTree_121 fl_RX12_101 iu_RX12 gu_RX12_53 ?_
    refine aw_iload_n X dX12_growsTree_124 rfl ?_
    obtain ⟨v16, ev16, h⟩ := bnd h
    refine aw_iald X dX12_growsTree_125 iu_RX12_53 ev16 ?_
    obtain ⟨r17, er17, h⟩ := bnd h
    refine aw_callV X dX12_growsTree_126 cv_RX12_459 (ok_X12_joins er17 _ _ _ _ _) iu_RX12 rfl (Nat.le_trans (by decide) hfr) (by decide) rfl rfl (Nat.le_of_ble_eq_true rfl) ?_
    refine aw_iload_n X dX12_growsTree_129 rfl ?_
    refine aw_iconst (v := 1) X dX12_growsTree_130 (by decide) ?_
    refine aw_iload X dX12_growsTree_131 rfl ?_
    refine aw_ishl X dX12_growsTree_133 ?_
    refine aw_iconst (v := (-1)) X dX12_growsTree_134 (by decide) ?_
    refine aw_ixor X dX12_growsTree_135 ?_
    refine aw_iand X dX12_growsTree_136 ?_
    refine aw_istore_n (L' := [some (.ref (zr Z 0)), some (.int x1), some (.int (x2 &&& ((1 <<< (r15.1 &&& 31)) ^^^ (-1)))), some (.int x3), some (.int r15.1), none, none, none]) X dX12_growsTree_137 (by decide) rfl ?_
    refine aw_iinc (v := (x3 + 1)) (L' := [some (.ref (zr Z 0)), some (.int x1), some (.int (x2 &&& ((1 <<< (r15.1 &&& 31)) ^^^ (-1)))), some (.int (x3 + 1)), some (.int r15.1), none, none, none]) X dX12_growsTree_138 rfl rfl (by decide) rfl ?_
    refine aw_goto (tgt := 77) X dX12_growsTree_141 (by decide) ?_
    cases h
    refine aw_msk [true, true, true, true, false, false, false, false] ?_
    exact hi _ rfl
set_option maxRecDepth 100000 in
set_option maxHeartbeats 4000000 in
theorem so_X12_growsTree_146 {fr : Nat} (hfr : 1 ≤ fr) (Z : AZ) (X : AX Z cX12_growsTree 8 RX12 (some .boolean) 1 fr) (x1 : Int32) (x2 : Int32) (x3 : Int32) (s : Mem) (q : (Int32 × Mem) ⊕ (Int32 × Mem)) (h : st_X12_growsTree_146 x1 x2 x3 s = some q) (hi : ∀ y : Int32 × Mem, q = .inl y → AW Z y.2 146 [some (.ref (zr Z 0)), some (.int x1), some (.int x2), some (.int y.1), none, none, none, none] []) (he : ∀ b : Int32 × Mem, q = .inr b → AW Z b.2 162 [some (.ref (zr Z 0)), some (.int x1), some (.int x2), some (.int b.1), none, none, none, none] []) : AW Z s 146 [some (.ref (zr Z 0)), some (.int x1), some (.int x2), some (.int x3), none, none, none, none] [] := by
  unfold st_X12_growsTree_146 at h
  refine aw_aload_n X dX12_growsTree_146 rfl ?_
  refine aw_iload_n X dX12_growsTree_147 rfl ?_
  refine aw_iload_n X dX12_growsTree_148 rfl ?_
  obtain ⟨r19, er19, h⟩ := bnd h
  refine aw_callV X dX12_growsTree_149 cv_RX12_314 (ok_X12_has er19 _ _ _ _ _) iu_RX12 rfl (Nat.le_trans (by decide) hfr) (by decide) rfl rfl (Nat.le_of_ble_eq_true rfl) ?_
  refine aw_if_ne (tgt := 162) X dX12_growsTree_152 (by decide) (fun c20 => ?_) (fun c20 => ?_)
  · rw [if_neg c20] at h
    cases h
    refine aw_msk [true, true, true, true, false, false, false, false] ?_
    exact he _ rfl
  · rw [if_pos c20] at h
    refine aw_iload_n X dX12_growsTree_155 rfl ?_
    refine aw_iconst (v := 1) X dX12_growsTree_156 (by decide) ?_
    refine aw_iadd X dX12_growsTree_157 ?_
    refine aw_istore_n (L' := [some (.ref (zr Z 0)), some (.int x1), some (.int x2), some (.int (x3 + 1)), none, none, none, none]) X dX12_growsTree_158 (by decide) rfl ?_
    refine aw_goto (tgt := 146) X dX12_growsTree_159 (by decide) ?_
    cases h
    refine aw_msk [true, true, true, true, false, false, false, false] ?_
    exact hi _ rfl
set_option maxRecDepth 100000 in
set_option maxHeartbeats 4000000 in
theorem so_X12_growsTree_167 {fr : Nat} (hfr : 1 ≤ fr) (Z : AZ) (X : AX Z cX12_growsTree 8 RX12 (some .boolean) 1 fr) (x1 : Int32) (x2 : Int32) (x3 : Int32) (x4 : Int32) (s : Mem) (q : (Int32 × Mem) ⊕ (Int32 × Mem)) (h : st_X12_growsTree_167 x1 x2 x3 x4 s = some q) (hi : ∀ y : Int32 × Mem, q = .inl y → AW Z y.2 167 [some (.ref (zr Z 0)), some (.int x1), some (.int x2), some (.int x3), some (.int y.1), none, none, none] []) (he : ∀ b : Int32 × Mem, q = .inr b → AW Z b.2 186 [some (.ref (zr Z 0)), some (.int x1), none, some (.int x3), some (.int b.1), none, none, none] []) : AW Z s 167 [some (.ref (zr Z 0)), some (.int x1), some (.int x2), some (.int x3), some (.int x4), none, none, none] [] := by
  unfold st_X12_growsTree_167 at h
  refine aw_aload_n X dX12_growsTree_167 rfl ?_
  refine aw_iload_n X dX12_growsTree_168 rfl ?_
  refine aw_iload X dX12_growsTree_169 rfl ?_
  obtain ⟨r22, er22, h⟩ := bnd h
  refine aw_callV X dX12_growsTree_171 cv_RX12_314 (ok_X12_has er22 _ _ _ _ _) iu_RX12 rfl (Nat.le_trans (by decide) hfr) (by decide) rfl rfl (Nat.le_of_ble_eq_true rfl) ?_
  refine aw_if_ne (tgt := 186) X dX12_growsTree_174 (by decide) (fun c23 => ?_) (fun c23 => ?_)
  · rw [if_neg c23] at h
    cases h
    refine aw_msk [true, true, false, true, true, false, false, false] ?_
    exact he _ rfl
  · rw [if_pos c23] at h
    refine aw_iload X dX12_growsTree_177 rfl ?_
    refine aw_iconst (v := 1) X dX12_growsTree_179 (by decide) ?_
    refine aw_iadd X dX12_growsTree_180 ?_
    refine aw_istore (L' := [some (.ref (zr Z 0)), some (.int x1), some (.int x2), some (.int x3), some (.int (x4 + 1)), none, none, none]) X dX12_growsTree_181 (by decide) rfl ?_
    refine aw_goto (tgt := 167) X dX12_growsTree_183 (by decide) ?_
    cases h
    refine aw_msk [true, true, true, true, true, false, false, false] ?_
    exact hi _ rfl
set_option maxRecDepth 100000 in
set_option maxHeartbeats 4000000 in
theorem so_X12_growsTree_214 {fr : Nat} (hfr : 1 ≤ fr) (Z : AZ) (X : AX Z cX12_growsTree 8 RX12 (some .boolean) 1 fr) (x1 : Int32) (x5 : Int32) (x6 : Int32) (x7 : Int32) (s : Mem) (q : (Int32 × Mem) ⊕ (Mem)) (h : st_X12_growsTree_214 x1 x5 x6 x7 s = some q) (hi : ∀ y : Int32 × Mem, q = .inl y → AW Z y.2 214 [some (.ref (zr Z 0)), some (.int x1), none, none, none, some (.int x5), some (.int x6), some (.int y.1)] []) (he : ∀ b : Mem, q = .inr b → AW Z b 283 [some (.ref (zr Z 0)), some (.int x1), none, none, none, some (.int x5), some (.int x6), none] []) : AW Z s 214 [some (.ref (zr Z 0)), some (.int x1), none, none, none, some (.int x5), some (.int x6), some (.int x7)] [] := by
  unfold st_X12_growsTree_214 at h
  refine aw_iload X dX12_growsTree_214 rfl ?_
  refine aw_iload_n X dX12_growsTree_216 rfl ?_
  refine aw_icmp_ge (tgt := 283) X dX12_growsTree_217 (by decide) (fun c28 => ?_) (fun c28 => ?_)
  · rw [if_pos c28] at h
    cases h
    refine aw_msk [true, true, false, false, false, true, true, false] ?_
    exact he _ rfl
  · rw [if_neg c28] at h
    refine aw_aload_n X dX12_growsTree_220 rfl ?_
    refine aw_getr X dX12_growsTree_221 fl_RX12_104 iu_RX12 gu_RX12_54 ?_
    refine aw_bipush (v := 8) X dX12_growsTree_224 (by decide) ?_
    refine aw_iload X dX12_growsTree_226 rfl ?_
    refine aw_imul X dX12_growsTree_228 ?_
    refine aw_iload X dX12_growsTree_229 rfl ?_
    refine aw_iadd X dX12_growsTree_231 ?_
    refine aw_aload_n X dX12_growsTree_232 rfl ?_
    refine aw_aload_n X dX12_growsTree_233 rfl ?_
    refine aw_getr X dX12_growsTree_234 fl_RX12_104 iu_RX12 gu_RX12_54 ?_
    refine aw_bipush (v := 8) X dX12_growsTree_237 (by decide) ?_
    refine aw_iload X dX12_growsTree_239 rfl ?_
    refine aw_imul X dX12_growsTree_241 ?_
    refine aw_iload X dX12_growsTree_242 rfl ?_
    refine aw_iadd X dX12_growsTree_244 ?_
    obtain ⟨v29, ev29, h⟩ := bnd h
    refine aw_iald X dX12_growsTree_245 iu_RX12_54 ev29 ?_
    refine aw_aload_n X dX12_growsTree_246 rfl ?_
    refine aw_getr X dX12_growsTree_247 fl_RX12_104 iu_RX12 gu_RX12_54 ?_
    refine aw_bipush (v := 8) X dX12_growsTree_250 (by decide) ?_
    refine aw_iload X dX12_growsTree_252 rfl ?_
    refine aw_imul X dX12_growsTree_254 ?_
    refine aw_iload X dX12_growsTree_255 rfl ?_
    refine aw_iadd X dX12_growsTree_257 ?_
    obtain ⟨v30, ev30, h⟩ := bnd h
    refine aw_iald X dX12_growsTree_258 iu_RX12_54 ev30 ?_
    refine aw_aload_n X dX12_growsTree_259 rfl ?_
    refine aw_getr X dX12_growsTree_260 fl_RX12_104 iu_RX12 gu_RX12_54 ?_
    refine aw_bipush (v := 8) X dX12_growsTree_263 (by decide) ?_
    refine aw_iload X dX12_growsTree_265 rfl ?_
    refine aw_imul X dX12_growsTree_267 ?_
    refine aw_iload X dX12_growsTree_268 rfl ?_
    refine aw_iadd X dX12_growsTree_270 ?_
    obtain ⟨v31, ev31, h⟩ := bnd h
    refine aw_iald X dX12_growsTree_271 iu_RX12_54 ev31 ?_
    refine aw_iadd X dX12_growsTree_272 ?_
    obtain ⟨r32, er32, h⟩ := bnd h
    refine aw_callV X dX12_growsTree_273 cv_RX12_346 (ok_X12_lesser er32 _ _ _ _ _) iu_RX12 rfl (Nat.le_trans (by decide) hfr) (by decide) rfl rfl (Nat.le_of_ble_eq_true rfl) ?_
    obtain ⟨s33, es33, h⟩ := bnd h
    refine aw_iast X dX12_growsTree_276 iu_RX12_54 es33 ?_
    refine aw_iinc (v := (x7 + 1)) (L' := [some (.ref (zr Z 0)), some (.int x1), none, none, none, some (.int x5), some (.int x6), some (.int (x7 + 1))]) X dX12_growsTree_277 rfl rfl (by decide) rfl ?_
    refine aw_goto (tgt := 214) X dX12_growsTree_280 (by decide) ?_
    cases h
    refine aw_msk [true, true, false, false, false, true, true, true] ?_
    exact hi _ rfl
set_option maxRecDepth 100000 in
set_option maxHeartbeats 4000000 in
theorem so_X12_growsTree_205 {fr : Nat} (hfr : 1 ≤ fr) (Z : AZ) (X : AX Z cX12_growsTree 8 RX12 (some .boolean) 1 fr) (x1 : Int32) (x5 : Int32) (x6 : Int32) (s : Mem) (q : (Int32 × Mem) ⊕ (Mem)) (h : st_X12_growsTree_205 x1 x5 x6 s = some q) (hi : ∀ y : Int32 × Mem, q = .inl y → AW Z y.2 205 [some (.ref (zr Z 0)), some (.int x1), none, none, none, some (.int x5), some (.int y.1), none] []) (he : ∀ b : Mem, q = .inr b → AW Z b 289 [some (.ref (zr Z 0)), some (.int x1), none, none, none, some (.int x5), none, none] []) : AW Z s 205 [some (.ref (zr Z 0)), some (.int x1), none, none, none, some (.int x5), some (.int x6), none] [] := by
  unfold st_X12_growsTree_205 at h
  refine aw_iload X dX12_growsTree_205 rfl ?_
  refine aw_iload_n X dX12_growsTree_207 rfl ?_
  refine aw_icmp_ge (tgt := 289) X dX12_growsTree_208 (by decide) (fun c27 => ?_) (fun c27 => ?_)
  · rw [if_pos c27] at h
    cases h
    refine aw_msk [true, true, false, false, false, true, false, false] ?_
    exact he _ rfl
  · rw [if_neg c27] at h
    refine aw_iconst (v := 0) X dX12_growsTree_211 (by decide) ?_
    refine aw_istore (L' := [some (.ref (zr Z 0)), some (.int x1), none, none, none, some (.int x5), some (.int x6), some (.int 0)]) X dX12_growsTree_212 (by decide) rfl ?_
    obtain ⟨r34, er34, h⟩ := bnd h
    refine aw_msk [true, true, false, false, false, true, true, true] ?_
    refine it_ok (P := fun y : Int32 × Mem => AW Z y.2 214 [some (.ref (zr Z 0)), some (.int x1), none, none, none, some (.int x5), some (.int x6), some (.int y.1)] []) (Q := fun b : Mem => AW Z b 283 [some (.ref (zr Z 0)), some (.int x1), none, none, none, some (.int x5), some (.int x6), none] []) (fun y q hq hi he => so_X12_growsTree_214 hfr Z X x1 x5 x6 y.1 y.2 q hq hi he) FUEL _ _ er34 ?_
    refine aw_iinc (v := (x6 + 1)) (L' := [some (.ref (zr Z 0)), some (.int x1), none, none, none, some (.int x5), some (.int (x6 + 1)), none]) X dX12_growsTree_283 rfl rfl (by decide) rfl ?_
    refine aw_goto (tgt := 205) X dX12_growsTree_286 (by decide) ?_
    cases h
    refine aw_msk [true, true, false, false, false, true, true, false] ?_
    exact hi _ rfl
set_option maxRecDepth 100000 in
set_option maxHeartbeats 4000000 in
theorem so_X12_growsTree_196 {fr : Nat} (hfr : 1 ≤ fr) (Z : AZ) (X : AX Z cX12_growsTree 8 RX12 (some .boolean) 1 fr) (x1 : Int32) (x5 : Int32) (s : Mem) (q : (Int32 × Mem) ⊕ (Mem)) (h : st_X12_growsTree_196 x1 x5 s = some q) (hi : ∀ y : Int32 × Mem, q = .inl y → AW Z y.2 196 [some (.ref (zr Z 0)), some (.int x1), none, none, none, some (.int y.1), none, none] []) (he : ∀ b : Mem, q = .inr b → AW Z b 295 [none, none, none, none, none, none, none, none] []) : AW Z s 196 [some (.ref (zr Z 0)), some (.int x1), none, none, none, some (.int x5), none, none] [] := by
  unfold st_X12_growsTree_196 at h
  refine aw_iload X dX12_growsTree_196 rfl ?_
  refine aw_iload_n X dX12_growsTree_198 rfl ?_
  refine aw_icmp_ge (tgt := 295) X dX12_growsTree_199 (by decide) (fun c26 => ?_) (fun c26 => ?_)
  · rw [if_pos c26] at h
    cases h
    refine aw_msk [false, false, false, false, false, false, false, false] ?_
    exact he _ rfl
  · rw [if_neg c26] at h
    refine aw_iconst (v := 0) X dX12_growsTree_202 (by decide) ?_
    refine aw_istore (L' := [some (.ref (zr Z 0)), some (.int x1), none, none, none, some (.int x5), some (.int 0), none]) X dX12_growsTree_203 (by decide) rfl ?_
    obtain ⟨r35, er35, h⟩ := bnd h
    refine aw_msk [true, true, false, false, false, true, true, false] ?_
    refine it_ok (P := fun y : Int32 × Mem => AW Z y.2 205 [some (.ref (zr Z 0)), some (.int x1), none, none, none, some (.int x5), some (.int y.1), none] []) (Q := fun b : Mem => AW Z b 289 [some (.ref (zr Z 0)), some (.int x1), none, none, none, some (.int x5), none, none] []) (fun y q hq hi he => so_X12_growsTree_205 hfr Z X x1 x5 y.1 y.2 q hq hi he) FUEL _ _ er35 ?_
    refine aw_iinc (v := (x5 + 1)) (L' := [some (.ref (zr Z 0)), some (.int x1), none, none, none, some (.int (x5 + 1)), none, none]) X dX12_growsTree_289 rfl rfl (by decide) rfl ?_
    refine aw_goto (tgt := 196) X dX12_growsTree_292 (by decide) ?_
    cases h
    refine aw_msk [true, true, false, false, false, true, false, false] ?_
    exact hi _ rfl
set_option maxRecDepth 100000 in
set_option maxHeartbeats 4000000 in
theorem w_X12_growsTree {fr : Nat} (hfr : 1 ≤ fr) (Z : AZ) (X : AX Z cX12_growsTree 8 RX12 (some .boolean) 1 fr) (s : Mem) (r : Int32 × Mem) (hz : zres Z = (some (.int r.1), r.2)) (h : f_X12_growsTree s = some r) : AW Z s 0 [some (.ref (zr Z 0)), none, none, none, none, none, none, none] [] := by
  unfold f_X12_growsTree at h
  refine aw_aload_n X dX12_growsTree_0 rfl ?_
  refine aw_geti X dX12_growsTree_1 fl_RX12_453 iu_RX12 gu_RX12_52 ?_
  refine aw_iconst (v := 2) X dX12_growsTree_4 (by decide) ?_
  refine aw_iadd X dX12_growsTree_5 ?_
  refine aw_istore_n (L' := [some (.ref (zr Z 0)), some (.int ((s 0 52) + 2)), none, none, none, none, none, none]) X dX12_growsTree_6 (by decide) rfl ?_
  refine aw_iconst (v := 0) X dX12_growsTree_7 (by decide) ?_
  refine aw_istore_n (L' := [some (.ref (zr Z 0)), some (.int ((s 0 52) + 2)), some (.int 0), none, none, none, none, none]) X dX12_growsTree_8 (by decide) rfl ?_
  obtain ⟨r4, er4, h⟩ := bnd h
  refine aw_msk [true, true, true, false, false, false, false, false] ?_
  refine it_ok (P := fun y : Int32 × Mem => AW Z y.2 9 [some (.ref (zr Z 0)), some (.int ((s 0 52) + 2)), some (.int y.1), none, none, none, none, none] []) (Q := fun b : Nat × Mem => (b.1 = 0 → AW Z b.2 27 [none, none, none, none, none, none, none, none] []) ∧ (b.1 = 1 → AW Z b.2 35 [some (.ref (zr Z 0)), some (.int ((s 0 52) + 2)), none, none, none, none, none, none] [])) (fun y q hq hi he => so_X12_growsTree_9 hfr Z X ((s 0 52) + 2) y.1 y.2 q hq hi he) FUEL _ _ er4 ?_
  refine ⟨fun c0 => ?_, fun c1 => ?_⟩
  · rw [if_pos c0] at h
    refine aw_iconst (v := 0) X dX12_growsTree_27 (by decide) ?_
    cases h
    exact aw_zret X dX12_growsTree_28 rfl rfl hz.symm
  · rw [if_neg (by rw [c1]; decide)] at h
    refine aw_iconst (v := 0) X dX12_growsTree_35 (by decide) ?_
    refine aw_istore_n (L' := [some (.ref (zr Z 0)), some (.int ((s 0 52) + 2)), some (.int 0), none, none, none, none, none]) X dX12_growsTree_36 (by decide) rfl ?_
    obtain ⟨r9, er9, h⟩ := bnd h
    refine aw_msk [true, true, true, false, false, false, false, false] ?_
    refine it_ok (P := fun y : Int32 × Mem => AW Z y.2 37 [some (.ref (zr Z 0)), some (.int ((s 0 52) + 2)), some (.int y.1), none, none, none, none, none] []) (Q := fun b : Mem => AW Z b 69 [some (.ref (zr Z 0)), some (.int ((s 0 52) + 2)), none, none, none, none, none, none] []) (fun y q hq hi he => so_X12_growsTree_37 hfr Z X ((s 0 52) + 2) y.1 y.2 q hq hi he) FUEL _ _ er9 ?_
    refine aw_iconst (v := 1) X dX12_growsTree_69 (by decide) ?_
    refine aw_iload_n X dX12_growsTree_70 rfl ?_
    refine aw_ishl X dX12_growsTree_71 ?_
    refine aw_iconst (v := 1) X dX12_growsTree_72 (by decide) ?_
    refine aw_isub X dX12_growsTree_73 ?_
    refine aw_istore_n (L' := [some (.ref (zr Z 0)), some (.int ((s 0 52) + 2)), some (.int ((1 <<< (((s 0 52) + 2) &&& 31)) - 1)), none, none, none, none, none]) X dX12_growsTree_74 (by decide) rfl ?_
    refine aw_iconst (v := 0) X dX12_growsTree_75 (by decide) ?_
    refine aw_istore_n (L' := [some (.ref (zr Z 0)), some (.int ((s 0 52) + 2)), some (.int ((1 <<< (((s 0 52) + 2) &&& 31)) - 1)), some (.int 0), none, none, none, none]) X dX12_growsTree_76 (by decide) rfl ?_
    obtain ⟨r18, er18, h⟩ := bnd h
    refine aw_msk [true, true, true, true, false, false, false, false] ?_
    refine it_ok (P := fun y : Int32 × Int32 × Mem => AW Z y.2.2 77 [some (.ref (zr Z 0)), some (.int ((s 0 52) + 2)), some (.int y.1), some (.int y.2.1), none, none, none, none] []) (Q := fun b : Int32 × Mem => AW Z b.2 144 [some (.ref (zr Z 0)), some (.int ((s 0 52) + 2)), some (.int b.1), none, none, none, none, none] []) (fun y q hq hi he => so_X12_growsTree_77 hfr Z X ((s 0 52) + 2) y.1 y.2.1 y.2.2 q hq hi he) FUEL _ _ er18 ?_
    refine aw_iconst (v := 0) X dX12_growsTree_144 (by decide) ?_
    refine aw_istore_n (L' := [some (.ref (zr Z 0)), some (.int ((s 0 52) + 2)), some (.int r18.1), some (.int 0), none, none, none, none]) X dX12_growsTree_145 (by decide) rfl ?_
    obtain ⟨r21, er21, h⟩ := bnd h
    refine aw_msk [true, true, true, true, false, false, false, false] ?_
    refine it_ok (P := fun y : Int32 × Mem => AW Z y.2 146 [some (.ref (zr Z 0)), some (.int ((s 0 52) + 2)), some (.int r18.1), some (.int y.1), none, none, none, none] []) (Q := fun b : Int32 × Mem => AW Z b.2 162 [some (.ref (zr Z 0)), some (.int ((s 0 52) + 2)), some (.int r18.1), some (.int b.1), none, none, none, none] []) (fun y q hq hi he => so_X12_growsTree_146 hfr Z X ((s 0 52) + 2) r18.1 y.1 y.2 q hq hi he) FUEL _ _ er21 ?_
    refine aw_iload_n X dX12_growsTree_162 rfl ?_
    refine aw_iconst (v := 1) X dX12_growsTree_163 (by decide) ?_
    refine aw_iadd X dX12_growsTree_164 ?_
    refine aw_istore (L' := [some (.ref (zr Z 0)), some (.int ((s 0 52) + 2)), some (.int r18.1), some (.int r21.1), some (.int (r21.1 + 1)), none, none, none]) X dX12_growsTree_165 (by decide) rfl ?_
    obtain ⟨r24, er24, h⟩ := bnd h
    refine aw_msk [true, true, true, true, true, false, false, false] ?_
    refine it_ok (P := fun y : Int32 × Mem => AW Z y.2 167 [some (.ref (zr Z 0)), some (.int ((s 0 52) + 2)), some (.int r18.1), some (.int r21.1), some (.int y.1), none, none, none] []) (Q := fun b : Int32 × Mem => AW Z b.2 186 [some (.ref (zr Z 0)), some (.int ((s 0 52) + 2)), none, some (.int r21.1), some (.int b.1), none, none, none] []) (fun y q hq hi he => so_X12_growsTree_167 hfr Z X ((s 0 52) + 2) r18.1 r21.1 y.1 y.2 q hq hi he) FUEL _ _ er24 ?_
    refine aw_aload_n X dX12_growsTree_186 rfl ?_
    refine aw_iload_n X dX12_growsTree_187 rfl ?_
    refine aw_iload X dX12_growsTree_188 rfl ?_
    obtain ⟨r25, er25, h⟩ := bnd h
    refine aw_callV X dX12_growsTree_190 cv_RX12_459 (ok_X12_joins er25 _ _ _ _ _) iu_RX12 rfl (Nat.le_trans (by decide) hfr) (by decide) rfl rfl (Nat.le_of_ble_eq_true rfl) ?_
    refine aw_iconst (v := 0) X dX12_growsTree_193 (by decide) ?_
    refine aw_istore (L' := [some (.ref (zr Z 0)), some (.int ((s 0 52) + 2)), none, some (.int r21.1), some (.int r24.1), some (.int 0), none, none]) X dX12_growsTree_194 (by decide) rfl ?_
    obtain ⟨r36, er36, h⟩ := bnd h
    refine aw_msk [true, true, false, false, false, true, false, false] ?_
    refine it_ok (P := fun y : Int32 × Mem => AW Z y.2 196 [some (.ref (zr Z 0)), some (.int ((s 0 52) + 2)), none, none, none, some (.int y.1), none, none] []) (Q := fun b : Mem => AW Z b 295 [none, none, none, none, none, none, none, none] []) (fun y q hq hi he => so_X12_growsTree_196 hfr Z X ((s 0 52) + 2) y.1 y.2 q hq hi he) FUEL _ _ er36 ?_
    refine aw_iconst (v := 1) X dX12_growsTree_295 (by decide) ?_
    cases h
    exact aw_zret X dX12_growsTree_296 rfl rfl hz.symm
set_option maxRecDepth 100000 in
set_option maxHeartbeats 4000000 in
theorem ok_X12_growsTree {s : Mem} {r : Int32 × Mem} (h : f_X12_growsTree s = some r) (l : Launch) (D : va_G) (ρ : Nat → Nat) (cA : ClassId × ClassId × ClassId) (τ : AT) : AM l D ρ cA 1 τ yX12_growsTree cX12_growsTree 8 (some .boolean) 1 [.ref (ρ 0)] (some (.int r.1)) s r.2 := by
  refine AM_of (L := [some (.ref (ρ 0)), none, none, none, none, none, none, none]) (by decide) (by simp [Value.category]) (Nat.le_of_ble_eq_true rfl) (fun j v q => ?_) (fun Z X hρ hz hτ => ?_)
  · exact aL_ok (n := 7) [.ref (ρ 0)] j v q
  · subst hρ
    subst hτ
    exact w_X12_growsTree (Nat.le_refl _) Z X s r hz h

theorem dX12_tree_0 : decode cX12_tree 0 = .ok (.aload_n 0, 1) := by decide +kernel
theorem dX12_tree_1 : decode cX12_tree 1 = .ok (.iconst 0, 1) := by decide +kernel
theorem dX12_tree_2 : decode cX12_tree 2 = .ok (.putfield 122, 3) := by decide +kernel
theorem dX12_tree_5 : decode cX12_tree 5 = .ok (.aload_n 0, 1) := by decide +kernel
theorem dX12_tree_6 : decode cX12_tree 6 = .ok (.getfield 453, 3) := by decide +kernel
theorem dX12_tree_9 : decode cX12_tree 9 = .ok (.iconst 2, 1) := by decide +kernel
theorem dX12_tree_10 : decode cX12_tree 10 = .ok (.iadd, 1) := by decide +kernel
theorem dX12_tree_11 : decode cX12_tree 11 = .ok (.istore 4, 2) := by decide +kernel
theorem dX12_tree_13 : decode cX12_tree 13 = .ok (.aload_n 0, 1) := by decide +kernel
theorem dX12_tree_14 : decode cX12_tree 14 = .ok (.iload_n 3, 1) := by decide +kernel
theorem dX12_tree_15 : decode cX12_tree 15 = .ok (.iconst 0, 1) := by decide +kernel
theorem dX12_tree_16 : decode cX12_tree 16 = .ok (.iconst 1, 1) := by decide +kernel
theorem dX12_tree_17 : decode cX12_tree 17 = .ok (.invokevirtual 137, 3) := by decide +kernel
theorem dX12_tree_20 : decode cX12_tree 20 = .ok (.ifCond .eq 41, 3) := by decide +kernel
theorem dX12_tree_23 : decode cX12_tree 23 = .ok (.aload_n 0, 1) := by decide +kernel
theorem dX12_tree_24 : decode cX12_tree 24 = .ok (.iload_n 1, 1) := by decide +kernel
theorem dX12_tree_25 : decode cX12_tree 25 = .ok (.iconst 0, 1) := by decide +kernel
theorem dX12_tree_26 : decode cX12_tree 26 = .ok (.iload 4, 2) := by decide +kernel
theorem dX12_tree_28 : decode cX12_tree 28 = .ok (.iconst 1, 1) := by decide +kernel
theorem dX12_tree_29 : decode cX12_tree 29 = .ok (.isub, 1) := by decide +kernel
theorem dX12_tree_30 : decode cX12_tree 30 = .ok (.invokevirtual 137, 3) := by decide +kernel
theorem dX12_tree_33 : decode cX12_tree 33 = .ok (.ifCond .eq 28, 3) := by decide +kernel
theorem dX12_tree_36 : decode cX12_tree 36 = .ok (.iload_n 3, 1) := by decide +kernel
theorem dX12_tree_37 : decode cX12_tree 37 = .ok (.iconst 1, 1) := by decide +kernel
theorem dX12_tree_38 : decode cX12_tree 38 = .ok (.if_icmp .ne 16, 3) := by decide +kernel
theorem dX12_tree_41 : decode cX12_tree 41 = .ok (.aload_n 0, 1) := by decide +kernel
theorem dX12_tree_42 : decode cX12_tree 42 = .ok (.iload_n 2, 1) := by decide +kernel
theorem dX12_tree_43 : decode cX12_tree 43 = .ok (.iconst 0, 1) := by decide +kernel
theorem dX12_tree_44 : decode cX12_tree 44 = .ok (.iload 4, 2) := by decide +kernel
theorem dX12_tree_46 : decode cX12_tree 46 = .ok (.iconst 1, 1) := by decide +kernel
theorem dX12_tree_47 : decode cX12_tree 47 = .ok (.isub, 1) := by decide +kernel
theorem dX12_tree_48 : decode cX12_tree 48 = .ok (.invokevirtual 137, 3) := by decide +kernel
theorem dX12_tree_51 : decode cX12_tree 51 = .ok (.ifCond .eq 10, 3) := by decide +kernel
theorem dX12_tree_54 : decode cX12_tree 54 = .ok (.aload_n 0, 1) := by decide +kernel
theorem dX12_tree_55 : decode cX12_tree 55 = .ok (.invokevirtual 462, 3) := by decide +kernel
theorem dX12_tree_58 : decode cX12_tree 58 = .ok (.ifCond .ne 5, 3) := by decide +kernel
theorem dX12_tree_61 : decode cX12_tree 61 = .ok (.iconst (-1), 1) := by decide +kernel
theorem dX12_tree_62 : decode cX12_tree 62 = .ok (.ireturn, 1) := by decide +kernel
theorem dX12_tree_63 : decode cX12_tree 63 = .ok (.iload_n 3, 1) := by decide +kernel
theorem dX12_tree_64 : decode cX12_tree 64 = .ok (.iconst 1, 1) := by decide +kernel
theorem dX12_tree_65 : decode cX12_tree 65 = .ok (.if_icmp .ne 15, 3) := by decide +kernel
theorem dX12_tree_68 : decode cX12_tree 68 = .ok (.aload_n 0, 1) := by decide +kernel
theorem dX12_tree_69 : decode cX12_tree 69 = .ok (.getfield 104, 3) := by decide +kernel
theorem dX12_tree_72 : decode cX12_tree 72 = .ok (.bipush 8, 2) := by decide +kernel
theorem dX12_tree_74 : decode cX12_tree 74 = .ok (.iload_n 1, 1) := by decide +kernel
theorem dX12_tree_75 : decode cX12_tree 75 = .ok (.imul, 1) := by decide +kernel
theorem dX12_tree_76 : decode cX12_tree 76 = .ok (.iload_n 2, 1) := by decide +kernel
theorem dX12_tree_77 : decode cX12_tree 77 = .ok (.iadd, 1) := by decide +kernel
theorem dX12_tree_78 : decode cX12_tree 78 = .ok (.iaload, 1) := by decide +kernel
theorem dX12_tree_79 : decode cX12_tree 79 = .ok (.ireturn, 1) := by decide +kernel
theorem dX12_tree_80 : decode cX12_tree 80 = .ok (.iconst 0, 1) := by decide +kernel
theorem dX12_tree_81 : decode cX12_tree 81 = .ok (.istore 5, 2) := by decide +kernel
theorem dX12_tree_83 : decode cX12_tree 83 = .ok (.iconst 0, 1) := by decide +kernel
theorem dX12_tree_84 : decode cX12_tree 84 = .ok (.istore 6, 2) := by decide +kernel
theorem dX12_tree_86 : decode cX12_tree 86 = .ok (.iload 6, 2) := by decide +kernel
theorem dX12_tree_88 : decode cX12_tree 88 = .ok (.iload 4, 2) := by decide +kernel
theorem dX12_tree_90 : decode cX12_tree 90 = .ok (.if_icmp .ge 31, 3) := by decide +kernel
theorem dX12_tree_93 : decode cX12_tree 93 = .ok (.aload_n 0, 1) := by decide +kernel
theorem dX12_tree_94 : decode cX12_tree 94 = .ok (.getfield 104, 3) := by decide +kernel
theorem dX12_tree_97 : decode cX12_tree 97 = .ok (.bipush 8, 2) := by decide +kernel
theorem dX12_tree_99 : decode cX12_tree 99 = .ok (.iload_n 1, 1) := by decide +kernel
theorem dX12_tree_100 : decode cX12_tree 100 = .ok (.imul, 1) := by decide +kernel
theorem dX12_tree_101 : decode cX12_tree 101 = .ok (.iload 6, 2) := by decide +kernel
theorem dX12_tree_103 : decode cX12_tree 103 = .ok (.iadd, 1) := by decide +kernel
theorem dX12_tree_104 : decode cX12_tree 104 = .ok (.iaload, 1) := by decide +kernel
theorem dX12_tree_105 : decode cX12_tree 105 = .ok (.iconst 1, 1) := by decide +kernel
theorem dX12_tree_106 : decode cX12_tree 106 = .ok (.if_icmp .ne 9, 3) := by decide +kernel
theorem dX12_tree_109 : decode cX12_tree 109 = .ok (.iload 5, 2) := by decide +kernel
theorem dX12_tree_111 : decode cX12_tree 111 = .ok (.iconst 1, 1) := by decide +kernel
theorem dX12_tree_112 : decode cX12_tree 112 = .ok (.iadd, 1) := by decide +kernel
theorem dX12_tree_113 : decode cX12_tree 113 = .ok (.istore 5, 2) := by decide +kernel
theorem dX12_tree_115 : decode cX12_tree 115 = .ok (.iinc 6 1, 3) := by decide +kernel
theorem dX12_tree_118 : decode cX12_tree 118 = .ok (.goto (-32), 3) := by decide +kernel
theorem dX12_tree_121 : decode cX12_tree 121 = .ok (.iload 5, 2) := by decide +kernel
theorem dX12_tree_123 : decode cX12_tree 123 = .ok (.ireturn, 1) := by decide +kernel
set_option maxRecDepth 100000 in
set_option maxHeartbeats 4000000 in
theorem so_X12_tree_86 {fr : Nat} (hfr : 2 ≤ fr) (Z : AZ) (X : AX Z cX12_tree 7 RX12 (some .int) 1 fr) (x1 : Int32) (x4 : Int32) (x5 : Int32) (x6 : Int32) (s : Mem) (q : (Int32 × Int32 × Mem) ⊕ (Int32 × Mem)) (h : st_X12_tree_86 x1 x4 x5 x6 s = some q) (hi : ∀ y : Int32 × Int32 × Mem, q = .inl y → AW Z y.2.2 86 [some (.ref (zr Z 0)), some (.int x1), none, none, some (.int x4), some (.int y.1), some (.int y.2.1)] []) (he : ∀ b : Int32 × Mem, q = .inr b → AW Z b.2 121 [none, none, none, none, none, some (.int b.1), none] []) : AW Z s 86 [some (.ref (zr Z 0)), some (.int x1), none, none, some (.int x4), some (.int x5), some (.int x6)] [] := by
  unfold st_X12_tree_86 at h
  refine aw_iload X dX12_tree_86 rfl ?_
  refine aw_iload X dX12_tree_88 rfl ?_
  refine aw_icmp_ge (tgt := 121) X dX12_tree_90 (by decide) (fun c9 => ?_) (fun c9 => ?_)
  · rw [if_pos c9] at h
    cases h
    refine aw_msk [false, false, false, false, false, true, false] ?_
    exact he _ rfl
  · rw [if_neg c9] at h
    refine aw_aload_n X dX12_tree_93 rfl ?_
    refine aw_getr X dX12_tree_94 fl_RX12_104 iu_RX12 gu_RX12_54 ?_
    refine aw_bipush (v := 8) X dX12_tree_97 (by decide) ?_
    refine aw_iload_n X dX12_tree_99 rfl ?_
    refine aw_imul X dX12_tree_100 ?_
    refine aw_iload X dX12_tree_101 rfl ?_
    refine aw_iadd X dX12_tree_103 ?_
    obtain ⟨v10, ev10, h⟩ := bnd h
    refine aw_iald X dX12_tree_104 iu_RX12_54 ev10 ?_
    refine aw_iconst (v := 1) X dX12_tree_105 (by decide) ?_
    refine aw_icmp_ne (tgt := 115) X dX12_tree_106 (by decide) (fun c11 => ?_) (fun c11 => ?_)
    · rw [if_neg c11] at h
      refine aw_iinc (v := (x6 + 1)) (L' := [some (.ref (zr Z 0)), some (.int x1), none, none, some (.int x4), some (.int x5), some (.int (x6 + 1))]) X dX12_tree_115 rfl rfl (by decide) rfl ?_
      refine aw_goto (tgt := 86) X dX12_tree_118 (by decide) ?_
      cases h
      refine aw_msk [true, true, false, false, true, true, true] ?_
      exact hi _ rfl
    · rw [if_pos c11] at h
      refine aw_iload X dX12_tree_109 rfl ?_
      refine aw_iconst (v := 1) X dX12_tree_111 (by decide) ?_
      refine aw_iadd X dX12_tree_112 ?_
      refine aw_istore (L' := [some (.ref (zr Z 0)), some (.int x1), none, none, some (.int x4), some (.int (x5 + 1)), some (.int x6)]) X dX12_tree_113 (by decide) rfl ?_
      refine aw_iinc (v := (x6 + 1)) (L' := [some (.ref (zr Z 0)), some (.int x1), none, none, some (.int x4), some (.int (x5 + 1)), some (.int (x6 + 1))]) X dX12_tree_115 rfl rfl (by decide) rfl ?_
      refine aw_goto (tgt := 86) X dX12_tree_118 (by decide) ?_
      cases h
      refine aw_msk [true, true, false, false, true, true, true] ?_
      exact hi _ rfl
set_option maxRecDepth 100000 in
set_option maxHeartbeats 4000000 in
theorem jo_X12_tree_54 {fr : Nat} (hfr : 2 ≤ fr) (Z : AZ) (X : AX Z cX12_tree 7 RX12 (some .int) 1 fr) (x1 : Int32) (x2 : Int32) (x3 : Int32) (x4 : Int32) (s : Mem) (r : Int32 × Mem) (hz : zres Z = (some (.int r.1), r.2)) (h : jn_X12_tree_54 x1 x2 x3 x4 s = some r) : AW Z s 54 [some (.ref (zr Z 0)), some (.int x1), some (.int x2), some (.int x3), some (.int x4), none, none] [] := by
  unfold jn_X12_tree_54 at h
  refine aw_aload_n X dX12_tree_54 rfl ?_
  obtain ⟨r6, er6, h⟩ := bnd h
  refine aw_callV X dX12_tree_55 cv_RX12_462 (ok_X12_growsTree er6 _ _ _ _ _) iu_RX12 rfl (Nat.le_trans (by decide) hfr) (by decide) rfl rfl (Nat.le_of_ble_eq_true rfl) ?_
  refine aw_if_ne (tgt := 63) X dX12_tree_58 (by decide) (fun c7 => ?_) (fun c7 => ?_)
  · rw [if_neg c7] at h
    refine aw_iload_n X dX12_tree_63 rfl ?_
    refine aw_iconst (v := 1) X dX12_tree_64 (by decide) ?_
    refine aw_icmp_ne (tgt := 80) X dX12_tree_65 (by decide) (fun c8 => ?_) (fun c8 => ?_)
    · rw [if_neg c8] at h
      refine aw_iconst (v := 0) X dX12_tree_80 (by decide) ?_
      refine aw_istore (L' := [some (.ref (zr Z 0)), some (.int x1), some (.int x2), some (.int x3), some (.int x4), some (.int 0), none]) X dX12_tree_81 (by decide) rfl ?_
      refine aw_iconst (v := 0) X dX12_tree_83 (by decide) ?_
      refine aw_istore (L' := [some (.ref (zr Z 0)), some (.int x1), some (.int x2), some (.int x3), some (.int x4), some (.int 0), some (.int 0)]) X dX12_tree_84 (by decide) rfl ?_
      obtain ⟨r12, er12, h⟩ := bnd h
      refine aw_msk [true, true, false, false, true, true, true] ?_
      refine it_ok (P := fun y : Int32 × Int32 × Mem => AW Z y.2.2 86 [some (.ref (zr Z 0)), some (.int x1), none, none, some (.int x4), some (.int y.1), some (.int y.2.1)] []) (Q := fun b : Int32 × Mem => AW Z b.2 121 [none, none, none, none, none, some (.int b.1), none] []) (fun y q hq hi he => so_X12_tree_86 hfr Z X x1 x4 y.1 y.2.1 y.2.2 q hq hi he) FUEL _ _ er12 ?_
      refine aw_iload X dX12_tree_121 rfl ?_
      cases h
      exact aw_iret X dX12_tree_123 rfl hz.symm
    · rw [if_pos c8] at h
      refine aw_aload_n X dX12_tree_68 rfl ?_
      refine aw_getr X dX12_tree_69 fl_RX12_104 iu_RX12 gu_RX12_54 ?_
      refine aw_bipush (v := 8) X dX12_tree_72 (by decide) ?_
      refine aw_iload_n X dX12_tree_74 rfl ?_
      refine aw_imul X dX12_tree_75 ?_
      refine aw_iload_n X dX12_tree_76 rfl ?_
      refine aw_iadd X dX12_tree_77 ?_
      obtain ⟨v13, ev13, h⟩ := bnd h
      refine aw_iald X dX12_tree_78 iu_RX12_54 ev13 ?_
      cases h
      exact aw_iret X dX12_tree_79 rfl hz.symm
  · rw [if_pos c7] at h
    refine aw_iconst (v := (-1)) X dX12_tree_61 (by decide) ?_
    cases h
    exact aw_iret X dX12_tree_62 rfl hz.symm
set_option maxRecDepth 100000 in
set_option maxHeartbeats 4000000 in
theorem w_X12_tree {fr : Nat} (hfr : 2 ≤ fr) (Z : AZ) (X : AX Z cX12_tree 7 RX12 (some .int) 1 fr) (x1 : Int32) (x2 : Int32) (x3 : Int32) (s : Mem) (r : Int32 × Mem) (hz : zres Z = (some (.int r.1), r.2)) (h : f_X12_tree x1 x2 x3 s = some r) : AW Z s 0 [some (.ref (zr Z 0)), some (.int x1), some (.int x2), some (.int x3), none, none, none] [] := by
  unfold f_X12_tree at h
  refine aw_aload_n X dX12_tree_0 rfl ?_
  refine aw_iconst (v := 0) X dX12_tree_1 (by decide) ?_
  refine aw_put X dX12_tree_2 fp_RX12_122 iu_RX12 gu_RX12_0 rfl rfl ?_
  refine aw_aload_n X dX12_tree_5 rfl ?_
  refine aw_geti X dX12_tree_6 fl_RX12_453 iu_RX12 gu_RX12_52 ?_
  refine aw_iconst (v := 2) X dX12_tree_9 (by decide) ?_
  refine aw_iadd X dX12_tree_10 ?_
  refine aw_istore (L' := [some (.ref (zr Z 0)), some (.int x1), some (.int x2), some (.int x3), some (.int (((mset s 0 0 0) 0 52) + 2)), none, none]) X dX12_tree_11 (by decide) rfl ?_
  refine aw_aload_n X dX12_tree_13 rfl ?_
  refine aw_iload_n X dX12_tree_14 rfl ?_
  refine aw_iconst (v := 0) X dX12_tree_15 (by decide) ?_
  refine aw_iconst (v := 1) X dX12_tree_16 (by decide) ?_
  obtain ⟨r1, er1, h⟩ := bnd h
  refine aw_callV X dX12_tree_17 cv_RX12_137 (ok_X12_isIn er1 _ _ _ _ _) iu_RX12 rfl (Nat.le_trans (by decide) hfr) (by decide) rfl rfl (Nat.le_of_ble_eq_true rfl) ?_
  refine aw_if_eq (tgt := 61) X dX12_tree_20 (by decide) (fun c2 => ?_) (fun c2 => ?_)
  · rw [if_pos c2] at h
    refine aw_iconst (v := (-1)) X dX12_tree_61 (by decide) ?_
    cases h
    exact aw_iret X dX12_tree_62 rfl hz.symm
  · rw [if_neg c2] at h
    refine aw_aload_n X dX12_tree_23 rfl ?_
    refine aw_iload_n X dX12_tree_24 rfl ?_
    refine aw_iconst (v := 0) X dX12_tree_25 (by decide) ?_
    refine aw_iload X dX12_tree_26 rfl ?_
    refine aw_iconst (v := 1) X dX12_tree_28 (by decide) ?_
    refine aw_isub X dX12_tree_29 ?_
    obtain ⟨r3, er3, h⟩ := bnd h
    refine aw_callV X dX12_tree_30 cv_RX12_137 (ok_X12_isIn er3 _ _ _ _ _) iu_RX12 rfl (Nat.le_trans (by decide) hfr) (by decide) rfl rfl (Nat.le_of_ble_eq_true rfl) ?_
    refine aw_if_eq (tgt := 61) X dX12_tree_33 (by decide) (fun c4 => ?_) (fun c4 => ?_)
    · rw [if_pos c4] at h
      refine aw_iconst (v := (-1)) X dX12_tree_61 (by decide) ?_
      cases h
      exact aw_iret X dX12_tree_62 rfl hz.symm
    · rw [if_neg c4] at h
      refine aw_iload_n X dX12_tree_36 rfl ?_
      refine aw_iconst (v := 1) X dX12_tree_37 (by decide) ?_
      refine aw_icmp_ne (tgt := 54) X dX12_tree_38 (by decide) (fun c5 => ?_) (fun c5 => ?_)
      · rw [if_neg c5] at h
        refine aw_msk [true, true, true, true, true, false, false] ?_
        exact jo_X12_tree_54 hfr Z X _ _ _ _ _ _ hz h
      · rw [if_pos c5] at h
        refine aw_aload_n X dX12_tree_41 rfl ?_
        refine aw_iload_n X dX12_tree_42 rfl ?_
        refine aw_iconst (v := 0) X dX12_tree_43 (by decide) ?_
        refine aw_iload X dX12_tree_44 rfl ?_
        refine aw_iconst (v := 1) X dX12_tree_46 (by decide) ?_
        refine aw_isub X dX12_tree_47 ?_
        obtain ⟨r14, er14, h⟩ := bnd h
        refine aw_callV X dX12_tree_48 cv_RX12_137 (ok_X12_isIn er14 _ _ _ _ _) iu_RX12 rfl (Nat.le_trans (by decide) hfr) (by decide) rfl rfl (Nat.le_of_ble_eq_true rfl) ?_
        refine aw_if_eq (tgt := 61) X dX12_tree_51 (by decide) (fun c15 => ?_) (fun c15 => ?_)
        · rw [if_pos c15] at h
          refine aw_iconst (v := (-1)) X dX12_tree_61 (by decide) ?_
          cases h
          exact aw_iret X dX12_tree_62 rfl hz.symm
        · rw [if_neg c15] at h
          refine aw_msk [true, true, true, true, true, false, false] ?_
          exact jo_X12_tree_54 hfr Z X _ _ _ _ _ _ hz h
set_option maxRecDepth 100000 in
set_option maxHeartbeats 4000000 in
theorem ok_X12_tree {x1 x2 x3 : Int32} {s : Mem} {r : Int32 × Mem} (h : f_X12_tree x1 x2 x3 s = some r) (l : Launch) (D : va_G) (ρ : Nat → Nat) (cA : ClassId × ClassId × ClassId) (τ : AT) : AM l D ρ cA 1 τ yX12_tree cX12_tree 7 (some .int) 2 [.ref (ρ 0), .int x1, .int x2, .int x3] (some (.int r.1)) s r.2 := by
  refine AM_of (L := [some (.ref (ρ 0)), some (.int x1), some (.int x2), some (.int x3), none, none, none]) (by decide) (by simp [Value.category]) (Nat.le_of_ble_eq_true rfl) (fun j v q => ?_) (fun Z X hρ hz hτ => ?_)
  · exact aL_ok (n := 3) [.ref (ρ 0), .int x1, .int x2, .int x3] j v q
  · subst hρ
    subst hτ
    exact w_X12_tree (Nat.le_refl _) Z X x1 x2 x3 s r hz h

theorem dX12_step_0 : decode cX12_step 0 = .ok (.aload_n 0, 1) := by decide +kernel
theorem dX12_step_1 : decode cX12_step 1 = .ok (.iconst 0, 1) := by decide +kernel
theorem dX12_step_2 : decode cX12_step 2 = .ok (.putfield 122, 3) := by decide +kernel
theorem dX12_step_5 : decode cX12_step 5 = .ok (.iload_n 1, 1) := by decide +kernel
theorem dX12_step_6 : decode cX12_step 6 = .ok (.iconst (-1), 1) := by decide +kernel
theorem dX12_step_7 : decode cX12_step 7 = .ok (.if_icmp .ne 10, 3) := by decide +kernel
theorem dX12_step_10 : decode cX12_step 10 = .ok (.aload_n 0, 1) := by decide +kernel
theorem dX12_step_11 : decode cX12_step 11 = .ok (.iconst 0, 1) := by decide +kernel
theorem dX12_step_12 : decode cX12_step 12 = .ok (.putfield 465, 3) := by decide +kernel
theorem dX12_step_15 : decode cX12_step 15 = .ok (.iconst 0, 1) := by decide +kernel
theorem dX12_step_16 : decode cX12_step 16 = .ok (.ireturn, 1) := by decide +kernel
theorem dX12_step_17 : decode cX12_step 17 = .ok (.aload_n 0, 1) := by decide +kernel
theorem dX12_step_18 : decode cX12_step 18 = .ok (.iload_n 1, 1) := by decide +kernel
theorem dX12_step_19 : decode cX12_step 19 = .ok (.iconst 1, 1) := by decide +kernel
theorem dX12_step_20 : decode cX12_step 20 = .ok (.bipush 40, 2) := by decide +kernel
theorem dX12_step_22 : decode cX12_step 22 = .ok (.invokevirtual 137, 3) := by decide +kernel
theorem dX12_step_25 : decode cX12_step 25 = .ok (.ifCond .eq 12, 3) := by decide +kernel
theorem dX12_step_28 : decode cX12_step 28 = .ok (.aload_n 0, 1) := by decide +kernel
theorem dX12_step_29 : decode cX12_step 29 = .ok (.getfield 465, 3) := by decide +kernel
theorem dX12_step_32 : decode cX12_step 32 = .ok (.bipush 8, 2) := by decide +kernel
theorem dX12_step_34 : decode cX12_step 34 = .ok (.if_icmp .ne 5, 3) := by decide +kernel
theorem dX12_step_37 : decode cX12_step 37 = .ok (.iconst (-1), 1) := by decide +kernel
theorem dX12_step_38 : decode cX12_step 38 = .ok (.ireturn, 1) := by decide +kernel
theorem dX12_step_39 : decode cX12_step 39 = .ok (.aload_n 0, 1) := by decide +kernel
theorem dX12_step_40 : decode cX12_step 40 = .ok (.getfield 107, 3) := by decide +kernel
theorem dX12_step_43 : decode cX12_step 43 = .ok (.aload_n 0, 1) := by decide +kernel
theorem dX12_step_44 : decode cX12_step 44 = .ok (.getfield 465, 3) := by decide +kernel
theorem dX12_step_47 : decode cX12_step 47 = .ok (.iload_n 1, 1) := by decide +kernel
theorem dX12_step_48 : decode cX12_step 48 = .ok (.iastore, 1) := by decide +kernel
theorem dX12_step_49 : decode cX12_step 49 = .ok (.aload_n 0, 1) := by decide +kernel
theorem dX12_step_50 : decode cX12_step 50 = .ok (.aload_n 0, 1) := by decide +kernel
theorem dX12_step_51 : decode cX12_step 51 = .ok (.getfield 465, 3) := by decide +kernel
theorem dX12_step_54 : decode cX12_step 54 = .ok (.iconst 1, 1) := by decide +kernel
theorem dX12_step_55 : decode cX12_step 55 = .ok (.iadd, 1) := by decide +kernel
theorem dX12_step_56 : decode cX12_step 56 = .ok (.putfield 465, 3) := by decide +kernel
theorem dX12_step_59 : decode cX12_step 59 = .ok (.aload_n 0, 1) := by decide +kernel
theorem dX12_step_60 : decode cX12_step 60 = .ok (.getfield 465, 3) := by decide +kernel
theorem dX12_step_63 : decode cX12_step 63 = .ok (.ireturn, 1) := by decide +kernel
set_option maxRecDepth 100000 in
set_option maxHeartbeats 4000000 in
theorem w_X12_step {fr : Nat} (hfr : 1 ≤ fr) (Z : AZ) (X : AX Z cX12_step 2 RX12 (some .int) 1 fr) (x1 : Int32) (s : Mem) (r : Int32 × Mem) (hz : zres Z = (some (.int r.1), r.2)) (h : f_X12_step x1 s = some r) : AW Z s 0 [some (.ref (zr Z 0)), some (.int x1)] [] := by
  unfold f_X12_step at h
  refine aw_aload_n X dX12_step_0 rfl ?_
  refine aw_iconst (v := 0) X dX12_step_1 (by decide) ?_
  refine aw_put X dX12_step_2 fp_RX12_122 iu_RX12 gu_RX12_0 rfl rfl ?_
  refine aw_iload_n X dX12_step_5 rfl ?_
  refine aw_iconst (v := (-1)) X dX12_step_6 (by decide) ?_
  refine aw_icmp_ne (tgt := 17) X dX12_step_7 (by decide) (fun c1 => ?_) (fun c1 => ?_)
  · rw [if_neg c1] at h
    refine aw_aload_n X dX12_step_17 rfl ?_
    refine aw_iload_n X dX12_step_18 rfl ?_
    refine aw_iconst (v := 1) X dX12_step_19 (by decide) ?_
    refine aw_bipush (v := 40) X dX12_step_20 (by decide) ?_
    obtain ⟨r2, er2, h⟩ := bnd h
    refine aw_callV X dX12_step_22 cv_RX12_137 (ok_X12_isIn er2 _ _ _ _ _) iu_RX12 rfl (Nat.le_trans (by decide) hfr) (by decide) rfl rfl (Nat.le_of_ble_eq_true rfl) ?_
    refine aw_if_eq (tgt := 37) X dX12_step_25 (by decide) (fun c3 => ?_) (fun c3 => ?_)
    · rw [if_pos c3] at h
      refine aw_iconst (v := (-1)) X dX12_step_37 (by decide) ?_
      cases h
      exact aw_iret X dX12_step_38 rfl hz.symm
    · rw [if_neg c3] at h
      refine aw_aload_n X dX12_step_28 rfl ?_
      refine aw_geti X dX12_step_29 fl_RX12_465 iu_RX12 gu_RX12_55 ?_
      refine aw_bipush (v := 8) X dX12_step_32 (by decide) ?_
      refine aw_icmp_ne (tgt := 39) X dX12_step_34 (by decide) (fun c4 => ?_) (fun c4 => ?_)
      · rw [if_neg c4] at h
        refine aw_aload_n X dX12_step_39 rfl ?_
        refine aw_getr X dX12_step_40 fl_RX12_107 iu_RX12 gu_RX12_56 ?_
        refine aw_aload_n X dX12_step_43 rfl ?_
        refine aw_geti X dX12_step_44 fl_RX12_465 iu_RX12 gu_RX12_55 ?_
        refine aw_iload_n X dX12_step_47 rfl ?_
        obtain ⟨s5, es5, h⟩ := bnd h
        refine aw_iast X dX12_step_48 iu_RX12_56 es5 ?_
        refine aw_aload_n X dX12_step_49 rfl ?_
        refine aw_aload_n X dX12_step_50 rfl ?_
        refine aw_geti X dX12_step_51 fl_RX12_465 iu_RX12 gu_RX12_55 ?_
        refine aw_iconst (v := 1) X dX12_step_54 (by decide) ?_
        refine aw_iadd X dX12_step_55 ?_
        refine aw_put X dX12_step_56 fp_RX12_465 iu_RX12 gu_RX12_55 rfl rfl ?_
        refine aw_aload_n X dX12_step_59 rfl ?_
        refine aw_geti X dX12_step_60 fl_RX12_465 iu_RX12 gu_RX12_55 ?_
        cases h
        exact aw_iret X dX12_step_63 rfl hz.symm
      · rw [if_pos c4] at h
        refine aw_iconst (v := (-1)) X dX12_step_37 (by decide) ?_
        cases h
        exact aw_iret X dX12_step_38 rfl hz.symm
  · rw [if_pos c1] at h
    refine aw_aload_n X dX12_step_10 rfl ?_
    refine aw_iconst (v := 0) X dX12_step_11 (by decide) ?_
    refine aw_put X dX12_step_12 fp_RX12_465 iu_RX12 gu_RX12_55 rfl rfl ?_
    refine aw_iconst (v := 0) X dX12_step_15 (by decide) ?_
    cases h
    exact aw_iret X dX12_step_16 rfl hz.symm
set_option maxRecDepth 100000 in
set_option maxHeartbeats 4000000 in
theorem ok_X12_step {x1 : Int32} {s : Mem} {r : Int32 × Mem} (h : f_X12_step x1 s = some r) (l : Launch) (D : va_G) (ρ : Nat → Nat) (cA : ClassId × ClassId × ClassId) (τ : AT) : AM l D ρ cA 1 τ yX12_step cX12_step 2 (some .int) 1 [.ref (ρ 0), .int x1] (some (.int r.1)) s r.2 := by
  refine AM_of (L := [some (.ref (ρ 0)), some (.int x1)]) (by decide) (by simp [Value.category]) (Nat.le_of_ble_eq_true rfl) (fun j v q => ?_) (fun Z X hρ hz hτ => ?_)
  · exact aL_ok (n := 0) [.ref (ρ 0), .int x1] j v q
  · subst hρ
    subst hτ
    exact w_X12_step (Nat.le_refl _) Z X x1 s r hz h
