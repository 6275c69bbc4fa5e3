/-! ===== walks: X11_canAct .. X11_product ===== -/
theorem dX11_canAct_0 : decode cX11_canAct 0 = .ok (.aload_n 0, 1) := by decide +kernel
theorem dX11_canAct_1 : decode cX11_canAct 1 = .ok (.getfield 10, 3) := by decide +kernel
theorem dX11_canAct_4 : decode cX11_canAct 4 = .ok (.getfield 57, 3) := by decide +kernel
theorem dX11_canAct_7 : decode cX11_canAct 7 = .ok (.astore 4, 2) := by decide +kernel
theorem dX11_canAct_9 : decode cX11_canAct 9 = .ok (.aload 4, 2) := by decide +kernel
theorem dX11_canAct_11 : decode cX11_canAct 11 = .ok (.iload_n 2, 1) := by decide +kernel
theorem dX11_canAct_12 : decode cX11_canAct 12 = .ok (.invokevirtual 73, 3) := by decide +kernel
theorem dX11_canAct_15 : decode cX11_canAct 15 = .ok (.ifCond .ne 5, 3) := by decide +kernel
theorem dX11_canAct_18 : decode cX11_canAct 18 = .ok (.iconst 0, 1) := by decide +kernel
theorem dX11_canAct_19 : decode cX11_canAct 19 = .ok (.ireturn, 1) := by decide +kernel
theorem dX11_canAct_20 : decode cX11_canAct 20 = .ok (.aload 4, 2) := by decide +kernel
theorem dX11_canAct_22 : decode cX11_canAct 22 = .ok (.iload_n 3, 1) := by decide +kernel
theorem dX11_canAct_23 : decode cX11_canAct 23 = .ok (.invokevirtual 73, 3) := by decide +kernel
theorem dX11_canAct_26 : decode cX11_canAct 26 = .ok (.ifCond .eq 12, 3) := by decide +kernel
theorem dX11_canAct_29 : decode cX11_canAct 29 = .ok (.iload_n 3, 1) := by decide +kernel
theorem dX11_canAct_30 : decode cX11_canAct 30 = .ok (.iload_n 2, 1) := by decide +kernel
theorem dX11_canAct_31 : decode cX11_canAct 31 = .ok (.if_icmp .eq 7, 3) := by decide +kernel
theorem dX11_canAct_34 : decode cX11_canAct 34 = .ok (.iconst 1, 1) := by decide +kernel
theorem dX11_canAct_35 : decode cX11_canAct 35 = .ok (.goto 4, 3) := by decide +kernel
theorem dX11_canAct_38 : decode cX11_canAct 38 = .ok (.iconst 0, 1) := by decide +kernel
theorem dX11_canAct_39 : decode cX11_canAct 39 = .ok (.istore 5, 2) := by decide +kernel
theorem dX11_canAct_41 : decode cX11_canAct 41 = .ok (.iload_n 1, 1) := by decide +kernel
theorem dX11_canAct_42 : decode cX11_canAct 42 = .ok (.tableswitch 70 0 3 #[30, 33, 49, 33], 30) := by decide +kernel
theorem dX11_canAct_72 : decode cX11_canAct 72 = .ok (.iload 5, 2) := by decide +kernel
theorem dX11_canAct_74 : decode cX11_canAct 74 = .ok (.ireturn, 1) := by decide +kernel
theorem dX11_canAct_75 : decode cX11_canAct 75 = .ok (.aload 4, 2) := by decide +kernel
theorem dX11_canAct_77 : decode cX11_canAct 77 = .ok (.getfield 199, 3) := by decide +kernel
theorem dX11_canAct_80 : decode cX11_canAct 80 = .ok (.iload_n 2, 1) := by decide +kernel
theorem dX11_canAct_81 : decode cX11_canAct 81 = .ok (.iaload, 1) := by decide +kernel
theorem dX11_canAct_82 : decode cX11_canAct 82 = .ok (.ifCond .le 7, 3) := by decide +kernel
theorem dX11_canAct_85 : decode cX11_canAct 85 = .ok (.iconst 1, 1) := by decide +kernel
theorem dX11_canAct_86 : decode cX11_canAct 86 = .ok (.goto 4, 3) := by decide +kernel
theorem dX11_canAct_89 : decode cX11_canAct 89 = .ok (.iconst 0, 1) := by decide +kernel
theorem dX11_canAct_90 : decode cX11_canAct 90 = .ok (.ireturn, 1) := by decide +kernel
theorem dX11_canAct_91 : decode cX11_canAct 91 = .ok (.iload 5, 2) := by decide +kernel
theorem dX11_canAct_93 : decode cX11_canAct 93 = .ok (.ifCond .eq 17, 3) := by decide +kernel
theorem dX11_canAct_96 : decode cX11_canAct 96 = .ok (.aload 4, 2) := by decide +kernel
theorem dX11_canAct_98 : decode cX11_canAct 98 = .ok (.getfield 199, 3) := by decide +kernel
theorem dX11_canAct_101 : decode cX11_canAct 101 = .ok (.iload_n 2, 1) := by decide +kernel
theorem dX11_canAct_102 : decode cX11_canAct 102 = .ok (.iaload, 1) := by decide +kernel
theorem dX11_canAct_103 : decode cX11_canAct 103 = .ok (.ifCond .le 7, 3) := by decide +kernel
theorem dX11_canAct_106 : decode cX11_canAct 106 = .ok (.iconst 1, 1) := by decide +kernel
theorem dX11_canAct_107 : decode cX11_canAct 107 = .ok (.goto 4, 3) := by decide +kernel
theorem dX11_canAct_110 : decode cX11_canAct 110 = .ok (.iconst 0, 1) := by decide +kernel
theorem dX11_canAct_111 : decode cX11_canAct 111 = .ok (.ireturn, 1) := by decide +kernel
theorem dX11_canAct_112 : decode cX11_canAct 112 = .ok (.iconst 0, 1) := by decide +kernel
theorem dX11_canAct_113 : decode cX11_canAct 113 = .ok (.ireturn, 1) := by decide +kernel
set_option maxRecDepth 100000 in
set_option maxHeartbeats 4000000 in
theorem jo_X11_canAct_75 {fr : Nat} (hfr : 1 ≤ fr) (Z : AZ) (X : AX Z cX11_canAct 6 RX11 (some .boolean) 0 fr) (x2 : Int32) (s : Mem) (r : Int32 × Mem) (hz : zres Z = (some (.int r.1), r.2)) (h : jn_X11_canAct_75 x2 s = some r) : AW Z s 75 [none, none, some (.int x2), none, some (.ref (zr Z (1 + 1))), none] [] := by
  unfold jn_X11_canAct_75 at h
  refine aw_aload X dX11_canAct_75 rfl ?_
  refine aw_getr X dX11_canAct_77 fl_RX11_199 (it_RX10_0 iu_RX11_0) (gt_RX0_3 (it_RX10_0 iu_RX11_0)) ?_
  refine aw_iload_n X dX11_canAct_80 rfl ?_
  obtain ⟨v8, ev8, h⟩ := bnd h
  refine aw_iald X dX11_canAct_81 (it_RX0_3 (it_RX10_0 iu_RX11_0)) ev8 ?_
  refine aw_if_le (tgt := 89) X dX11_canAct_82 (by decide) (fun c9 => ?_) (fun c9 => ?_)
  · rw [if_pos c9] at h
    refine aw_iconst (v := 0) X dX11_canAct_89 (by decide) ?_
    cases h
    exact aw_zret X dX11_canAct_90 rfl rfl hz.symm
  · rw [if_neg c9] at h
    refine aw_iconst (v := 1) X dX11_canAct_85 (by decide) ?_
    refine aw_goto (tgt := 90) X dX11_canAct_86 (by decide) ?_
    cases h
    exact aw_zret X dX11_canAct_90 rfl rfl hz.symm
set_option maxRecDepth 100000 in
set_option maxHeartbeats 4000000 in
theorem jo_X11_canAct_39 {fr : Nat} (hfr : 1 ≤ fr) (Z : AZ) (X : AX Z cX11_canAct 6 RX11 (some .boolean) 0 fr) (x1 : Int32) (x2 : Int32) (t0 : Int32) (s : Mem) (r : Int32 × Mem) (hz : zres Z = (some (.int r.1), r.2)) (h : jn_X11_canAct_39 x1 x2 t0 s = some r) : AW Z s 39 [none, some (.int x1), some (.int x2), none, some (.ref (zr Z (1 + 1))), none] [.int t0] := by
  unfold jn_X11_canAct_39 at h
  refine aw_istore (L' := [none, some (.int x1), some (.int x2), none, some (.ref (zr Z (1 + 1))), some (.int t0)]) X dX11_canAct_39 (by decide) rfl ?_
  refine aw_iload_n X dX11_canAct_41 rfl ?_
  by_cases c5 : x1 = 0
  · rw [if_pos c5] at h
    refine aw_tsw (tgt := 72) X dX11_canAct_42 (by rw [c5]; decide) ?_
    refine aw_iload X dX11_canAct_72 rfl ?_
    by_cases c6 : ¬ (t0 = 0 ∨ t0 = 1)
    · rw [if_pos c6] at h
      cases h
    rw [if_neg c6] at h
    cases h
    exact aw_zret X dX11_canAct_74 rfl (bz_n (Decidable.of_not_not c6)) hz.symm
  rw [if_neg c5] at h
  by_cases c7 : x1 = 1
  · rw [if_pos c7] at h
    refine aw_tsw (tgt := 75) X dX11_canAct_42 (by rw [c7]; decide) ?_
    refine aw_msk [false, false, true, false, true, false] ?_
    exact jo_X11_canAct_75 hfr Z X _ _ _ hz h
  rw [if_neg c7] at h
  by_cases c10 : x1 = 2
  · rw [if_pos c10] at h
    refine aw_tsw (tgt := 91) X dX11_canAct_42 (by rw [c10]; decide) ?_
    refine aw_iload X dX11_canAct_91 rfl ?_
    refine aw_if_eq (tgt := 110) X dX11_canAct_93 (by decide) (fun c11 => ?_) (fun c11 => ?_)
    · rw [if_pos c11] at h
      refine aw_iconst (v := 0) X dX11_canAct_110 (by decide) ?_
      cases h
      exact aw_zret X dX11_canAct_111 rfl rfl hz.symm
    · rw [if_neg c11] at h
      refine aw_aload X dX11_canAct_96 rfl ?_
      refine aw_getr X dX11_canAct_98 fl_RX11_199 (it_RX10_0 iu_RX11_0) (gt_RX0_3 (it_RX10_0 iu_RX11_0)) ?_
      refine aw_iload_n X dX11_canAct_101 rfl ?_
      obtain ⟨v12, ev12, h⟩ := bnd h
      refine aw_iald X dX11_canAct_102 (it_RX0_3 (it_RX10_0 iu_RX11_0)) ev12 ?_
      refine aw_if_le (tgt := 110) X dX11_canAct_103 (by decide) (fun c13 => ?_) (fun c13 => ?_)
      · rw [if_pos c13] at h
        refine aw_iconst (v := 0) X dX11_canAct_110 (by decide) ?_
        cases h
        exact aw_zret X dX11_canAct_111 rfl rfl hz.symm
      · rw [if_neg c13] at h
        refine aw_iconst (v := 1) X dX11_canAct_106 (by decide) ?_
        refine aw_goto (tgt := 111) X dX11_canAct_107 (by decide) ?_
        cases h
        exact aw_zret X dX11_canAct_111 rfl rfl hz.symm
  rw [if_neg c10] at h
  by_cases c14 : x1 = 3
  · rw [if_pos c14] at h
    refine aw_tsw (tgt := 75) X dX11_canAct_42 (by rw [c14]; decide) ?_
    refine aw_msk [false, false, true, false, true, false] ?_
    exact jo_X11_canAct_75 hfr Z X _ _ _ hz h
  rw [if_neg c14] at h
  refine aw_tswd (tgt := 112) X dX11_canAct_42 (by decide) (fun z h1 h2 => ?_) ?_
  · have hz9 : z = 0 ∨ z = 1 ∨ z = 2 ∨ z = 3 := by omega
    rcases hz9 with rfl | rfl | rfl | rfl
    · exact c5
    · exact c7
    · exact c10
    · exact c14
  refine aw_iconst (v := 0) X dX11_canAct_112 (by decide) ?_
  cases h
  exact aw_zret X dX11_canAct_113 rfl rfl hz.symm
set_option maxRecDepth 100000 in
set_option maxHeartbeats 4000000 in
theorem jo_X11_canAct_38 {fr : Nat} (hfr : 1 ≤ fr) (Z : AZ) (X : AX Z cX11_canAct 6 RX11 (some .boolean) 0 fr) (x1 : Int32) (x2 : Int32) (s : Mem) (r : Int32 × Mem) (hz : zres Z = (some (.int r.1), r.2)) (h : jn_X11_canAct_38 x1 x2 s = some r) : AW Z s 38 [none, some (.int x1), some (.int x2), none, some (.ref (zr Z (1 + 1))), none] [] := by
  unfold jn_X11_canAct_38 at h
  refine aw_iconst (v := 0) X dX11_canAct_38 (by decide) ?_
  refine aw_msk [false, true, true, false, true, false] ?_
  exact jo_X11_canAct_39 hfr Z X _ _ _ _ _ hz h
set_option maxRecDepth 100000 in
set_option maxHeartbeats 4000000 in
theorem w_X11_canAct {fr : Nat} (hfr : 1 ≤ fr) (Z : AZ) (X : AX Z cX11_canAct 6 RX11 (some .boolean) 0 fr) (x1 : Int32) (x2 : Int32) (x3 : Int32) (s : Mem) (r : Int32 × Mem) (hz : zres Z = (some (.int r.1), r.2)) (h : f_X11_canAct x1 x2 x3 s = some r) : AW Z s 0 [some (.ref (zr Z 0)), some (.int x1), some (.int x2), some (.int x3), none, none] [] := by
  unfold f_X11_canAct at h
  refine aw_aload_n X dX11_canAct_0 rfl ?_
  refine aw_getr X dX11_canAct_1 fl_RX11_10 iu_RX11 gu_RX11_0 ?_
  refine aw_getr X dX11_canAct_4 fl_RX11_57 iu_RX11_0 (gt_RX10_0 iu_RX11_0) ?_
  refine aw_astore (L' := [some (.ref (zr Z 0)), some (.int x1), some (.int x2), some (.int x3), some (.ref (zr Z (1 + 1))), none]) X dX11_canAct_7 (by decide) rfl ?_
  refine aw_aload X dX11_canAct_9 rfl ?_
  refine aw_iload_n X dX11_canAct_11 rfl ?_
  obtain ⟨r1, er1, h⟩ := bnd h
  refine aw_callV X dX11_canAct_12 cv_RX11_73 (ok_X0_has (it_RX10_0 iu_RX11_0) er1 _ _ _ _ _) (it_RX10_0 iu_RX11_0) rfl (Nat.le_trans (by decide) hfr) (by decide) rfl rfl (Nat.le_of_ble_eq_true rfl) ?_
  refine aw_if_ne (tgt := 20) X dX11_canAct_15 (by decide) (fun c2 => ?_) (fun c2 => ?_)
  · rw [if_neg c2] at h
    refine aw_aload X dX11_canAct_20 rfl ?_
    refine aw_iload_n X dX11_canAct_22 rfl ?_
    obtain ⟨r3, er3, h⟩ := bnd h
    refine aw_callV X dX11_canAct_23 cv_RX11_73 (ok_X0_has (it_RX10_0 iu_RX11_0) er3 _ _ _ _ _) (it_RX10_0 iu_RX11_0) rfl (Nat.le_trans (by decide) hfr) (by decide) rfl rfl (Nat.le_of_ble_eq_true rfl) ?_
    refine aw_if_eq (tgt := 38) X dX11_canAct_26 (by decide) (fun c4 => ?_) (fun c4 => ?_)
    · rw [if_pos c4] at h
      refine aw_msk [false, true, true, false, true, false] ?_
      exact jo_X11_canAct_38 hfr Z X _ _ _ _ hz h
    · rw [if_neg c4] at h
      refine aw_iload_n X dX11_canAct_29 rfl ?_
      refine aw_iload_n X dX11_canAct_30 rfl ?_
      refine aw_icmp_eq (tgt := 38) X dX11_canAct_31 (by decide) (fun c15 => ?_) (fun c15 => ?_)
      · rw [if_pos c15] at h
        refine aw_msk [false, true, true, false, true, false] ?_
        exact jo_X11_canAct_38 hfr Z X _ _ _ _ hz h
      · rw [if_neg c15] at h
        refine aw_iconst (v := 1) X dX11_canAct_34 (by decide) ?_
        refine aw_goto (tgt := 39) X dX11_canAct_35 (by decide) ?_
        refine aw_msk [false, true, true, false, true, false] ?_
        exact jo_X11_canAct_39 hfr Z X _ _ _ _ _ hz h
  · rw [if_pos c2] at h
    refine aw_iconst (v := 0) X dX11_canAct_18 (by decide) ?_
    cases h
    exact aw_zret X dX11_canAct_19 rfl rfl hz.symm
set_option maxRecDepth 100000 in
set_option maxHeartbeats 4000000 in
theorem ok_X11_canAct {x1 x2 x3 : Int32} {s : Mem} {r : Int32 × Mem} (h : f_X11_canAct x1 x2 x3 s = some r) (l : Launch) (D : va_G) (ρ : Nat → Nat) (cA : ClassId × ClassId × ClassId) (τ : AT) : AM l D ρ cA 0 τ yX11_canAct cX11_canAct 6 (some .boolean) 1 [.ref (ρ 0), .int x1, .int x2, .int x3] (some (.int r.1)) s r.2 := by
  refine AM_of (L := [some (.ref (ρ 0)), some (.int x1), some (.int x2), some (.int x3), none, none]) (by decide) (by simp [Value.category]) (Nat.le_of_ble_eq_true rfl) (fun j v q => ?_) (fun Z X hρ hz hτ => ?_)
  · exact aL_ok (n := 2) [.ref (ρ 0), .int x1, .int x2, .int x3] j v q
  · subst hρ
    subst hτ
    exact w_X11_canAct (Nat.le_refl _) Z X x1 x2 x3 s r hz h

theorem dX11_keep_0 : decode cX11_keep 0 = .ok (.aload_n 0, 1) := by decide +kernel
theorem dX11_keep_1 : decode cX11_keep 1 = .ok (.getfield 32, 3) := by decide +kernel
theorem dX11_keep_4 : decode cX11_keep 4 = .ok (.aload_n 0, 1) := by decide +kernel
theorem dX11_keep_5 : decode cX11_keep 5 = .ok (.getfield 40, 3) := by decide +kernel
theorem dX11_keep_8 : decode cX11_keep 8 = .ok (.aaload, 1) := by decide +kernel
theorem dX11_keep_9 : decode cX11_keep 9 = .ok (.aload_n 0, 1) := by decide +kernel
theorem dX11_keep_10 : decode cX11_keep 10 = .ok (.getfield 10, 3) := by decide +kernel
theorem dX11_keep_13 : decode cX11_keep 13 = .ok (.getfield 57, 3) := by decide +kernel
theorem dX11_keep_16 : decode cX11_keep 16 = .ok (.invokevirtual 195, 3) := by decide +kernel
theorem dX11_keep_19 : decode cX11_keep 19 = .ok (.aload_n 0, 1) := by decide +kernel
theorem dX11_keep_20 : decode cX11_keep 20 = .ok (.aload_n 0, 1) := by decide +kernel
theorem dX11_keep_21 : decode cX11_keep 21 = .ok (.getfield 40, 3) := by decide +kernel
theorem dX11_keep_24 : decode cX11_keep 24 = .ok (.iconst 5, 1) := by decide +kernel
theorem dX11_keep_25 : decode cX11_keep 25 = .ok (.if_icmp .ne 7, 3) := by decide +kernel
theorem dX11_keep_28 : decode cX11_keep 28 = .ok (.iconst 0, 1) := by decide +kernel
theorem dX11_keep_29 : decode cX11_keep 29 = .ok (.goto 9, 3) := by decide +kernel
theorem dX11_keep_32 : decode cX11_keep 32 = .ok (.aload_n 0, 1) := by decide +kernel
theorem dX11_keep_33 : decode cX11_keep 33 = .ok (.getfield 40, 3) := by decide +kernel
theorem dX11_keep_36 : decode cX11_keep 36 = .ok (.iconst 1, 1) := by decide +kernel
theorem dX11_keep_37 : decode cX11_keep 37 = .ok (.iadd, 1) := by decide +kernel
theorem dX11_keep_38 : decode cX11_keep 38 = .ok (.putfield 40, 3) := by decide +kernel
theorem dX11_keep_41 : decode cX11_keep 41 = .ok (.aload_n 0, 1) := by decide +kernel
theorem dX11_keep_42 : decode cX11_keep 42 = .ok (.bipush 6, 2) := by decide +kernel
theorem dX11_keep_44 : decode cX11_keep 44 = .ok (.aload_n 0, 1) := by decide +kernel
theorem dX11_keep_45 : decode cX11_keep 45 = .ok (.getfield 36, 3) := by decide +kernel
theorem dX11_keep_48 : decode cX11_keep 48 = .ok (.iconst 1, 1) := by decide +kernel
theorem dX11_keep_49 : decode cX11_keep 49 = .ok (.iadd, 1) := by decide +kernel
theorem dX11_keep_50 : decode cX11_keep 50 = .ok (.invokestatic 401, 3) := by decide +kernel
theorem dX11_keep_53 : decode cX11_keep 53 = .ok (.putfield 36, 3) := by decide +kernel
theorem dX11_keep_56 : decode cX11_keep 56 = .ok (.return_, 1) := by decide +kernel
set_option maxRecDepth 100000 in
set_option maxHeartbeats 4000000 in
theorem jo_X11_keep_38 {fr : Nat} (hfr : 1 ≤ fr) (Z : AZ) (X : AX Z cX11_keep 1 RX11 none 0 fr) (t1 : Int32) (s : Mem) (r : Mem) (hz : zres Z = (none, r)) (h : jn_X11_keep_38 t1 s = some r) : AW Z s 38 [some (.ref (zr Z 0))] [.int t1, .ref (zr Z 0)] := by
  unfold jn_X11_keep_38 at h
  refine aw_put X dX11_keep_38 fp_RX11_40 iu_RX11 gu_RX11_6 rfl rfl ?_
  refine aw_aload_n X dX11_keep_41 rfl ?_
  refine aw_bipush (v := 6) X dX11_keep_42 (by decide) ?_
  refine aw_aload_n X dX11_keep_44 rfl ?_
  refine aw_geti X dX11_keep_45 fl_RX11_36 iu_RX11 gu_RX11_5 ?_
  refine aw_iconst (v := 1) X dX11_keep_48 (by decide) ?_
  refine aw_iadd X dX11_keep_49 ?_
  refine aw_mmin X (Nat.le_trans (by decide) hfr) dX11_keep_50 mc_RX11_401 rfl ?_
  refine aw_put X dX11_keep_53 fp_RX11_36 iu_RX11 gu_RX11_5 rfl rfl ?_
  cases h
  exact aw_vret X dX11_keep_56 rfl hz.symm
set_option maxRecDepth 100000 in
set_option maxHeartbeats 4000000 in
theorem w_X11_keep {fr : Nat} (hfr : 1 ≤ fr) (Z : AZ) (X : AX Z cX11_keep 1 RX11 none 0 fr) (s : Mem) (r : Mem) (hz : zres Z = (none, r)) (h : f_X11_keep s = some r) : AW Z s 0 [some (.ref (zr Z 0))] [] := by
  unfold f_X11_keep at h
  refine aw_aload_n X dX11_keep_0 rfl ?_
  refine aw_getr X dX11_keep_1 fl_RX11_32 iu_RX11 gu_RX11_4 ?_
  refine aw_aload_n X dX11_keep_4 rfl ?_
  refine aw_geti X dX11_keep_5 fl_RX11_40 iu_RX11 gu_RX11_6 ?_
  obtain ⟨v1, ev1, h⟩ := bnd h
  refine aw_aaldq X dX11_keep_8 iu_RX11_4 ev1 ?_
  refine aw_aload_n X dX11_keep_9 rfl ?_
  refine aw_getr X dX11_keep_10 fl_RX11_10 iu_RX11 gu_RX11_0 ?_
  refine aw_getr X dX11_keep_13 fl_RX11_57 iu_RX11_0 (gt_RX10_0 iu_RX11_0) ?_
  obtain ⟨r2, er2, h⟩ := bnd h
  refine aw_callV X dX11_keep_16 cv_RX11_195 (ok_X0_copyFrom (rdq_io ev1) (it_RX10_0 iu_RX11_0) er2 _ _ _ _ _) (rdq_io ev1) rfl (Nat.le_trans (by decide) hfr) (by decide) rfl rfl (Nat.le_of_ble_eq_true rfl) ?_
  refine aw_aload_n X dX11_keep_19 rfl ?_
  refine aw_aload_n X dX11_keep_20 rfl ?_
  refine aw_geti X dX11_keep_21 fl_RX11_40 iu_RX11 gu_RX11_6 ?_
  refine aw_iconst (v := 5) X dX11_keep_24 (by decide) ?_
  refine aw_icmp_ne (tgt := 32) X dX11_keep_25 (by decide) (fun c3 => ?_) (fun c3 => ?_)
  · rw [if_neg c3] at h
    refine aw_aload_n X dX11_keep_32 rfl ?_
    refine aw_geti X dX11_keep_33 fl_RX11_40 iu_RX11 gu_RX11_6 ?_
    refine aw_iconst (v := 1) X dX11_keep_36 (by decide) ?_
    refine aw_iadd X dX11_keep_37 ?_
    refine aw_msk [true] ?_
    exact jo_X11_keep_38 hfr Z X _ _ _ hz h
  · rw [if_pos c3] at h
    refine aw_iconst (v := 0) X dX11_keep_28 (by decide) ?_
    refine aw_goto (tgt := 38) X dX11_keep_29 (by decide) ?_
    refine aw_msk [true] ?_
    exact jo_X11_keep_38 hfr Z X _ _ _ hz h
set_option maxRecDepth 100000 in
set_option maxHeartbeats 4000000 in
theorem ok_X11_keep {s : Mem} {r : Mem} (h : f_X11_keep s = some r) (l : Launch) (D : va_G) (ρ : Nat → Nat) (cA : ClassId × ClassId × ClassId) (τ : AT) : AM l D ρ cA 0 τ yX11_keep cX11_keep 1 none 1 [.ref (ρ 0)] none s r := by
  refine AM_of (L := [some (.ref (ρ 0))]) (by decide) (by simp [Value.category]) (Nat.le_of_ble_eq_true rfl) (fun j v q => ?_) (fun Z X hρ hz hτ => ?_)
  · exact aL_ok (n := 0) [.ref (ρ 0)] j v q
  · subst hρ
    subst hτ
    exact w_X11_keep (Nat.le_refl _) Z X s r hz h

theorem dX11_act_0 : decode cX11_act 0 = .ok (.aload_n 0, 1) := by decide +kernel
theorem dX11_act_1 : decode cX11_act 1 = .ok (.iload_n 1, 1) := by decide +kernel
theorem dX11_act_2 : decode cX11_act 2 = .ok (.iload_n 2, 1) := by decide +kernel
theorem dX11_act_3 : decode cX11_act 3 = .ok (.iload_n 3, 1) := by decide +kernel
theorem dX11_act_4 : decode cX11_act 4 = .ok (.invokevirtual 85, 3) := by decide +kernel
theorem dX11_act_7 : decode cX11_act 7 = .ok (.ifCond .ne 5, 3) := by decide +kernel
theorem dX11_act_10 : decode cX11_act 10 = .ok (.iconst 0, 1) := by decide +kernel
theorem dX11_act_11 : decode cX11_act 11 = .ok (.ireturn, 1) := by decide +kernel
theorem dX11_act_12 : decode cX11_act 12 = .ok (.aload_n 0, 1) := by decide +kernel
theorem dX11_act_13 : decode cX11_act 13 = .ok (.invokevirtual 89, 3) := by decide +kernel
theorem dX11_act_16 : decode cX11_act 16 = .ok (.iload_n 1, 1) := by decide +kernel
theorem dX11_act_17 : decode cX11_act 17 = .ok (.tableswitch 83 0 2 #[27, 46, 64], 27) := by decide +kernel
theorem dX11_act_44 : decode cX11_act 44 = .ok (.aload_n 0, 1) := by decide +kernel
theorem dX11_act_45 : decode cX11_act 45 = .ok (.getfield 10, 3) := by decide +kernel
theorem dX11_act_48 : decode cX11_act 48 = .ok (.aload_n 0, 1) := by decide +kernel
theorem dX11_act_49 : decode cX11_act 49 = .ok (.getfield 10, 3) := by decide +kernel
theorem dX11_act_52 : decode cX11_act 52 = .ok (.getfield 57, 3) := by decide +kernel
theorem dX11_act_55 : decode cX11_act 55 = .ok (.iload_n 2, 1) := by decide +kernel
theorem dX11_act_56 : decode cX11_act 56 = .ok (.iload_n 3, 1) := by decide +kernel
theorem dX11_act_57 : decode cX11_act 57 = .ok (.invokevirtual 92, 3) := by decide +kernel
theorem dX11_act_60 : decode cX11_act 60 = .ok (.goto 56, 3) := by decide +kernel
theorem dX11_act_63 : decode cX11_act 63 = .ok (.aload_n 0, 1) := by decide +kernel
theorem dX11_act_64 : decode cX11_act 64 = .ok (.getfield 10, 3) := by decide +kernel
theorem dX11_act_67 : decode cX11_act 67 = .ok (.aload_n 0, 1) := by decide +kernel
theorem dX11_act_68 : decode cX11_act 68 = .ok (.getfield 10, 3) := by decide +kernel
theorem dX11_act_71 : decode cX11_act 71 = .ok (.getfield 57, 3) := by decide +kernel
theorem dX11_act_74 : decode cX11_act 74 = .ok (.iload_n 2, 1) := by decide +kernel
theorem dX11_act_75 : decode cX11_act 75 = .ok (.invokevirtual 96, 3) := by decide +kernel
theorem dX11_act_78 : decode cX11_act 78 = .ok (.goto 38, 3) := by decide +kernel
theorem dX11_act_81 : decode cX11_act 81 = .ok (.aload_n 0, 1) := by decide +kernel
theorem dX11_act_82 : decode cX11_act 82 = .ok (.getfield 10, 3) := by decide +kernel
theorem dX11_act_85 : decode cX11_act 85 = .ok (.aload_n 0, 1) := by decide +kernel
theorem dX11_act_86 : decode cX11_act 86 = .ok (.getfield 10, 3) := by decide +kernel
theorem dX11_act_89 : decode cX11_act 89 = .ok (.getfield 57, 3) := by decide +kernel
theorem dX11_act_92 : decode cX11_act 92 = .ok (.iload_n 2, 1) := by decide +kernel
theorem dX11_act_93 : decode cX11_act 93 = .ok (.iload_n 3, 1) := by decide +kernel
theorem dX11_act_94 : decode cX11_act 94 = .ok (.invokevirtual 100, 3) := by decide +kernel
theorem dX11_act_97 : decode cX11_act 97 = .ok (.goto 19, 3) := by decide +kernel
theorem dX11_act_100 : decode cX11_act 100 = .ok (.aload_n 0, 1) := by decide +kernel
theorem dX11_act_101 : decode cX11_act 101 = .ok (.getfield 10, 3) := by decide +kernel
theorem dX11_act_104 : decode cX11_act 104 = .ok (.aload_n 0, 1) := by decide +kernel
theorem dX11_act_105 : decode cX11_act 105 = .ok (.getfield 10, 3) := by decide +kernel
theorem dX11_act_108 : decode cX11_act 108 = .ok (.getfield 57, 3) := by decide +kernel
theorem dX11_act_111 : decode cX11_act 111 = .ok (.iload_n 2, 1) := by decide +kernel
theorem dX11_act_112 : decode cX11_act 112 = .ok (.invokevirtual 103, 3) := by decide +kernel
theorem dX11_act_115 : decode cX11_act 115 = .ok (.pop, 1) := by decide +kernel
theorem dX11_act_116 : decode cX11_act 116 = .ok (.iconst 1, 1) := by decide +kernel
theorem dX11_act_117 : decode cX11_act 117 = .ok (.ireturn, 1) := by decide +kernel
set_option maxRecDepth 100000 in
set_option maxHeartbeats 4000000 in
theorem w_X11_act {fr : Nat} (hfr : 5 ≤ fr) (Z : AZ) (X : AX Z cX11_act 4 RX11 (some .boolean) 0 fr) (x1 : Int32) (x2 : Int32) (x3 : Int32) (s : Mem) (r : Int32 × Mem) (hz : zres Z = (some (.int r.1), r.2)) (h : f_X11_act x1 x2 x3 s = some r) : AW Z s 0 [some (.ref (zr Z 0)), some (.int x1), some (.int x2), some (.int x3)] [] := by
  unfold f_X11_act at h
  refine aw_aload_n X dX11_act_0 rfl ?_
  refine aw_iload_n X dX11_act_1 rfl ?_
  refine aw_iload_n X dX11_act_2 rfl ?_
  refine aw_iload_n X dX11_act_3 rfl ?_
  obtain ⟨r1, er1, h⟩ := bnd h
  refine aw_callV X dX11_act_4 cv_RX11_85 (ok_X11_canAct er1 _ _ _ _ _) iu_RX11 rfl (Nat.le_trans (by decide) hfr) (by decide) rfl rfl (Nat.le_of_ble_eq_true rfl) ?_
  refine aw_if_ne (tgt := 12) X dX11_act_7 (by decide) (fun c2 => ?_) (fun c2 => ?_)
  · rw [if_neg c2] at h
    refine aw_aload_n X dX11_act_12 rfl ?_
    obtain ⟨r3, er3, h⟩ := bnd h
    refine aw_callV X dX11_act_13 cv_RX11_89 (ok_X11_keep er3 _ _ _ _ _) iu_RX11 rfl (Nat.le_trans (by decide) hfr) (by decide) rfl rfl (Nat.le_of_ble_eq_true rfl) ?_
    refine aw_iload_n X dX11_act_16 rfl ?_
    by_cases c4 : x1 = 0
    · rw [if_pos c4] at h
      refine aw_tsw (tgt := 44) X dX11_act_17 (by rw [c4]; decide) ?_
      refine aw_aload_n X dX11_act_44 rfl ?_
      refine aw_getr X dX11_act_45 fl_RX11_10 iu_RX11 gu_RX11_0 ?_
      refine aw_aload_n X dX11_act_48 rfl ?_
      refine aw_getr X dX11_act_49 fl_RX11_10 iu_RX11 gu_RX11_0 ?_
      refine aw_getr X dX11_act_52 fl_RX11_57 iu_RX11_0 (gt_RX10_0 iu_RX11_0) ?_
      refine aw_iload_n X dX11_act_55 rfl ?_
      refine aw_iload_n X dX11_act_56 rfl ?_
      obtain ⟨r5, er5, h⟩ := bnd h
      refine aw_callV X dX11_act_57 cv_RX11_92 (ok_X10_nameOne iu_RX11_0 (it_RX10_0 iu_RX11_0) er5 _ _ _ _ _) iu_RX11_0 rfl (Nat.le_trans (by decide) hfr) (by decide) rfl rfl (Nat.le_of_ble_eq_true rfl) ?_
      refine aw_goto (tgt := 116) X dX11_act_60 (by decide) ?_
      refine aw_iconst (v := 1) X dX11_act_116 (by decide) ?_
      cases h
      exact aw_zret X dX11_act_117 rfl rfl hz.symm
    rw [if_neg c4] at h
    by_cases c6 : x1 = 1
    · rw [if_pos c6] at h
      refine aw_tsw (tgt := 63) X dX11_act_17 (by rw [c6]; decide) ?_
      refine aw_aload_n X dX11_act_63 rfl ?_
      refine aw_getr X dX11_act_64 fl_RX11_10 iu_RX11 gu_RX11_0 ?_
      refine aw_aload_n X dX11_act_67 rfl ?_
      refine aw_getr X dX11_act_68 fl_RX11_10 iu_RX11 gu_RX11_0 ?_
      refine aw_getr X dX11_act_71 fl_RX11_57 iu_RX11_0 (gt_RX10_0 iu_RX11_0) ?_
      refine aw_iload_n X dX11_act_74 rfl ?_
      obtain ⟨r7, er7, h⟩ := bnd h
      refine aw_callV X dX11_act_75 cv_RX11_96 (ok_X10_frighten iu_RX11_0 (it_RX10_0 iu_RX11_0) er7 _ _ _ _ _) iu_RX11_0 rfl (Nat.le_trans (by decide) hfr) (by decide) rfl rfl (Nat.le_of_ble_eq_true rfl) ?_
      refine aw_goto (tgt := 116) X dX11_act_78 (by decide) ?_
      refine aw_iconst (v := 1) X dX11_act_116 (by decide) ?_
      cases h
      exact aw_zret X dX11_act_117 rfl rfl hz.symm
    rw [if_neg c6] at h
    by_cases c8 : x1 = 2
    · rw [if_pos c8] at h
      refine aw_tsw (tgt := 81) X dX11_act_17 (by rw [c8]; decide) ?_
      refine aw_aload_n X dX11_act_81 rfl ?_
      refine aw_getr X dX11_act_82 fl_RX11_10 iu_RX11 gu_RX11_0 ?_
      refine aw_aload_n X dX11_act_85 rfl ?_
      refine aw_getr X dX11_act_86 fl_RX11_10 iu_RX11 gu_RX11_0 ?_
      refine aw_getr X dX11_act_89 fl_RX11_57 iu_RX11_0 (gt_RX10_0 iu_RX11_0) ?_
      refine aw_iload_n X dX11_act_92 rfl ?_
      refine aw_iload_n X dX11_act_93 rfl ?_
      obtain ⟨r9, er9, h⟩ := bnd h
      refine aw_callV X dX11_act_94 cv_RX11_100 (ok_X10_handOn iu_RX11_0 (it_RX10_0 iu_RX11_0) er9 _ _ _ _ _) iu_RX11_0 rfl (Nat.le_trans (by decide) hfr) (by decide) rfl rfl (Nat.le_of_ble_eq_true rfl) ?_
      refine aw_goto (tgt := 116) X dX11_act_97 (by decide) ?_
      refine aw_iconst (v := 1) X dX11_act_116 (by decide) ?_
      cases h
      exact aw_zret X dX11_act_117 rfl rfl hz.symm
    rw [if_neg c8] at h
    refine aw_tswd (tgt := 100) X dX11_act_17 (by decide) (fun z h1 h2 => ?_) ?_
    · have hz9 : z = 0 ∨ z = 1 ∨ z = 2 := by omega
      rcases hz9 with rfl | rfl | rfl
      · exact c4
      · exact c6
      · exact c8
    refine aw_aload_n X dX11_act_100 rfl ?_
    refine aw_getr X dX11_act_101 fl_RX11_10 iu_RX11 gu_RX11_0 ?_
    refine aw_aload_n X dX11_act_104 rfl ?_
    refine aw_getr X dX11_act_105 fl_RX11_10 iu_RX11 gu_RX11_0 ?_
    refine aw_getr X dX11_act_108 fl_RX11_57 iu_RX11_0 (gt_RX10_0 iu_RX11_0) ?_
    refine aw_iload_n X dX11_act_111 rfl ?_
    obtain ⟨r10, er10, h⟩ := bnd h
    refine aw_callV X dX11_act_112 cv_RX11_103 (ok_X10_speak iu_RX11_0 (it_RX10_0 iu_RX11_0) er10 _ _ _ _ _) iu_RX11_0 rfl (Nat.le_trans (by decide) hfr) (by decide) rfl rfl (Nat.le_of_ble_eq_true rfl) ?_
    refine aw_pop X dX11_act_115 rfl ?_
    refine aw_iconst (v := 1) X dX11_act_116 (by decide) ?_
    cases h
    exact aw_zret X dX11_act_117 rfl rfl hz.symm
  · rw [if_pos c2] at h
    refine aw_iconst (v := 0) X dX11_act_10 (by decide) ?_
    cases h
    exact aw_zret X dX11_act_11 rfl rfl hz.symm
set_option maxRecDepth 100000 in
set_option maxHeartbeats 4000000 in
theorem ok_X11_act {x1 x2 x3 : Int32} {s : Mem} {r : Int32 × Mem} (h : f_X11_act x1 x2 x3 s = some r) (l : Launch) (D : va_G) (ρ : Nat → Nat) (cA : ClassId × ClassId × ClassId) (τ : AT) : AM l D ρ cA 0 τ yX11_act cX11_act 4 (some .boolean) 5 [.ref (ρ 0), .int x1, .int x2, .int x3] (some (.int r.1)) s r.2 := by
  refine AM_of (L := [some (.ref (ρ 0)), some (.int x1), some (.int x2), some (.int x3)]) (by decide) (by simp [Value.category]) (Nat.le_of_ble_eq_true rfl) (fun j v q => ?_) (fun Z X hρ hz hτ => ?_)
  · exact aL_ok (n := 0) [.ref (ρ 0), .int x1, .int x2, .int x3] j v q
  · subst hρ
    subst hτ
    exact w_X11_act (Nat.le_refl _) Z X x1 x2 x3 s r hz h

theorem dX11_minutes_0 : decode cX11_minutes 0 = .ok (.iload_n 1, 1) := by decide +kernel
theorem dX11_minutes_1 : decode cX11_minutes 1 = .ok (.iconst 1, 1) := by decide +kernel
theorem dX11_minutes_2 : decode cX11_minutes 2 = .ok (.if_icmp .lt 27, 3) := by decide +kernel
theorem dX11_minutes_5 : decode cX11_minutes 5 = .ok (.iload_n 1, 1) := by decide +kernel
theorem dX11_minutes_6 : decode cX11_minutes 6 = .ok (.bipush 60, 2) := by decide +kernel
theorem dX11_minutes_8 : decode cX11_minutes 8 = .ok (.if_icmp .gt 21, 3) := by decide +kernel
theorem dX11_minutes_11 : decode cX11_minutes 11 = .ok (.aload_n 0, 1) := by decide +kernel
theorem dX11_minutes_12 : decode cX11_minutes 12 = .ok (.getfield 10, 3) := by decide +kernel
theorem dX11_minutes_15 : decode cX11_minutes 15 = .ok (.getfield 57, 3) := by decide +kernel
theorem dX11_minutes_18 : decode cX11_minutes 18 = .ok (.getfield 107, 3) := by decide +kernel
theorem dX11_minutes_21 : decode cX11_minutes 21 = .ok (.iload_n 1, 1) := by decide +kernel
theorem dX11_minutes_22 : decode cX11_minutes 22 = .ok (.iadd, 1) := by decide +kernel
theorem dX11_minutes_23 : decode cX11_minutes 23 = .ok (.sipush 9999, 3) := by decide +kernel
theorem dX11_minutes_26 : decode cX11_minutes 26 = .ok (.if_icmp .le 5, 3) := by decide +kernel
theorem dX11_minutes_29 : decode cX11_minutes 29 = .ok (.iconst (-1), 1) := by decide +kernel
theorem dX11_minutes_30 : decode cX11_minutes 30 = .ok (.ireturn, 1) := by decide +kernel
theorem dX11_minutes_31 : decode cX11_minutes 31 = .ok (.iconst 0, 1) := by decide +kernel
theorem dX11_minutes_32 : decode cX11_minutes 32 = .ok (.istore_n 2, 1) := by decide +kernel
theorem dX11_minutes_33 : decode cX11_minutes 33 = .ok (.iconst 0, 1) := by decide +kernel
theorem dX11_minutes_34 : decode cX11_minutes 34 = .ok (.istore_n 3, 1) := by decide +kernel
theorem dX11_minutes_35 : decode cX11_minutes 35 = .ok (.iload_n 3, 1) := by decide +kernel
theorem dX11_minutes_36 : decode cX11_minutes 36 = .ok (.iload_n 1, 1) := by decide +kernel
theorem dX11_minutes_37 : decode cX11_minutes 37 = .ok (.if_icmp .ge 30, 3) := by decide +kernel
theorem dX11_minutes_40 : decode cX11_minutes 40 = .ok (.aload_n 0, 1) := by decide +kernel
theorem dX11_minutes_41 : decode cX11_minutes 41 = .ok (.invokevirtual 89, 3) := by decide +kernel
theorem dX11_minutes_44 : decode cX11_minutes 44 = .ok (.iload_n 2, 1) := by decide +kernel
theorem dX11_minutes_45 : decode cX11_minutes 45 = .ok (.aload_n 0, 1) := by decide +kernel
theorem dX11_minutes_46 : decode cX11_minutes 46 = .ok (.getfield 10, 3) := by decide +kernel
theorem dX11_minutes_49 : decode cX11_minutes 49 = .ok (.aload_n 0, 1) := by decide +kernel
theorem dX11_minutes_50 : decode cX11_minutes 50 = .ok (.getfield 10, 3) := by decide +kernel
theorem dX11_minutes_53 : decode cX11_minutes 53 = .ok (.getfield 57, 3) := by decide +kernel
theorem dX11_minutes_56 : decode cX11_minutes 56 = .ok (.invokevirtual 110, 3) := by decide +kernel
theorem dX11_minutes_59 : decode cX11_minutes 59 = .ok (.iadd, 1) := by decide +kernel
theorem dX11_minutes_60 : decode cX11_minutes 60 = .ok (.istore_n 2, 1) := by decide +kernel
theorem dX11_minutes_61 : decode cX11_minutes 61 = .ok (.iinc 3 1, 3) := by decide +kernel
theorem dX11_minutes_64 : decode cX11_minutes 64 = .ok (.goto (-29), 3) := by decide +kernel
theorem dX11_minutes_67 : decode cX11_minutes 67 = .ok (.iload_n 2, 1) := by decide +kernel
theorem dX11_minutes_68 : decode cX11_minutes 68 = .ok (.ireturn, 1) := by decide +kernel
set_option maxRecDepth 100000 in
set_option maxHeartbeats 4000000 in
theorem so_X11_minutes_35 {fr : Nat} (hfr : 6 ≤ fr) (Z : AZ) (X : AX Z cX11_minutes 4 RX11 (some .int) 0 fr) (x1 : Int32) (x2 : Int32) (x3 : Int32) (s : Mem) (q : (Int32 × Int32 × Mem) ⊕ (Int32 × Mem)) (h : st_X11_minutes_35 x1 x2 x3 s = some q) (hi : ∀ y : Int32 × Int32 × Mem, q = .inl y → AW Z y.2.2 35 [some (.ref (zr Z 0)), some (.int x1), some (.int y.1), some (.int y.2.1)] []) (he : ∀ b : Int32 × Mem, q = .inr b → AW Z b.2 67 [none, none, some (.int b.1), none] []) : AW Z s 35 [some (.ref (zr Z 0)), some (.int x1), some (.int x2), some (.int x3)] [] := by
  unfold st_X11_minutes_35 at h
  refine aw_iload_n X dX11_minutes_35 rfl ?_
  refine aw_iload_n X dX11_minutes_36 rfl ?_
  refine aw_icmp_ge (tgt := 67) X dX11_minutes_37 (by decide) (fun c4 => ?_) (fun c4 => ?_)
  · rw [if_pos c4] at h
    cases h
    refine aw_msk [false, false, true, false] ?_
    exact he _ rfl
  · rw [if_neg c4] at h
    refine aw_aload_n X dX11_minutes_40 rfl ?_
    obtain ⟨r5, er5, h⟩ := bnd h
    refine aw_callV X dX11_minutes_41 cv_RX11_89 (ok_X11_keep er5 _ _ _ _ _) iu_RX11 rfl (Nat.le_trans (by decide) hfr) (by decide) rfl rfl (Nat.le_of_ble_eq_true rfl) ?_
    refine aw_iload_n X dX11_minutes_44 rfl ?_
    refine aw_aload_n X dX11_minutes_45 rfl ?_
    refine aw_getr X dX11_minutes_46 fl_RX11_10 iu_RX11 gu_RX11_0 ?_
    refine aw_aload_n X dX11_minutes_49 rfl ?_
    refine aw_getr X dX11_minutes_50 fl_RX11_10 iu_RX11 gu_RX11_0 ?_
    refine aw_getr X dX11_minutes_53 fl_RX11_57 iu_RX11_0 (gt_RX10_0 iu_RX11_0) ?_
    obtain ⟨r6, er6, h⟩ := bnd h
    refine aw_callV X dX11_minutes_56 cv_RX11_110 (ok_X10_passMinute iu_RX11_0 (it_RX10_0 iu_RX11_0) er6 _ _ _ _ _) iu_RX11_0 rfl (Nat.le_trans (by decide) hfr) (by decide) rfl rfl (Nat.le_of_ble_eq_true rfl) ?_
    refine aw_iadd X dX11_minutes_59 ?_
    refine aw_istore_n (L' := [some (.ref (zr Z 0)), some (.int x1), some (.int (x2 + r6.1)), some (.int x3)]) X dX11_minutes_60 (by decide) rfl ?_
    refine aw_iinc (v := (x3 + 1)) (L' := [some (.ref (zr Z 0)), some (.int x1), some (.int (x2 + r6.1)), some (.int (x3 + 1))]) X dX11_minutes_61 rfl rfl (by decide) rfl ?_
    refine aw_goto (tgt := 35) X dX11_minutes_64 (by decide) ?_
    cases h
    refine aw_msk [true, true, true, true] ?_
    exact hi _ rfl
set_option maxRecDepth 100000 in
set_option maxHeartbeats 4000000 in
theorem w_X11_minutes {fr : Nat} (hfr : 6 ≤ fr) (Z : AZ) (X : AX Z cX11_minutes 4 RX11 (some .int) 0 fr) (x1 : Int32) (s : Mem) (r : Int32 × Mem) (hz : zres Z = (some (.int r.1), r.2)) (h : f_X11_minutes x1 s = some r) : AW Z s 0 [some (.ref (zr Z 0)), some (.int x1), none, none] [] := by
  unfold f_X11_minutes at h
  refine aw_iload_n X dX11_minutes_0 rfl ?_
  refine aw_iconst (v := 1) X dX11_minutes_1 (by decide) ?_
  refine aw_icmp_lt (tgt := 29) X dX11_minutes_2 (by decide) (fun c1 => ?_) (fun c1 => ?_)
  · rw [if_pos c1] at h
    refine aw_iconst (v := (-1)) X dX11_minutes_29 (by decide) ?_
    cases h
    exact aw_iret X dX11_minutes_30 rfl hz.symm
  · rw [if_neg c1] at h
    refine aw_iload_n X dX11_minutes_5 rfl ?_
    refine aw_bipush (v := 60) X dX11_minutes_6 (by decide) ?_
    refine aw_icmp_gt (tgt := 29) X dX11_minutes_8 (by decide) (fun c2 => ?_) (fun c2 => ?_)
    · rw [if_pos c2] at h
      refine aw_iconst (v := (-1)) X dX11_minutes_29 (by decide) ?_
      cases h
      exact aw_iret X dX11_minutes_30 rfl hz.symm
    · rw [if_neg c2] at h
      refine aw_aload_n X dX11_minutes_11 rfl ?_
      refine aw_getr X dX11_minutes_12 fl_RX11_10 iu_RX11 gu_RX11_0 ?_
      refine aw_getr X dX11_minutes_15 fl_RX11_57 iu_RX11_0 (gt_RX10_0 iu_RX11_0) ?_
      refine aw_geti X dX11_minutes_18 fl_RX11_107 (it_RX10_0 iu_RX11_0) (gt_RX0_10 (it_RX10_0 iu_RX11_0)) ?_
      refine aw_iload_n X dX11_minutes_21 rfl ?_
      refine aw_iadd X dX11_minutes_22 ?_
      refine aw_sipush (v := 9999) X dX11_minutes_23 (by decide) ?_
      refine aw_icmp_le (tgt := 31) X dX11_minutes_26 (by decide) (fun c3 => ?_) (fun c3 => ?_)
      · rw [if_pos c3] at h
        refine aw_iconst (v := 0) X dX11_minutes_31 (by decide) ?_
        refine aw_istore_n (L' := [some (.ref (zr Z 0)), some (.int x1), some (.int 0), none]) X dX11_minutes_32 (by decide) rfl ?_
        refine aw_iconst (v := 0) X dX11_minutes_33 (by decide) ?_
        refine aw_istore_n (L' := [some (.ref (zr Z 0)), some (.int x1), some (.int 0), some (.int 0)]) X dX11_minutes_34 (by decide) rfl ?_
        obtain ⟨r7, er7, h⟩ := bnd h
        refine aw_msk [true, true, true, true] ?_
        refine it_ok (P := fun y : Int32 × Int32 × Mem => AW Z y.2.2 35 [some (.ref (zr Z 0)), some (.int x1), some (.int y.1), some (.int y.2.1)] []) (Q := fun b : Int32 × Mem => AW Z b.2 67 [none, none, some (.int b.1), none] []) (fun y q hq hi he => so_X11_minutes_35 hfr Z X x1 y.1 y.2.1 y.2.2 q hq hi he) FUEL _ _ er7 ?_
        refine aw_iload_n X dX11_minutes_67 rfl ?_
        cases h
        exact aw_iret X dX11_minutes_68 rfl hz.symm
      · rw [if_neg c3] at h
        refine aw_iconst (v := (-1)) X dX11_minutes_29 (by decide) ?_
        cases h
        exact aw_iret X dX11_minutes_30 rfl hz.symm
set_option maxRecDepth 100000 in
set_option maxHeartbeats 4000000 in
theorem ok_X11_minutes {x1 : Int32} {s : Mem} {r : Int32 × Mem} (h : f_X11_minutes x1 s = some r) (l : Launch) (D : va_G) (ρ : Nat → Nat) (cA : ClassId × ClassId × ClassId) (τ : AT) : AM l D ρ cA 0 τ yX11_minutes cX11_minutes 4 (some .int) 6 [.ref (ρ 0), .int x1] (some (.int r.1)) s r.2 := by
  refine AM_of (L := [some (.ref (ρ 0)), some (.int x1), none, none]) (by decide) (by simp [Value.category]) (Nat.le_of_ble_eq_true rfl) (fun j v q => ?_) (fun Z X hρ hz hτ => ?_)
  · exact aL_ok (n := 2) [.ref (ρ 0), .int x1] j v q
  · subst hρ
    subst hτ
    exact w_X11_minutes (Nat.le_refl _) Z X x1 s r hz h

theorem dX11_feed_0 : decode cX11_feed 0 = .ok (.aload_n 0, 1) := by decide +kernel
theorem dX11_feed_1 : decode cX11_feed 1 = .ok (.getfield 46, 3) := by decide +kernel
theorem dX11_feed_4 : decode cX11_feed 4 = .ok (.getfield 114, 3) := by decide +kernel
theorem dX11_feed_7 : decode cX11_feed 7 = .ok (.astore 6, 2) := by decide +kernel
theorem dX11_feed_9 : decode cX11_feed 9 = .ok (.aload 6, 2) := by decide +kernel
theorem dX11_feed_11 : decode cX11_feed 11 = .ok (.bipush 20, 2) := by decide +kernel
theorem dX11_feed_13 : decode cX11_feed 13 = .ok (.invokevirtual 118, 3) := by decide +kernel
theorem dX11_feed_16 : decode cX11_feed 16 = .ok (.ifCond .ne 5, 3) := by decide +kernel
theorem dX11_feed_19 : decode cX11_feed 19 = .ok (.iconst (-1), 1) := by decide +kernel
theorem dX11_feed_20 : decode cX11_feed 20 = .ok (.ireturn, 1) := by decide +kernel
theorem dX11_feed_21 : decode cX11_feed 21 = .ok (.aload 6, 2) := by decide +kernel
theorem dX11_feed_23 : decode cX11_feed 23 = .ok (.iload_n 1, 1) := by decide +kernel
theorem dX11_feed_24 : decode cX11_feed 24 = .ok (.invokevirtual 123, 3) := by decide +kernel
theorem dX11_feed_27 : decode cX11_feed 27 = .ok (.aload 6, 2) := by decide +kernel
theorem dX11_feed_29 : decode cX11_feed 29 = .ok (.iload_n 2, 1) := by decide +kernel
theorem dX11_feed_30 : decode cX11_feed 30 = .ok (.invokevirtual 123, 3) := by decide +kernel
theorem dX11_feed_33 : decode cX11_feed 33 = .ok (.aload 6, 2) := by decide +kernel
theorem dX11_feed_35 : decode cX11_feed 35 = .ok (.iload_n 3, 1) := by decide +kernel
theorem dX11_feed_36 : decode cX11_feed 36 = .ok (.invokevirtual 123, 3) := by decide +kernel
theorem dX11_feed_39 : decode cX11_feed 39 = .ok (.aload 6, 2) := by decide +kernel
theorem dX11_feed_41 : decode cX11_feed 41 = .ok (.iload 4, 2) := by decide +kernel
theorem dX11_feed_43 : decode cX11_feed 43 = .ok (.invokevirtual 123, 3) := by decide +kernel
theorem dX11_feed_46 : decode cX11_feed 46 = .ok (.aload 6, 2) := by decide +kernel
theorem dX11_feed_48 : decode cX11_feed 48 = .ok (.iload 5, 2) := by decide +kernel
theorem dX11_feed_50 : decode cX11_feed 50 = .ok (.invokevirtual 123, 3) := by decide +kernel
theorem dX11_feed_53 : decode cX11_feed 53 = .ok (.aload 6, 2) := by decide +kernel
theorem dX11_feed_55 : decode cX11_feed 55 = .ok (.getfield 127, 3) := by decide +kernel
theorem dX11_feed_58 : decode cX11_feed 58 = .ok (.ireturn, 1) := by decide +kernel
set_option maxRecDepth 100000 in
set_option maxHeartbeats 4000000 in
theorem w_X11_feed {fr : Nat} (hfr : 1 ≤ fr) (Z : AZ) (X : AX Z cX11_feed 7 RX11 (some .int) 0 fr) (x1 : Int32) (x2 : Int32) (x3 : Int32) (x4 : Int32) (x5 : Int32) (s : Mem) (r : Int32 × Mem) (hz : zres Z = (some (.int r.1), r.2)) (h : f_X11_feed x1 x2 x3 x4 x5 s = some r) : AW Z s 0 [some (.ref (zr Z 0)), some (.int x1), some (.int x2), some (.int x3), some (.int x4), some (.int x5), none] [] := by
  unfold f_X11_feed at h
  refine aw_aload_n X dX11_feed_0 rfl ?_
  refine aw_getr X dX11_feed_1 fl_RX11_46 iu_RX11 gu_RX11_7 ?_
  refine aw_getr X dX11_feed_4 fl_RX11_114 iu_RX11_7 gu_RX4_0 ?_
  refine aw_astore (L' := [some (.ref (zr Z 0)), some (.int x1), some (.int x2), some (.int x3), some (.int x4), some (.int x5), some (.ref (zr Z 173))]) X dX11_feed_7 (by decide) rfl ?_
  refine aw_aload X dX11_feed_9 rfl ?_
  refine aw_bipush (v := 20) X dX11_feed_11 (by decide) ?_
  obtain ⟨r1, er1, h⟩ := bnd h
  refine aw_callV X dX11_feed_13 cv_RX11_118 (ok_X6_hasSpace er1 _ _ _ _ _) iu_RX4_0 rfl (Nat.le_trans (by decide) hfr) (by decide) rfl rfl (Nat.le_of_ble_eq_true rfl) ?_
  refine aw_if_ne (tgt := 21) X dX11_feed_16 (by decide) (fun c2 => ?_) (fun c2 => ?_)
  · rw [if_neg c2] at h
    refine aw_aload X dX11_feed_21 rfl ?_
    refine aw_iload_n X dX11_feed_23 rfl ?_
    obtain ⟨r3, er3, h⟩ := bnd h
    refine aw_callV X dX11_feed_24 cv_RX11_123 (ok_X6_put er3 _ _ _ _ _) iu_RX4_0 rfl (Nat.le_trans (by decide) hfr) (by decide) rfl rfl (Nat.le_of_ble_eq_true rfl) ?_
    refine aw_aload X dX11_feed_27 rfl ?_
    refine aw_iload_n X dX11_feed_29 rfl ?_
    obtain ⟨r4, er4, h⟩ := bnd h
    refine aw_callV X dX11_feed_30 cv_RX11_123 (ok_X6_put er4 _ _ _ _ _) iu_RX4_0 rfl (Nat.le_trans (by decide) hfr) (by decide) rfl rfl (Nat.le_of_ble_eq_true rfl) ?_
    refine aw_aload X dX11_feed_33 rfl ?_
    refine aw_iload_n X dX11_feed_35 rfl ?_
    obtain ⟨r5, er5, h⟩ := bnd h
    refine aw_callV X dX11_feed_36 cv_RX11_123 (ok_X6_put er5 _ _ _ _ _) iu_RX4_0 rfl (Nat.le_trans (by decide) hfr) (by decide) rfl rfl (Nat.le_of_ble_eq_true rfl) ?_
    refine aw_aload X dX11_feed_39 rfl ?_
    refine aw_iload X dX11_feed_41 rfl ?_
    obtain ⟨r6, er6, h⟩ := bnd h
    refine aw_callV X dX11_feed_43 cv_RX11_123 (ok_X6_put er6 _ _ _ _ _) iu_RX4_0 rfl (Nat.le_trans (by decide) hfr) (by decide) rfl rfl (Nat.le_of_ble_eq_true rfl) ?_
    refine aw_aload X dX11_feed_46 rfl ?_
    refine aw_iload X dX11_feed_48 rfl ?_
    obtain ⟨r7, er7, h⟩ := bnd h
    refine aw_callV X dX11_feed_50 cv_RX11_123 (ok_X6_put er7 _ _ _ _ _) iu_RX4_0 rfl (Nat.le_trans (by decide) hfr) (by decide) rfl rfl (Nat.le_of_ble_eq_true rfl) ?_
    refine aw_aload X dX11_feed_53 rfl ?_
    refine aw_geti X dX11_feed_55 fl_RX11_127 iu_RX4_0 gu_RX6_0 ?_
    cases h
    exact aw_iret X dX11_feed_58 rfl hz.symm
  · rw [if_pos c2] at h
    refine aw_iconst (v := (-1)) X dX11_feed_19 (by decide) ?_
    cases h
    exact aw_iret X dX11_feed_20 rfl hz.symm
set_option maxRecDepth 100000 in
set_option maxHeartbeats 4000000 in
theorem ok_X11_feed {x1 x2 x3 x4 x5 : Int32} {s : Mem} {r : Int32 × Mem} (h : f_X11_feed x1 x2 x3 x4 x5 s = some r) (l : Launch) (D : va_G) (ρ : Nat → Nat) (cA : ClassId × ClassId × ClassId) (τ : AT) : AM l D ρ cA 0 τ yX11_feed cX11_feed 7 (some .int) 1 [.ref (ρ 0), .int x1, .int x2, .int x3, .int x4, .int x5] (some (.int r.1)) s r.2 := by
  refine AM_of (L := [some (.ref (ρ 0)), some (.int x1), some (.int x2), some (.int x3), some (.int x4), some (.int x5), none]) (by decide) (by simp [Value.category]) (Nat.le_of_ble_eq_true rfl) (fun j v q => ?_) (fun Z X hρ hz hτ => ?_)
  · exact aL_ok (n := 1) [.ref (ρ 0), .int x1, .int x2, .int x3, .int x4, .int x5] j v q
  · subst hρ
    subst hτ
    exact w_X11_feed (Nat.le_refl _) Z X x1 x2 x3 x4 x5 s r hz h

theorem dX11_end_0 : decode cX11_end 0 = .ok (.aload_n 0, 1) := by decide +kernel
theorem dX11_end_1 : decode cX11_end 1 = .ok (.getfield 46, 3) := by decide +kernel
theorem dX11_end_4 : decode cX11_end 4 = .ok (.getfield 114, 3) := by decide +kernel
theorem dX11_end_7 : decode cX11_end 7 = .ok (.iload_n 1, 1) := by decide +kernel
theorem dX11_end_8 : decode cX11_end 8 = .ok (.invokevirtual 130, 3) := by decide +kernel
theorem dX11_end_11 : decode cX11_end 11 = .ok (.ireturn, 1) := by decide +kernel
set_option maxRecDepth 100000 in
set_option maxHeartbeats 4000000 in
theorem w_X11_end {fr : Nat} (hfr : 1 ≤ fr) (Z : AZ) (X : AX Z cX11_end 2 RX11 (some .boolean) 0 fr) (x1 : Int32) (s : Mem) (r : Int32 × Mem) (hz : zres Z = (some (.int r.1), r.2)) (h : f_X11_end x1 s = some r) : AW Z s 0 [some (.ref (zr Z 0)), some (.int x1)] [] := by
  unfold f_X11_end at h
  refine aw_aload_n X dX11_end_0 rfl ?_
  refine aw_getr X dX11_end_1 fl_RX11_46 iu_RX11 gu_RX11_7 ?_
  refine aw_getr X dX11_end_4 fl_RX11_114 iu_RX11_7 gu_RX4_0 ?_
  refine aw_iload_n X dX11_end_7 rfl ?_
  obtain ⟨r1, er1, h⟩ := bnd h
  refine aw_callV X dX11_end_8 cv_RX11_130 (ok_X6_cut er1 _ _ _ _ _) iu_RX4_0 rfl (Nat.le_trans (by decide) hfr) (by decide) rfl rfl (Nat.le_of_ble_eq_true rfl) ?_
  by_cases c2 : ¬ (r1.1 = 0 ∨ r1.1 = 1)
  · rw [if_pos c2] at h
    cases h
  rw [if_neg c2] at h
  cases h
  exact aw_zret X dX11_end_11 rfl (bz_n (Decidable.of_not_not c2)) hz.symm
set_option maxRecDepth 100000 in
set_option maxHeartbeats 4000000 in
theorem ok_X11_end {x1 : Int32} {s : Mem} {r : Int32 × Mem} (h : f_X11_end x1 s = some r) (l : Launch) (D : va_G) (ρ : Nat → Nat) (cA : ClassId × ClassId × ClassId) (τ : AT) : AM l D ρ cA 0 τ yX11_end cX11_end 2 (some .boolean) 1 [.ref (ρ 0), .int x1] (some (.int r.1)) s r.2 := by
  refine AM_of (L := [some (.ref (ρ 0)), some (.int x1)]) (by decide) (by simp [Value.category]) (Nat.le_of_ble_eq_true rfl) (fun j v q => ?_) (fun Z X hρ hz hτ => ?_)
  · exact aL_ok (n := 0) [.ref (ρ 0), .int x1] j v q
  · subst hρ
    subst hτ
    exact w_X11_end (Nat.le_refl _) Z X x1 s r hz h

theorem dX11_text_0 : decode cX11_text 0 = .ok (.aload_n 0, 1) := by decide +kernel
theorem dX11_text_1 : decode cX11_text 1 = .ok (.getfield 46, 3) := by decide +kernel
theorem dX11_text_4 : decode cX11_text 4 = .ok (.aload_n 0, 1) := by decide +kernel
theorem dX11_text_5 : decode cX11_text 5 = .ok (.getfield 10, 3) := by decide +kernel
theorem dX11_text_8 : decode cX11_text 8 = .ok (.getfield 57, 3) := by decide +kernel
theorem dX11_text_11 : decode cX11_text 11 = .ok (.getfield 66, 3) := by decide +kernel
theorem dX11_text_14 : decode cX11_text 14 = .ok (.invokevirtual 133, 3) := by decide +kernel
theorem dX11_text_17 : decode cX11_text 17 = .ok (.iconst (-1), 1) := by decide +kernel
theorem dX11_text_18 : decode cX11_text 18 = .ok (.istore_n 2, 1) := by decide +kernel
theorem dX11_text_19 : decode cX11_text 19 = .ok (.iload_n 1, 1) := by decide +kernel
theorem dX11_text_20 : decode cX11_text 20 = .ok (.tableswitch 106 0 3 #[32, 50, 69, 88], 32) := by decide +kernel
theorem dX11_text_52 : decode cX11_text 52 = .ok (.aload_n 0, 1) := by decide +kernel
theorem dX11_text_53 : decode cX11_text 53 = .ok (.getfield 46, 3) := by decide +kernel
theorem dX11_text_56 : decode cX11_text 56 = .ok (.aload_n 0, 1) := by decide +kernel
theorem dX11_text_57 : decode cX11_text 57 = .ok (.getfield 10, 3) := by decide +kernel
theorem dX11_text_60 : decode cX11_text 60 = .ok (.getfield 136, 3) := by decide +kernel
theorem dX11_text_63 : decode cX11_text 63 = .ok (.invokevirtual 140, 3) := by decide +kernel
theorem dX11_text_66 : decode cX11_text 66 = .ok (.istore_n 2, 1) := by decide +kernel
theorem dX11_text_67 : decode cX11_text 67 = .ok (.goto 59, 3) := by decide +kernel
theorem dX11_text_70 : decode cX11_text 70 = .ok (.aload_n 0, 1) := by decide +kernel
theorem dX11_text_71 : decode cX11_text 71 = .ok (.getfield 46, 3) := by decide +kernel
theorem dX11_text_74 : decode cX11_text 74 = .ok (.aload_n 0, 1) := by decide +kernel
theorem dX11_text_75 : decode cX11_text 75 = .ok (.getfield 10, 3) := by decide +kernel
theorem dX11_text_78 : decode cX11_text 78 = .ok (.getfield 144, 3) := by decide +kernel
theorem dX11_text_81 : decode cX11_text 81 = .ok (.iconst 0, 1) := by decide +kernel
theorem dX11_text_82 : decode cX11_text 82 = .ok (.invokevirtual 148, 3) := by decide +kernel
theorem dX11_text_85 : decode cX11_text 85 = .ok (.istore_n 2, 1) := by decide +kernel
theorem dX11_text_86 : decode cX11_text 86 = .ok (.goto 40, 3) := by decide +kernel
theorem dX11_text_89 : decode cX11_text 89 = .ok (.aload_n 0, 1) := by decide +kernel
theorem dX11_text_90 : decode cX11_text 90 = .ok (.getfield 46, 3) := by decide +kernel
theorem dX11_text_93 : decode cX11_text 93 = .ok (.aload_n 0, 1) := by decide +kernel
theorem dX11_text_94 : decode cX11_text 94 = .ok (.getfield 10, 3) := by decide +kernel
theorem dX11_text_97 : decode cX11_text 97 = .ok (.getfield 152, 3) := by decide +kernel
theorem dX11_text_100 : decode cX11_text 100 = .ok (.iconst 1, 1) := by decide +kernel
theorem dX11_text_101 : decode cX11_text 101 = .ok (.invokevirtual 148, 3) := by decide +kernel
theorem dX11_text_104 : decode cX11_text 104 = .ok (.istore_n 2, 1) := by decide +kernel
theorem dX11_text_105 : decode cX11_text 105 = .ok (.goto 21, 3) := by decide +kernel
theorem dX11_text_108 : decode cX11_text 108 = .ok (.aload_n 0, 1) := by decide +kernel
theorem dX11_text_109 : decode cX11_text 109 = .ok (.getfield 46, 3) := by decide +kernel
theorem dX11_text_112 : decode cX11_text 112 = .ok (.aload_n 0, 1) := by decide +kernel
theorem dX11_text_113 : decode cX11_text 113 = .ok (.getfield 10, 3) := by decide +kernel
theorem dX11_text_116 : decode cX11_text 116 = .ok (.getfield 155, 3) := by decide +kernel
theorem dX11_text_119 : decode cX11_text 119 = .ok (.invokevirtual 159, 3) := by decide +kernel
theorem dX11_text_122 : decode cX11_text 122 = .ok (.istore_n 2, 1) := by decide +kernel
theorem dX11_text_123 : decode cX11_text 123 = .ok (.goto 3, 3) := by decide +kernel
theorem dX11_text_126 : decode cX11_text 126 = .ok (.aload_n 0, 1) := by decide +kernel
theorem dX11_text_127 : decode cX11_text 127 = .ok (.getfield 46, 3) := by decide +kernel
theorem dX11_text_130 : decode cX11_text 130 = .ok (.getfield 114, 3) := by decide +kernel
theorem dX11_text_133 : decode cX11_text 133 = .ok (.iconst 0, 1) := by decide +kernel
theorem dX11_text_134 : decode cX11_text 134 = .ok (.invokevirtual 130, 3) := by decide +kernel
theorem dX11_text_137 : decode cX11_text 137 = .ok (.pop, 1) := by decide +kernel
theorem dX11_text_138 : decode cX11_text 138 = .ok (.iload_n 2, 1) := by decide +kernel
theorem dX11_text_139 : decode cX11_text 139 = .ok (.iconst (-1), 1) := by decide +kernel
theorem dX11_text_140 : decode cX11_text 140 = .ok (.if_icmp .eq 17, 3) := by decide +kernel
theorem dX11_text_143 : decode cX11_text 143 = .ok (.iload_n 1, 1) := by decide +kernel
theorem dX11_text_144 : decode cX11_text 144 = .ok (.iconst 1, 1) := by decide +kernel
theorem dX11_text_145 : decode cX11_text 145 = .ok (.if_icmp .eq 8, 3) := by decide +kernel
theorem dX11_text_148 : decode cX11_text 148 = .ok (.iload_n 1, 1) := by decide +kernel
theorem dX11_text_149 : decode cX11_text 149 = .ok (.iconst 2, 1) := by decide +kernel
theorem dX11_text_150 : decode cX11_text 150 = .ok (.if_icmp .ne 7, 3) := by decide +kernel
theorem dX11_text_153 : decode cX11_text 153 = .ok (.aload_n 0, 1) := by decide +kernel
theorem dX11_text_154 : decode cX11_text 154 = .ok (.invokevirtual 63, 3) := by decide +kernel
theorem dX11_text_157 : decode cX11_text 157 = .ok (.iload_n 2, 1) := by decide +kernel
theorem dX11_text_158 : decode cX11_text 158 = .ok (.ireturn, 1) := by decide +kernel
set_option maxRecDepth 100000 in
set_option maxHeartbeats 4000000 in
theorem jo_X11_text_153 {fr : Nat} (hfr : 153 ≤ fr) (Z : AZ) (X : AX Z cX11_text 3 RX11 (some .int) 0 fr) (x2 : Int32) (s : Mem) (r : Int32 × Mem) (hz : zres Z = (some (.int r.1), r.2)) (h : jn_X11_text_153 x2 s = some r) : AW Z s 153 [some (.ref (zr Z 0)), none, some (.int x2)] [] := by
  unfold jn_X11_text_153 at h
  refine aw_aload_n X dX11_text_153 rfl ?_
  obtain ⟨r7, er7, h⟩ := bnd h
  refine aw_callV X dX11_text_154 cv_RX11_63 (ok_X11_forget er7 _ _ _ _ _) iu_RX11 rfl (Nat.le_trans (by decide) hfr) (by decide) rfl rfl (Nat.le_of_ble_eq_true rfl) ?_
  refine aw_iload_n X dX11_text_157 rfl ?_
  cases h
  exact aw_iret X dX11_text_158 rfl hz.symm
set_option maxRecDepth 100000 in
set_option maxHeartbeats 4000000 in
theorem jo_X11_text_126 {fr : Nat} (hfr : 153 ≤ fr) (Z : AZ) (X : AX Z cX11_text 3 RX11 (some .int) 0 fr) (x1 : Int32) (x2 : Int32) (s : Mem) (r : Int32 × Mem) (hz : zres Z = (some (.int r.1), r.2)) (h : jn_X11_text_126 x1 x2 s = some r) : AW Z s 126 [some (.ref (zr Z 0)), some (.int x1), some (.int x2)] [] := by
  unfold jn_X11_text_126 at h
  refine aw_aload_n X dX11_text_126 rfl ?_
  refine aw_getr X dX11_text_127 fl_RX11_46 iu_RX11 gu_RX11_7 ?_
  refine aw_getr X dX11_text_130 fl_RX11_114 iu_RX11_7 gu_RX4_0 ?_
  refine aw_iconst (v := 0) X dX11_text_133 (by decide) ?_
  obtain ⟨r4, er4, h⟩ := bnd h
  refine aw_callV X dX11_text_134 cv_RX11_130 (ok_X6_cut er4 _ _ _ _ _) iu_RX4_0 rfl (Nat.le_trans (by decide) hfr) (by decide) rfl rfl (Nat.le_of_ble_eq_true rfl) ?_
  refine aw_pop X dX11_text_137 rfl ?_
  refine aw_iload_n X dX11_text_138 rfl ?_
  refine aw_iconst (v := (-1)) X dX11_text_139 (by decide) ?_
  refine aw_icmp_eq (tgt := 157) X dX11_text_140 (by decide) (fun c5 => ?_) (fun c5 => ?_)
  · rw [if_pos c5] at h
    refine aw_iload_n X dX11_text_157 rfl ?_
    cases h
    exact aw_iret X dX11_text_158 rfl hz.symm
  · rw [if_neg c5] at h
    refine aw_iload_n X dX11_text_143 rfl ?_
    refine aw_iconst (v := 1) X dX11_text_144 (by decide) ?_
    refine aw_icmp_eq (tgt := 153) X dX11_text_145 (by decide) (fun c6 => ?_) (fun c6 => ?_)
    · rw [if_pos c6] at h
      refine aw_msk [true, false, true] ?_
      exact jo_X11_text_153 hfr Z X _ _ _ hz h
    · rw [if_neg c6] at h
      refine aw_iload_n X dX11_text_148 rfl ?_
      refine aw_iconst (v := 2) X dX11_text_149 (by decide) ?_
      refine aw_icmp_ne (tgt := 157) X dX11_text_150 (by decide) (fun c8 => ?_) (fun c8 => ?_)
      · rw [if_neg c8] at h
        refine aw_iload_n X dX11_text_157 rfl ?_
        cases h
        exact aw_iret X dX11_text_158 rfl hz.symm
      · rw [if_pos c8] at h
        refine aw_msk [true, false, true] ?_
        exact jo_X11_text_153 hfr Z X _ _ _ hz h
set_option maxRecDepth 100000 in
set_option maxHeartbeats 4000000 in
theorem w_X11_text {fr : Nat} (hfr : 153 ≤ fr) (Z : AZ) (X : AX Z cX11_text 3 RX11 (some .int) 0 fr) (x1 : Int32) (s : Mem) (r : Int32 × Mem) (hz : zres Z = (some (.int r.1), r.2)) (h : f_X11_text x1 s = some r) : AW Z s 0 [some (.ref (zr Z 0)), some (.int x1), none] [] := by
  unfold f_X11_text at h
  refine aw_aload_n X dX11_text_0 rfl ?_
  refine aw_getr X dX11_text_1 fl_RX11_46 iu_RX11 gu_RX11_7 ?_
  refine aw_aload_n X dX11_text_4 rfl ?_
  refine aw_getr X dX11_text_5 fl_RX11_10 iu_RX11 gu_RX11_0 ?_
  refine aw_getr X dX11_text_8 fl_RX11_57 iu_RX11_0 (gt_RX10_0 iu_RX11_0) ?_
  refine aw_geti X dX11_text_11 fl_RX11_66 (it_RX10_0 iu_RX11_0) (gt_RX0_1 (it_RX10_0 iu_RX11_0)) ?_
  obtain ⟨r1, er1, h⟩ := bnd h
  refine aw_callV X dX11_text_14 cv_RX11_133 (ok_X4_begin er1 _ _ _ _ _) iu_RX11_7 rfl (Nat.le_trans (by decide) hfr) (by decide) rfl rfl (Nat.le_of_ble_eq_true rfl) ?_
  refine aw_iconst (v := (-1)) X dX11_text_17 (by decide) ?_
  refine aw_istore_n (L' := [some (.ref (zr Z 0)), some (.int x1), some (.int (-1))]) X dX11_text_18 (by decide) rfl ?_
  refine aw_iload_n X dX11_text_19 rfl ?_
  by_cases c2 : x1 = 0
  · rw [if_pos c2] at h
    refine aw_tsw (tgt := 52) X dX11_text_20 (by rw [c2]; decide) ?_
    refine aw_aload_n X dX11_text_52 rfl ?_
    refine aw_getr X dX11_text_53 fl_RX11_46 iu_RX11 gu_RX11_7 ?_
    refine aw_aload_n X dX11_text_56 rfl ?_
    refine aw_getr X dX11_text_57 fl_RX11_10 iu_RX11 gu_RX11_0 ?_
    refine aw_getr X dX11_text_60 fl_RX11_136 iu_RX11_0 (gt_RX10_1 iu_RX11_0) ?_
    obtain ⟨r3, er3, h⟩ := bnd h
    refine aw_callV X dX11_text_63 cv_RX11_140 (ok_X4_readLaw (it_RX10_1 iu_RX11_0) er3 _ _ _ _ _) iu_RX11_7 rfl (Nat.le_trans (by decide) hfr) (by decide) rfl rfl (Nat.le_of_ble_eq_true rfl) ?_
    refine aw_istore_n (L' := [some (.ref (zr Z 0)), some (.int x1), some (.int r3.1)]) X dX11_text_66 (by decide) rfl ?_
    refine aw_goto (tgt := 126) X dX11_text_67 (by decide) ?_
    refine aw_msk [true, true, true] ?_
    exact jo_X11_text_126 hfr Z X _ _ _ _ hz h
  rw [if_neg c2] at h
  by_cases c9 : x1 = 1
  · rw [if_pos c9] at h
    refine aw_tsw (tgt := 70) X dX11_text_20 (by rw [c9]; decide) ?_
    refine aw_aload_n X dX11_text_70 rfl ?_
    refine aw_getr X dX11_text_71 fl_RX11_46 iu_RX11 gu_RX11_7 ?_
    refine aw_aload_n X dX11_text_74 rfl ?_
    refine aw_getr X dX11_text_75 fl_RX11_10 iu_RX11 gu_RX11_0 ?_
    refine aw_getr X dX11_text_78 fl_RX11_144 iu_RX11_0 (gt_RX10_2 iu_RX11_0) ?_
    refine aw_iconst (v := 0) X dX11_text_81 (by decide) ?_
    obtain ⟨r10, er10, h⟩ := bnd h
    refine aw_callV X dX11_text_82 cv_RX11_148 (ok_X4_readPlan (it_RX10_2 iu_RX11_0) er10 _ _ _ _ _) iu_RX11_7 rfl (Nat.le_trans (by decide) hfr) (by decide) rfl rfl (Nat.le_of_ble_eq_true rfl) ?_
    refine aw_istore_n (L' := [some (.ref (zr Z 0)), some (.int x1), some (.int r10.1)]) X dX11_text_85 (by decide) rfl ?_
    refine aw_goto (tgt := 126) X dX11_text_86 (by decide) ?_
    refine aw_msk [true, true, true] ?_
    exact jo_X11_text_126 hfr Z X _ _ _ _ hz h
  rw [if_neg c9] at h
  by_cases c11 : x1 = 2
  · rw [if_pos c11] at h
    refine aw_tsw (tgt := 89) X dX11_text_20 (by rw [c11]; decide) ?_
    refine aw_aload_n X dX11_text_89 rfl ?_
    refine aw_getr X dX11_text_90 fl_RX11_46 iu_RX11 gu_RX11_7 ?_
    refine aw_aload_n X dX11_text_93 rfl ?_
    refine aw_getr X dX11_text_94 fl_RX11_10 iu_RX11 gu_RX11_0 ?_
    refine aw_getr X dX11_text_97 fl_RX11_152 iu_RX11_0 (gt_RX10_3 iu_RX11_0) ?_
    refine aw_iconst (v := 1) X dX11_text_100 (by decide) ?_
    obtain ⟨r12, er12, h⟩ := bnd h
    refine aw_callV X dX11_text_101 cv_RX11_148 (ok_X4_readPlan (it_RX10_3 iu_RX11_0) er12 _ _ _ _ _) iu_RX11_7 rfl (Nat.le_trans (by decide) hfr) (by decide) rfl rfl (Nat.le_of_ble_eq_true rfl) ?_
    refine aw_istore_n (L' := [some (.ref (zr Z 0)), some (.int x1), some (.int r12.1)]) X dX11_text_104 (by decide) rfl ?_
    refine aw_goto (tgt := 126) X dX11_text_105 (by decide) ?_
    refine aw_msk [true, true, true] ?_
    exact jo_X11_text_126 hfr Z X _ _ _ _ hz h
  rw [if_neg c11] at h
  by_cases c13 : x1 = 3
  · rw [if_pos c13] at h
    refine aw_tsw (tgt := 108) X dX11_text_20 (by rw [c13]; decide) ?_
    refine aw_aload_n X dX11_text_108 rfl ?_
    refine aw_getr X dX11_text_109 fl_RX11_46 iu_RX11 gu_RX11_7 ?_
    refine aw_aload_n X dX11_text_112 rfl ?_
    refine aw_getr X dX11_text_113 fl_RX11_10 iu_RX11 gu_RX11_0 ?_
    refine aw_getr X dX11_text_116 fl_RX11_155 iu_RX11_0 (gt_RX10_4 iu_RX11_0) ?_
    obtain ⟨r14, er14, h⟩ := bnd h
    refine aw_callV X dX11_text_119 cv_RX11_159 (ok_X4_readOrders (it_RX10_4 iu_RX11_0) er14 _ _ _ _ _) iu_RX11_7 rfl (Nat.le_trans (by decide) hfr) (by decide) rfl rfl (Nat.le_of_ble_eq_true rfl) ?_
    refine aw_istore_n (L' := [some (.ref (zr Z 0)), some (.int x1), some (.int r14.1)]) X dX11_text_122 (by decide) rfl ?_
    refine aw_goto (tgt := 126) X dX11_text_123 (by decide) ?_
    refine aw_msk [true, true, true] ?_
    exact jo_X11_text_126 hfr Z X _ _ _ _ hz h
  rw [if_neg c13] at h
  refine aw_tswd (tgt := 126) X dX11_text_20 (by decide) (fun z h1 h2 => ?_) ?_
  · have hz9 : z = 0 ∨ z = 1 ∨ z = 2 ∨ z = 3 := by omega
    rcases hz9 with rfl | rfl | rfl | rfl
    · exact c2
    · exact c9
    · exact c11
    · exact c13
  refine aw_msk [true, true, true] ?_
  exact jo_X11_text_126 hfr Z X _ _ _ _ hz h
set_option maxRecDepth 100000 in
set_option maxHeartbeats 4000000 in
theorem ok_X11_text {x1 : Int32} {s : Mem} {r : Int32 × Mem} (h : f_X11_text x1 s = some r) (l : Launch) (D : va_G) (ρ : Nat → Nat) (cA : ClassId × ClassId × ClassId) (τ : AT) : AM l D ρ cA 0 τ yX11_text cX11_text 3 (some .int) 153 [.ref (ρ 0), .int x1] (some (.int r.1)) s r.2 := by
  refine AM_of (L := [some (.ref (ρ 0)), some (.int x1), none]) (by decide) (by simp [Value.category]) (Nat.le_of_ble_eq_true rfl) (fun j v q => ?_) (fun Z X hρ hz hτ => ?_)
  · exact aL_ok (n := 1) [.ref (ρ 0), .int x1] j v q
  · subst hρ
    subst hτ
    exact w_X11_text (Nat.le_refl _) Z X x1 s r hz h

theorem dX11_fault_0 : decode cX11_fault 0 = .ok (.iload_n 1, 1) := by decide +kernel
theorem dX11_fault_1 : decode cX11_fault 1 = .ok (.ifCond .ne 11, 3) := by decide +kernel
theorem dX11_fault_4 : decode cX11_fault 4 = .ok (.aload_n 0, 1) := by decide +kernel
theorem dX11_fault_5 : decode cX11_fault 5 = .ok (.getfield 46, 3) := by decide +kernel
theorem dX11_fault_8 : decode cX11_fault 8 = .ok (.getfield 163, 3) := by decide +kernel
theorem dX11_fault_11 : decode cX11_fault 11 = .ok (.ireturn, 1) := by decide +kernel
theorem dX11_fault_12 : decode cX11_fault 12 = .ok (.iload_n 1, 1) := by decide +kernel
theorem dX11_fault_13 : decode cX11_fault 13 = .ok (.iconst 1, 1) := by decide +kernel
theorem dX11_fault_14 : decode cX11_fault 14 = .ok (.if_icmp .ne 13, 3) := by decide +kernel
theorem dX11_fault_17 : decode cX11_fault 17 = .ok (.aload_n 0, 1) := by decide +kernel
theorem dX11_fault_18 : decode cX11_fault 18 = .ok (.getfield 46, 3) := by decide +kernel
theorem dX11_fault_21 : decode cX11_fault 21 = .ok (.getfield 166, 3) := by decide +kernel
theorem dX11_fault_24 : decode cX11_fault 24 = .ok (.goto 4, 3) := by decide +kernel
theorem dX11_fault_27 : decode cX11_fault 27 = .ok (.iconst (-1), 1) := by decide +kernel
theorem dX11_fault_28 : decode cX11_fault 28 = .ok (.ireturn, 1) := by decide +kernel
set_option maxRecDepth 100000 in
set_option maxHeartbeats 4000000 in
theorem w_X11_fault {fr : Nat} (hfr : 0 ≤ fr) (Z : AZ) (X : AX Z cX11_fault 2 RX11 (some .int) 0 fr) (x1 : Int32) (s : Mem) (r : Int32 × Mem) (hz : zres Z = (some (.int r.1), r.2)) (h : f_X11_fault x1 s = some r) : AW Z s 0 [some (.ref (zr Z 0)), some (.int x1)] [] := by
  unfold f_X11_fault at h
  refine aw_iload_n X dX11_fault_0 rfl ?_
  refine aw_if_ne (tgt := 12) X dX11_fault_1 (by decide) (fun c1 => ?_) (fun c1 => ?_)
  · rw [if_neg c1] at h
    refine aw_iload_n X dX11_fault_12 rfl ?_
    refine aw_iconst (v := 1) X dX11_fault_13 (by decide) ?_
    refine aw_icmp_ne (tgt := 27) X dX11_fault_14 (by decide) (fun c2 => ?_) (fun c2 => ?_)
    · rw [if_neg c2] at h
      refine aw_iconst (v := (-1)) X dX11_fault_27 (by decide) ?_
      cases h
      exact aw_iret X dX11_fault_28 rfl hz.symm
    · rw [if_pos c2] at h
      refine aw_aload_n X dX11_fault_17 rfl ?_
      refine aw_getr X dX11_fault_18 fl_RX11_46 iu_RX11 gu_RX11_7 ?_
      refine aw_geti X dX11_fault_21 fl_RX11_166 iu_RX11_7 gu_RX4_2 ?_
      refine aw_goto (tgt := 28) X dX11_fault_24 (by decide) ?_
      cases h
      exact aw_iret X dX11_fault_28 rfl hz.symm
  · rw [if_pos c1] at h
    refine aw_aload_n X dX11_fault_4 rfl ?_
    refine aw_getr X dX11_fault_5 fl_RX11_46 iu_RX11 gu_RX11_7 ?_
    refine aw_geti X dX11_fault_8 fl_RX11_163 iu_RX11_7 gu_RX4_1 ?_
    cases h
    exact aw_iret X dX11_fault_11 rfl hz.symm
set_option maxRecDepth 100000 in
set_option maxHeartbeats 4000000 in
theorem ok_X11_fault {x1 : Int32} {s : Mem} {r : Int32 × Mem} (h : f_X11_fault x1 s = some r) (l : Launch) (D : va_G) (ρ : Nat → Nat) (cA : ClassId × ClassId × ClassId) (τ : AT) : AM l D ρ cA 0 τ yX11_fault cX11_fault 2 (some .int) 0 [.ref (ρ 0), .int x1] (some (.int r.1)) s r.2 := by
  refine AM_of (L := [some (.ref (ρ 0)), some (.int x1)]) (by decide) (by simp [Value.category]) (Nat.le_of_ble_eq_true rfl) (fun j v q => ?_) (fun Z X hρ hz hτ => ?_)
  · exact aL_ok (n := 0) [.ref (ρ 0), .int x1] j v q
  · subst hρ
    subst hτ
    exact w_X11_fault (Nat.le_refl _) Z X x1 s r hz h

theorem dX11_of_0 : decode cX11_of 0 = .ok (.aload_n 0, 1) := by decide +kernel
theorem dX11_of_1 : decode cX11_of 1 = .ok (.getfield 10, 3) := by decide +kernel
theorem dX11_of_4 : decode cX11_of 4 = .ok (.getfield 57, 3) := by decide +kernel
theorem dX11_of_7 : decode cX11_of 7 = .ok (.iload_n 1, 1) := by decide +kernel
theorem dX11_of_8 : decode cX11_of 8 = .ok (.invokevirtual 73, 3) := by decide +kernel
theorem dX11_of_11 : decode cX11_of 11 = .ok (.ifCond .ne 6, 3) := by decide +kernel
theorem dX11_of_14 : decode cX11_of 14 = .ok (.bipush (-2), 2) := by decide +kernel
theorem dX11_of_16 : decode cX11_of 16 = .ok (.ireturn, 1) := by decide +kernel
theorem dX11_of_17 : decode cX11_of 17 = .ok (.iload_n 2, 1) := by decide +kernel
theorem dX11_of_18 : decode cX11_of 18 = .ok (.bipush 20, 2) := by decide +kernel
theorem dX11_of_20 : decode cX11_of 20 = .ok (.if_icmp .lt 35, 3) := by decide +kernel
theorem dX11_of_23 : decode cX11_of 23 = .ok (.iload_n 2, 1) := by decide +kernel
theorem dX11_of_24 : decode cX11_of 24 = .ok (.bipush 34, 2) := by decide +kernel
theorem dX11_of_26 : decode cX11_of 26 = .ok (.if_icmp .ge 29, 3) := by decide +kernel
theorem dX11_of_29 : decode cX11_of 29 = .ok (.aload_n 0, 1) := by decide +kernel
theorem dX11_of_30 : decode cX11_of 30 = .ok (.getfield 10, 3) := by decide +kernel
theorem dX11_of_33 : decode cX11_of 33 = .ok (.getfield 155, 3) := by decide +kernel
theorem dX11_of_36 : decode cX11_of 36 = .ok (.iload_n 1, 1) := by decide +kernel
theorem dX11_of_37 : decode cX11_of 37 = .ok (.iload_n 2, 1) := by decide +kernel
theorem dX11_of_38 : decode cX11_of 38 = .ok (.bipush 20, 2) := by decide +kernel
theorem dX11_of_40 : decode cX11_of 40 = .ok (.isub, 1) := by decide +kernel
theorem dX11_of_41 : decode cX11_of 41 = .ok (.aload_n 0, 1) := by decide +kernel
theorem dX11_of_42 : decode cX11_of 42 = .ok (.getfield 10, 3) := by decide +kernel
theorem dX11_of_45 : decode cX11_of 45 = .ok (.getfield 57, 3) := by decide +kernel
theorem dX11_of_48 : decode cX11_of 48 = .ok (.getfield 66, 3) := by decide +kernel
theorem dX11_of_51 : decode cX11_of 51 = .ok (.invokevirtual 169, 3) := by decide +kernel
theorem dX11_of_54 : decode cX11_of 54 = .ok (.ireturn, 1) := by decide +kernel
theorem dX11_of_55 : decode cX11_of 55 = .ok (.iload_n 2, 1) := by decide +kernel
theorem dX11_of_56 : decode cX11_of 56 = .ok (.ifCond .lt 22, 3) := by decide +kernel
theorem dX11_of_59 : decode cX11_of 59 = .ok (.iload_n 2, 1) := by decide +kernel
theorem dX11_of_60 : decode cX11_of 60 = .ok (.bipush 6, 2) := by decide +kernel
theorem dX11_of_62 : decode cX11_of 62 = .ok (.if_icmp .gt 16, 3) := by decide +kernel
theorem dX11_of_65 : decode cX11_of 65 = .ok (.aload_n 0, 1) := by decide +kernel
theorem dX11_of_66 : decode cX11_of 66 = .ok (.getfield 10, 3) := by decide +kernel
theorem dX11_of_69 : decode cX11_of 69 = .ok (.getfield 57, 3) := by decide +kernel
theorem dX11_of_72 : decode cX11_of 72 = .ok (.iload_n 1, 1) := by decide +kernel
theorem dX11_of_73 : decode cX11_of 73 = .ok (.iload_n 2, 1) := by decide +kernel
theorem dX11_of_74 : decode cX11_of 74 = .ok (.invokevirtual 175, 3) := by decide +kernel
theorem dX11_of_77 : decode cX11_of 77 = .ok (.ireturn, 1) := by decide +kernel
theorem dX11_of_78 : decode cX11_of 78 = .ok (.iload_n 2, 1) := by decide +kernel
theorem dX11_of_79 : decode cX11_of 79 = .ok (.bipush 7, 2) := by decide +kernel
theorem dX11_of_81 : decode cX11_of 81 = .ok (.if_icmp .lt 32, 3) := by decide +kernel
theorem dX11_of_84 : decode cX11_of 84 = .ok (.iload_n 2, 1) := by decide +kernel
theorem dX11_of_85 : decode cX11_of 85 = .ok (.bipush 9, 2) := by decide +kernel
theorem dX11_of_87 : decode cX11_of 87 = .ok (.if_icmp .gt 26, 3) := by decide +kernel
theorem dX11_of_90 : decode cX11_of 90 = .ok (.aload_n 0, 1) := by decide +kernel
theorem dX11_of_91 : decode cX11_of 91 = .ok (.getfield 10, 3) := by decide +kernel
theorem dX11_of_94 : decode cX11_of 94 = .ok (.getfield 136, 3) := by decide +kernel
theorem dX11_of_97 : decode cX11_of 97 = .ok (.iload_n 2, 1) := by decide +kernel
theorem dX11_of_98 : decode cX11_of 98 = .ok (.bipush 7, 2) := by decide +kernel
theorem dX11_of_100 : decode cX11_of 100 = .ok (.isub, 1) := by decide +kernel
theorem dX11_of_101 : decode cX11_of 101 = .ok (.aload_n 0, 1) := by decide +kernel
theorem dX11_of_102 : decode cX11_of 102 = .ok (.getfield 10, 3) := by decide +kernel
theorem dX11_of_105 : decode cX11_of 105 = .ok (.getfield 57, 3) := by decide +kernel
theorem dX11_of_108 : decode cX11_of 108 = .ok (.iload_n 1, 1) := by decide +kernel
theorem dX11_of_109 : decode cX11_of 109 = .ok (.invokevirtual 179, 3) := by decide +kernel
theorem dX11_of_112 : decode cX11_of 112 = .ok (.ireturn, 1) := by decide +kernel
theorem dX11_of_113 : decode cX11_of 113 = .ok (.iload_n 2, 1) := by decide +kernel
theorem dX11_of_114 : decode cX11_of 114 = .ok (.bipush 10, 2) := by decide +kernel
theorem dX11_of_116 : decode cX11_of 116 = .ok (.if_icmp .ne 21, 3) := by decide +kernel
theorem dX11_of_119 : decode cX11_of 119 = .ok (.aload_n 0, 1) := by decide +kernel
theorem dX11_of_120 : decode cX11_of 120 = .ok (.getfield 10, 3) := by decide +kernel
theorem dX11_of_123 : decode cX11_of 123 = .ok (.aload_n 0, 1) := by decide +kernel
theorem dX11_of_124 : decode cX11_of 124 = .ok (.getfield 10, 3) := by decide +kernel
theorem dX11_of_127 : decode cX11_of 127 = .ok (.getfield 57, 3) := by decide +kernel
theorem dX11_of_130 : decode cX11_of 130 = .ok (.iload_n 1, 1) := by decide +kernel
theorem dX11_of_131 : decode cX11_of 131 = .ok (.invokevirtual 185, 3) := by decide +kernel
theorem dX11_of_134 : decode cX11_of 134 = .ok (.goto 5, 3) := by decide +kernel
theorem dX11_of_137 : decode cX11_of 137 = .ok (.bipush (-2), 2) := by decide +kernel
theorem dX11_of_139 : decode cX11_of 139 = .ok (.ireturn, 1) := by decide +kernel
set_option maxRecDepth 100000 in
set_option maxHeartbeats 4000000 in
theorem jo_X11_of_113 {fr : Nat} (hfr : 4 ≤ fr) (Z : AZ) (X : AX Z cX11_of 3 RX11 (some .int) 0 fr) (x1 : Int32) (x2 : Int32) (s : Mem) (r : Int32 × Mem) (hz : zres Z = (some (.int r.1), r.2)) (h : jn_X11_of_113 x1 x2 s = some r) : AW Z s 113 [some (.ref (zr Z 0)), some (.int x1), some (.int x2)] [] := by
  unfold jn_X11_of_113 at h
  refine aw_iload_n X dX11_of_113 rfl ?_
  refine aw_bipush (v := 10) X dX11_of_114 (by decide) ?_
  refine aw_icmp_ne (tgt := 137) X dX11_of_116 (by decide) (fun c6 => ?_) (fun c6 => ?_)
  · rw [if_neg c6] at h
    refine aw_bipush (v := (-2)) X dX11_of_137 (by decide) ?_
    cases h
    exact aw_iret X dX11_of_139 rfl hz.symm
  · rw [if_pos c6] at h
    refine aw_aload_n X dX11_of_119 rfl ?_
    refine aw_getr X dX11_of_120 fl_RX11_10 iu_RX11 gu_RX11_0 ?_
    refine aw_aload_n X dX11_of_123 rfl ?_
    refine aw_getr X dX11_of_124 fl_RX11_10 iu_RX11 gu_RX11_0 ?_
    refine aw_getr X dX11_of_127 fl_RX11_57 iu_RX11_0 (gt_RX10_0 iu_RX11_0) ?_
    refine aw_iload_n X dX11_of_130 rfl ?_
    obtain ⟨r7, er7, h⟩ := bnd h
    refine aw_callV X dX11_of_131 cv_RX11_185 (ok_X10_nextName iu_RX11_0 (it_RX10_0 iu_RX11_0) er7 _ _ _ _ _) iu_RX11_0 rfl (Nat.le_trans (by decide) hfr) (by decide) rfl rfl (Nat.le_of_ble_eq_true rfl) ?_
    refine aw_goto (tgt := 139) X dX11_of_134 (by decide) ?_
    cases h
    exact aw_iret X dX11_of_139 rfl hz.symm
set_option maxRecDepth 100000 in
set_option maxHeartbeats 4000000 in
theorem jo_X11_of_78 {fr : Nat} (hfr : 4 ≤ fr) (Z : AZ) (X : AX Z cX11_of 3 RX11 (some .int) 0 fr) (x1 : Int32) (x2 : Int32) (s : Mem) (r : Int32 × Mem) (hz : zres Z = (some (.int r.1), r.2)) (h : jn_X11_of_78 x1 x2 s = some r) : AW Z s 78 [some (.ref (zr Z 0)), some (.int x1), some (.int x2)] [] := by
  unfold jn_X11_of_78 at h
  refine aw_iload_n X dX11_of_78 rfl ?_
  refine aw_bipush (v := 7) X dX11_of_79 (by decide) ?_
  refine aw_icmp_lt (tgt := 113) X dX11_of_81 (by decide) (fun c5 => ?_) (fun c5 => ?_)
  · rw [if_pos c5] at h
    refine aw_msk [true, true, true] ?_
    exact jo_X11_of_113 hfr Z X _ _ _ _ hz h
  · rw [if_neg c5] at h
    refine aw_iload_n X dX11_of_84 rfl ?_
    refine aw_bipush (v := 9) X dX11_of_85 (by decide) ?_
    refine aw_icmp_gt (tgt := 113) X dX11_of_87 (by decide) (fun c8 => ?_) (fun c8 => ?_)
    · rw [if_pos c8] at h
      refine aw_msk [true, true, true] ?_
      exact jo_X11_of_113 hfr Z X _ _ _ _ hz h
    · rw [if_neg c8] at h
      refine aw_aload_n X dX11_of_90 rfl ?_
      refine aw_getr X dX11_of_91 fl_RX11_10 iu_RX11 gu_RX11_0 ?_
      refine aw_getr X dX11_of_94 fl_RX11_136 iu_RX11_0 (gt_RX10_1 iu_RX11_0) ?_
      refine aw_iload_n X dX11_of_97 rfl ?_
      refine aw_bipush (v := 7) X dX11_of_98 (by decide) ?_
      refine aw_isub X dX11_of_100 ?_
      refine aw_aload_n X dX11_of_101 rfl ?_
      refine aw_getr X dX11_of_102 fl_RX11_10 iu_RX11 gu_RX11_0 ?_
      refine aw_getr X dX11_of_105 fl_RX11_57 iu_RX11_0 (gt_RX10_0 iu_RX11_0) ?_
      refine aw_iload_n X dX11_of_108 rfl ?_
      obtain ⟨r9, er9, h⟩ := bnd h
      refine aw_callV X dX11_of_109 cv_RX11_179 (ok_X1_ask (it_RX10_1 iu_RX11_0) (it_RX10_0 iu_RX11_0) er9 _ _ _ _ _) (it_RX10_1 iu_RX11_0) rfl (Nat.le_trans (by decide) hfr) (by decide) rfl rfl (Nat.le_of_ble_eq_true rfl) ?_
      cases h
      exact aw_iret X dX11_of_112 rfl hz.symm
set_option maxRecDepth 100000 in
set_option maxHeartbeats 4000000 in
theorem jo_X11_of_55 {fr : Nat} (hfr : 4 ≤ fr) (Z : AZ) (X : AX Z cX11_of 3 RX11 (some .int) 0 fr) (x1 : Int32) (x2 : Int32) (s : Mem) (r : Int32 × Mem) (hz : zres Z = (some (.int r.1), r.2)) (h : jn_X11_of_55 x1 x2 s = some r) : AW Z s 55 [some (.ref (zr Z 0)), some (.int x1), some (.int x2)] [] := by
  unfold jn_X11_of_55 at h
  refine aw_iload_n X dX11_of_55 rfl ?_
  refine aw_if_lt (tgt := 78) X dX11_of_56 (by decide) (fun c4 => ?_) (fun c4 => ?_)
  · rw [if_pos c4] at h
    refine aw_msk [true, true, true] ?_
    exact jo_X11_of_78 hfr Z X _ _ _ _ hz h
  · rw [if_neg c4] at h
    refine aw_iload_n X dX11_of_59 rfl ?_
    refine aw_bipush (v := 6) X dX11_of_60 (by decide) ?_
    refine aw_icmp_gt (tgt := 78) X dX11_of_62 (by decide) (fun c10 => ?_) (fun c10 => ?_)
    · rw [if_pos c10] at h
      refine aw_msk [true, true, true] ?_
      exact jo_X11_of_78 hfr Z X _ _ _ _ hz h
    · rw [if_neg c10] at h
      refine aw_aload_n X dX11_of_65 rfl ?_
      refine aw_getr X dX11_of_66 fl_RX11_10 iu_RX11 gu_RX11_0 ?_
      refine aw_getr X dX11_of_69 fl_RX11_57 iu_RX11_0 (gt_RX10_0 iu_RX11_0) ?_
      refine aw_iload_n X dX11_of_72 rfl ?_
      refine aw_iload_n X dX11_of_73 rfl ?_
      obtain ⟨r11, er11, h⟩ := bnd h
      refine aw_callV X dX11_of_74 cv_RX11_175 (ok_X0_told (it_RX10_0 iu_RX11_0) er11 _ _ _ _ _) (it_RX10_0 iu_RX11_0) rfl (Nat.le_trans (by decide) hfr) (by decide) rfl rfl (Nat.le_of_ble_eq_true rfl) ?_
      cases h
      exact aw_iret X dX11_of_77 rfl hz.symm
set_option maxRecDepth 100000 in
set_option maxHeartbeats 4000000 in
theorem w_X11_of {fr : Nat} (hfr : 4 ≤ fr) (Z : AZ) (X : AX Z cX11_of 3 RX11 (some .int) 0 fr) (x1 : Int32) (x2 : Int32) (s : Mem) (r : Int32 × Mem) (hz : zres Z = (some (.int r.1), r.2)) (h : f_X11_of x1 x2 s = some r) : AW Z s 0 [some (.ref (zr Z 0)), some (.int x1), some (.int x2)] [] := by
  unfold f_X11_of at h
  refine aw_aload_n X dX11_of_0 rfl ?_
  refine aw_getr X dX11_of_1 fl_RX11_10 iu_RX11 gu_RX11_0 ?_
  refine aw_getr X dX11_of_4 fl_RX11_57 iu_RX11_0 (gt_RX10_0 iu_RX11_0) ?_
  refine aw_iload_n X dX11_of_7 rfl ?_
  obtain ⟨r1, er1, h⟩ := bnd h
  refine aw_callV X dX11_of_8 cv_RX11_73 (ok_X0_has (it_RX10_0 iu_RX11_0) er1 _ _ _ _ _) (it_RX10_0 iu_RX11_0) rfl (Nat.le_trans (by decide) hfr) (by decide) rfl rfl (Nat.le_of_ble_eq_true rfl) ?_
  refine aw_if_ne (tgt := 17) X dX11_of_11 (by decide) (fun c2 => ?_) (fun c2 => ?_)
  · rw [if_neg c2] at h
    refine aw_iload_n X dX11_of_17 rfl ?_
    refine aw_bipush (v := 20) X dX11_of_18 (by decide) ?_
    refine aw_icmp_lt (tgt := 55) X dX11_of_20 (by decide) (fun c3 => ?_) (fun c3 => ?_)
    · rw [if_pos c3] at h
      refine aw_msk [true, true, true] ?_
      exact jo_X11_of_55 hfr Z X _ _ _ _ hz h
    · rw [if_neg c3] at h
      refine aw_iload_n X dX11_of_23 rfl ?_
      refine aw_bipush (v := 34) X dX11_of_24 (by decide) ?_
      refine aw_icmp_ge (tgt := 55) X dX11_of_26 (by decide) (fun c12 => ?_) (fun c12 => ?_)
      · rw [if_pos c12] at h
        refine aw_msk [true, true, true] ?_
        exact jo_X11_of_55 hfr Z X _ _ _ _ hz h
      · rw [if_neg c12] at h
        refine aw_aload_n X dX11_of_29 rfl ?_
        refine aw_getr X dX11_of_30 fl_RX11_10 iu_RX11 gu_RX11_0 ?_
        refine aw_getr X dX11_of_33 fl_RX11_155 iu_RX11_0 (gt_RX10_4 iu_RX11_0) ?_
        refine aw_iload_n X dX11_of_36 rfl ?_
        refine aw_iload_n X dX11_of_37 rfl ?_
        refine aw_bipush (v := 20) X dX11_of_38 (by decide) ?_
        refine aw_isub X dX11_of_40 ?_
        refine aw_aload_n X dX11_of_41 rfl ?_
        refine aw_getr X dX11_of_42 fl_RX11_10 iu_RX11 gu_RX11_0 ?_
        refine aw_getr X dX11_of_45 fl_RX11_57 iu_RX11_0 (gt_RX10_0 iu_RX11_0) ?_
        refine aw_geti X dX11_of_48 fl_RX11_66 (it_RX10_0 iu_RX11_0) (gt_RX0_1 (it_RX10_0 iu_RX11_0)) ?_
        obtain ⟨r13, er13, h⟩ := bnd h
        refine aw_callV X dX11_of_51 cv_RX11_169 (ok_X3_nameAt (it_RX10_4 iu_RX11_0) er13 _ _ _ _ _) (it_RX10_4 iu_RX11_0) rfl (Nat.le_trans (by decide) hfr) (by decide) rfl rfl (Nat.le_of_ble_eq_true rfl) ?_
        cases h
        exact aw_iret X dX11_of_54 rfl hz.symm
  · rw [if_pos c2] at h
    refine aw_bipush (v := (-2)) X dX11_of_14 (by decide) ?_
    cases h
    exact aw_iret X dX11_of_16 rfl hz.symm
set_option maxRecDepth 100000 in
set_option maxHeartbeats 4000000 in
theorem ok_X11_of {x1 x2 : Int32} {s : Mem} {r : Int32 × Mem} (h : f_X11_of x1 x2 s = some r) (l : Launch) (D : va_G) (ρ : Nat → Nat) (cA : ClassId × ClassId × ClassId) (τ : AT) : AM l D ρ cA 0 τ yX11_of cX11_of 3 (some .int) 4 [.ref (ρ 0), .int x1, .int x2] (some (.int r.1)) s r.2 := by
  refine AM_of (L := [some (.ref (ρ 0)), some (.int x1), some (.int x2)]) (by decide) (by simp [Value.category]) (Nat.le_of_ble_eq_true rfl) (fun j v q => ?_) (fun Z X hρ hz hτ => ?_)
  · exact aL_ok (n := 0) [.ref (ρ 0), .int x1, .int x2] j v q
  · subst hρ
    subst hτ
    exact w_X11_of (Nat.le_refl _) Z X x1 x2 s r hz h

theorem dX11_book_0 : decode cX11_book 0 = .ok (.iload_n 1, 1) := by decide +kernel
theorem dX11_book_1 : decode cX11_book 1 = .ok (.ifCond .lt 26, 3) := by decide +kernel
theorem dX11_book_4 : decode cX11_book 4 = .ok (.iload_n 1, 1) := by decide +kernel
theorem dX11_book_5 : decode cX11_book 5 = .ok (.aload_n 0, 1) := by decide +kernel
theorem dX11_book_6 : decode cX11_book 6 = .ok (.getfield 10, 3) := by decide +kernel
theorem dX11_book_9 : decode cX11_book 9 = .ok (.getfield 57, 3) := by decide +kernel
theorem dX11_book_12 : decode cX11_book 12 = .ok (.getfield 189, 3) := by decide +kernel
theorem dX11_book_15 : decode cX11_book 15 = .ok (.if_icmp .ge 12, 3) := by decide +kernel
theorem dX11_book_18 : decode cX11_book 18 = .ok (.iload_n 2, 1) := by decide +kernel
theorem dX11_book_19 : decode cX11_book 19 = .ok (.ifCond .lt 8, 3) := by decide +kernel
theorem dX11_book_22 : decode cX11_book 22 = .ok (.iload_n 2, 1) := by decide +kernel
theorem dX11_book_23 : decode cX11_book 23 = .ok (.iconst 4, 1) := by decide +kernel
theorem dX11_book_24 : decode cX11_book 24 = .ok (.if_icmp .lt 5, 3) := by decide +kernel
theorem dX11_book_27 : decode cX11_book 27 = .ok (.iconst (-1), 1) := by decide +kernel
theorem dX11_book_28 : decode cX11_book 28 = .ok (.ireturn, 1) := by decide +kernel
theorem dX11_book_29 : decode cX11_book 29 = .ok (.aload_n 0, 1) := by decide +kernel
theorem dX11_book_30 : decode cX11_book 30 = .ok (.getfield 10, 3) := by decide +kernel
theorem dX11_book_33 : decode cX11_book 33 = .ok (.getfield 192, 3) := by decide +kernel
theorem dX11_book_36 : decode cX11_book 36 = .ok (.iload_n 1, 1) := by decide +kernel
theorem dX11_book_37 : decode cX11_book 37 = .ok (.iconst 4, 1) := by decide +kernel
theorem dX11_book_38 : decode cX11_book 38 = .ok (.imul, 1) := by decide +kernel
theorem dX11_book_39 : decode cX11_book 39 = .ok (.iload_n 2, 1) := by decide +kernel
theorem dX11_book_40 : decode cX11_book 40 = .ok (.iadd, 1) := by decide +kernel
theorem dX11_book_41 : decode cX11_book 41 = .ok (.iaload, 1) := by decide +kernel
theorem dX11_book_42 : decode cX11_book 42 = .ok (.ireturn, 1) := by decide +kernel
set_option maxRecDepth 100000 in
set_option maxHeartbeats 4000000 in
theorem w_X11_book {fr : Nat} (hfr : 0 ≤ fr) (Z : AZ) (X : AX Z cX11_book 3 RX11 (some .int) 0 fr) (x1 : Int32) (x2 : Int32) (s : Mem) (r : Int32 × Mem) (hz : zres Z = (some (.int r.1), r.2)) (h : f_X11_book x1 x2 s = some r) : AW Z s 0 [some (.ref (zr Z 0)), some (.int x1), some (.int x2)] [] := by
  unfold f_X11_book at h
  refine aw_iload_n X dX11_book_0 rfl ?_
  refine aw_if_lt (tgt := 27) X dX11_book_1 (by decide) (fun c1 => ?_) (fun c1 => ?_)
  · rw [if_pos c1] at h
    refine aw_iconst (v := (-1)) X dX11_book_27 (by decide) ?_
    cases h
    exact aw_iret X dX11_book_28 rfl hz.symm
  · rw [if_neg c1] at h
    refine aw_iload_n X dX11_book_4 rfl ?_
    refine aw_aload_n X dX11_book_5 rfl ?_
    refine aw_getr X dX11_book_6 fl_RX11_10 iu_RX11 gu_RX11_0 ?_
    refine aw_getr X dX11_book_9 fl_RX11_57 iu_RX11_0 (gt_RX10_0 iu_RX11_0) ?_
    refine aw_geti X dX11_book_12 fl_RX11_189 (it_RX10_0 iu_RX11_0) (gt_RX0_12 (it_RX10_0 iu_RX11_0)) ?_
    refine aw_icmp_ge (tgt := 27) X dX11_book_15 (by decide) (fun c2 => ?_) (fun c2 => ?_)
    · rw [if_pos c2] at h
      refine aw_iconst (v := (-1)) X dX11_book_27 (by decide) ?_
      cases h
      exact aw_iret X dX11_book_28 rfl hz.symm
    · rw [if_neg c2] at h
      refine aw_iload_n X dX11_book_18 rfl ?_
      refine aw_if_lt (tgt := 27) X dX11_book_19 (by decide) (fun c3 => ?_) (fun c3 => ?_)
      · rw [if_pos c3] at h
        refine aw_iconst (v := (-1)) X dX11_book_27 (by decide) ?_
        cases h
        exact aw_iret X dX11_book_28 rfl hz.symm
      · rw [if_neg c3] at h
        refine aw_iload_n X dX11_book_22 rfl ?_
        refine aw_iconst (v := 4) X dX11_book_23 (by decide) ?_
        refine aw_icmp_lt (tgt := 29) X dX11_book_24 (by decide) (fun c4 => ?_) (fun c4 => ?_)
        · rw [if_pos c4] at h
          refine aw_aload_n X dX11_book_29 rfl ?_
          refine aw_getr X dX11_book_30 fl_RX11_10 iu_RX11 gu_RX11_0 ?_
          refine aw_getr X dX11_book_33 fl_RX11_192 iu_RX11_0 (gt_RX10_6 iu_RX11_0) ?_
          refine aw_iload_n X dX11_book_36 rfl ?_
          refine aw_iconst (v := 4) X dX11_book_37 (by decide) ?_
          refine aw_imul X dX11_book_38 ?_
          refine aw_iload_n X dX11_book_39 rfl ?_
          refine aw_iadd X dX11_book_40 ?_
          obtain ⟨v5, ev5, h⟩ := bnd h
          refine aw_iald X dX11_book_41 (it_RX10_6 iu_RX11_0) ev5 ?_
          cases h
          exact aw_iret X dX11_book_42 rfl hz.symm
        · rw [if_neg c4] at h
          refine aw_iconst (v := (-1)) X dX11_book_27 (by decide) ?_
          cases h
          exact aw_iret X dX11_book_28 rfl hz.symm
set_option maxRecDepth 100000 in
set_option maxHeartbeats 4000000 in
theorem ok_X11_book {x1 x2 : Int32} {s : Mem} {r : Int32 × Mem} (h : f_X11_book x1 x2 s = some r) (l : Launch) (D : va_G) (ρ : Nat → Nat) (cA : ClassId × ClassId × ClassId) (τ : AT) : AM l D ρ cA 0 τ yX11_book cX11_book 3 (some .int) 0 [.ref (ρ 0), .int x1, .int x2] (some (.int r.1)) s r.2 := by
  refine AM_of (L := [some (.ref (ρ 0)), some (.int x1), some (.int x2)]) (by decide) (by simp [Value.category]) (Nat.le_of_ble_eq_true rfl) (fun j v q => ?_) (fun Z X hρ hz hτ => ?_)
  · exact aL_ok (n := 0) [.ref (ρ 0), .int x1, .int x2] j v q
  · subst hρ
    subst hτ
    exact w_X11_book (Nat.le_refl _) Z X x1 x2 s r hz h

theorem dX11_goes_0 : decode cX11_goes 0 = .ok (.iload_n 1, 1) := by decide +kernel
theorem dX11_goes_1 : decode cX11_goes 1 = .ok (.iconst 1, 1) := by decide +kernel
theorem dX11_goes_2 : decode cX11_goes 2 = .ok (.if_icmp .lt 18, 3) := by decide +kernel
theorem dX11_goes_5 : decode cX11_goes 5 = .ok (.iload_n 1, 1) := by decide +kernel
theorem dX11_goes_6 : decode cX11_goes 6 = .ok (.bipush 60, 2) := by decide +kernel
theorem dX11_goes_8 : decode cX11_goes 8 = .ok (.if_icmp .gt 12, 3) := by decide +kernel
theorem dX11_goes_11 : decode cX11_goes 11 = .ok (.iload_n 2, 1) := by decide +kernel
theorem dX11_goes_12 : decode cX11_goes 12 = .ok (.ifCond .lt 8, 3) := by decide +kernel
theorem dX11_goes_15 : decode cX11_goes 15 = .ok (.iload_n 2, 1) := by decide +kernel
theorem dX11_goes_16 : decode cX11_goes 16 = .ok (.iconst 3, 1) := by decide +kernel
theorem dX11_goes_17 : decode cX11_goes 17 = .ok (.if_icmp .le 5, 3) := by decide +kernel
theorem dX11_goes_20 : decode cX11_goes 20 = .ok (.iconst (-1), 1) := by decide +kernel
theorem dX11_goes_21 : decode cX11_goes 21 = .ok (.ireturn, 1) := by decide +kernel
theorem dX11_goes_22 : decode cX11_goes 22 = .ok (.aload_n 0, 1) := by decide +kernel
theorem dX11_goes_23 : decode cX11_goes 23 = .ok (.getfield 28, 3) := by decide +kernel
theorem dX11_goes_26 : decode cX11_goes 26 = .ok (.aload_n 0, 1) := by decide +kernel
theorem dX11_goes_27 : decode cX11_goes 27 = .ok (.getfield 10, 3) := by decide +kernel
theorem dX11_goes_30 : decode cX11_goes 30 = .ok (.getfield 57, 3) := by decide +kernel
theorem dX11_goes_33 : decode cX11_goes 33 = .ok (.invokevirtual 195, 3) := by decide +kernel
theorem dX11_goes_36 : decode cX11_goes 36 = .ok (.iconst 0, 1) := by decide +kernel
theorem dX11_goes_37 : decode cX11_goes 37 = .ok (.istore_n 3, 1) := by decide +kernel
theorem dX11_goes_38 : decode cX11_goes 38 = .ok (.iload_n 3, 1) := by decide +kernel
theorem dX11_goes_39 : decode cX11_goes 39 = .ok (.iload_n 1, 1) := by decide +kernel
theorem dX11_goes_40 : decode cX11_goes 40 = .ok (.if_icmp .ge 21, 3) := by decide +kernel
theorem dX11_goes_43 : decode cX11_goes 43 = .ok (.aload_n 0, 1) := by decide +kernel
theorem dX11_goes_44 : decode cX11_goes 44 = .ok (.getfield 10, 3) := by decide +kernel
theorem dX11_goes_47 : decode cX11_goes 47 = .ok (.aload_n 0, 1) := by decide +kernel
theorem dX11_goes_48 : decode cX11_goes 48 = .ok (.getfield 28, 3) := by decide +kernel
theorem dX11_goes_51 : decode cX11_goes 51 = .ok (.invokevirtual 110, 3) := by decide +kernel
theorem dX11_goes_54 : decode cX11_goes 54 = .ok (.pop, 1) := by decide +kernel
theorem dX11_goes_55 : decode cX11_goes 55 = .ok (.iinc 3 1, 3) := by decide +kernel
theorem dX11_goes_58 : decode cX11_goes 58 = .ok (.goto (-20), 3) := by decide +kernel
theorem dX11_goes_61 : decode cX11_goes 61 = .ok (.iload_n 2, 1) := by decide +kernel
theorem dX11_goes_62 : decode cX11_goes 62 = .ok (.tableswitch 71 0 2 #[26, 41, 56], 26) := by decide +kernel
theorem dX11_goes_88 : decode cX11_goes 88 = .ok (.aload_n 0, 1) := by decide +kernel
theorem dX11_goes_89 : decode cX11_goes 89 = .ok (.getfield 28, 3) := by decide +kernel
theorem dX11_goes_92 : decode cX11_goes 92 = .ok (.aload_n 0, 1) := by decide +kernel
theorem dX11_goes_93 : decode cX11_goes 93 = .ok (.getfield 28, 3) := by decide +kernel
theorem dX11_goes_96 : decode cX11_goes 96 = .ok (.getfield 199, 3) := by decide +kernel
theorem dX11_goes_99 : decode cX11_goes 99 = .ok (.invokevirtual 202, 3) := by decide +kernel
theorem dX11_goes_102 : decode cX11_goes 102 = .ok (.ireturn, 1) := by decide +kernel
theorem dX11_goes_103 : decode cX11_goes 103 = .ok (.aload_n 0, 1) := by decide +kernel
theorem dX11_goes_104 : decode cX11_goes 104 = .ok (.getfield 28, 3) := by decide +kernel
theorem dX11_goes_107 : decode cX11_goes 107 = .ok (.aload_n 0, 1) := by decide +kernel
theorem dX11_goes_108 : decode cX11_goes 108 = .ok (.getfield 28, 3) := by decide +kernel
theorem dX11_goes_111 : decode cX11_goes 111 = .ok (.getfield 206, 3) := by decide +kernel
theorem dX11_goes_114 : decode cX11_goes 114 = .ok (.invokevirtual 202, 3) := by decide +kernel
theorem dX11_goes_117 : decode cX11_goes 117 = .ok (.ireturn, 1) := by decide +kernel
theorem dX11_goes_118 : decode cX11_goes 118 = .ok (.aload_n 0, 1) := by decide +kernel
theorem dX11_goes_119 : decode cX11_goes 119 = .ok (.getfield 28, 3) := by decide +kernel
theorem dX11_goes_122 : decode cX11_goes 122 = .ok (.aload_n 0, 1) := by decide +kernel
theorem dX11_goes_123 : decode cX11_goes 123 = .ok (.getfield 28, 3) := by decide +kernel
theorem dX11_goes_126 : decode cX11_goes 126 = .ok (.getfield 209, 3) := by decide +kernel
theorem dX11_goes_129 : decode cX11_goes 129 = .ok (.invokevirtual 202, 3) := by decide +kernel
theorem dX11_goes_132 : decode cX11_goes 132 = .ok (.ireturn, 1) := by decide +kernel
theorem dX11_goes_133 : decode cX11_goes 133 = .ok (.aload_n 0, 1) := by decide +kernel
theorem dX11_goes_134 : decode cX11_goes 134 = .ok (.getfield 28, 3) := by decide +kernel
theorem dX11_goes_137 : decode cX11_goes 137 = .ok (.getfield 212, 3) := by decide +kernel
theorem dX11_goes_140 : decode cX11_goes 140 = .ok (.ireturn, 1) := by decide +kernel
set_option maxRecDepth 100000 in
set_option maxHeartbeats 4000000 in
theorem so_X11_goes_38 {fr : Nat} (hfr : 6 ≤ fr) (Z : AZ) (X : AX Z cX11_goes 4 RX11 (some .int) 0 fr) (x1 : Int32) (x2 : Int32) (x3 : Int32) (s : Mem) (q : (Int32 × Mem) ⊕ (Mem)) (h : st_X11_goes_38 x1 x2 x3 s = some q) (hi : ∀ y : Int32 × Mem, q = .inl y → AW Z y.2 38 [some (.ref (zr Z 0)), some (.int x1), some (.int x2), some (.int y.1)] []) (he : ∀ b : Mem, q = .inr b → AW Z b 61 [some (.ref (zr Z 0)), none, some (.int x2), none] []) : AW Z s 38 [some (.ref (zr Z 0)), some (.int x1), some (.int x2), some (.int x3)] [] := by
  unfold st_X11_goes_38 at h
  refine aw_iload_n X dX11_goes_38 rfl ?_
  refine aw_iload_n X dX11_goes_39 rfl ?_
  refine aw_icmp_ge (tgt := 61) X dX11_goes_40 (by decide) (fun c6 => ?_) (fun c6 => ?_)
  · rw [if_pos c6] at h
    cases h
    refine aw_msk [true, false, true, false] ?_
    exact he _ rfl
  · rw [if_neg c6] at h
    refine aw_aload_n X dX11_goes_43 rfl ?_
    refine aw_getr X dX11_goes_44 fl_RX11_10 iu_RX11 gu_RX11_0 ?_
    refine aw_aload_n X dX11_goes_47 rfl ?_
    refine aw_getr X dX11_goes_48 fl_RX11_28 iu_RX11 gu_RX11_3 ?_
    obtain ⟨r7, er7, h⟩ := bnd h
    refine aw_callV X dX11_goes_51 cv_RX11_110 (ok_X10_passMinute iu_RX11_0 iu_RX11_3 er7 _ _ _ _ _) iu_RX11_0 rfl (Nat.le_trans (by decide) hfr) (by decide) rfl rfl (Nat.le_of_ble_eq_true rfl) ?_
    refine aw_pop X dX11_goes_54 rfl ?_
    refine aw_iinc (v := (x3 + 1)) (L' := [some (.ref (zr Z 0)), some (.int x1), some (.int x2), some (.int (x3 + 1))]) X dX11_goes_55 rfl rfl (by decide) rfl ?_
    refine aw_goto (tgt := 38) X dX11_goes_58 (by decide) ?_
    cases h
    refine aw_msk [true, true, true, true] ?_
    exact hi _ rfl
set_option maxRecDepth 100000 in
set_option maxHeartbeats 4000000 in
theorem w_X11_goes {fr : Nat} (hfr : 6 ≤ fr) (Z : AZ) (X : AX Z cX11_goes 4 RX11 (some .int) 0 fr) (x1 : Int32) (x2 : Int32) (s : Mem) (r : Int32 × Mem) (hz : zres Z = (some (.int r.1), r.2)) (h : f_X11_goes x1 x2 s = some r) : AW Z s 0 [some (.ref (zr Z 0)), some (.int x1), some (.int x2), none] [] := by
  unfold f_X11_goes at h
  refine aw_iload_n X dX11_goes_0 rfl ?_
  refine aw_iconst (v := 1) X dX11_goes_1 (by decide) ?_
  refine aw_icmp_lt (tgt := 20) X dX11_goes_2 (by decide) (fun c1 => ?_) (fun c1 => ?_)
  · rw [if_pos c1] at h
    refine aw_iconst (v := (-1)) X dX11_goes_20 (by decide) ?_
    cases h
    exact aw_iret X dX11_goes_21 rfl hz.symm
  · rw [if_neg c1] at h
    refine aw_iload_n X dX11_goes_5 rfl ?_
    refine aw_bipush (v := 60) X dX11_goes_6 (by decide) ?_
    refine aw_icmp_gt (tgt := 20) X dX11_goes_8 (by decide) (fun c2 => ?_) (fun c2 => ?_)
    · rw [if_pos c2] at h
      refine aw_iconst (v := (-1)) X dX11_goes_20 (by decide) ?_
      cases h
      exact aw_iret X dX11_goes_21 rfl hz.symm
    · rw [if_neg c2] at h
      refine aw_iload_n X dX11_goes_11 rfl ?_
      refine aw_if_lt (tgt := 20) X dX11_goes_12 (by decide) (fun c3 => ?_) (fun c3 => ?_)
      · rw [if_pos c3] at h
        refine aw_iconst (v := (-1)) X dX11_goes_20 (by decide) ?_
        cases h
        exact aw_iret X dX11_goes_21 rfl hz.symm
      · rw [if_neg c3] at h
        refine aw_iload_n X dX11_goes_15 rfl ?_
        refine aw_iconst (v := 3) X dX11_goes_16 (by decide) ?_
        refine aw_icmp_le (tgt := 22) X dX11_goes_17 (by decide) (fun c4 => ?_) (fun c4 => ?_)
        · rw [if_pos c4] at h
          refine aw_aload_n X dX11_goes_22 rfl ?_
          refine aw_getr X dX11_goes_23 fl_RX11_28 iu_RX11 gu_RX11_3 ?_
          refine aw_aload_n X dX11_goes_26 rfl ?_
          refine aw_getr X dX11_goes_27 fl_RX11_10 iu_RX11 gu_RX11_0 ?_
          refine aw_getr X dX11_goes_30 fl_RX11_57 iu_RX11_0 (gt_RX10_0 iu_RX11_0) ?_
          obtain ⟨r5, er5, h⟩ := bnd h
          refine aw_callV X dX11_goes_33 cv_RX11_195 (ok_X0_copyFrom iu_RX11_3 (it_RX10_0 iu_RX11_0) er5 _ _ _ _ _) iu_RX11_3 rfl (Nat.le_trans (by decide) hfr) (by decide) rfl rfl (Nat.le_of_ble_eq_true rfl) ?_
          refine aw_iconst (v := 0) X dX11_goes_36 (by decide) ?_
          refine aw_istore_n (L' := [some (.ref (zr Z 0)), some (.int x1), some (.int x2), some (.int 0)]) X dX11_goes_37 (by decide) rfl ?_
          obtain ⟨r8, er8, h⟩ := bnd h
          refine aw_msk [true, true, true, true] ?_
          refine it_ok (P := fun y : Int32 × Mem => AW Z y.2 38 [some (.ref (zr Z 0)), some (.int x1), some (.int x2), some (.int y.1)] []) (Q := fun b : Mem => AW Z b 61 [some (.ref (zr Z 0)), none, some (.int x2), none] []) (fun y q hq hi he => so_X11_goes_38 hfr Z X x1 x2 y.1 y.2 q hq hi he) FUEL _ _ er8 ?_
          refine aw_iload_n X dX11_goes_61 rfl ?_
          by_cases c9 : x2 = 0
          · rw [if_pos c9] at h
            refine aw_tsw (tgt := 88) X dX11_goes_62 (by rw [c9]; decide) ?_
            refine aw_aload_n X dX11_goes_88 rfl ?_
            refine aw_getr X dX11_goes_89 fl_RX11_28 iu_RX11 gu_RX11_3 ?_
            refine aw_aload_n X dX11_goes_92 rfl ?_
            refine aw_getr X dX11_goes_93 fl_RX11_28 iu_RX11 gu_RX11_3 ?_
            refine aw_getr X dX11_goes_96 fl_RX11_199 iu_RX11_3 (gt_RX0_3 iu_RX11_3) ?_
            obtain ⟨r10, er10, h⟩ := bnd h
            refine aw_callV X dX11_goes_99 cv_RX11_202 (ok_X0_sum iu_RX11_3 (it_RX0_3 iu_RX11_3) er10 _ _ _ _ _) iu_RX11_3 rfl (Nat.le_trans (by decide) hfr) (by decide) rfl rfl (Nat.le_of_ble_eq_true rfl) ?_
            cases h
            exact aw_iret X dX11_goes_102 rfl hz.symm
          rw [if_neg c9] at h
          by_cases c11 : x2 = 1
          · rw [if_pos c11] at h
            refine aw_tsw (tgt := 103) X dX11_goes_62 (by rw [c11]; decide) ?_
            refine aw_aload_n X dX11_goes_103 rfl ?_
            refine aw_getr X dX11_goes_104 fl_RX11_28 iu_RX11 gu_RX11_3 ?_
            refine aw_aload_n X dX11_goes_107 rfl ?_
            refine aw_getr X dX11_goes_108 fl_RX11_28 iu_RX11 gu_RX11_3 ?_
            refine aw_getr X dX11_goes_111 fl_RX11_206 iu_RX11_3 (gt_RX0_7 iu_RX11_3) ?_
            obtain ⟨r12, er12, h⟩ := bnd h
            refine aw_callV X dX11_goes_114 cv_RX11_202 (ok_X0_sum iu_RX11_3 (it_RX0_7 iu_RX11_3) er12 _ _ _ _ _) iu_RX11_3 rfl (Nat.le_trans (by decide) hfr) (by decide) rfl rfl (Nat.le_of_ble_eq_true rfl) ?_
            cases h
            exact aw_iret X dX11_goes_117 rfl hz.symm
          rw [if_neg c11] at h
          by_cases c13 : x2 = 2
          · rw [if_pos c13] at h
            refine aw_tsw (tgt := 118) X dX11_goes_62 (by rw [c13]; decide) ?_
            refine aw_aload_n X dX11_goes_118 rfl ?_
            refine aw_getr X dX11_goes_119 fl_RX11_28 iu_RX11 gu_RX11_3 ?_
            refine aw_aload_n X dX11_goes_122 rfl ?_
            refine aw_getr X dX11_goes_123 fl_RX11_28 iu_RX11 gu_RX11_3 ?_
            refine aw_getr X dX11_goes_126 fl_RX11_209 iu_RX11_3 (gt_RX0_6 iu_RX11_3) ?_
            obtain ⟨r14, er14, h⟩ := bnd h
            refine aw_callV X dX11_goes_129 cv_RX11_202 (ok_X0_sum iu_RX11_3 (it_RX0_6 iu_RX11_3) er14 _ _ _ _ _) iu_RX11_3 rfl (Nat.le_trans (by decide) hfr) (by decide) rfl rfl (Nat.le_of_ble_eq_true rfl) ?_
            cases h
            exact aw_iret X dX11_goes_132 rfl hz.symm
          rw [if_neg c13] at h
          refine aw_tswd (tgt := 133) X dX11_goes_62 (by decide) (fun z h1 h2 => ?_) ?_
          · have hz9 : z = 0 ∨ z = 1 ∨ z = 2 := by omega
            rcases hz9 with rfl | rfl | rfl
            · exact c9
            · exact c11
            · exact c13
          refine aw_aload_n X dX11_goes_133 rfl ?_
          refine aw_getr X dX11_goes_134 fl_RX11_28 iu_RX11 gu_RX11_3 ?_
          refine aw_geti X dX11_goes_137 fl_RX11_212 iu_RX11_3 (gt_RX0_9 iu_RX11_3) ?_
          cases h
          exact aw_iret X dX11_goes_140 rfl hz.symm
        · rw [if_neg c4] at h
          refine aw_iconst (v := (-1)) X dX11_goes_20 (by decide) ?_
          cases h
          exact aw_iret X dX11_goes_21 rfl hz.symm
set_option maxRecDepth 100000 in
set_option maxHeartbeats 4000000 in
theorem ok_X11_goes {x1 x2 : Int32} {s : Mem} {r : Int32 × Mem} (h : f_X11_goes x1 x2 s = some r) (l : Launch) (D : va_G) (ρ : Nat → Nat) (cA : ClassId × ClassId × ClassId) (τ : AT) : AM l D ρ cA 0 τ yX11_goes cX11_goes 4 (some .int) 6 [.ref (ρ 0), .int x1, .int x2] (some (.int r.1)) s r.2 := by
  refine AM_of (L := [some (.ref (ρ 0)), some (.int x1), some (.int x2), none]) (by decide) (by simp [Value.category]) (Nat.le_of_ble_eq_true rfl) (fun j v q => ?_) (fun Z X hρ hz hτ => ?_)
  · exact aL_ok (n := 1) [.ref (ρ 0), .int x1, .int x2] j v q
  · subst hρ
    subst hτ
    exact w_X11_goes (Nat.le_refl _) Z X x1 x2 s r hz h

theorem dX11_peace_0 : decode cX11_peace 0 = .ok (.aload_n 0, 1) := by decide +kernel
theorem dX11_peace_1 : decode cX11_peace 1 = .ok (.getfield 28, 3) := by decide +kernel
theorem dX11_peace_4 : decode cX11_peace 4 = .ok (.aload_n 0, 1) := by decide +kernel
theorem dX11_peace_5 : decode cX11_peace 5 = .ok (.getfield 10, 3) := by decide +kernel
theorem dX11_peace_8 : decode cX11_peace 8 = .ok (.getfield 57, 3) := by decide +kernel
theorem dX11_peace_11 : decode cX11_peace 11 = .ok (.invokevirtual 195, 3) := by decide +kernel
theorem dX11_peace_14 : decode cX11_peace 14 = .ok (.iconst 0, 1) := by decide +kernel
theorem dX11_peace_15 : decode cX11_peace 15 = .ok (.istore_n 1, 1) := by decide +kernel
theorem dX11_peace_16 : decode cX11_peace 16 = .ok (.iload_n 1, 1) := by decide +kernel
theorem dX11_peace_17 : decode cX11_peace 17 = .ok (.bipush 60, 2) := by decide +kernel
theorem dX11_peace_19 : decode cX11_peace 19 = .ok (.if_icmp .ge 33, 3) := by decide +kernel
theorem dX11_peace_22 : decode cX11_peace 22 = .ok (.aload_n 0, 1) := by decide +kernel
theorem dX11_peace_23 : decode cX11_peace 23 = .ok (.getfield 28, 3) := by decide +kernel
theorem dX11_peace_26 : decode cX11_peace 26 = .ok (.invokevirtual 215, 3) := by decide +kernel
theorem dX11_peace_29 : decode cX11_peace 29 = .ok (.ifCond .ne 5, 3) := by decide +kernel
theorem dX11_peace_32 : decode cX11_peace 32 = .ok (.iload_n 1, 1) := by decide +kernel
theorem dX11_peace_33 : decode cX11_peace 33 = .ok (.ireturn, 1) := by decide +kernel
theorem dX11_peace_34 : decode cX11_peace 34 = .ok (.aload_n 0, 1) := by decide +kernel
theorem dX11_peace_35 : decode cX11_peace 35 = .ok (.getfield 10, 3) := by decide +kernel
theorem dX11_peace_38 : decode cX11_peace 38 = .ok (.aload_n 0, 1) := by decide +kernel
theorem dX11_peace_39 : decode cX11_peace 39 = .ok (.getfield 28, 3) := by decide +kernel
theorem dX11_peace_42 : decode cX11_peace 42 = .ok (.invokevirtual 110, 3) := by decide +kernel
theorem dX11_peace_45 : decode cX11_peace 45 = .ok (.pop, 1) := by decide +kernel
theorem dX11_peace_46 : decode cX11_peace 46 = .ok (.iinc 1 1, 3) := by decide +kernel
theorem dX11_peace_49 : decode cX11_peace 49 = .ok (.goto (-33), 3) := by decide +kernel
theorem dX11_peace_52 : decode cX11_peace 52 = .ok (.aload_n 0, 1) := by decide +kernel
theorem dX11_peace_53 : decode cX11_peace 53 = .ok (.getfield 28, 3) := by decide +kernel
theorem dX11_peace_56 : decode cX11_peace 56 = .ok (.invokevirtual 215, 3) := by decide +kernel
theorem dX11_peace_59 : decode cX11_peace 59 = .ok (.ifCond .ne 8, 3) := by decide +kernel
theorem dX11_peace_62 : decode cX11_peace 62 = .ok (.bipush 60, 2) := by decide +kernel
theorem dX11_peace_64 : decode cX11_peace 64 = .ok (.goto 4, 3) := by decide +kernel
theorem dX11_peace_67 : decode cX11_peace 67 = .ok (.iconst (-1), 1) := by decide +kernel
theorem dX11_peace_68 : decode cX11_peace 68 = .ok (.ireturn, 1) := by decide +kernel
set_option maxRecDepth 100000 in
set_option maxHeartbeats 4000000 in
theorem so_X11_peace_16 {fr : Nat} (hfr : 6 ≤ fr) (Z : AZ) (X : AX Z cX11_peace 2 RX11 (some .int) 0 fr) (x1 : Int32) (s : Mem) (q : (Int32 × Mem) ⊕ (Nat × Int32 × Mem)) (h : st_X11_peace_16 x1 s = some q) (hi : ∀ y : Int32 × Mem, q = .inl y → AW Z y.2 16 [some (.ref (zr Z 0)), some (.int y.1)] []) (he : ∀ b : Nat × Int32 × Mem, q = .inr b → (b.1 = 0 → AW Z b.2.2 32 [none, some (.int b.2.1)] []) ∧ (b.1 = 1 → AW Z b.2.2 52 [some (.ref (zr Z 0)), none] [])) : AW Z s 16 [some (.ref (zr Z 0)), some (.int x1)] [] := by
  unfold st_X11_peace_16 at h
  refine aw_iload_n X dX11_peace_16 rfl ?_
  refine aw_bipush (v := 60) X dX11_peace_17 (by decide) ?_
  refine aw_icmp_ge (tgt := 52) X dX11_peace_19 (by decide) (fun c2 => ?_) (fun c2 => ?_)
  · rw [if_pos c2] at h
    cases h
    refine aw_msk [true, false] ?_
    exact (he _ rfl).2 rfl
  · rw [if_neg c2] at h
    refine aw_aload_n X dX11_peace_22 rfl ?_
    refine aw_getr X dX11_peace_23 fl_RX11_28 iu_RX11 gu_RX11_3 ?_
    obtain ⟨r3, er3, h⟩ := bnd h
    refine aw_callV X dX11_peace_26 cv_RX11_215 (ok_X0_havers iu_RX11_3 er3 _ _ _ _ _) iu_RX11_3 rfl (Nat.le_trans (by decide) hfr) (by decide) rfl rfl (Nat.le_of_ble_eq_true rfl) ?_
    refine aw_if_ne (tgt := 34) X dX11_peace_29 (by decide) (fun c4 => ?_) (fun c4 => ?_)
    · rw [if_neg c4] at h
      refine aw_aload_n X dX11_peace_34 rfl ?_
      refine aw_getr X dX11_peace_35 fl_RX11_10 iu_RX11 gu_RX11_0 ?_
      refine aw_aload_n X dX11_peace_38 rfl ?_
      refine aw_getr X dX11_peace_39 fl_RX11_28 iu_RX11 gu_RX11_3 ?_
      obtain ⟨r5, er5, h⟩ := bnd h
      refine aw_callV X dX11_peace_42 cv_RX11_110 (ok_X10_passMinute iu_RX11_0 iu_RX11_3 er5 _ _ _ _ _) iu_RX11_0 rfl (Nat.le_trans (by decide) hfr) (by decide) rfl rfl (Nat.le_of_ble_eq_true rfl) ?_
      refine aw_pop X dX11_peace_45 rfl ?_
      refine aw_iinc (v := (x1 + 1)) (L' := [some (.ref (zr Z 0)), some (.int (x1 + 1))]) X dX11_peace_46 rfl rfl (by decide) rfl ?_
      refine aw_goto (tgt := 16) X dX11_peace_49 (by decide) ?_
      cases h
      refine aw_msk [true, true] ?_
      exact hi _ rfl
    · rw [if_pos c4] at h
      cases h
      refine aw_msk [false, true] ?_
      exact (he _ rfl).1 rfl
set_option maxRecDepth 100000 in
set_option maxHeartbeats 4000000 in
theorem w_X11_peace {fr : Nat} (hfr : 6 ≤ fr) (Z : AZ) (X : AX Z cX11_peace 2 RX11 (some .int) 0 fr) (s : Mem) (r : Int32 × Mem) (hz : zres Z = (some (.int r.1), r.2)) (h : f_X11_peace s = some r) : AW Z s 0 [some (.ref (zr Z 0)), none] [] := by
  unfold f_X11_peace at h
  refine aw_aload_n X dX11_peace_0 rfl ?_
  refine aw_getr X dX11_peace_1 fl_RX11_28 iu_RX11 gu_RX11_3 ?_
  refine aw_aload_n X dX11_peace_4 rfl ?_
  refine aw_getr X dX11_peace_5 fl_RX11_10 iu_RX11 gu_RX11_0 ?_
  refine aw_getr X dX11_peace_8 fl_RX11_57 iu_RX11_0 (gt_RX10_0 iu_RX11_0) ?_
  obtain ⟨r1, er1, h⟩ := bnd h
  refine aw_callV X dX11_peace_11 cv_RX11_195 (ok_X0_copyFrom iu_RX11_3 (it_RX10_0 iu_RX11_0) er1 _ _ _ _ _) iu_RX11_3 rfl (Nat.le_trans (by decide) hfr) (by decide) rfl rfl (Nat.le_of_ble_eq_true rfl) ?_
  refine aw_iconst (v := 0) X dX11_peace_14 (by decide) ?_
  refine aw_istore_n (L' := [some (.ref (zr Z 0)), some (.int 0)]) X dX11_peace_15 (by decide) rfl ?_
  obtain ⟨r6, er6, h⟩ := bnd h
  refine aw_msk [true, true] ?_
  refine it_ok (P := fun y : Int32 × Mem => AW Z y.2 16 [some (.ref (zr Z 0)), some (.int y.1)] []) (Q := fun b : Nat × Int32 × Mem => (b.1 = 0 → AW Z b.2.2 32 [none, some (.int b.2.1)] []) ∧ (b.1 = 1 → AW Z b.2.2 52 [some (.ref (zr Z 0)), none] [])) (fun y q hq hi he => so_X11_peace_16 hfr Z X y.1 y.2 q hq hi he) FUEL _ _ er6 ?_
  refine ⟨fun c0 => ?_, fun c1 => ?_⟩
  · rw [if_pos c0] at h
    refine aw_iload_n X dX11_peace_32 rfl ?_
    cases h
    exact aw_iret X dX11_peace_33 rfl hz.symm
  · rw [if_neg (by rw [c1]; decide)] at h
    refine aw_aload_n X dX11_peace_52 rfl ?_
    refine aw_getr X dX11_peace_53 fl_RX11_28 iu_RX11 gu_RX11_3 ?_
    obtain ⟨r7, er7, h⟩ := bnd h
    refine aw_callV X dX11_peace_56 cv_RX11_215 (ok_X0_havers iu_RX11_3 er7 _ _ _ _ _) iu_RX11_3 rfl (Nat.le_trans (by decide) hfr) (by decide) rfl rfl (Nat.le_of_ble_eq_true rfl) ?_
    refine aw_if_ne (tgt := 67) X dX11_peace_59 (by decide) (fun c8 => ?_) (fun c8 => ?_)
    · rw [if_neg c8] at h
      refine aw_iconst (v := (-1)) X dX11_peace_67 (by decide) ?_
      cases h
      exact aw_iret X dX11_peace_68 rfl hz.symm
    · rw [if_pos c8] at h
      refine aw_bipush (v := 60) X dX11_peace_62 (by decide) ?_
      refine aw_goto (tgt := 68) X dX11_peace_64 (by decide) ?_
      cases h
      exact aw_iret X dX11_peace_68 rfl hz.symm
set_option maxRecDepth 100000 in
set_option maxHeartbeats 4000000 in
theorem ok_X11_peace {s : Mem} {r : Int32 × Mem} (h : f_X11_peace s = some r) (l : Launch) (D : va_G) (ρ : Nat → Nat) (cA : ClassId × ClassId × ClassId) (τ : AT) : AM l D ρ cA 0 τ yX11_peace cX11_peace 2 (some .int) 6 [.ref (ρ 0)] (some (.int r.1)) s r.2 := by
  refine AM_of (L := [some (.ref (ρ 0)), none]) (by decide) (by simp [Value.category]) (Nat.le_of_ble_eq_true rfl) (fun j v q => ?_) (fun Z X hρ hz hτ => ?_)
  · exact aL_ok (n := 1) [.ref (ρ 0)] j v q
  · subst hρ
    subst hτ
    exact w_X11_peace (Nat.le_refl _) Z X s r hz h

theorem dX11_back_0 : decode cX11_back 0 = .ok (.aload_n 0, 1) := by decide +kernel
theorem dX11_back_1 : decode cX11_back 1 = .ok (.getfield 10, 3) := by decide +kernel
theorem dX11_back_4 : decode cX11_back 4 = .ok (.getfield 57, 3) := by decide +kernel
theorem dX11_back_7 : decode cX11_back 7 = .ok (.iload_n 1, 1) := by decide +kernel
theorem dX11_back_8 : decode cX11_back 8 = .ok (.invokevirtual 73, 3) := by decide +kernel
theorem dX11_back_11 : decode cX11_back 11 = .ok (.ifCond .eq 17, 3) := by decide +kernel
theorem dX11_back_14 : decode cX11_back 14 = .ok (.aload_n 0, 1) := by decide +kernel
theorem dX11_back_15 : decode cX11_back 15 = .ok (.getfield 10, 3) := by decide +kernel
theorem dX11_back_18 : decode cX11_back 18 = .ok (.getfield 57, 3) := by decide +kernel
theorem dX11_back_21 : decode cX11_back 21 = .ok (.iload_n 1, 1) := by decide +kernel
theorem dX11_back_22 : decode cX11_back 22 = .ok (.invokevirtual 219, 3) := by decide +kernel
theorem dX11_back_25 : decode cX11_back 25 = .ok (.goto 4, 3) := by decide +kernel
theorem dX11_back_28 : decode cX11_back 28 = .ok (.iconst (-1), 1) := by decide +kernel
theorem dX11_back_29 : decode cX11_back 29 = .ok (.ireturn, 1) := by decide +kernel
set_option maxRecDepth 100000 in
set_option maxHeartbeats 4000000 in
theorem w_X11_back {fr : Nat} (hfr : 2 ≤ fr) (Z : AZ) (X : AX Z cX11_back 2 RX11 (some .int) 0 fr) (x1 : Int32) (s : Mem) (r : Int32 × Mem) (hz : zres Z = (some (.int r.1), r.2)) (h : f_X11_back x1 s = some r) : AW Z s 0 [some (.ref (zr Z 0)), some (.int x1)] [] := by
  unfold f_X11_back at h
  refine aw_aload_n X dX11_back_0 rfl ?_
  refine aw_getr X dX11_back_1 fl_RX11_10 iu_RX11 gu_RX11_0 ?_
  refine aw_getr X dX11_back_4 fl_RX11_57 iu_RX11_0 (gt_RX10_0 iu_RX11_0) ?_
  refine aw_iload_n X dX11_back_7 rfl ?_
  obtain ⟨r1, er1, h⟩ := bnd h
  refine aw_callV X dX11_back_8 cv_RX11_73 (ok_X0_has (it_RX10_0 iu_RX11_0) er1 _ _ _ _ _) (it_RX10_0 iu_RX11_0) rfl (Nat.le_trans (by decide) hfr) (by decide) rfl rfl (Nat.le_of_ble_eq_true rfl) ?_
  refine aw_if_eq (tgt := 28) X dX11_back_11 (by decide) (fun c2 => ?_) (fun c2 => ?_)
  · rw [if_pos c2] at h
    refine aw_iconst (v := (-1)) X dX11_back_28 (by decide) ?_
    cases h
    exact aw_iret X dX11_back_29 rfl hz.symm
  · rw [if_neg c2] at h
    refine aw_aload_n X dX11_back_14 rfl ?_
    refine aw_getr X dX11_back_15 fl_RX11_10 iu_RX11 gu_RX11_0 ?_
    refine aw_getr X dX11_back_18 fl_RX11_57 iu_RX11_0 (gt_RX10_0 iu_RX11_0) ?_
    refine aw_iload_n X dX11_back_21 rfl ?_
    obtain ⟨r3, er3, h⟩ := bnd h
    refine aw_callV X dX11_back_22 cv_RX11_219 (ok_X0_stepsBack (it_RX10_0 iu_RX11_0) er3 _ _ _ _ _) (it_RX10_0 iu_RX11_0) rfl (Nat.le_trans (by decide) hfr) (by decide) rfl rfl (Nat.le_of_ble_eq_true rfl) ?_
    refine aw_goto (tgt := 29) X dX11_back_25 (by decide) ?_
    cases h
    exact aw_iret X dX11_back_29 rfl hz.symm
set_option maxRecDepth 100000 in
set_option maxHeartbeats 4000000 in
theorem ok_X11_back {x1 : Int32} {s : Mem} {r : Int32 × Mem} (h : f_X11_back x1 s = some r) (l : Launch) (D : va_G) (ρ : Nat → Nat) (cA : ClassId × ClassId × ClassId) (τ : AT) : AM l D ρ cA 0 τ yX11_back cX11_back 2 (some .int) 2 [.ref (ρ 0), .int x1] (some (.int r.1)) s r.2 := by
  refine AM_of (L := [some (.ref (ρ 0)), some (.int x1)]) (by decide) (by simp [Value.category]) (Nat.le_of_ble_eq_true rfl) (fun j v q => ?_) (fun Z X hρ hz hτ => ?_)
  · exact aL_ok (n := 0) [.ref (ρ 0), .int x1] j v q
  · subst hρ
    subst hτ
    exact w_X11_back (Nat.le_refl _) Z X x1 s r hz h

theorem dX11_breath_0 : decode cX11_breath 0 = .ok (.aload_n 0, 1) := by decide +kernel
theorem dX11_breath_1 : decode cX11_breath 1 = .ok (.getfield 10, 3) := by decide +kernel
theorem dX11_breath_4 : decode cX11_breath 4 = .ok (.getfield 222, 3) := by decide +kernel
theorem dX11_breath_7 : decode cX11_breath 7 = .ok (.getfield 226, 3) := by decide +kernel
theorem dX11_breath_10 : decode cX11_breath 10 = .ok (.astore_n 2, 1) := by decide +kernel
theorem dX11_breath_11 : decode cX11_breath 11 = .ok (.iload_n 1, 1) := by decide +kernel
theorem dX11_breath_12 : decode cX11_breath 12 = .ok (.bipush (-100), 2) := by decide +kernel
theorem dX11_breath_14 : decode cX11_breath 14 = .ok (.if_icmp .ne 8, 3) := by decide +kernel
theorem dX11_breath_17 : decode cX11_breath 17 = .ok (.aload_n 2, 1) := by decide +kernel
theorem dX11_breath_18 : decode cX11_breath 18 = .ok (.invokevirtual 232, 3) := by decide +kernel
theorem dX11_breath_21 : decode cX11_breath 21 = .ok (.ireturn, 1) := by decide +kernel
theorem dX11_breath_22 : decode cX11_breath 22 = .ok (.iload_n 1, 1) := by decide +kernel
theorem dX11_breath_23 : decode cX11_breath 23 = .ok (.bipush (-50), 2) := by decide +kernel
theorem dX11_breath_25 : decode cX11_breath 25 = .ok (.if_icmp .lt 16, 3) := by decide +kernel
theorem dX11_breath_28 : decode cX11_breath 28 = .ok (.iload_n 1, 1) := by decide +kernel
theorem dX11_breath_29 : decode cX11_breath 29 = .ok (.bipush 50, 2) := by decide +kernel
theorem dX11_breath_31 : decode cX11_breath 31 = .ok (.if_icmp .gt 10, 3) := by decide +kernel
theorem dX11_breath_34 : decode cX11_breath 34 = .ok (.aload_n 2, 1) := by decide +kernel
theorem dX11_breath_35 : decode cX11_breath 35 = .ok (.invokevirtual 237, 3) := by decide +kernel
theorem dX11_breath_38 : decode cX11_breath 38 = .ok (.ifCond .eq 6, 3) := by decide +kernel
theorem dX11_breath_41 : decode cX11_breath 41 = .ok (.bipush (-100), 2) := by decide +kernel
theorem dX11_breath_43 : decode cX11_breath 43 = .ok (.ireturn, 1) := by decide +kernel
theorem dX11_breath_44 : decode cX11_breath 44 = .ok (.aload_n 2, 1) := by decide +kernel
theorem dX11_breath_45 : decode cX11_breath 45 = .ok (.iload_n 1, 1) := by decide +kernel
theorem dX11_breath_46 : decode cX11_breath 46 = .ok (.invokevirtual 241, 3) := by decide +kernel
theorem dX11_breath_49 : decode cX11_breath 49 = .ok (.ireturn, 1) := by decide +kernel
set_option maxRecDepth 100000 in
set_option maxHeartbeats 4000000 in
theorem w_X11_breath {fr : Nat} (hfr : 2 ≤ fr) (Z : AZ) (X : AX Z cX11_breath 3 RX11 (some .int) 0 fr) (x1 : Int32) (s : Mem) (r : Int32 × Mem) (hz : zres Z = (some (.int r.1), r.2)) (h : f_X11_breath x1 s = some r) : AW Z s 0 [some (.ref (zr Z 0)), some (.int x1), none] [] := by
  unfold f_X11_breath at h
  refine aw_aload_n X dX11_breath_0 rfl ?_
  refine aw_getr X dX11_breath_1 fl_RX11_10 iu_RX11 gu_RX11_0 ?_
  refine aw_getr X dX11_breath_4 fl_RX11_222 iu_RX11_0 (gt_RX10_5 iu_RX11_0) ?_
  refine aw_getr X dX11_breath_7 fl_RX11_226 (it_RX10_5 iu_RX11_0) (gt_RX8_0 (it_RX10_5 iu_RX11_0)) ?_
  refine aw_astore_n (L' := [some (.ref (zr Z 0)), some (.int x1), some (.ref (zr Z ((1 + 31) + 1)))]) X dX11_breath_10 (by decide) rfl ?_
  refine aw_iload_n X dX11_breath_11 rfl ?_
  refine aw_bipush (v := (-100)) X dX11_breath_12 (by decide) ?_
  refine aw_icmp_ne (tgt := 22) X dX11_breath_14 (by decide) (fun c1 => ?_) (fun c1 => ?_)
  · rw [if_neg c1] at h
    refine aw_iload_n X dX11_breath_22 rfl ?_
    refine aw_bipush (v := (-50)) X dX11_breath_23 (by decide) ?_
    refine aw_icmp_lt (tgt := 41) X dX11_breath_25 (by decide) (fun c2 => ?_) (fun c2 => ?_)
    · rw [if_pos c2] at h
      refine aw_bipush (v := (-100)) X dX11_breath_41 (by decide) ?_
      cases h
      exact aw_iret X dX11_breath_43 rfl hz.symm
    · rw [if_neg c2] at h
      refine aw_iload_n X dX11_breath_28 rfl ?_
      refine aw_bipush (v := 50) X dX11_breath_29 (by decide) ?_
      refine aw_icmp_gt (tgt := 41) X dX11_breath_31 (by decide) (fun c3 => ?_) (fun c3 => ?_)
      · rw [if_pos c3] at h
        refine aw_bipush (v := (-100)) X dX11_breath_41 (by decide) ?_
        cases h
        exact aw_iret X dX11_breath_43 rfl hz.symm
      · rw [if_neg c3] at h
        refine aw_aload_n X dX11_breath_34 rfl ?_
        obtain ⟨r4, er4, h⟩ := bnd h
        refine aw_callV X dX11_breath_35 cv_RX11_237 (ok_X7_isFull (it_RX8_0 (it_RX10_5 iu_RX11_0)) er4 _ _ _ _ _) (it_RX8_0 (it_RX10_5 iu_RX11_0)) rfl (Nat.le_trans (by decide) hfr) (by decide) rfl rfl (Nat.le_of_ble_eq_true rfl) ?_
        refine aw_if_eq (tgt := 44) X dX11_breath_38 (by decide) (fun c5 => ?_) (fun c5 => ?_)
        · rw [if_pos c5] at h
          refine aw_aload_n X dX11_breath_44 rfl ?_
          refine aw_iload_n X dX11_breath_45 rfl ?_
          obtain ⟨r6, er6, h⟩ := bnd h
          refine aw_callV X dX11_breath_46 cv_RX11_241 (ok_X7_add (it_RX8_0 (it_RX10_5 iu_RX11_0)) er6 _ _ _ _ _) (it_RX8_0 (it_RX10_5 iu_RX11_0)) rfl (Nat.le_trans (by decide) hfr) (by decide) rfl rfl (Nat.le_of_ble_eq_true rfl) ?_
          cases h
          exact aw_iret X dX11_breath_49 rfl hz.symm
        · rw [if_neg c5] at h
          refine aw_bipush (v := (-100)) X dX11_breath_41 (by decide) ?_
          cases h
          exact aw_iret X dX11_breath_43 rfl hz.symm
  · rw [if_pos c1] at h
    refine aw_aload_n X dX11_breath_17 rfl ?_
    obtain ⟨r7, er7, h⟩ := bnd h
    refine aw_callV X dX11_breath_18 cv_RX11_232 (ok_X7_clear (it_RX8_0 (it_RX10_5 iu_RX11_0)) er7 _ _ _ _ _) (it_RX8_0 (it_RX10_5 iu_RX11_0)) rfl (Nat.le_trans (by decide) hfr) (by decide) rfl rfl (Nat.le_of_ble_eq_true rfl) ?_
    cases h
    exact aw_iret X dX11_breath_21 rfl hz.symm
set_option maxRecDepth 100000 in
set_option maxHeartbeats 4000000 in
theorem ok_X11_breath {x1 : Int32} {s : Mem} {r : Int32 × Mem} (h : f_X11_breath x1 s = some r) (l : Launch) (D : va_G) (ρ : Nat → Nat) (cA : ClassId × ClassId × ClassId) (τ : AT) : AM l D ρ cA 0 τ yX11_breath cX11_breath 3 (some .int) 2 [.ref (ρ 0), .int x1] (some (.int r.1)) s r.2 := by
  refine AM_of (L := [some (.ref (ρ 0)), some (.int x1), none]) (by decide) (by simp [Value.category]) (Nat.le_of_ble_eq_true rfl) (fun j v q => ?_) (fun Z X hρ hz hτ => ?_)
  · exact aL_ok (n := 1) [.ref (ρ 0), .int x1] j v q
  · subst hρ
    subst hτ
    exact w_X11_breath (Nat.le_refl _) Z X x1 s r hz h

theorem dX11_held_0 : decode cX11_held 0 = .ok (.iload_n 1, 1) := by decide +kernel
theorem dX11_held_1 : decode cX11_held 1 = .ok (.ifCond .lt 8, 3) := by decide +kernel
theorem dX11_held_4 : decode cX11_held 4 = .ok (.iload_n 1, 1) := by decide +kernel
theorem dX11_held_5 : decode cX11_held 5 = .ok (.iconst 1, 1) := by decide +kernel
theorem dX11_held_6 : decode cX11_held 6 = .ok (.if_icmp .le 7, 3) := by decide +kernel
theorem dX11_held_9 : decode cX11_held 9 = .ok (.sipush (-1000), 3) := by decide +kernel
theorem dX11_held_12 : decode cX11_held 12 = .ok (.ireturn, 1) := by decide +kernel
theorem dX11_held_13 : decode cX11_held 13 = .ok (.aload_n 0, 1) := by decide +kernel
theorem dX11_held_14 : decode cX11_held 14 = .ok (.getfield 53, 3) := by decide +kernel
theorem dX11_held_17 : decode cX11_held 17 = .ok (.aload_n 0, 1) := by decide +kernel
theorem dX11_held_18 : decode cX11_held 18 = .ok (.getfield 10, 3) := by decide +kernel
theorem dX11_held_21 : decode cX11_held 21 = .ok (.getfield 222, 3) := by decide +kernel
theorem dX11_held_24 : decode cX11_held 24 = .ok (.getfield 226, 3) := by decide +kernel
theorem dX11_held_27 : decode cX11_held 27 = .ok (.iload_n 1, 1) := by decide +kernel
theorem dX11_held_28 : decode cX11_held 28 = .ok (.iconst 1, 1) := by decide +kernel
theorem dX11_held_29 : decode cX11_held 29 = .ok (.if_icmp .ne 7, 3) := by decide +kernel
theorem dX11_held_32 : decode cX11_held 32 = .ok (.iconst 1, 1) := by decide +kernel
theorem dX11_held_33 : decode cX11_held 33 = .ok (.goto 4, 3) := by decide +kernel
theorem dX11_held_36 : decode cX11_held 36 = .ok (.iconst 0, 1) := by decide +kernel
theorem dX11_held_37 : decode cX11_held 37 = .ok (.invokevirtual 244, 3) := by decide +kernel
theorem dX11_held_40 : decode cX11_held 40 = .ok (.ireturn, 1) := by decide +kernel
set_option maxRecDepth 100000 in
set_option maxHeartbeats 4000000 in
theorem jo_X11_held_37 {fr : Nat} (hfr : 2 ≤ fr) (Z : AZ) (X : AX Z cX11_held 2 RX11 (some .int) 0 fr) (t2 : Int32) (s : Mem) (r : Int32 × Mem) (hz : zres Z = (some (.int r.1), r.2)) (h : jn_X11_held_37 t2 s = some r) : AW Z s 37 [none, none] [.int t2, .ref (zr Z ((1 + 31) + 1)), .ref (zr Z 195)] := by
  unfold jn_X11_held_37 at h
  obtain ⟨r4, er4, h⟩ := bnd h
  refine aw_callV X dX11_held_37 cv_RX11_244 (ok_X9_greatestSum (it_RX8_0 (it_RX10_5 iu_RX11_0)) er4 _ _ _ _ _) iu_RX11_8 rfl (Nat.le_trans (by decide) hfr) (by decide) rfl rfl (Nat.le_of_ble_eq_true rfl) ?_
  cases h
  exact aw_iret X dX11_held_40 rfl hz.symm
set_option maxRecDepth 100000 in
set_option maxHeartbeats 4000000 in
theorem w_X11_held {fr : Nat} (hfr : 2 ≤ fr) (Z : AZ) (X : AX Z cX11_held 2 RX11 (some .int) 0 fr) (x1 : Int32) (s : Mem) (r : Int32 × Mem) (hz : zres Z = (some (.int r.1), r.2)) (h : f_X11_held x1 s = some r) : AW Z s 0 [some (.ref (zr Z 0)), some (.int x1)] [] := by
  unfold f_X11_held at h
  refine aw_iload_n X dX11_held_0 rfl ?_
  refine aw_if_lt (tgt := 9) X dX11_held_1 (by decide) (fun c1 => ?_) (fun c1 => ?_)
  · rw [if_pos c1] at h
    refine aw_sipush (v := (-1000)) X dX11_held_9 (by decide) ?_
    cases h
    exact aw_iret X dX11_held_12 rfl hz.symm
  · rw [if_neg c1] at h
    refine aw_iload_n X dX11_held_4 rfl ?_
    refine aw_iconst (v := 1) X dX11_held_5 (by decide) ?_
    refine aw_icmp_le (tgt := 13) X dX11_held_6 (by decide) (fun c2 => ?_) (fun c2 => ?_)
    · rw [if_pos c2] at h
      refine aw_aload_n X dX11_held_13 rfl ?_
      refine aw_getr X dX11_held_14 fl_RX11_53 iu_RX11 gu_RX11_8 ?_
      refine aw_aload_n X dX11_held_17 rfl ?_
      refine aw_getr X dX11_held_18 fl_RX11_10 iu_RX11 gu_RX11_0 ?_
      refine aw_getr X dX11_held_21 fl_RX11_222 iu_RX11_0 (gt_RX10_5 iu_RX11_0) ?_
      refine aw_getr X dX11_held_24 fl_RX11_226 (it_RX10_5 iu_RX11_0) (gt_RX8_0 (it_RX10_5 iu_RX11_0)) ?_
      refine aw_iload_n X dX11_held_27 rfl ?_
      refine aw_iconst (v := 1) X dX11_held_28 (by decide) ?_
      refine aw_icmp_ne (tgt := 36) X dX11_held_29 (by decide) (fun c3 => ?_) (fun c3 => ?_)
      · rw [if_neg c3] at h
        refine aw_iconst (v := 0) X dX11_held_36 (by decide) ?_
        refine aw_msk [false, false] ?_
        exact jo_X11_held_37 hfr Z X _ _ _ hz h
      · rw [if_pos c3] at h
        refine aw_iconst (v := 1) X dX11_held_32 (by decide) ?_
        refine aw_goto (tgt := 37) X dX11_held_33 (by decide) ?_
        refine aw_msk [false, false] ?_
        exact jo_X11_held_37 hfr Z X _ _ _ hz h
    · rw [if_neg c2] at h
      refine aw_sipush (v := (-1000)) X dX11_held_9 (by decide) ?_
      cases h
      exact aw_iret X dX11_held_12 rfl hz.symm
set_option maxRecDepth 100000 in
set_option maxHeartbeats 4000000 in
theorem ok_X11_held {x1 : Int32} {s : Mem} {r : Int32 × Mem} (h : f_X11_held x1 s = some r) (l : Launch) (D : va_G) (ρ : Nat → Nat) (cA : ClassId × ClassId × ClassId) (τ : AT) : AM l D ρ cA 0 τ yX11_held cX11_held 2 (some .int) 2 [.ref (ρ 0), .int x1] (some (.int r.1)) s r.2 := by
  refine AM_of (L := [some (.ref (ρ 0)), some (.int x1)]) (by decide) (by simp [Value.category]) (Nat.le_of_ble_eq_true rfl) (fun j v q => ?_) (fun Z X hρ hz hτ => ?_)
  · exact aL_ok (n := 0) [.ref (ρ 0), .int x1] j v q
  · subst hρ
    subst hτ
    exact w_X11_held (Nat.le_refl _) Z X x1 s r hz h

theorem dX11_least_0 : decode cX11_least 0 = .ok (.aload_n 0, 1) := by decide +kernel
theorem dX11_least_1 : decode cX11_least 1 = .ok (.getfield 10, 3) := by decide +kernel
theorem dX11_least_4 : decode cX11_least 4 = .ok (.getfield 222, 3) := by decide +kernel
theorem dX11_least_7 : decode cX11_least 7 = .ok (.getfield 226, 3) := by decide +kernel
theorem dX11_least_10 : decode cX11_least 10 = .ok (.astore_n 3, 1) := by decide +kernel
theorem dX11_least_11 : decode cX11_least 11 = .ok (.iload_n 1, 1) := by decide +kernel
theorem dX11_least_12 : decode cX11_least 12 = .ok (.ifCond .lt 11, 3) := by decide +kernel
theorem dX11_least_15 : decode cX11_least 15 = .ok (.iload_n 1, 1) := by decide +kernel
theorem dX11_least_16 : decode cX11_least 16 = .ok (.aload_n 3, 1) := by decide +kernel
theorem dX11_least_17 : decode cX11_least 17 = .ok (.getfield 248, 3) := by decide +kernel
theorem dX11_least_20 : decode cX11_least 20 = .ok (.if_icmp .lt 5, 3) := by decide +kernel
theorem dX11_least_23 : decode cX11_least 23 = .ok (.iconst (-1), 1) := by decide +kernel
theorem dX11_least_24 : decode cX11_least 24 = .ok (.ireturn, 1) := by decide +kernel
theorem dX11_least_25 : decode cX11_least 25 = .ok (.aload_n 0, 1) := by decide +kernel
theorem dX11_least_26 : decode cX11_least 26 = .ok (.getfield 53, 3) := by decide +kernel
theorem dX11_least_29 : decode cX11_least 29 = .ok (.aload_n 3, 1) := by decide +kernel
theorem dX11_least_30 : decode cX11_least 30 = .ok (.iload_n 1, 1) := by decide +kernel
theorem dX11_least_31 : decode cX11_least 31 = .ok (.invokevirtual 251, 3) := by decide +kernel
theorem dX11_least_34 : decode cX11_least 34 = .ok (.istore 4, 2) := by decide +kernel
theorem dX11_least_36 : decode cX11_least 36 = .ok (.iload_n 2, 1) := by decide +kernel
theorem dX11_least_37 : decode cX11_least 37 = .ok (.tableswitch 72 0 2 #[27, 38, 54], 27) := by decide +kernel
theorem dX11_least_64 : decode cX11_least 64 = .ok (.aload_n 0, 1) := by decide +kernel
theorem dX11_least_65 : decode cX11_least 65 = .ok (.getfield 53, 3) := by decide +kernel
theorem dX11_least_68 : decode cX11_least 68 = .ok (.aload_n 3, 1) := by decide +kernel
theorem dX11_least_69 : decode cX11_least 69 = .ok (.iload_n 1, 1) := by decide +kernel
theorem dX11_least_70 : decode cX11_least 70 = .ok (.iconst 0, 1) := by decide +kernel
theorem dX11_least_71 : decode cX11_least 71 = .ok (.invokevirtual 255, 3) := by decide +kernel
theorem dX11_least_74 : decode cX11_least 74 = .ok (.ireturn, 1) := by decide +kernel
theorem dX11_least_75 : decode cX11_least 75 = .ok (.iload 4, 2) := by decide +kernel
theorem dX11_least_77 : decode cX11_least 77 = .ok (.aload_n 3, 1) := by decide +kernel
theorem dX11_least_78 : decode cX11_least 78 = .ok (.getfield 248, 3) := by decide +kernel
theorem dX11_least_81 : decode cX11_least 81 = .ok (.if_icmp .ge 8, 3) := by decide +kernel
theorem dX11_least_84 : decode cX11_least 84 = .ok (.iload 4, 2) := by decide +kernel
theorem dX11_least_86 : decode cX11_least 86 = .ok (.goto 4, 3) := by decide +kernel
theorem dX11_least_89 : decode cX11_least 89 = .ok (.iconst (-1), 1) := by decide +kernel
theorem dX11_least_90 : decode cX11_least 90 = .ok (.ireturn, 1) := by decide +kernel
theorem dX11_least_91 : decode cX11_least 91 = .ok (.iload_n 1, 1) := by decide +kernel
theorem dX11_least_92 : decode cX11_least 92 = .ok (.aload_n 0, 1) := by decide +kernel
theorem dX11_least_93 : decode cX11_least 93 = .ok (.getfield 53, 3) := by decide +kernel
theorem dX11_least_96 : decode cX11_least 96 = .ok (.aload_n 3, 1) := by decide +kernel
theorem dX11_least_97 : decode cX11_least 97 = .ok (.iload_n 1, 1) := by decide +kernel
theorem dX11_least_98 : decode cX11_least 98 = .ok (.iconst 1, 1) := by decide +kernel
theorem dX11_least_99 : decode cX11_least 99 = .ok (.invokevirtual 255, 3) := by decide +kernel
theorem dX11_least_102 : decode cX11_least 102 = .ok (.isub, 1) := by decide +kernel
theorem dX11_least_103 : decode cX11_least 103 = .ok (.iload 4, 2) := by decide +kernel
theorem dX11_least_105 : decode cX11_least 105 = .ok (.iload_n 1, 1) := by decide +kernel
theorem dX11_least_106 : decode cX11_least 106 = .ok (.isub, 1) := by decide +kernel
theorem dX11_least_107 : decode cX11_least 107 = .ok (.imul, 1) := by decide +kernel
theorem dX11_least_108 : decode cX11_least 108 = .ok (.ireturn, 1) := by decide +kernel
theorem dX11_least_109 : decode cX11_least 109 = .ok (.iconst (-1), 1) := by decide +kernel
theorem dX11_least_110 : decode cX11_least 110 = .ok (.ireturn, 1) := by decide +kernel
set_option maxRecDepth 100000 in
set_option maxHeartbeats 4000000 in
theorem w_X11_least {fr : Nat} (hfr : 2 ≤ fr) (Z : AZ) (X : AX Z cX11_least 5 RX11 (some .int) 0 fr) (x1 : Int32) (x2 : Int32) (s : Mem) (r : Int32 × Mem) (hz : zres Z = (some (.int r.1), r.2)) (h : f_X11_least x1 x2 s = some r) : AW Z s 0 [some (.ref (zr Z 0)), some (.int x1), some (.int x2), none, none] [] := by
  unfold f_X11_least at h
  refine aw_aload_n X dX11_least_0 rfl ?_
  refine aw_getr X dX11_least_1 fl_RX11_10 iu_RX11 gu_RX11_0 ?_
  refine aw_getr X dX11_least_4 fl_RX11_222 iu_RX11_0 (gt_RX10_5 iu_RX11_0) ?_
  refine aw_getr X dX11_least_7 fl_RX11_226 (it_RX10_5 iu_RX11_0) (gt_RX8_0 (it_RX10_5 iu_RX11_0)) ?_
  refine aw_astore_n (L' := [some (.ref (zr Z 0)), some (.int x1), some (.int x2), some (.ref (zr Z ((1 + 31) + 1))), none]) X dX11_least_10 (by decide) rfl ?_
  refine aw_iload_n X dX11_least_11 rfl ?_
  refine aw_if_lt (tgt := 23) X dX11_least_12 (by decide) (fun c1 => ?_) (fun c1 => ?_)
  · rw [if_pos c1] at h
    refine aw_iconst (v := (-1)) X dX11_least_23 (by decide) ?_
    cases h
    exact aw_iret X dX11_least_24 rfl hz.symm
  · rw [if_neg c1] at h
    refine aw_iload_n X dX11_least_15 rfl ?_
    refine aw_aload_n X dX11_least_16 rfl ?_
    refine aw_geti X dX11_least_17 fl_RX11_248 (it_RX8_0 (it_RX10_5 iu_RX11_0)) (gt_RX7_1 (it_RX8_0 (it_RX10_5 iu_RX11_0))) ?_
    refine aw_icmp_lt (tgt := 25) X dX11_least_20 (by decide) (fun c2 => ?_) (fun c2 => ?_)
    · rw [if_pos c2] at h
      refine aw_aload_n X dX11_least_25 rfl ?_
      refine aw_getr X dX11_least_26 fl_RX11_53 iu_RX11 gu_RX11_8 ?_
      refine aw_aload_n X dX11_least_29 rfl ?_
      refine aw_iload_n X dX11_least_30 rfl ?_
      obtain ⟨r3, er3, h⟩ := bnd h
      refine aw_callV X dX11_least_31 cv_RX11_251 (ok_X9_lessToRight (it_RX8_0 (it_RX10_5 iu_RX11_0)) er3 _ _ _ _ _) iu_RX11_8 rfl (Nat.le_trans (by decide) hfr) (by decide) rfl rfl (Nat.le_of_ble_eq_true rfl) ?_
      refine aw_istore (L' := [some (.ref (zr Z 0)), some (.int x1), some (.int x2), some (.ref (zr Z ((1 + 31) + 1))), some (.int r3.1)]) X dX11_least_34 (by decide) rfl ?_
      refine aw_iload_n X dX11_least_36 rfl ?_
      by_cases c4 : x2 = 0
      · rw [if_pos c4] at h
        refine aw_tsw (tgt := 64) X dX11_least_37 (by rw [c4]; decide) ?_
        refine aw_aload_n X dX11_least_64 rfl ?_
        refine aw_getr X dX11_least_65 fl_RX11_53 iu_RX11 gu_RX11_8 ?_
        refine aw_aload_n X dX11_least_68 rfl ?_
        refine aw_iload_n X dX11_least_69 rfl ?_
        refine aw_iconst (v := 0) X dX11_least_70 (by decide) ?_
        obtain ⟨r5, er5, h⟩ := bnd h
        refine aw_callV X dX11_least_71 cv_RX11_255 (ok_X9_lessToLeft (it_RX8_0 (it_RX10_5 iu_RX11_0)) er5 _ _ _ _ _) iu_RX11_8 rfl (Nat.le_trans (by decide) hfr) (by decide) rfl rfl (Nat.le_of_ble_eq_true rfl) ?_
        cases h
        exact aw_iret X dX11_least_74 rfl hz.symm
      rw [if_neg c4] at h
      by_cases c6 : x2 = 1
      · rw [if_pos c6] at h
        refine aw_tsw (tgt := 75) X dX11_least_37 (by rw [c6]; decide) ?_
        refine aw_iload X dX11_least_75 rfl ?_
        refine aw_aload_n X dX11_least_77 rfl ?_
        refine aw_geti X dX11_least_78 fl_RX11_248 (it_RX8_0 (it_RX10_5 iu_RX11_0)) (gt_RX7_1 (it_RX8_0 (it_RX10_5 iu_RX11_0))) ?_
        refine aw_icmp_ge (tgt := 89) X dX11_least_81 (by decide) (fun c7 => ?_) (fun c7 => ?_)
        · rw [if_pos c7] at h
          refine aw_iconst (v := (-1)) X dX11_least_89 (by decide) ?_
          cases h
          exact aw_iret X dX11_least_90 rfl hz.symm
        · rw [if_neg c7] at h
          refine aw_iload X dX11_least_84 rfl ?_
          refine aw_goto (tgt := 90) X dX11_least_86 (by decide) ?_
          cases h
          exact aw_iret X dX11_least_90 rfl hz.symm
      rw [if_neg c6] at h
      by_cases c8 : x2 = 2
      · rw [if_pos c8] at h
        refine aw_tsw (tgt := 91) X dX11_least_37 (by rw [c8]; decide) ?_
        refine aw_iload_n X dX11_least_91 rfl ?_
        refine aw_aload_n X dX11_least_92 rfl ?_
        refine aw_getr X dX11_least_93 fl_RX11_53 iu_RX11 gu_RX11_8 ?_
        refine aw_aload_n X dX11_least_96 rfl ?_
        refine aw_iload_n X dX11_least_97 rfl ?_
        refine aw_iconst (v := 1) X dX11_least_98 (by decide) ?_
        obtain ⟨r9, er9, h⟩ := bnd h
        refine aw_callV X dX11_least_99 cv_RX11_255 (ok_X9_lessToLeft (it_RX8_0 (it_RX10_5 iu_RX11_0)) er9 _ _ _ _ _) iu_RX11_8 rfl (Nat.le_trans (by decide) hfr) (by decide) rfl rfl (Nat.le_of_ble_eq_true rfl) ?_
        refine aw_isub X dX11_least_102 ?_
        refine aw_iload X dX11_least_103 rfl ?_
        refine aw_iload_n X dX11_least_105 rfl ?_
        refine aw_isub X dX11_least_106 ?_
        refine aw_imul X dX11_least_107 ?_
        cases h
        exact aw_iret X dX11_least_108 rfl hz.symm
      rw [if_neg c8] at h
      refine aw_tswd (tgt := 109) X dX11_least_37 (by decide) (fun z h1 h2 => ?_) ?_
      · have hz9 : z = 0 ∨ z = 1 ∨ z = 2 := by omega
        rcases hz9 with rfl | rfl | rfl
        · exact c4
        · exact c6
        · exact c8
      refine aw_iconst (v := (-1)) X dX11_least_109 (by decide) ?_
      cases h
      exact aw_iret X dX11_least_110 rfl hz.symm
    · rw [if_neg c2] at h
      refine aw_iconst (v := (-1)) X dX11_least_23 (by decide) ?_
      cases h
      exact aw_iret X dX11_least_24 rfl hz.symm
set_option maxRecDepth 100000 in
set_option maxHeartbeats 4000000 in
theorem ok_X11_least {x1 x2 : Int32} {s : Mem} {r : Int32 × Mem} (h : f_X11_least x1 x2 s = some r) (l : Launch) (D : va_G) (ρ : Nat → Nat) (cA : ClassId × ClassId × ClassId) (τ : AT) : AM l D ρ cA 0 τ yX11_least cX11_least 5 (some .int) 2 [.ref (ρ 0), .int x1, .int x2] (some (.int r.1)) s r.2 := by
  refine AM_of (L := [some (.ref (ρ 0)), some (.int x1), some (.int x2), none, none]) (by decide) (by simp [Value.category]) (Nat.le_of_ble_eq_true rfl) (fun j v q => ?_) (fun Z X hρ hz hτ => ?_)
  · exact aL_ok (n := 2) [.ref (ρ 0), .int x1, .int x2] j v q
  · subst hρ
    subst hτ
    exact w_X11_least (Nat.le_refl _) Z X x1 x2 s r hz h

theorem dX11_heads_0 : decode cX11_heads 0 = .ok (.iload_n 1, 1) := by decide +kernel
theorem dX11_heads_1 : decode cX11_heads 1 = .ok (.ifCond .lt 10, 3) := by decide +kernel
theorem dX11_heads_4 : decode cX11_heads 4 = .ok (.iload_n 1, 1) := by decide +kernel
theorem dX11_heads_5 : decode cX11_heads 5 = .ok (.ldc_w 259, 3) := by decide +kernel
theorem dX11_heads_8 : decode cX11_heads 8 = .ok (.if_icmp .le 5, 3) := by decide +kernel
theorem dX11_heads_11 : decode cX11_heads 11 = .ok (.iconst (-1), 1) := by decide +kernel
theorem dX11_heads_12 : decode cX11_heads 12 = .ok (.ireturn, 1) := by decide +kernel
theorem dX11_heads_13 : decode cX11_heads 13 = .ok (.iload_n 2, 1) := by decide +kernel
theorem dX11_heads_14 : decode cX11_heads 14 = .ok (.tableswitch 41 0 2 #[26, 31, 36], 26) := by decide +kernel
theorem dX11_heads_40 : decode cX11_heads 40 = .ok (.iload_n 1, 1) := by decide +kernel
theorem dX11_heads_41 : decode cX11_heads 41 = .ok (.invokestatic 260, 3) := by decide +kernel
theorem dX11_heads_44 : decode cX11_heads 44 = .ok (.ireturn, 1) := by decide +kernel
theorem dX11_heads_45 : decode cX11_heads 45 = .ok (.iload_n 1, 1) := by decide +kernel
theorem dX11_heads_46 : decode cX11_heads 46 = .ok (.invokestatic 265, 3) := by decide +kernel
theorem dX11_heads_49 : decode cX11_heads 49 = .ok (.ireturn, 1) := by decide +kernel
theorem dX11_heads_50 : decode cX11_heads 50 = .ok (.iload_n 1, 1) := by decide +kernel
theorem dX11_heads_51 : decode cX11_heads 51 = .ok (.invokestatic 268, 3) := by decide +kernel
theorem dX11_heads_54 : decode cX11_heads 54 = .ok (.ireturn, 1) := by decide +kernel
theorem dX11_heads_55 : decode cX11_heads 55 = .ok (.iconst (-1), 1) := by decide +kernel
theorem dX11_heads_56 : decode cX11_heads 56 = .ok (.ireturn, 1) := by decide +kernel
set_option maxRecDepth 100000 in
set_option maxHeartbeats 4000000 in
theorem w_X11_heads {fr : Nat} (hfr : 2 ≤ fr) (Z : AZ) (X : AX Z cX11_heads 3 RX11 (some .int) 0 fr) (x1 : Int32) (x2 : Int32) (s : Mem) (r : Int32 × Mem) (hz : zres Z = (some (.int r.1), r.2)) (h : f_X11_heads x1 x2 s = some r) : AW Z s 0 [some (.ref (zr Z 0)), some (.int x1), some (.int x2)] [] := by
  unfold f_X11_heads at h
  refine aw_iload_n X dX11_heads_0 rfl ?_
  refine aw_if_lt (tgt := 11) X dX11_heads_1 (by decide) (fun c1 => ?_) (fun c1 => ?_)
  · rw [if_pos c1] at h
    refine aw_iconst (v := (-1)) X dX11_heads_11 (by decide) ?_
    cases h
    exact aw_iret X dX11_heads_12 rfl hz.symm
  · rw [if_neg c1] at h
    refine aw_iload_n X dX11_heads_4 rfl ?_
    refine aw_ldcw X dX11_heads_5 kc_RX11_259 ?_
    refine aw_icmp_le (tgt := 13) X dX11_heads_8 (by decide) (fun c2 => ?_) (fun c2 => ?_)
    · rw [if_pos c2] at h
      refine aw_iload_n X dX11_heads_13 rfl ?_
      by_cases c3 : x2 = 0
      · rw [if_pos c3] at h
        refine aw_tsw (tgt := 40) X dX11_heads_14 (by rw [c3]; decide) ?_
        refine aw_iload_n X dX11_heads_40 rfl ?_
        obtain ⟨r4, er4, h⟩ := bnd h
        refine aw_callS X dX11_heads_41 cv_RX11_260 (ok_X2_turned er4 _ _ _ _ _) (Nat.le_trans (by decide) hfr) (by decide) rfl rfl (Nat.le_of_ble_eq_true rfl) ?_
        cases h
        exact aw_iret X dX11_heads_44 rfl hz.symm
      rw [if_neg c3] at h
      by_cases c5 : x2 = 1
      · rw [if_pos c5] at h
        refine aw_tsw (tgt := 45) X dX11_heads_14 (by rw [c5]; decide) ?_
        refine aw_iload_n X dX11_heads_45 rfl ?_
        obtain ⟨r6, er6, h⟩ := bnd h
        refine aw_callS X dX11_heads_46 cv_RX11_265 (ok_X2_evenTurnedAbove er6 _ _ _ _ _) (Nat.le_trans (by decide) hfr) (by decide) rfl rfl (Nat.le_of_ble_eq_true rfl) ?_
        cases h
        exact aw_iret X dX11_heads_49 rfl hz.symm
      rw [if_neg c5] at h
      by_cases c7 : x2 = 2
      · rw [if_pos c7] at h
        refine aw_tsw (tgt := 50) X dX11_heads_14 (by rw [c7]; decide) ?_
        refine aw_iload_n X dX11_heads_50 rfl ?_
        obtain ⟨r8, er8, h⟩ := bnd h
        refine aw_callS X dX11_heads_51 cv_RX11_268 (ok_X2_evenTurnedUpTo er8 _ _ _ _ _) (Nat.le_trans (by decide) hfr) (by decide) rfl rfl (Nat.le_of_ble_eq_true rfl) ?_
        cases h
        exact aw_iret X dX11_heads_54 rfl hz.symm
      rw [if_neg c7] at h
      refine aw_tswd (tgt := 55) X dX11_heads_14 (by decide) (fun z h1 h2 => ?_) ?_
      · have hz9 : z = 0 ∨ z = 1 ∨ z = 2 := by omega
        rcases hz9 with rfl | rfl | rfl
        · exact c3
        · exact c5
        · exact c7
      refine aw_iconst (v := (-1)) X dX11_heads_55 (by decide) ?_
      cases h
      exact aw_iret X dX11_heads_56 rfl hz.symm
    · rw [if_neg c2] at h
      refine aw_iconst (v := (-1)) X dX11_heads_11 (by decide) ?_
      cases h
      exact aw_iret X dX11_heads_12 rfl hz.symm
set_option maxRecDepth 100000 in
set_option maxHeartbeats 4000000 in
theorem ok_X11_heads {x1 x2 : Int32} {s : Mem} {r : Int32 × Mem} (h : f_X11_heads x1 x2 s = some r) (l : Launch) (D : va_G) (ρ : Nat → Nat) (cA : ClassId × ClassId × ClassId) (τ : AT) : AM l D ρ cA 0 τ yX11_heads cX11_heads 3 (some .int) 2 [.ref (ρ 0), .int x1, .int x2] (some (.int r.1)) s r.2 := by
  refine AM_of (L := [some (.ref (ρ 0)), some (.int x1), some (.int x2)]) (by decide) (by simp [Value.category]) (Nat.le_of_ble_eq_true rfl) (fun j v q => ?_) (fun Z X hρ hz hτ => ?_)
  · exact aL_ok (n := 0) [.ref (ρ 0), .int x1, .int x2] j v q
  · subst hρ
    subst hτ
    exact w_X11_heads (Nat.le_refl _) Z X x1 x2 s r hz h

theorem dX11_said_0 : decode cX11_said 0 = .ok (.iload_n 1, 1) := by decide +kernel
theorem dX11_said_1 : decode cX11_said 1 = .ok (.iconst 1, 1) := by decide +kernel
theorem dX11_said_2 : decode cX11_said 2 = .ok (.if_icmp .lt 20, 3) := by decide +kernel
theorem dX11_said_5 : decode cX11_said 5 = .ok (.iload_n 1, 1) := by decide +kernel
theorem dX11_said_6 : decode cX11_said 6 = .ok (.sipush 9999, 3) := by decide +kernel
theorem dX11_said_9 : decode cX11_said 9 = .ok (.if_icmp .gt 13, 3) := by decide +kernel
theorem dX11_said_12 : decode cX11_said 12 = .ok (.iload_n 2, 1) := by decide +kernel
theorem dX11_said_13 : decode cX11_said 13 = .ok (.ifCond .lt 9, 3) := by decide +kernel
theorem dX11_said_16 : decode cX11_said 16 = .ok (.iload_n 2, 1) := by decide +kernel
theorem dX11_said_17 : decode cX11_said 17 = .ok (.bipush 9, 2) := by decide +kernel
theorem dX11_said_19 : decode cX11_said 19 = .ok (.if_icmp .le 5, 3) := by decide +kernel
theorem dX11_said_22 : decode cX11_said 22 = .ok (.iconst (-1), 1) := by decide +kernel
theorem dX11_said_23 : decode cX11_said 23 = .ok (.ireturn, 1) := by decide +kernel
theorem dX11_said_24 : decode cX11_said 24 = .ok (.iload_n 1, 1) := by decide +kernel
theorem dX11_said_25 : decode cX11_said 25 = .ok (.iload_n 2, 1) := by decide +kernel
theorem dX11_said_26 : decode cX11_said 26 = .ok (.invokestatic 271, 3) := by decide +kernel
theorem dX11_said_29 : decode cX11_said 29 = .ok (.ireturn, 1) := by decide +kernel
set_option maxRecDepth 100000 in
set_option maxHeartbeats 4000000 in
theorem w_X11_said {fr : Nat} (hfr : 1 ≤ fr) (Z : AZ) (X : AX Z cX11_said 3 RX11 (some .int) 0 fr) (x1 : Int32) (x2 : Int32) (s : Mem) (r : Int32 × Mem) (hz : zres Z = (some (.int r.1), r.2)) (h : f_X11_said x1 x2 s = some r) : AW Z s 0 [some (.ref (zr Z 0)), some (.int x1), some (.int x2)] [] := by
  unfold f_X11_said at h
  refine aw_iload_n X dX11_said_0 rfl ?_
  refine aw_iconst (v := 1) X dX11_said_1 (by decide) ?_
  refine aw_icmp_lt (tgt := 22) X dX11_said_2 (by decide) (fun c1 => ?_) (fun c1 => ?_)
  · rw [if_pos c1] at h
    refine aw_iconst (v := (-1)) X dX11_said_22 (by decide) ?_
    cases h
    exact aw_iret X dX11_said_23 rfl hz.symm
  · rw [if_neg c1] at h
    refine aw_iload_n X dX11_said_5 rfl ?_
    refine aw_sipush (v := 9999) X dX11_said_6 (by decide) ?_
    refine aw_icmp_gt (tgt := 22) X dX11_said_9 (by decide) (fun c2 => ?_) (fun c2 => ?_)
    · rw [if_pos c2] at h
      refine aw_iconst (v := (-1)) X dX11_said_22 (by decide) ?_
      cases h
      exact aw_iret X dX11_said_23 rfl hz.symm
    · rw [if_neg c2] at h
      refine aw_iload_n X dX11_said_12 rfl ?_
      refine aw_if_lt (tgt := 22) X dX11_said_13 (by decide) (fun c3 => ?_) (fun c3 => ?_)
      · rw [if_pos c3] at h
        refine aw_iconst (v := (-1)) X dX11_said_22 (by decide) ?_
        cases h
        exact aw_iret X dX11_said_23 rfl hz.symm
      · rw [if_neg c3] at h
        refine aw_iload_n X dX11_said_16 rfl ?_
        refine aw_bipush (v := 9) X dX11_said_17 (by decide) ?_
        refine aw_icmp_le (tgt := 24) X dX11_said_19 (by decide) (fun c4 => ?_) (fun c4 => ?_)
        · rw [if_pos c4] at h
          refine aw_iload_n X dX11_said_24 rfl ?_
          refine aw_iload_n X dX11_said_25 rfl ?_
          obtain ⟨r5, er5, h⟩ := bnd h
          refine aw_callS X dX11_said_26 cv_RX11_271 (ok_X2_digitCount er5 _ _ _ _ _) (Nat.le_trans (by decide) hfr) (by decide) rfl rfl (Nat.le_of_ble_eq_true rfl) ?_
          cases h
          exact aw_iret X dX11_said_29 rfl hz.symm
        · rw [if_neg c4] at h
          refine aw_iconst (v := (-1)) X dX11_said_22 (by decide) ?_
          cases h
          exact aw_iret X dX11_said_23 rfl hz.symm
set_option maxRecDepth 100000 in
set_option maxHeartbeats 4000000 in
theorem ok_X11_said {x1 x2 : Int32} {s : Mem} {r : Int32 × Mem} (h : f_X11_said x1 x2 s = some r) (l : Launch) (D : va_G) (ρ : Nat → Nat) (cA : ClassId × ClassId × ClassId) (τ : AT) : AM l D ρ cA 0 τ yX11_said cX11_said 3 (some .int) 1 [.ref (ρ 0), .int x1, .int x2] (some (.int r.1)) s r.2 := by
  refine AM_of (L := [some (.ref (ρ 0)), some (.int x1), some (.int x2)]) (by decide) (by simp [Value.category]) (Nat.le_of_ble_eq_true rfl) (fun j v q => ?_) (fun Z X hρ hz hτ => ?_)
  · exact aL_ok (n := 0) [.ref (ρ 0), .int x1, .int x2] j v q
  · subst hρ
    subst hτ
    exact w_X11_said (Nat.le_refl _) Z X x1 x2 s r hz h

theorem dX11_digit_0 : decode cX11_digit 0 = .ok (.iload_n 1, 1) := by decide +kernel
theorem dX11_digit_1 : decode cX11_digit 1 = .ok (.iconst 1, 1) := by decide +kernel
theorem dX11_digit_2 : decode cX11_digit 2 = .ok (.if_icmp .lt 14, 3) := by decide +kernel
theorem dX11_digit_5 : decode cX11_digit 5 = .ok (.iload_n 1, 1) := by decide +kernel
theorem dX11_digit_6 : decode cX11_digit 6 = .ok (.sipush 9999, 3) := by decide +kernel
theorem dX11_digit_9 : decode cX11_digit 9 = .ok (.if_icmp .gt 7, 3) := by decide +kernel
theorem dX11_digit_12 : decode cX11_digit 12 = .ok (.iload_n 2, 1) := by decide +kernel
theorem dX11_digit_13 : decode cX11_digit 13 = .ok (.ifCond .ge 5, 3) := by decide +kernel
theorem dX11_digit_16 : decode cX11_digit 16 = .ok (.iconst (-1), 1) := by decide +kernel
theorem dX11_digit_17 : decode cX11_digit 17 = .ok (.ireturn, 1) := by decide +kernel
theorem dX11_digit_18 : decode cX11_digit 18 = .ok (.iload_n 1, 1) := by decide +kernel
theorem dX11_digit_19 : decode cX11_digit 19 = .ok (.iload_n 2, 1) := by decide +kernel
theorem dX11_digit_20 : decode cX11_digit 20 = .ok (.invokestatic 274, 3) := by decide +kernel
theorem dX11_digit_23 : decode cX11_digit 23 = .ok (.ireturn, 1) := by decide +kernel
set_option maxRecDepth 100000 in
set_option maxHeartbeats 4000000 in
theorem w_X11_digit {fr : Nat} (hfr : 2 ≤ fr) (Z : AZ) (X : AX Z cX11_digit 3 RX11 (some .int) 0 fr) (x1 : Int32) (x2 : Int32) (s : Mem) (r : Int32 × Mem) (hz : zres Z = (some (.int r.1), r.2)) (h : f_X11_digit x1 x2 s = some r) : AW Z s 0 [some (.ref (zr Z 0)), some (.int x1), some (.int x2)] [] := by
  unfold f_X11_digit at h
  refine aw_iload_n X dX11_digit_0 rfl ?_
  refine aw_iconst (v := 1) X dX11_digit_1 (by decide) ?_
  refine aw_icmp_lt (tgt := 16) X dX11_digit_2 (by decide) (fun c1 => ?_) (fun c1 => ?_)
  · rw [if_pos c1] at h
    refine aw_iconst (v := (-1)) X dX11_digit_16 (by decide) ?_
    cases h
    exact aw_iret X dX11_digit_17 rfl hz.symm
  · rw [if_neg c1] at h
    refine aw_iload_n X dX11_digit_5 rfl ?_
    refine aw_sipush (v := 9999) X dX11_digit_6 (by decide) ?_
    refine aw_icmp_gt (tgt := 16) X dX11_digit_9 (by decide) (fun c2 => ?_) (fun c2 => ?_)
    · rw [if_pos c2] at h
      refine aw_iconst (v := (-1)) X dX11_digit_16 (by decide) ?_
      cases h
      exact aw_iret X dX11_digit_17 rfl hz.symm
    · rw [if_neg c2] at h
      refine aw_iload_n X dX11_digit_12 rfl ?_
      refine aw_if_ge (tgt := 18) X dX11_digit_13 (by decide) (fun c3 => ?_) (fun c3 => ?_)
      · rw [if_pos c3] at h
        refine aw_iload_n X dX11_digit_18 rfl ?_
        refine aw_iload_n X dX11_digit_19 rfl ?_
        obtain ⟨r4, er4, h⟩ := bnd h
        refine aw_callS X dX11_digit_20 cv_RX11_274 (ok_X2_digitAt er4 _ _ _ _ _) (Nat.le_trans (by decide) hfr) (by decide) rfl rfl (Nat.le_of_ble_eq_true rfl) ?_
        cases h
        exact aw_iret X dX11_digit_23 rfl hz.symm
      · rw [if_neg c3] at h
        refine aw_iconst (v := (-1)) X dX11_digit_16 (by decide) ?_
        cases h
        exact aw_iret X dX11_digit_17 rfl hz.symm
set_option maxRecDepth 100000 in
set_option maxHeartbeats 4000000 in
theorem ok_X11_digit {x1 x2 : Int32} {s : Mem} {r : Int32 × Mem} (h : f_X11_digit x1 x2 s = some r) (l : Launch) (D : va_G) (ρ : Nat → Nat) (cA : ClassId × ClassId × ClassId) (τ : AT) : AM l D ρ cA 0 τ yX11_digit cX11_digit 3 (some .int) 2 [.ref (ρ 0), .int x1, .int x2] (some (.int r.1)) s r.2 := by
  refine AM_of (L := [some (.ref (ρ 0)), some (.int x1), some (.int x2)]) (by decide) (by simp [Value.category]) (Nat.le_of_ble_eq_true rfl) (fun j v q => ?_) (fun Z X hρ hz hτ => ?_)
  · exact aL_ok (n := 0) [.ref (ρ 0), .int x1, .int x2] j v q
  · subst hρ
    subst hτ
    exact w_X11_digit (Nat.le_refl _) Z X x1 x2 s r hz h

theorem dX11_call_0 : decode cX11_call 0 = .ok (.aload_n 0, 1) := by decide +kernel
theorem dX11_call_1 : decode cX11_call 1 = .ok (.getfield 10, 3) := by decide +kernel
theorem dX11_call_4 : decode cX11_call 4 = .ok (.getfield 222, 3) := by decide +kernel
theorem dX11_call_7 : decode cX11_call 7 = .ok (.astore 4, 2) := by decide +kernel
theorem dX11_call_9 : decode cX11_call 9 = .ok (.iload_n 1, 1) := by decide +kernel
theorem dX11_call_10 : decode cX11_call 10 = .ok (.iconst (-1), 1) := by decide +kernel
theorem dX11_call_11 : decode cX11_call 11 = .ok (.if_icmp .ne 30, 3) := by decide +kernel
theorem dX11_call_14 : decode cX11_call 14 = .ok (.aload 4, 2) := by decide +kernel
theorem dX11_call_16 : decode cX11_call 16 = .ok (.getfield 277, 3) := by decide +kernel
theorem dX11_call_19 : decode cX11_call 19 = .ok (.invokevirtual 232, 3) := by decide +kernel
theorem dX11_call_22 : decode cX11_call 22 = .ok (.pop, 1) := by decide +kernel
theorem dX11_call_23 : decode cX11_call 23 = .ok (.aload 4, 2) := by decide +kernel
theorem dX11_call_25 : decode cX11_call 25 = .ok (.getfield 280, 3) := by decide +kernel
theorem dX11_call_28 : decode cX11_call 28 = .ok (.invokevirtual 232, 3) := by decide +kernel
theorem dX11_call_31 : decode cX11_call 31 = .ok (.pop, 1) := by decide +kernel
theorem dX11_call_32 : decode cX11_call 32 = .ok (.aload 4, 2) := by decide +kernel
theorem dX11_call_34 : decode cX11_call 34 = .ok (.getfield 283, 3) := by decide +kernel
theorem dX11_call_37 : decode cX11_call 37 = .ok (.invokevirtual 232, 3) := by decide +kernel
theorem dX11_call_40 : decode cX11_call 40 = .ok (.ireturn, 1) := by decide +kernel
theorem dX11_call_41 : decode cX11_call 41 = .ok (.iload_n 1, 1) := by decide +kernel
theorem dX11_call_42 : decode cX11_call 42 = .ok (.ifCond .lt 36, 3) := by decide +kernel
theorem dX11_call_45 : decode cX11_call 45 = .ok (.iload_n 2, 1) := by decide +kernel
theorem dX11_call_46 : decode cX11_call 46 = .ok (.bipush 99, 2) := by decide +kernel
theorem dX11_call_48 : decode cX11_call 48 = .ok (.if_icmp .gt 30, 3) := by decide +kernel
theorem dX11_call_51 : decode cX11_call 51 = .ok (.iload_n 1, 1) := by decide +kernel
theorem dX11_call_52 : decode cX11_call 52 = .ok (.iload_n 2, 1) := by decide +kernel
theorem dX11_call_53 : decode cX11_call 53 = .ok (.if_icmp .ge 25, 3) := by decide +kernel
theorem dX11_call_56 : decode cX11_call 56 = .ok (.iload_n 3, 1) := by decide +kernel
theorem dX11_call_57 : decode cX11_call 57 = .ok (.iconst 1, 1) := by decide +kernel
theorem dX11_call_58 : decode cX11_call 58 = .ok (.if_icmp .lt 20, 3) := by decide +kernel
theorem dX11_call_61 : decode cX11_call 61 = .ok (.iload_n 3, 1) := by decide +kernel
theorem dX11_call_62 : decode cX11_call 62 = .ok (.bipush 99, 2) := by decide +kernel
theorem dX11_call_64 : decode cX11_call 64 = .ok (.if_icmp .gt 14, 3) := by decide +kernel
theorem dX11_call_67 : decode cX11_call 67 = .ok (.aload 4, 2) := by decide +kernel
theorem dX11_call_69 : decode cX11_call 69 = .ok (.getfield 277, 3) := by decide +kernel
theorem dX11_call_72 : decode cX11_call 72 = .ok (.invokevirtual 237, 3) := by decide +kernel
theorem dX11_call_75 : decode cX11_call 75 = .ok (.ifCond .eq 5, 3) := by decide +kernel
theorem dX11_call_78 : decode cX11_call 78 = .ok (.iconst (-1), 1) := by decide +kernel
theorem dX11_call_79 : decode cX11_call 79 = .ok (.ireturn, 1) := by decide +kernel
theorem dX11_call_80 : decode cX11_call 80 = .ok (.aload 4, 2) := by decide +kernel
theorem dX11_call_82 : decode cX11_call 82 = .ok (.getfield 277, 3) := by decide +kernel
theorem dX11_call_85 : decode cX11_call 85 = .ok (.iload_n 1, 1) := by decide +kernel
theorem dX11_call_86 : decode cX11_call 86 = .ok (.invokevirtual 241, 3) := by decide +kernel
theorem dX11_call_89 : decode cX11_call 89 = .ok (.pop, 1) := by decide +kernel
theorem dX11_call_90 : decode cX11_call 90 = .ok (.aload 4, 2) := by decide +kernel
theorem dX11_call_92 : decode cX11_call 92 = .ok (.getfield 280, 3) := by decide +kernel
theorem dX11_call_95 : decode cX11_call 95 = .ok (.iload_n 2, 1) := by decide +kernel
theorem dX11_call_96 : decode cX11_call 96 = .ok (.invokevirtual 241, 3) := by decide +kernel
theorem dX11_call_99 : decode cX11_call 99 = .ok (.pop, 1) := by decide +kernel
theorem dX11_call_100 : decode cX11_call 100 = .ok (.aload 4, 2) := by decide +kernel
theorem dX11_call_102 : decode cX11_call 102 = .ok (.getfield 283, 3) := by decide +kernel
theorem dX11_call_105 : decode cX11_call 105 = .ok (.iload_n 3, 1) := by decide +kernel
theorem dX11_call_106 : decode cX11_call 106 = .ok (.invokevirtual 241, 3) := by decide +kernel
theorem dX11_call_109 : decode cX11_call 109 = .ok (.ireturn, 1) := by decide +kernel
set_option maxRecDepth 100000 in
set_option maxHeartbeats 4000000 in
theorem w_X11_call {fr : Nat} (hfr : 2 ≤ fr) (Z : AZ) (X : AX Z cX11_call 5 RX11 (some .int) 0 fr) (x1 : Int32) (x2 : Int32) (x3 : Int32) (s : Mem) (r : Int32 × Mem) (hz : zres Z = (some (.int r.1), r.2)) (h : f_X11_call x1 x2 x3 s = some r) : AW Z s 0 [some (.ref (zr Z 0)), some (.int x1), some (.int x2), some (.int x3), none] [] := by
  unfold f_X11_call at h
  refine aw_aload_n X dX11_call_0 rfl ?_
  refine aw_getr X dX11_call_1 fl_RX11_10 iu_RX11 gu_RX11_0 ?_
  refine aw_getr X dX11_call_4 fl_RX11_222 iu_RX11_0 (gt_RX10_5 iu_RX11_0) ?_
  refine aw_astore (L' := [some (.ref (zr Z 0)), some (.int x1), some (.int x2), some (.int x3), some (.ref (zr Z (1 + 31)))]) X dX11_call_7 (by decide) rfl ?_
  refine aw_iload_n X dX11_call_9 rfl ?_
  refine aw_iconst (v := (-1)) X dX11_call_10 (by decide) ?_
  refine aw_icmp_ne (tgt := 41) X dX11_call_11 (by decide) (fun c1 => ?_) (fun c1 => ?_)
  · rw [if_neg c1] at h
    refine aw_iload_n X dX11_call_41 rfl ?_
    refine aw_if_lt (tgt := 78) X dX11_call_42 (by decide) (fun c2 => ?_) (fun c2 => ?_)
    · rw [if_pos c2] at h
      refine aw_iconst (v := (-1)) X dX11_call_78 (by decide) ?_
      cases h
      exact aw_iret X dX11_call_79 rfl hz.symm
    · rw [if_neg c2] at h
      refine aw_iload_n X dX11_call_45 rfl ?_
      refine aw_bipush (v := 99) X dX11_call_46 (by decide) ?_
      refine aw_icmp_gt (tgt := 78) X dX11_call_48 (by decide) (fun c3 => ?_) (fun c3 => ?_)
      · rw [if_pos c3] at h
        refine aw_iconst (v := (-1)) X dX11_call_78 (by decide) ?_
        cases h
        exact aw_iret X dX11_call_79 rfl hz.symm
      · rw [if_neg c3] at h
        refine aw_iload_n X dX11_call_51 rfl ?_
        refine aw_iload_n X dX11_call_52 rfl ?_
        refine aw_icmp_ge (tgt := 78) X dX11_call_53 (by decide) (fun c4 => ?_) (fun c4 => ?_)
        · rw [if_pos c4] at h
          refine aw_iconst (v := (-1)) X dX11_call_78 (by decide) ?_
          cases h
          exact aw_iret X dX11_call_79 rfl hz.symm
        · rw [if_neg c4] at h
          refine aw_iload_n X dX11_call_56 rfl ?_
          refine aw_iconst (v := 1) X dX11_call_57 (by decide) ?_
          refine aw_icmp_lt (tgt := 78) X dX11_call_58 (by decide) (fun c5 => ?_) (fun c5 => ?_)
          · rw [if_pos c5] at h
            refine aw_iconst (v := (-1)) X dX11_call_78 (by decide) ?_
            cases h
            exact aw_iret X dX11_call_79 rfl hz.symm
          · rw [if_neg c5] at h
            refine aw_iload_n X dX11_call_61 rfl ?_
            refine aw_bipush (v := 99) X dX11_call_62 (by decide) ?_
            refine aw_icmp_gt (tgt := 78) X dX11_call_64 (by decide) (fun c6 => ?_) (fun c6 => ?_)
            · rw [if_pos c6] at h
              refine aw_iconst (v := (-1)) X dX11_call_78 (by decide) ?_
              cases h
              exact aw_iret X dX11_call_79 rfl hz.symm
            · rw [if_neg c6] at h
              refine aw_aload X dX11_call_67 rfl ?_
              refine aw_getr X dX11_call_69 fl_RX11_277 (it_RX10_5 iu_RX11_0) (gt_RX8_1 (it_RX10_5 iu_RX11_0)) ?_
              obtain ⟨r7, er7, h⟩ := bnd h
              refine aw_callV X dX11_call_72 cv_RX11_237 (ok_X7_isFull (it_RX8_1 (it_RX10_5 iu_RX11_0)) er7 _ _ _ _ _) (it_RX8_1 (it_RX10_5 iu_RX11_0)) rfl (Nat.le_trans (by decide) hfr) (by decide) rfl rfl (Nat.le_of_ble_eq_true rfl) ?_
              refine aw_if_eq (tgt := 80) X dX11_call_75 (by decide) (fun c8 => ?_) (fun c8 => ?_)
              · rw [if_pos c8] at h
                refine aw_aload X dX11_call_80 rfl ?_
                refine aw_getr X dX11_call_82 fl_RX11_277 (it_RX10_5 iu_RX11_0) (gt_RX8_1 (it_RX10_5 iu_RX11_0)) ?_
                refine aw_iload_n X dX11_call_85 rfl ?_
                obtain ⟨r9, er9, h⟩ := bnd h
                refine aw_callV X dX11_call_86 cv_RX11_241 (ok_X7_add (it_RX8_1 (it_RX10_5 iu_RX11_0)) er9 _ _ _ _ _) (it_RX8_1 (it_RX10_5 iu_RX11_0)) rfl (Nat.le_trans (by decide) hfr) (by decide) rfl rfl (Nat.le_of_ble_eq_true rfl) ?_
                refine aw_pop X dX11_call_89 rfl ?_
                refine aw_aload X dX11_call_90 rfl ?_
                refine aw_getr X dX11_call_92 fl_RX11_280 (it_RX10_5 iu_RX11_0) (gt_RX8_2 (it_RX10_5 iu_RX11_0)) ?_
                refine aw_iload_n X dX11_call_95 rfl ?_
                obtain ⟨r10, er10, h⟩ := bnd h
                refine aw_callV X dX11_call_96 cv_RX11_241 (ok_X7_add (it_RX8_2 (it_RX10_5 iu_RX11_0)) er10 _ _ _ _ _) (it_RX8_2 (it_RX10_5 iu_RX11_0)) rfl (Nat.le_trans (by decide) hfr) (by decide) rfl rfl (Nat.le_of_ble_eq_true rfl) ?_
                refine aw_pop X dX11_call_99 rfl ?_
                refine aw_aload X dX11_call_100 rfl ?_
                refine aw_getr X dX11_call_102 fl_RX11_283 (it_RX10_5 iu_RX11_0) (gt_RX8_3 (it_RX10_5 iu_RX11_0)) ?_
                refine aw_iload_n X dX11_call_105 rfl ?_
                obtain ⟨r11, er11, h⟩ := bnd h
                refine aw_callV X dX11_call_106 cv_RX11_241 (ok_X7_add (it_RX8_3 (it_RX10_5 iu_RX11_0)) er11 _ _ _ _ _) (it_RX8_3 (it_RX10_5 iu_RX11_0)) rfl (Nat.le_trans (by decide) hfr) (by decide) rfl rfl (Nat.le_of_ble_eq_true rfl) ?_
                cases h
                exact aw_iret X dX11_call_109 rfl hz.symm
              · rw [if_neg c8] at h
                refine aw_iconst (v := (-1)) X dX11_call_78 (by decide) ?_
                cases h
                exact aw_iret X dX11_call_79 rfl hz.symm
  · rw [if_pos c1] at h
    refine aw_aload X dX11_call_14 rfl ?_
    refine aw_getr X dX11_call_16 fl_RX11_277 (it_RX10_5 iu_RX11_0) (gt_RX8_1 (it_RX10_5 iu_RX11_0)) ?_
    obtain ⟨r12, er12, h⟩ := bnd h
    refine aw_callV X dX11_call_19 cv_RX11_232 (ok_X7_clear (it_RX8_1 (it_RX10_5 iu_RX11_0)) er12 _ _ _ _ _) (it_RX8_1 (it_RX10_5 iu_RX11_0)) rfl (Nat.le_trans (by decide) hfr) (by decide) rfl rfl (Nat.le_of_ble_eq_true rfl) ?_
    refine aw_pop X dX11_call_22 rfl ?_
    refine aw_aload X dX11_call_23 rfl ?_
    refine aw_getr X dX11_call_25 fl_RX11_280 (it_RX10_5 iu_RX11_0) (gt_RX8_2 (it_RX10_5 iu_RX11_0)) ?_
    obtain ⟨r13, er13, h⟩ := bnd h
    refine aw_callV X dX11_call_28 cv_RX11_232 (ok_X7_clear (it_RX8_2 (it_RX10_5 iu_RX11_0)) er13 _ _ _ _ _) (it_RX8_2 (it_RX10_5 iu_RX11_0)) rfl (Nat.le_trans (by decide) hfr) (by decide) rfl rfl (Nat.le_of_ble_eq_true rfl) ?_
    refine aw_pop X dX11_call_31 rfl ?_
    refine aw_aload X dX11_call_32 rfl ?_
    refine aw_getr X dX11_call_34 fl_RX11_283 (it_RX10_5 iu_RX11_0) (gt_RX8_3 (it_RX10_5 iu_RX11_0)) ?_
    obtain ⟨r14, er14, h⟩ := bnd h
    refine aw_callV X dX11_call_37 cv_RX11_232 (ok_X7_clear (it_RX8_3 (it_RX10_5 iu_RX11_0)) er14 _ _ _ _ _) (it_RX8_3 (it_RX10_5 iu_RX11_0)) rfl (Nat.le_trans (by decide) hfr) (by decide) rfl rfl (Nat.le_of_ble_eq_true rfl) ?_
    cases h
    exact aw_iret X dX11_call_40 rfl hz.symm
set_option maxRecDepth 100000 in
set_option maxHeartbeats 4000000 in
theorem ok_X11_call {x1 x2 x3 : Int32} {s : Mem} {r : Int32 × Mem} (h : f_X11_call x1 x2 x3 s = some r) (l : Launch) (D : va_G) (ρ : Nat → Nat) (cA : ClassId × ClassId × ClassId) (τ : AT) : AM l D ρ cA 0 τ yX11_call cX11_call 5 (some .int) 2 [.ref (ρ 0), .int x1, .int x2, .int x3] (some (.int r.1)) s r.2 := by
  refine AM_of (L := [some (.ref (ρ 0)), some (.int x1), some (.int x2), some (.int x3), none]) (by decide) (by simp [Value.category]) (Nat.le_of_ble_eq_true rfl) (fun j v q => ?_) (fun Z X hρ hz hτ => ?_)
  · exact aL_ok (n := 1) [.ref (ρ 0), .int x1, .int x2, .int x3] j v q
  · subst hρ
    subst hτ
    exact w_X11_call (Nat.le_refl _) Z X x1 x2 x3 s r hz h

theorem dX11_calls_0 : decode cX11_calls 0 = .ok (.iload_n 1, 1) := by decide +kernel
theorem dX11_calls_1 : decode cX11_calls 1 = .ok (.tableswitch 91 0 3 #[31, 46, 61, 76], 31) := by decide +kernel
theorem dX11_calls_32 : decode cX11_calls 32 = .ok (.aload_n 0, 1) := by decide +kernel
theorem dX11_calls_33 : decode cX11_calls 33 = .ok (.getfield 53, 3) := by decide +kernel
theorem dX11_calls_36 : decode cX11_calls 36 = .ok (.aload_n 0, 1) := by decide +kernel
theorem dX11_calls_37 : decode cX11_calls 37 = .ok (.getfield 10, 3) := by decide +kernel
theorem dX11_calls_40 : decode cX11_calls 40 = .ok (.getfield 222, 3) := by decide +kernel
theorem dX11_calls_43 : decode cX11_calls 43 = .ok (.invokevirtual 286, 3) := by decide +kernel
theorem dX11_calls_46 : decode cX11_calls 46 = .ok (.ireturn, 1) := by decide +kernel
theorem dX11_calls_47 : decode cX11_calls 47 = .ok (.aload_n 0, 1) := by decide +kernel
theorem dX11_calls_48 : decode cX11_calls 48 = .ok (.getfield 53, 3) := by decide +kernel
theorem dX11_calls_51 : decode cX11_calls 51 = .ok (.aload_n 0, 1) := by decide +kernel
theorem dX11_calls_52 : decode cX11_calls 52 = .ok (.getfield 10, 3) := by decide +kernel
theorem dX11_calls_55 : decode cX11_calls 55 = .ok (.getfield 222, 3) := by decide +kernel
theorem dX11_calls_58 : decode cX11_calls 58 = .ok (.invokevirtual 290, 3) := by decide +kernel
theorem dX11_calls_61 : decode cX11_calls 61 = .ok (.ireturn, 1) := by decide +kernel
theorem dX11_calls_62 : decode cX11_calls 62 = .ok (.aload_n 0, 1) := by decide +kernel
theorem dX11_calls_63 : decode cX11_calls 63 = .ok (.getfield 53, 3) := by decide +kernel
theorem dX11_calls_66 : decode cX11_calls 66 = .ok (.aload_n 0, 1) := by decide +kernel
theorem dX11_calls_67 : decode cX11_calls 67 = .ok (.getfield 10, 3) := by decide +kernel
theorem dX11_calls_70 : decode cX11_calls 70 = .ok (.getfield 222, 3) := by decide +kernel
theorem dX11_calls_73 : decode cX11_calls 73 = .ok (.invokevirtual 293, 3) := by decide +kernel
theorem dX11_calls_76 : decode cX11_calls 76 = .ok (.ireturn, 1) := by decide +kernel
theorem dX11_calls_77 : decode cX11_calls 77 = .ok (.aload_n 0, 1) := by decide +kernel
theorem dX11_calls_78 : decode cX11_calls 78 = .ok (.getfield 53, 3) := by decide +kernel
theorem dX11_calls_81 : decode cX11_calls 81 = .ok (.aload_n 0, 1) := by decide +kernel
theorem dX11_calls_82 : decode cX11_calls 82 = .ok (.getfield 10, 3) := by decide +kernel
theorem dX11_calls_85 : decode cX11_calls 85 = .ok (.getfield 222, 3) := by decide +kernel
theorem dX11_calls_88 : decode cX11_calls 88 = .ok (.invokevirtual 296, 3) := by decide +kernel
theorem dX11_calls_91 : decode cX11_calls 91 = .ok (.ireturn, 1) := by decide +kernel
theorem dX11_calls_92 : decode cX11_calls 92 = .ok (.iconst (-1), 1) := by decide +kernel
theorem dX11_calls_93 : decode cX11_calls 93 = .ok (.ireturn, 1) := by decide +kernel
set_option maxRecDepth 100000 in
set_option maxHeartbeats 4000000 in
theorem w_X11_calls {fr : Nat} (hfr : 3 ≤ fr) (Z : AZ) (X : AX Z cX11_calls 2 RX11 (some .int) 0 fr) (x1 : Int32) (s : Mem) (r : Int32 × Mem) (hz : zres Z = (some (.int r.1), r.2)) (h : f_X11_calls x1 s = some r) : AW Z s 0 [some (.ref (zr Z 0)), some (.int x1)] [] := by
  unfold f_X11_calls at h
  refine aw_iload_n X dX11_calls_0 rfl ?_
  by_cases c1 : x1 = 0
  · rw [if_pos c1] at h
    refine aw_tsw (tgt := 32) X dX11_calls_1 (by rw [c1]; decide) ?_
    refine aw_aload_n X dX11_calls_32 rfl ?_
    refine aw_getr X dX11_calls_33 fl_RX11_53 iu_RX11 gu_RX11_8 ?_
    refine aw_aload_n X dX11_calls_36 rfl ?_
    refine aw_getr X dX11_calls_37 fl_RX11_10 iu_RX11 gu_RX11_0 ?_
    refine aw_getr X dX11_calls_40 fl_RX11_222 iu_RX11_0 (gt_RX10_5 iu_RX11_0) ?_
    obtain ⟨r2, er2, h⟩ := bnd h
    refine aw_callV X dX11_calls_43 cv_RX11_286 (ok_X9_greatestWorth (it_RX10_5 iu_RX11_0) er2 _ _ _ _ _) iu_RX11_8 rfl (Nat.le_trans (by decide) hfr) (by decide) rfl rfl (Nat.le_of_ble_eq_true rfl) ?_
    cases h
    exact aw_iret X dX11_calls_46 rfl hz.symm
  rw [if_neg c1] at h
  by_cases c3 : x1 = 1
  · rw [if_pos c3] at h
    refine aw_tsw (tgt := 47) X dX11_calls_1 (by rw [c3]; decide) ?_
    refine aw_aload_n X dX11_calls_47 rfl ?_
    refine aw_getr X dX11_calls_48 fl_RX11_53 iu_RX11 gu_RX11_8 ?_
    refine aw_aload_n X dX11_calls_51 rfl ?_
    refine aw_getr X dX11_calls_52 fl_RX11_10 iu_RX11 gu_RX11_0 ?_
    refine aw_getr X dX11_calls_55 fl_RX11_222 iu_RX11_0 (gt_RX10_5 iu_RX11_0) ?_
    obtain ⟨r4, er4, h⟩ := bnd h
    refine aw_callV X dX11_calls_58 cv_RX11_290 (ok_X9_fewestCalls (it_RX10_5 iu_RX11_0) er4 _ _ _ _ _) iu_RX11_8 rfl (Nat.le_trans (by decide) hfr) (by decide) rfl rfl (Nat.le_of_ble_eq_true rfl) ?_
    cases h
    exact aw_iret X dX11_calls_61 rfl hz.symm
  rw [if_neg c3] at h
  by_cases c5 : x1 = 2
  · rw [if_pos c5] at h
    refine aw_tsw (tgt := 62) X dX11_calls_1 (by rw [c5]; decide) ?_
    refine aw_aload_n X dX11_calls_62 rfl ?_
    refine aw_getr X dX11_calls_63 fl_RX11_53 iu_RX11 gu_RX11_8 ?_
    refine aw_aload_n X dX11_calls_66 rfl ?_
    refine aw_getr X dX11_calls_67 fl_RX11_10 iu_RX11 gu_RX11_0 ?_
    refine aw_getr X dX11_calls_70 fl_RX11_222 iu_RX11_0 (gt_RX10_5 iu_RX11_0) ?_
    obtain ⟨r6, er6, h⟩ := bnd h
    refine aw_callV X dX11_calls_73 cv_RX11_293 (ok_X9_minutesInCalls (it_RX10_5 iu_RX11_0) er6 _ _ _ _ _) iu_RX11_8 rfl (Nat.le_trans (by decide) hfr) (by decide) rfl rfl (Nat.le_of_ble_eq_true rfl) ?_
    cases h
    exact aw_iret X dX11_calls_76 rfl hz.symm
  rw [if_neg c5] at h
  by_cases c7 : x1 = 3
  · rw [if_pos c7] at h
    refine aw_tsw (tgt := 77) X dX11_calls_1 (by rw [c7]; decide) ?_
    refine aw_aload_n X dX11_calls_77 rfl ?_
    refine aw_getr X dX11_calls_78 fl_RX11_53 iu_RX11 gu_RX11_8 ?_
    refine aw_aload_n X dX11_calls_81 rfl ?_
    refine aw_getr X dX11_calls_82 fl_RX11_10 iu_RX11 gu_RX11_0 ?_
    refine aw_getr X dX11_calls_85 fl_RX11_222 iu_RX11_0 (gt_RX10_5 iu_RX11_0) ?_
    obtain ⟨r8, er8, h⟩ := bnd h
    refine aw_callV X dX11_calls_88 cv_RX11_296 (ok_X9_callsAtOnce (it_RX10_5 iu_RX11_0) er8 _ _ _ _ _) iu_RX11_8 rfl (Nat.le_trans (by decide) hfr) (by decide) rfl rfl (Nat.le_of_ble_eq_true rfl) ?_
    cases h
    exact aw_iret X dX11_calls_91 rfl hz.symm
  rw [if_neg c7] at h
  refine aw_tswd (tgt := 92) X dX11_calls_1 (by decide) (fun z h1 h2 => ?_) ?_
  · have hz9 : z = 0 ∨ z = 1 ∨ z = 2 ∨ z = 3 := by omega
    rcases hz9 with rfl | rfl | rfl | rfl
    · exact c1
    · exact c3
    · exact c5
    · exact c7
  refine aw_iconst (v := (-1)) X dX11_calls_92 (by decide) ?_
  cases h
  exact aw_iret X dX11_calls_93 rfl hz.symm
set_option maxRecDepth 100000 in
set_option maxHeartbeats 4000000 in
theorem ok_X11_calls {x1 : Int32} {s : Mem} {r : Int32 × Mem} (h : f_X11_calls x1 s = some r) (l : Launch) (D : va_G) (ρ : Nat → Nat) (cA : ClassId × ClassId × ClassId) (τ : AT) : AM l D ρ cA 0 τ yX11_calls cX11_calls 2 (some .int) 3 [.ref (ρ 0), .int x1] (some (.int r.1)) s r.2 := by
  refine AM_of (L := [some (.ref (ρ 0)), some (.int x1)]) (by decide) (by simp [Value.category]) (Nat.le_of_ble_eq_true rfl) (fun j v q => ?_) (fun Z X hρ hz hτ => ?_)
  · exact aL_ok (n := 0) [.ref (ρ 0), .int x1] j v q
  · subst hρ
    subst hτ
    exact w_X11_calls (Nat.le_refl _) Z X x1 s r hz h

theorem dX11_hics_0 : decode cX11_hics 0 = .ok (.iload_n 1, 1) := by decide +kernel
theorem dX11_hics_1 : decode cX11_hics 1 = .ok (.ifCond .lt 19, 3) := by decide +kernel
theorem dX11_hics_4 : decode cX11_hics 4 = .ok (.iload_n 2, 1) := by decide +kernel
theorem dX11_hics_5 : decode cX11_hics 5 = .ok (.iconst 1, 1) := by decide +kernel
theorem dX11_hics_6 : decode cX11_hics 6 = .ok (.if_icmp .lt 14, 3) := by decide +kernel
theorem dX11_hics_9 : decode cX11_hics 9 = .ok (.iload_n 2, 1) := by decide +kernel
theorem dX11_hics_10 : decode cX11_hics 10 = .ok (.bipush 30, 2) := by decide +kernel
theorem dX11_hics_12 : decode cX11_hics 12 = .ok (.if_icmp .gt 8, 3) := by decide +kernel
theorem dX11_hics_15 : decode cX11_hics 15 = .ok (.iload_n 1, 1) := by decide +kernel
theorem dX11_hics_16 : decode cX11_hics 16 = .ok (.iload_n 2, 1) := by decide +kernel
theorem dX11_hics_17 : decode cX11_hics 17 = .ok (.if_icmp .le 5, 3) := by decide +kernel
theorem dX11_hics_20 : decode cX11_hics 20 = .ok (.iconst (-1), 1) := by decide +kernel
theorem dX11_hics_21 : decode cX11_hics 21 = .ok (.ireturn, 1) := by decide +kernel
theorem dX11_hics_22 : decode cX11_hics 22 = .ok (.iload_n 3, 1) := by decide +kernel
theorem dX11_hics_23 : decode cX11_hics 23 = .ok (.bipush 100, 2) := by decide +kernel
theorem dX11_hics_25 : decode cX11_hics 25 = .ok (.if_icmp .ne 9, 3) := by decide +kernel
theorem dX11_hics_28 : decode cX11_hics 28 = .ok (.iload_n 1, 1) := by decide +kernel
theorem dX11_hics_29 : decode cX11_hics 29 = .ok (.iload_n 2, 1) := by decide +kernel
theorem dX11_hics_30 : decode cX11_hics 30 = .ok (.invokestatic 299, 3) := by decide +kernel
theorem dX11_hics_33 : decode cX11_hics 33 = .ok (.ireturn, 1) := by decide +kernel
theorem dX11_hics_34 : decode cX11_hics 34 = .ok (.iload_n 3, 1) := by decide +kernel
theorem dX11_hics_35 : decode cX11_hics 35 = .ok (.ifCond .lt 8, 3) := by decide +kernel
theorem dX11_hics_38 : decode cX11_hics 38 = .ok (.iload_n 3, 1) := by decide +kernel
theorem dX11_hics_39 : decode cX11_hics 39 = .ok (.iload_n 2, 1) := by decide +kernel
theorem dX11_hics_40 : decode cX11_hics 40 = .ok (.if_icmp .lt 5, 3) := by decide +kernel
theorem dX11_hics_43 : decode cX11_hics 43 = .ok (.iconst (-1), 1) := by decide +kernel
theorem dX11_hics_44 : decode cX11_hics 44 = .ok (.ireturn, 1) := by decide +kernel
theorem dX11_hics_45 : decode cX11_hics 45 = .ok (.iload_n 1, 1) := by decide +kernel
theorem dX11_hics_46 : decode cX11_hics 46 = .ok (.iload_n 2, 1) := by decide +kernel
theorem dX11_hics_47 : decode cX11_hics 47 = .ok (.iload_n 3, 1) := by decide +kernel
theorem dX11_hics_48 : decode cX11_hics 48 = .ok (.invokestatic 302, 3) := by decide +kernel
theorem dX11_hics_51 : decode cX11_hics 51 = .ok (.ifCond .eq 7, 3) := by decide +kernel
theorem dX11_hics_54 : decode cX11_hics 54 = .ok (.iconst 1, 1) := by decide +kernel
theorem dX11_hics_55 : decode cX11_hics 55 = .ok (.goto 4, 3) := by decide +kernel
theorem dX11_hics_58 : decode cX11_hics 58 = .ok (.iconst 0, 1) := by decide +kernel
theorem dX11_hics_59 : decode cX11_hics 59 = .ok (.ireturn, 1) := by decide +kernel
set_option maxRecDepth 100000 in
set_option maxHeartbeats 4000000 in
theorem w_X11_hics {fr : Nat} (hfr : 2 ≤ fr) (Z : AZ) (X : AX Z cX11_hics 4 RX11 (some .int) 0 fr) (x1 : Int32) (x2 : Int32) (x3 : Int32) (s : Mem) (r : Int32 × Mem) (hz : zres Z = (some (.int r.1), r.2)) (h : f_X11_hics x1 x2 x3 s = some r) : AW Z s 0 [some (.ref (zr Z 0)), some (.int x1), some (.int x2), some (.int x3)] [] := by
  unfold f_X11_hics at h
  refine aw_iload_n X dX11_hics_0 rfl ?_
  refine aw_if_lt (tgt := 20) X dX11_hics_1 (by decide) (fun c1 => ?_) (fun c1 => ?_)
  · rw [if_pos c1] at h
    refine aw_iconst (v := (-1)) X dX11_hics_20 (by decide) ?_
    cases h
    exact aw_iret X dX11_hics_21 rfl hz.symm
  · rw [if_neg c1] at h
    refine aw_iload_n X dX11_hics_4 rfl ?_
    refine aw_iconst (v := 1) X dX11_hics_5 (by decide) ?_
    refine aw_icmp_lt (tgt := 20) X dX11_hics_6 (by decide) (fun c2 => ?_) (fun c2 => ?_)
    · rw [if_pos c2] at h
      refine aw_iconst (v := (-1)) X dX11_hics_20 (by decide) ?_
      cases h
      exact aw_iret X dX11_hics_21 rfl hz.symm
    · rw [if_neg c2] at h
      refine aw_iload_n X dX11_hics_9 rfl ?_
      refine aw_bipush (v := 30) X dX11_hics_10 (by decide) ?_
      refine aw_icmp_gt (tgt := 20) X dX11_hics_12 (by decide) (fun c3 => ?_) (fun c3 => ?_)
      · rw [if_pos c3] at h
        refine aw_iconst (v := (-1)) X dX11_hics_20 (by decide) ?_
        cases h
        exact aw_iret X dX11_hics_21 rfl hz.symm
      · rw [if_neg c3] at h
        refine aw_iload_n X dX11_hics_15 rfl ?_
        refine aw_iload_n X dX11_hics_16 rfl ?_
        refine aw_icmp_le (tgt := 22) X dX11_hics_17 (by decide) (fun c4 => ?_) (fun c4 => ?_)
        · rw [if_pos c4] at h
          refine aw_iload_n X dX11_hics_22 rfl ?_
          refine aw_bipush (v := 100) X dX11_hics_23 (by decide) ?_
          refine aw_icmp_ne (tgt := 34) X dX11_hics_25 (by decide) (fun c5 => ?_) (fun c5 => ?_)
          · rw [if_neg c5] at h
            refine aw_iload_n X dX11_hics_34 rfl ?_
            refine aw_if_lt (tgt := 43) X dX11_hics_35 (by decide) (fun c6 => ?_) (fun c6 => ?_)
            · rw [if_pos c6] at h
              refine aw_iconst (v := (-1)) X dX11_hics_43 (by decide) ?_
              cases h
              exact aw_iret X dX11_hics_44 rfl hz.symm
            · rw [if_neg c6] at h
              refine aw_iload_n X dX11_hics_38 rfl ?_
              refine aw_iload_n X dX11_hics_39 rfl ?_
              refine aw_icmp_lt (tgt := 45) X dX11_hics_40 (by decide) (fun c7 => ?_) (fun c7 => ?_)
              · rw [if_pos c7] at h
                refine aw_iload_n X dX11_hics_45 rfl ?_
                refine aw_iload_n X dX11_hics_46 rfl ?_
                refine aw_iload_n X dX11_hics_47 rfl ?_
                obtain ⟨r8, er8, h⟩ := bnd h
                refine aw_callS X dX11_hics_48 cv_RX11_302 (ok_X2_hasBeat er8 _ _ _ _ _) (Nat.le_trans (by decide) hfr) (by decide) rfl rfl (Nat.le_of_ble_eq_true rfl) ?_
                refine aw_if_eq (tgt := 58) X dX11_hics_51 (by decide) (fun c9 => ?_) (fun c9 => ?_)
                · rw [if_pos c9] at h
                  refine aw_iconst (v := 0) X dX11_hics_58 (by decide) ?_
                  cases h
                  exact aw_iret X dX11_hics_59 rfl hz.symm
                · rw [if_neg c9] at h
                  refine aw_iconst (v := 1) X dX11_hics_54 (by decide) ?_
                  refine aw_goto (tgt := 59) X dX11_hics_55 (by decide) ?_
                  cases h
                  exact aw_iret X dX11_hics_59 rfl hz.symm
              · rw [if_neg c7] at h
                refine aw_iconst (v := (-1)) X dX11_hics_43 (by decide) ?_
                cases h
                exact aw_iret X dX11_hics_44 rfl hz.symm
          · rw [if_pos c5] at h
            refine aw_iload_n X dX11_hics_28 rfl ?_
            refine aw_iload_n X dX11_hics_29 rfl ?_
            obtain ⟨r10, er10, h⟩ := bnd h
            refine aw_callS X dX11_hics_30 cv_RX11_299 (ok_X2_longestWay er10 _ _ _ _ _) (Nat.le_trans (by decide) hfr) (by decide) rfl rfl (Nat.le_of_ble_eq_true rfl) ?_
            cases h
            exact aw_iret X dX11_hics_33 rfl hz.symm
        · rw [if_neg c4] at h
          refine aw_iconst (v := (-1)) X dX11_hics_20 (by decide) ?_
          cases h
          exact aw_iret X dX11_hics_21 rfl hz.symm
set_option maxRecDepth 100000 in
set_option maxHeartbeats 4000000 in
theorem ok_X11_hics {x1 x2 x3 : Int32} {s : Mem} {r : Int32 × Mem} (h : f_X11_hics x1 x2 x3 s = some r) (l : Launch) (D : va_G) (ρ : Nat → Nat) (cA : ClassId × ClassId × ClassId) (τ : AT) : AM l D ρ cA 0 τ yX11_hics cX11_hics 4 (some .int) 2 [.ref (ρ 0), .int x1, .int x2, .int x3] (some (.int r.1)) s r.2 := by
  refine AM_of (L := [some (.ref (ρ 0)), some (.int x1), some (.int x2), some (.int x3)]) (by decide) (by simp [Value.category]) (Nat.le_of_ble_eq_true rfl) (fun j v q => ?_) (fun Z X hρ hz hτ => ?_)
  · exact aL_ok (n := 0) [.ref (ρ 0), .int x1, .int x2, .int x3] j v q
  · subst hρ
    subst hτ
    exact w_X11_hics (Nat.le_refl _) Z X x1 x2 x3 s r hz h

theorem dX11_areTwoPlaces_0 : decode cX11_areTwoPlaces 0 = .ok (.iload_n 0, 1) := by decide +kernel
theorem dX11_areTwoPlaces_1 : decode cX11_areTwoPlaces 1 = .ok (.ifCond .lt 26, 3) := by decide +kernel
theorem dX11_areTwoPlaces_4 : decode cX11_areTwoPlaces 4 = .ok (.iload_n 0, 1) := by decide +kernel
theorem dX11_areTwoPlaces_5 : decode cX11_areTwoPlaces 5 = .ok (.iconst 5, 1) := by decide +kernel
theorem dX11_areTwoPlaces_6 : decode cX11_areTwoPlaces 6 = .ok (.if_icmp .gt 21, 3) := by decide +kernel
theorem dX11_areTwoPlaces_9 : decode cX11_areTwoPlaces 9 = .ok (.iload_n 1, 1) := by decide +kernel
theorem dX11_areTwoPlaces_10 : decode cX11_areTwoPlaces 10 = .ok (.ifCond .lt 17, 3) := by decide +kernel
theorem dX11_areTwoPlaces_13 : decode cX11_areTwoPlaces 13 = .ok (.iload_n 1, 1) := by decide +kernel
theorem dX11_areTwoPlaces_14 : decode cX11_areTwoPlaces 14 = .ok (.iconst 5, 1) := by decide +kernel
theorem dX11_areTwoPlaces_15 : decode cX11_areTwoPlaces 15 = .ok (.if_icmp .gt 12, 3) := by decide +kernel
theorem dX11_areTwoPlaces_18 : decode cX11_areTwoPlaces 18 = .ok (.iload_n 0, 1) := by decide +kernel
theorem dX11_areTwoPlaces_19 : decode cX11_areTwoPlaces 19 = .ok (.iload_n 1, 1) := by decide +kernel
theorem dX11_areTwoPlaces_20 : decode cX11_areTwoPlaces 20 = .ok (.if_icmp .eq 7, 3) := by decide +kernel
theorem dX11_areTwoPlaces_23 : decode cX11_areTwoPlaces 23 = .ok (.iconst 1, 1) := by decide +kernel
theorem dX11_areTwoPlaces_24 : decode cX11_areTwoPlaces 24 = .ok (.goto 4, 3) := by decide +kernel
theorem dX11_areTwoPlaces_27 : decode cX11_areTwoPlaces 27 = .ok (.iconst 0, 1) := by decide +kernel
theorem dX11_areTwoPlaces_28 : decode cX11_areTwoPlaces 28 = .ok (.ireturn, 1) := by decide +kernel
set_option maxRecDepth 100000 in
set_option maxHeartbeats 4000000 in
theorem w_X11_areTwoPlaces {fr : Nat} (hfr : 0 ≤ fr) (Z : AZ) (X : AX Z cX11_areTwoPlaces 2 RX11 (some .boolean) 0 fr) (x0 : Int32) (x1 : Int32) (s : Mem) (r : Int32 × Mem) (hz : zres Z = (some (.int r.1), r.2)) (h : f_X11_areTwoPlaces x0 x1 s = some r) : AW Z s 0 [some (.int x0), some (.int x1)] [] := by
  unfold f_X11_areTwoPlaces at h
  refine aw_iload_n X dX11_areTwoPlaces_0 rfl ?_
  refine aw_if_lt (tgt := 27) X dX11_areTwoPlaces_1 (by decide) (fun c1 => ?_) (fun c1 => ?_)
  · rw [if_pos c1] at h
    refine aw_iconst (v := 0) X dX11_areTwoPlaces_27 (by decide) ?_
    cases h
    exact aw_zret X dX11_areTwoPlaces_28 rfl rfl hz.symm
  · rw [if_neg c1] at h
    refine aw_iload_n X dX11_areTwoPlaces_4 rfl ?_
    refine aw_iconst (v := 5) X dX11_areTwoPlaces_5 (by decide) ?_
    refine aw_icmp_gt (tgt := 27) X dX11_areTwoPlaces_6 (by decide) (fun c2 => ?_) (fun c2 => ?_)
    · rw [if_pos c2] at h
      refine aw_iconst (v := 0) X dX11_areTwoPlaces_27 (by decide) ?_
      cases h
      exact aw_zret X dX11_areTwoPlaces_28 rfl rfl hz.symm
    · rw [if_neg c2] at h
      refine aw_iload_n X dX11_areTwoPlaces_9 rfl ?_
      refine aw_if_lt (tgt := 27) X dX11_areTwoPlaces_10 (by decide) (fun c3 => ?_) (fun c3 => ?_)
      · rw [if_pos c3] at h
        refine aw_iconst (v := 0) X dX11_areTwoPlaces_27 (by decide) ?_
        cases h
        exact aw_zret X dX11_areTwoPlaces_28 rfl rfl hz.symm
      · rw [if_neg c3] at h
        refine aw_iload_n X dX11_areTwoPlaces_13 rfl ?_
        refine aw_iconst (v := 5) X dX11_areTwoPlaces_14 (by decide) ?_
        refine aw_icmp_gt (tgt := 27) X dX11_areTwoPlaces_15 (by decide) (fun c4 => ?_) (fun c4 => ?_)
        · rw [if_pos c4] at h
          refine aw_iconst (v := 0) X dX11_areTwoPlaces_27 (by decide) ?_
          cases h
          exact aw_zret X dX11_areTwoPlaces_28 rfl rfl hz.symm
        · rw [if_neg c4] at h
          refine aw_iload_n X dX11_areTwoPlaces_18 rfl ?_
          refine aw_iload_n X dX11_areTwoPlaces_19 rfl ?_
          refine aw_icmp_eq (tgt := 27) X dX11_areTwoPlaces_20 (by decide) (fun c5 => ?_) (fun c5 => ?_)
          · rw [if_pos c5] at h
            refine aw_iconst (v := 0) X dX11_areTwoPlaces_27 (by decide) ?_
            cases h
            exact aw_zret X dX11_areTwoPlaces_28 rfl rfl hz.symm
          · rw [if_neg c5] at h
            refine aw_iconst (v := 1) X dX11_areTwoPlaces_23 (by decide) ?_
            refine aw_goto (tgt := 28) X dX11_areTwoPlaces_24 (by decide) ?_
            cases h
            exact aw_zret X dX11_areTwoPlaces_28 rfl rfl hz.symm
set_option maxRecDepth 100000 in
set_option maxHeartbeats 4000000 in
theorem ok_X11_areTwoPlaces {x0 x1 : Int32} {s : Mem} {r : Int32 × Mem} (h : f_X11_areTwoPlaces x0 x1 s = some r) (l : Launch) (D : va_G) (ρ : Nat → Nat) (cA : ClassId × ClassId × ClassId) (τ : AT) : AM l D ρ cA 0 τ yX11_areTwoPlaces cX11_areTwoPlaces 2 (some .boolean) 0 [.int x0, .int x1] (some (.int r.1)) s r.2 := by
  refine AM_of (L := [some (.int x0), some (.int x1)]) (by decide) (by simp [Value.category]) (Nat.le_of_ble_eq_true rfl) (fun j v q => ?_) (fun Z X hρ hz hτ => ?_)
  · exact aL_ok (n := 0) [.int x0, .int x1] j v q
  · subst hρ
    subst hτ
    exact w_X11_areTwoPlaces (Nat.le_refl _) Z X x0 x1 s r hz h

theorem dX11_way_0 : decode cX11_way 0 = .ok (.aload_n 0, 1) := by decide +kernel
theorem dX11_way_1 : decode cX11_way 1 = .ok (.getfield 10, 3) := by decide +kernel
theorem dX11_way_4 : decode cX11_way 4 = .ok (.getfield 222, 3) := by decide +kernel
theorem dX11_way_7 : decode cX11_way 7 = .ok (.astore 4, 2) := by decide +kernel
theorem dX11_way_9 : decode cX11_way 9 = .ok (.iload_n 1, 1) := by decide +kernel
theorem dX11_way_10 : decode cX11_way 10 = .ok (.iconst (-1), 1) := by decide +kernel
theorem dX11_way_11 : decode cX11_way 11 = .ok (.if_icmp .ne 30, 3) := by decide +kernel
theorem dX11_way_14 : decode cX11_way 14 = .ok (.aload 4, 2) := by decide +kernel
theorem dX11_way_16 : decode cX11_way 16 = .ok (.getfield 305, 3) := by decide +kernel
theorem dX11_way_19 : decode cX11_way 19 = .ok (.invokevirtual 232, 3) := by decide +kernel
theorem dX11_way_22 : decode cX11_way 22 = .ok (.pop, 1) := by decide +kernel
theorem dX11_way_23 : decode cX11_way 23 = .ok (.aload 4, 2) := by decide +kernel
theorem dX11_way_25 : decode cX11_way 25 = .ok (.getfield 308, 3) := by decide +kernel
theorem dX11_way_28 : decode cX11_way 28 = .ok (.invokevirtual 232, 3) := by decide +kernel
theorem dX11_way_31 : decode cX11_way 31 = .ok (.pop, 1) := by decide +kernel
theorem dX11_way_32 : decode cX11_way 32 = .ok (.aload 4, 2) := by decide +kernel
theorem dX11_way_34 : decode cX11_way 34 = .ok (.getfield 311, 3) := by decide +kernel
theorem dX11_way_37 : decode cX11_way 37 = .ok (.invokevirtual 232, 3) := by decide +kernel
theorem dX11_way_40 : decode cX11_way 40 = .ok (.ireturn, 1) := by decide +kernel
theorem dX11_way_41 : decode cX11_way 41 = .ok (.iload_n 1, 1) := by decide +kernel
theorem dX11_way_42 : decode cX11_way 42 = .ok (.iload_n 2, 1) := by decide +kernel
theorem dX11_way_43 : decode cX11_way 43 = .ok (.invokestatic 314, 3) := by decide +kernel
theorem dX11_way_46 : decode cX11_way 46 = .ok (.ifCond .eq 25, 3) := by decide +kernel
theorem dX11_way_49 : decode cX11_way 49 = .ok (.iload_n 3, 1) := by decide +kernel
theorem dX11_way_50 : decode cX11_way 50 = .ok (.iconst 1, 1) := by decide +kernel
theorem dX11_way_51 : decode cX11_way 51 = .ok (.if_icmp .lt 20, 3) := by decide +kernel
theorem dX11_way_54 : decode cX11_way 54 = .ok (.iload_n 3, 1) := by decide +kernel
theorem dX11_way_55 : decode cX11_way 55 = .ok (.bipush 20, 2) := by decide +kernel
theorem dX11_way_57 : decode cX11_way 57 = .ok (.if_icmp .gt 14, 3) := by decide +kernel
theorem dX11_way_60 : decode cX11_way 60 = .ok (.aload 4, 2) := by decide +kernel
theorem dX11_way_62 : decode cX11_way 62 = .ok (.getfield 305, 3) := by decide +kernel
theorem dX11_way_65 : decode cX11_way 65 = .ok (.invokevirtual 237, 3) := by decide +kernel
theorem dX11_way_68 : decode cX11_way 68 = .ok (.ifCond .eq 5, 3) := by decide +kernel
theorem dX11_way_71 : decode cX11_way 71 = .ok (.iconst (-1), 1) := by decide +kernel
theorem dX11_way_72 : decode cX11_way 72 = .ok (.ireturn, 1) := by decide +kernel
theorem dX11_way_73 : decode cX11_way 73 = .ok (.aload 4, 2) := by decide +kernel
theorem dX11_way_75 : decode cX11_way 75 = .ok (.getfield 305, 3) := by decide +kernel
theorem dX11_way_78 : decode cX11_way 78 = .ok (.iload_n 1, 1) := by decide +kernel
theorem dX11_way_79 : decode cX11_way 79 = .ok (.invokevirtual 241, 3) := by decide +kernel
theorem dX11_way_82 : decode cX11_way 82 = .ok (.pop, 1) := by decide +kernel
theorem dX11_way_83 : decode cX11_way 83 = .ok (.aload 4, 2) := by decide +kernel
theorem dX11_way_85 : decode cX11_way 85 = .ok (.getfield 308, 3) := by decide +kernel
theorem dX11_way_88 : decode cX11_way 88 = .ok (.iload_n 2, 1) := by decide +kernel
theorem dX11_way_89 : decode cX11_way 89 = .ok (.invokevirtual 241, 3) := by decide +kernel
theorem dX11_way_92 : decode cX11_way 92 = .ok (.pop, 1) := by decide +kernel
theorem dX11_way_93 : decode cX11_way 93 = .ok (.aload 4, 2) := by decide +kernel
theorem dX11_way_95 : decode cX11_way 95 = .ok (.getfield 311, 3) := by decide +kernel
theorem dX11_way_98 : decode cX11_way 98 = .ok (.iload_n 3, 1) := by decide +kernel
theorem dX11_way_99 : decode cX11_way 99 = .ok (.invokevirtual 241, 3) := by decide +kernel
theorem dX11_way_102 : decode cX11_way 102 = .ok (.ireturn, 1) := by decide +kernel
set_option maxRecDepth 100000 in
set_option maxHeartbeats 4000000 in
theorem w_X11_way {fr : Nat} (hfr : 2 ≤ fr) (Z : AZ) (X : AX Z cX11_way 5 RX11 (some .int) 0 fr) (x1 : Int32) (x2 : Int32) (x3 : Int32) (s : Mem) (r : Int32 × Mem) (hz : zres Z = (some (.int r.1), r.2)) (h : f_X11_way x1 x2 x3 s = some r) : AW Z s 0 [some (.ref (zr Z 0)), some (.int x1), some (.int x2), some (.int x3), none] [] := by
  unfold f_X11_way at h
  refine aw_aload_n X dX11_way_0 rfl ?_
  refine aw_getr X dX11_way_1 fl_RX11_10 iu_RX11 gu_RX11_0 ?_
  refine aw_getr X dX11_way_4 fl_RX11_222 iu_RX11_0 (gt_RX10_5 iu_RX11_0) ?_
  refine aw_astore (L' := [some (.ref (zr Z 0)), some (.int x1), some (.int x2), some (.int x3), some (.ref (zr Z (1 + 31)))]) X dX11_way_7 (by decide) rfl ?_
  refine aw_iload_n X dX11_way_9 rfl ?_
  refine aw_iconst (v := (-1)) X dX11_way_10 (by decide) ?_
  refine aw_icmp_ne (tgt := 41) X dX11_way_11 (by decide) (fun c1 => ?_) (fun c1 => ?_)
  · rw [if_neg c1] at h
    refine aw_iload_n X dX11_way_41 rfl ?_
    refine aw_iload_n X dX11_way_42 rfl ?_
    obtain ⟨r2, er2, h⟩ := bnd h
    refine aw_callS X dX11_way_43 cv_RX11_314 (ok_X11_areTwoPlaces er2 _ _ _ _ _) (Nat.le_trans (by decide) hfr) (by decide) rfl rfl (Nat.le_of_ble_eq_true rfl) ?_
    refine aw_if_eq (tgt := 71) X dX11_way_46 (by decide) (fun c3 => ?_) (fun c3 => ?_)
    · rw [if_pos c3] at h
      refine aw_iconst (v := (-1)) X dX11_way_71 (by decide) ?_
      cases h
      exact aw_iret X dX11_way_72 rfl hz.symm
    · rw [if_neg c3] at h
      refine aw_iload_n X dX11_way_49 rfl ?_
      refine aw_iconst (v := 1) X dX11_way_50 (by decide) ?_
      refine aw_icmp_lt (tgt := 71) X dX11_way_51 (by decide) (fun c4 => ?_) (fun c4 => ?_)
      · rw [if_pos c4] at h
        refine aw_iconst (v := (-1)) X dX11_way_71 (by decide) ?_
        cases h
        exact aw_iret X dX11_way_72 rfl hz.symm
      · rw [if_neg c4] at h
        refine aw_iload_n X dX11_way_54 rfl ?_
        refine aw_bipush (v := 20) X dX11_way_55 (by decide) ?_
        refine aw_icmp_gt (tgt := 71) X dX11_way_57 (by decide) (fun c5 => ?_) (fun c5 => ?_)
        · rw [if_pos c5] at h
          refine aw_iconst (v := (-1)) X dX11_way_71 (by decide) ?_
          cases h
          exact aw_iret X dX11_way_72 rfl hz.symm
        · rw [if_neg c5] at h
          refine aw_aload X dX11_way_60 rfl ?_
          refine aw_getr X dX11_way_62 fl_RX11_305 (it_RX10_5 iu_RX11_0) (gt_RX8_4 (it_RX10_5 iu_RX11_0)) ?_
          obtain ⟨r6, er6, h⟩ := bnd h
          refine aw_callV X dX11_way_65 cv_RX11_237 (ok_X7_isFull (it_RX8_4 (it_RX10_5 iu_RX11_0)) er6 _ _ _ _ _) (it_RX8_4 (it_RX10_5 iu_RX11_0)) rfl (Nat.le_trans (by decide) hfr) (by decide) rfl rfl (Nat.le_of_ble_eq_true rfl) ?_
          refine aw_if_eq (tgt := 73) X dX11_way_68 (by decide) (fun c7 => ?_) (fun c7 => ?_)
          · rw [if_pos c7] at h
            refine aw_aload X dX11_way_73 rfl ?_
            refine aw_getr X dX11_way_75 fl_RX11_305 (it_RX10_5 iu_RX11_0) (gt_RX8_4 (it_RX10_5 iu_RX11_0)) ?_
            refine aw_iload_n X dX11_way_78 rfl ?_
            obtain ⟨r8, er8, h⟩ := bnd h
            refine aw_callV X dX11_way_79 cv_RX11_241 (ok_X7_add (it_RX8_4 (it_RX10_5 iu_RX11_0)) er8 _ _ _ _ _) (it_RX8_4 (it_RX10_5 iu_RX11_0)) rfl (Nat.le_trans (by decide) hfr) (by decide) rfl rfl (Nat.le_of_ble_eq_true rfl) ?_
            refine aw_pop X dX11_way_82 rfl ?_
            refine aw_aload X dX11_way_83 rfl ?_
            refine aw_getr X dX11_way_85 fl_RX11_308 (it_RX10_5 iu_RX11_0) (gt_RX8_5 (it_RX10_5 iu_RX11_0)) ?_
            refine aw_iload_n X dX11_way_88 rfl ?_
            obtain ⟨r9, er9, h⟩ := bnd h
            refine aw_callV X dX11_way_89 cv_RX11_241 (ok_X7_add (it_RX8_5 (it_RX10_5 iu_RX11_0)) er9 _ _ _ _ _) (it_RX8_5 (it_RX10_5 iu_RX11_0)) rfl (Nat.le_trans (by decide) hfr) (by decide) rfl rfl (Nat.le_of_ble_eq_true rfl) ?_
            refine aw_pop X dX11_way_92 rfl ?_
            refine aw_aload X dX11_way_93 rfl ?_
            refine aw_getr X dX11_way_95 fl_RX11_311 (it_RX10_5 iu_RX11_0) (gt_RX8_6 (it_RX10_5 iu_RX11_0)) ?_
            refine aw_iload_n X dX11_way_98 rfl ?_
            obtain ⟨r10, er10, h⟩ := bnd h
            refine aw_callV X dX11_way_99 cv_RX11_241 (ok_X7_add (it_RX8_6 (it_RX10_5 iu_RX11_0)) er10 _ _ _ _ _) (it_RX8_6 (it_RX10_5 iu_RX11_0)) rfl (Nat.le_trans (by decide) hfr) (by decide) rfl rfl (Nat.le_of_ble_eq_true rfl) ?_
            cases h
            exact aw_iret X dX11_way_102 rfl hz.symm
          · rw [if_neg c7] at h
            refine aw_iconst (v := (-1)) X dX11_way_71 (by decide) ?_
            cases h
            exact aw_iret X dX11_way_72 rfl hz.symm
  · rw [if_pos c1] at h
    refine aw_aload X dX11_way_14 rfl ?_
    refine aw_getr X dX11_way_16 fl_RX11_305 (it_RX10_5 iu_RX11_0) (gt_RX8_4 (it_RX10_5 iu_RX11_0)) ?_
    obtain ⟨r11, er11, h⟩ := bnd h
    refine aw_callV X dX11_way_19 cv_RX11_232 (ok_X7_clear (it_RX8_4 (it_RX10_5 iu_RX11_0)) er11 _ _ _ _ _) (it_RX8_4 (it_RX10_5 iu_RX11_0)) rfl (Nat.le_trans (by decide) hfr) (by decide) rfl rfl (Nat.le_of_ble_eq_true rfl) ?_
    refine aw_pop X dX11_way_22 rfl ?_
    refine aw_aload X dX11_way_23 rfl ?_
    refine aw_getr X dX11_way_25 fl_RX11_308 (it_RX10_5 iu_RX11_0) (gt_RX8_5 (it_RX10_5 iu_RX11_0)) ?_
    obtain ⟨r12, er12, h⟩ := bnd h
    refine aw_callV X dX11_way_28 cv_RX11_232 (ok_X7_clear (it_RX8_5 (it_RX10_5 iu_RX11_0)) er12 _ _ _ _ _) (it_RX8_5 (it_RX10_5 iu_RX11_0)) rfl (Nat.le_trans (by decide) hfr) (by decide) rfl rfl (Nat.le_of_ble_eq_true rfl) ?_
    refine aw_pop X dX11_way_31 rfl ?_
    refine aw_aload X dX11_way_32 rfl ?_
    refine aw_getr X dX11_way_34 fl_RX11_311 (it_RX10_5 iu_RX11_0) (gt_RX8_6 (it_RX10_5 iu_RX11_0)) ?_
    obtain ⟨r13, er13, h⟩ := bnd h
    refine aw_callV X dX11_way_37 cv_RX11_232 (ok_X7_clear (it_RX8_6 (it_RX10_5 iu_RX11_0)) er13 _ _ _ _ _) (it_RX8_6 (it_RX10_5 iu_RX11_0)) rfl (Nat.le_trans (by decide) hfr) (by decide) rfl rfl (Nat.le_of_ble_eq_true rfl) ?_
    cases h
    exact aw_iret X dX11_way_40 rfl hz.symm
set_option maxRecDepth 100000 in
set_option maxHeartbeats 4000000 in
theorem ok_X11_way {x1 x2 x3 : Int32} {s : Mem} {r : Int32 × Mem} (h : f_X11_way x1 x2 x3 s = some r) (l : Launch) (D : va_G) (ρ : Nat → Nat) (cA : ClassId × ClassId × ClassId) (τ : AT) : AM l D ρ cA 0 τ yX11_way cX11_way 5 (some .int) 2 [.ref (ρ 0), .int x1, .int x2, .int x3] (some (.int r.1)) s r.2 := by
  refine AM_of (L := [some (.ref (ρ 0)), some (.int x1), some (.int x2), some (.int x3), none]) (by decide) (by simp [Value.category]) (Nat.le_of_ble_eq_true rfl) (fun j v q => ?_) (fun Z X hρ hz hτ => ?_)
  · exact aL_ok (n := 1) [.ref (ρ 0), .int x1, .int x2, .int x3] j v q
  · subst hρ
    subst hτ
    exact w_X11_way (Nat.le_refl _) Z X x1 x2 x3 s r hz h

theorem dX11_gossip_0 : decode cX11_gossip 0 = .ok (.iload_n 1, 1) := by decide +kernel
theorem dX11_gossip_1 : decode cX11_gossip 1 = .ok (.iload_n 2, 1) := by decide +kernel
theorem dX11_gossip_2 : decode cX11_gossip 2 = .ok (.invokestatic 314, 3) := by decide +kernel
theorem dX11_gossip_5 : decode cX11_gossip 5 = .ok (.ifCond .eq 12, 3) := by decide +kernel
theorem dX11_gossip_8 : decode cX11_gossip 8 = .ok (.iload_n 3, 1) := by decide +kernel
theorem dX11_gossip_9 : decode cX11_gossip 9 = .ok (.ifCond .lt 8, 3) := by decide +kernel
theorem dX11_gossip_12 : decode cX11_gossip 12 = .ok (.iload_n 3, 1) := by decide +kernel
theorem dX11_gossip_13 : decode cX11_gossip 13 = .ok (.iconst 1, 1) := by decide +kernel
theorem dX11_gossip_14 : decode cX11_gossip 14 = .ok (.if_icmp .le 5, 3) := by decide +kernel
theorem dX11_gossip_17 : decode cX11_gossip 17 = .ok (.iconst (-1), 1) := by decide +kernel
theorem dX11_gossip_18 : decode cX11_gossip 18 = .ok (.ireturn, 1) := by decide +kernel
theorem dX11_gossip_19 : decode cX11_gossip 19 = .ok (.aload_n 0, 1) := by decide +kernel
theorem dX11_gossip_20 : decode cX11_gossip 20 = .ok (.getfield 53, 3) := by decide +kernel
theorem dX11_gossip_23 : decode cX11_gossip 23 = .ok (.aload_n 0, 1) := by decide +kernel
theorem dX11_gossip_24 : decode cX11_gossip 24 = .ok (.getfield 10, 3) := by decide +kernel
theorem dX11_gossip_27 : decode cX11_gossip 27 = .ok (.getfield 222, 3) := by decide +kernel
theorem dX11_gossip_30 : decode cX11_gossip 30 = .ok (.iload_n 1, 1) := by decide +kernel
theorem dX11_gossip_31 : decode cX11_gossip 31 = .ok (.iload_n 2, 1) := by decide +kernel
theorem dX11_gossip_32 : decode cX11_gossip 32 = .ok (.iload_n 3, 1) := by decide +kernel
theorem dX11_gossip_33 : decode cX11_gossip 33 = .ok (.iconst 1, 1) := by decide +kernel
theorem dX11_gossip_34 : decode cX11_gossip 34 = .ok (.if_icmp .ne 7, 3) := by decide +kernel
theorem dX11_gossip_37 : decode cX11_gossip 37 = .ok (.iconst 1, 1) := by decide +kernel
theorem dX11_gossip_38 : decode cX11_gossip 38 = .ok (.goto 4, 3) := by decide +kernel
theorem dX11_gossip_41 : decode cX11_gossip 41 = .ok (.iconst 0, 1) := by decide +kernel
theorem dX11_gossip_42 : decode cX11_gossip 42 = .ok (.invokevirtual 318, 3) := by decide +kernel
theorem dX11_gossip_45 : decode cX11_gossip 45 = .ok (.ireturn, 1) := by decide +kernel
set_option maxRecDepth 100000 in
set_option maxHeartbeats 4000000 in
theorem jo_X11_gossip_42 {fr : Nat} (hfr : 3 ≤ fr) (Z : AZ) (X : AX Z cX11_gossip 4 RX11 (some .int) 0 fr) (t2 : Int32) (t3 : Int32) (t4 : Int32) (s : Mem) (r : Int32 × Mem) (hz : zres Z = (some (.int r.1), r.2)) (h : jn_X11_gossip_42 t2 t3 t4 s = some r) : AW Z s 42 [none, none, none, none] [.int t4, .int t3, .int t2, .ref (zr Z (1 + 31)), .ref (zr Z 195)] := by
  unfold jn_X11_gossip_42 at h
  obtain ⟨r6, er6, h⟩ := bnd h
  refine aw_callV X dX11_gossip_42 cv_RX11_318 (ok_X9_leastCut (it_RX10_5 iu_RX11_0) er6 _ _ _ _ _) iu_RX11_8 rfl (Nat.le_trans (by decide) hfr) (by decide) rfl rfl (Nat.le_of_ble_eq_true rfl) ?_
  cases h
  exact aw_iret X dX11_gossip_45 rfl hz.symm
set_option maxRecDepth 100000 in
set_option maxHeartbeats 4000000 in
theorem w_X11_gossip {fr : Nat} (hfr : 3 ≤ fr) (Z : AZ) (X : AX Z cX11_gossip 4 RX11 (some .int) 0 fr) (x1 : Int32) (x2 : Int32) (x3 : Int32) (s : Mem) (r : Int32 × Mem) (hz : zres Z = (some (.int r.1), r.2)) (h : f_X11_gossip x1 x2 x3 s = some r) : AW Z s 0 [some (.ref (zr Z 0)), some (.int x1), some (.int x2), some (.int x3)] [] := by
  unfold f_X11_gossip at h
  refine aw_iload_n X dX11_gossip_0 rfl ?_
  refine aw_iload_n X dX11_gossip_1 rfl ?_
  obtain ⟨r1, er1, h⟩ := bnd h
  refine aw_callS X dX11_gossip_2 cv_RX11_314 (ok_X11_areTwoPlaces er1 _ _ _ _ _) (Nat.le_trans (by decide) hfr) (by decide) rfl rfl (Nat.le_of_ble_eq_true rfl) ?_
  refine aw_if_eq (tgt := 17) X dX11_gossip_5 (by decide) (fun c2 => ?_) (fun c2 => ?_)
  · rw [if_pos c2] at h
    refine aw_iconst (v := (-1)) X dX11_gossip_17 (by decide) ?_
    cases h
    exact aw_iret X dX11_gossip_18 rfl hz.symm
  · rw [if_neg c2] at h
    refine aw_iload_n X dX11_gossip_8 rfl ?_
    refine aw_if_lt (tgt := 17) X dX11_gossip_9 (by decide) (fun c3 => ?_) (fun c3 => ?_)
    · rw [if_pos c3] at h
      refine aw_iconst (v := (-1)) X dX11_gossip_17 (by decide) ?_
      cases h
      exact aw_iret X dX11_gossip_18 rfl hz.symm
    · rw [if_neg c3] at h
      refine aw_iload_n X dX11_gossip_12 rfl ?_
      refine aw_iconst (v := 1) X dX11_gossip_13 (by decide) ?_
      refine aw_icmp_le (tgt := 19) X dX11_gossip_14 (by decide) (fun c4 => ?_) (fun c4 => ?_)
      · rw [if_pos c4] at h
        refine aw_aload_n X dX11_gossip_19 rfl ?_
        refine aw_getr X dX11_gossip_20 fl_RX11_53 iu_RX11 gu_RX11_8 ?_
        refine aw_aload_n X dX11_gossip_23 rfl ?_
        refine aw_getr X dX11_gossip_24 fl_RX11_10 iu_RX11 gu_RX11_0 ?_
        refine aw_getr X dX11_gossip_27 fl_RX11_222 iu_RX11_0 (gt_RX10_5 iu_RX11_0) ?_
        refine aw_iload_n X dX11_gossip_30 rfl ?_
        refine aw_iload_n X dX11_gossip_31 rfl ?_
        refine aw_iload_n X dX11_gossip_32 rfl ?_
        refine aw_iconst (v := 1) X dX11_gossip_33 (by decide) ?_
        refine aw_icmp_ne (tgt := 41) X dX11_gossip_34 (by decide) (fun c5 => ?_) (fun c5 => ?_)
        · rw [if_neg c5] at h
          refine aw_iconst (v := 0) X dX11_gossip_41 (by decide) ?_
          refine aw_msk [false, false, false, false] ?_
          exact jo_X11_gossip_42 hfr Z X _ _ _ _ _ hz h
        · rw [if_pos c5] at h
          refine aw_iconst (v := 1) X dX11_gossip_37 (by decide) ?_
          refine aw_goto (tgt := 42) X dX11_gossip_38 (by decide) ?_
          refine aw_msk [false, false, false, false] ?_
          exact jo_X11_gossip_42 hfr Z X _ _ _ _ _ hz h
      · rw [if_neg c4] at h
        refine aw_iconst (v := (-1)) X dX11_gossip_17 (by decide) ?_
        cases h
        exact aw_iret X dX11_gossip_18 rfl hz.symm
set_option maxRecDepth 100000 in
set_option maxHeartbeats 4000000 in
theorem ok_X11_gossip {x1 x2 x3 : Int32} {s : Mem} {r : Int32 × Mem} (h : f_X11_gossip x1 x2 x3 s = some r) (l : Launch) (D : va_G) (ρ : Nat → Nat) (cA : ClassId × ClassId × ClassId) (τ : AT) : AM l D ρ cA 0 τ yX11_gossip cX11_gossip 4 (some .int) 3 [.ref (ρ 0), .int x1, .int x2, .int x3] (some (.int r.1)) s r.2 := by
  refine AM_of (L := [some (.ref (ρ 0)), some (.int x1), some (.int x2), some (.int x3)]) (by decide) (by simp [Value.category]) (Nat.le_of_ble_eq_true rfl) (fun j v q => ?_) (fun Z X hρ hz hτ => ?_)
  · exact aL_ok (n := 0) [.ref (ρ 0), .int x1, .int x2, .int x3] j v q
  · subst hρ
    subst hτ
    exact w_X11_gossip (Nat.le_refl _) Z X x1 x2 x3 s r hz h

theorem dX11_term_0 : decode cX11_term 0 = .ok (.iload_n 1, 1) := by decide +kernel
theorem dX11_term_1 : decode cX11_term 1 = .ok (.ifCond .lt 8, 3) := by decide +kernel
theorem dX11_term_4 : decode cX11_term 4 = .ok (.iload_n 1, 1) := by decide +kernel
theorem dX11_term_5 : decode cX11_term 5 = .ok (.iconst 1, 1) := by decide +kernel
theorem dX11_term_6 : decode cX11_term 6 = .ok (.if_icmp .le 5, 3) := by decide +kernel
theorem dX11_term_9 : decode cX11_term 9 = .ok (.iconst (-1), 1) := by decide +kernel
theorem dX11_term_10 : decode cX11_term 10 = .ok (.ireturn, 1) := by decide +kernel
theorem dX11_term_11 : decode cX11_term 11 = .ok (.aload_n 0, 1) := by decide +kernel
theorem dX11_term_12 : decode cX11_term 12 = .ok (.getfield 10, 3) := by decide +kernel
theorem dX11_term_15 : decode cX11_term 15 = .ok (.getfield 222, 3) := by decide +kernel
theorem dX11_term_18 : decode cX11_term 18 = .ok (.iload_n 1, 1) := by decide +kernel
theorem dX11_term_19 : decode cX11_term 19 = .ok (.invokevirtual 322, 3) := by decide +kernel
theorem dX11_term_22 : decode cX11_term 22 = .ok (.astore_n 3, 1) := by decide +kernel
theorem dX11_term_23 : decode cX11_term 23 = .ok (.iload_n 2, 1) := by decide +kernel
theorem dX11_term_24 : decode cX11_term 24 = .ok (.bipush (-10), 2) := by decide +kernel
theorem dX11_term_26 : decode cX11_term 26 = .ok (.if_icmp .ne 8, 3) := by decide +kernel
theorem dX11_term_29 : decode cX11_term 29 = .ok (.aload_n 3, 1) := by decide +kernel
theorem dX11_term_30 : decode cX11_term 30 = .ok (.invokevirtual 232, 3) := by decide +kernel
theorem dX11_term_33 : decode cX11_term 33 = .ok (.ireturn, 1) := by decide +kernel
theorem dX11_term_34 : decode cX11_term 34 = .ok (.iload_n 2, 1) := by decide +kernel
theorem dX11_term_35 : decode cX11_term 35 = .ok (.bipush (-9), 2) := by decide +kernel
theorem dX11_term_37 : decode cX11_term 37 = .ok (.if_icmp .lt 16, 3) := by decide +kernel
theorem dX11_term_40 : decode cX11_term 40 = .ok (.iload_n 2, 1) := by decide +kernel
theorem dX11_term_41 : decode cX11_term 41 = .ok (.bipush 9, 2) := by decide +kernel
theorem dX11_term_43 : decode cX11_term 43 = .ok (.if_icmp .gt 10, 3) := by decide +kernel
theorem dX11_term_46 : decode cX11_term 46 = .ok (.aload_n 3, 1) := by decide +kernel
theorem dX11_term_47 : decode cX11_term 47 = .ok (.invokevirtual 237, 3) := by decide +kernel
theorem dX11_term_50 : decode cX11_term 50 = .ok (.ifCond .eq 5, 3) := by decide +kernel
theorem dX11_term_53 : decode cX11_term 53 = .ok (.iconst (-1), 1) := by decide +kernel
theorem dX11_term_54 : decode cX11_term 54 = .ok (.ireturn, 1) := by decide +kernel
theorem dX11_term_55 : decode cX11_term 55 = .ok (.aload_n 3, 1) := by decide +kernel
theorem dX11_term_56 : decode cX11_term 56 = .ok (.iload_n 2, 1) := by decide +kernel
theorem dX11_term_57 : decode cX11_term 57 = .ok (.invokevirtual 241, 3) := by decide +kernel
theorem dX11_term_60 : decode cX11_term 60 = .ok (.ireturn, 1) := by decide +kernel
set_option maxRecDepth 100000 in
set_option maxHeartbeats 4000000 in
theorem w_X11_term {fr : Nat} (hfr : 2 ≤ fr) (Z : AZ) (X : AX Z cX11_term 4 RX11 (some .int) 0 fr) (x1 : Int32) (x2 : Int32) (s : Mem) (r : Int32 × Mem) (hz : zres Z = (some (.int r.1), r.2)) (h : f_X11_term x1 x2 s = some r) : AW Z s 0 [some (.ref (zr Z 0)), some (.int x1), some (.int x2), none] [] := by
  unfold f_X11_term at h
  refine aw_iload_n X dX11_term_0 rfl ?_
  refine aw_if_lt (tgt := 9) X dX11_term_1 (by decide) (fun c1 => ?_) (fun c1 => ?_)
  · rw [if_pos c1] at h
    refine aw_iconst (v := (-1)) X dX11_term_9 (by decide) ?_
    cases h
    exact aw_iret X dX11_term_10 rfl hz.symm
  · rw [if_neg c1] at h
    refine aw_iload_n X dX11_term_4 rfl ?_
    refine aw_iconst (v := 1) X dX11_term_5 (by decide) ?_
    refine aw_icmp_le (tgt := 11) X dX11_term_6 (by decide) (fun c2 => ?_) (fun c2 => ?_)
    · rw [if_pos c2] at h
      refine aw_aload_n X dX11_term_11 rfl ?_
      refine aw_getr X dX11_term_12 fl_RX11_10 iu_RX11 gu_RX11_0 ?_
      refine aw_getr X dX11_term_15 fl_RX11_222 iu_RX11_0 (gt_RX10_5 iu_RX11_0) ?_
      refine aw_iload_n X dX11_term_18 rfl ?_
      obtain ⟨r3, er3, h⟩ := bnd h
      refine aw_callV X dX11_term_19 cv_RX11_322 (ok_X8_termRow (it_RX10_5 iu_RX11_0) er3 _ _ _ _ _) (it_RX10_5 iu_RX11_0) rfl (Nat.le_trans (by decide) hfr) (by decide) rfl rfl (Nat.le_of_ble_eq_true rfl) ?_
      refine aw_astore_n (L' := [some (.ref (zr Z 0)), some (.int x1), some (.int x2), some (.ref (zr Z r3.1))]) X dX11_term_22 (by decide) rfl ?_
      refine aw_iload_n X dX11_term_23 rfl ?_
      refine aw_bipush (v := (-10)) X dX11_term_24 (by decide) ?_
      refine aw_icmp_ne (tgt := 34) X dX11_term_26 (by decide) (fun c4 => ?_) (fun c4 => ?_)
      · rw [if_neg c4] at h
        refine aw_iload_n X dX11_term_34 rfl ?_
        refine aw_bipush (v := (-9)) X dX11_term_35 (by decide) ?_
        refine aw_icmp_lt (tgt := 53) X dX11_term_37 (by decide) (fun c5 => ?_) (fun c5 => ?_)
        · rw [if_pos c5] at h
          refine aw_iconst (v := (-1)) X dX11_term_53 (by decide) ?_
          cases h
          exact aw_iret X dX11_term_54 rfl hz.symm
        · rw [if_neg c5] at h
          refine aw_iload_n X dX11_term_40 rfl ?_
          refine aw_bipush (v := 9) X dX11_term_41 (by decide) ?_
          refine aw_icmp_gt (tgt := 53) X dX11_term_43 (by decide) (fun c6 => ?_) (fun c6 => ?_)
          · rw [if_pos c6] at h
            refine aw_iconst (v := (-1)) X dX11_term_53 (by decide) ?_
            cases h
            exact aw_iret X dX11_term_54 rfl hz.symm
          · rw [if_neg c6] at h
            refine aw_aload_n X dX11_term_46 rfl ?_
            obtain ⟨r7, er7, h⟩ := bnd h
            refine aw_callV X dX11_term_47 cv_RX11_237 (ok_X7_isFull (rt_X8_termRow (it_RX10_5 iu_RX11_0) er3) er7 _ _ _ _ _) (rt_X8_termRow (it_RX10_5 iu_RX11_0) er3) rfl (Nat.le_trans (by decide) hfr) (by decide) rfl rfl (Nat.le_of_ble_eq_true rfl) ?_
            refine aw_if_eq (tgt := 55) X dX11_term_50 (by decide) (fun c8 => ?_) (fun c8 => ?_)
            · rw [if_pos c8] at h
              refine aw_aload_n X dX11_term_55 rfl ?_
              refine aw_iload_n X dX11_term_56 rfl ?_
              obtain ⟨r9, er9, h⟩ := bnd h
              refine aw_callV X dX11_term_57 cv_RX11_241 (ok_X7_add (rt_X8_termRow (it_RX10_5 iu_RX11_0) er3) er9 _ _ _ _ _) (rt_X8_termRow (it_RX10_5 iu_RX11_0) er3) rfl (Nat.le_trans (by decide) hfr) (by decide) rfl rfl (Nat.le_of_ble_eq_true rfl) ?_
              cases h
              exact aw_iret X dX11_term_60 rfl hz.symm
            · rw [if_neg c8] at h
              refine aw_iconst (v := (-1)) X dX11_term_53 (by decide) ?_
              cases h
              exact aw_iret X dX11_term_54 rfl hz.symm
      · rw [if_pos c4] at h
        refine aw_aload_n X dX11_term_29 rfl ?_
        obtain ⟨r10, er10, h⟩ := bnd h
        refine aw_callV X dX11_term_30 cv_RX11_232 (ok_X7_clear (rt_X8_termRow (it_RX10_5 iu_RX11_0) er3) er10 _ _ _ _ _) (rt_X8_termRow (it_RX10_5 iu_RX11_0) er3) rfl (Nat.le_trans (by decide) hfr) (by decide) rfl rfl (Nat.le_of_ble_eq_true rfl) ?_
        cases h
        exact aw_iret X dX11_term_33 rfl hz.symm
    · rw [if_neg c2] at h
      refine aw_iconst (v := (-1)) X dX11_term_9 (by decide) ?_
      cases h
      exact aw_iret X dX11_term_10 rfl hz.symm
set_option maxRecDepth 100000 in
set_option maxHeartbeats 4000000 in
theorem ok_X11_term {x1 x2 : Int32} {s : Mem} {r : Int32 × Mem} (h : f_X11_term x1 x2 s = some r) (l : Launch) (D : va_G) (ρ : Nat → Nat) (cA : ClassId × ClassId × ClassId) (τ : AT) : AM l D ρ cA 0 τ yX11_term cX11_term 4 (some .int) 2 [.ref (ρ 0), .int x1, .int x2] (some (.int r.1)) s r.2 := by
  refine AM_of (L := [some (.ref (ρ 0)), some (.int x1), some (.int x2), none]) (by decide) (by simp [Value.category]) (Nat.le_of_ble_eq_true rfl) (fun j v q => ?_) (fun Z X hρ hz hτ => ?_)
  · exact aL_ok (n := 1) [.ref (ρ 0), .int x1, .int x2] j v q
  · subst hρ
    subst hτ
    exact w_X11_term (Nat.le_refl _) Z X x1 x2 s r hz h

theorem dX11_terms_0 : decode cX11_terms 0 = .ok (.iload_n 1, 1) := by decide +kernel
theorem dX11_terms_1 : decode cX11_terms 1 = .ok (.ifCond .lt 20, 3) := by decide +kernel
theorem dX11_terms_4 : decode cX11_terms 4 = .ok (.iload_n 1, 1) := by decide +kernel
theorem dX11_terms_5 : decode cX11_terms 5 = .ok (.iconst 1, 1) := by decide +kernel
theorem dX11_terms_6 : decode cX11_terms 6 = .ok (.if_icmp .gt 15, 3) := by decide +kernel
theorem dX11_terms_9 : decode cX11_terms 9 = .ok (.iload_n 2, 1) := by decide +kernel
theorem dX11_terms_10 : decode cX11_terms 10 = .ok (.bipush (-9), 2) := by decide +kernel
theorem dX11_terms_12 : decode cX11_terms 12 = .ok (.if_icmp .lt 9, 3) := by decide +kernel
theorem dX11_terms_15 : decode cX11_terms 15 = .ok (.iload_n 2, 1) := by decide +kernel
theorem dX11_terms_16 : decode cX11_terms 16 = .ok (.bipush 9, 2) := by decide +kernel
theorem dX11_terms_18 : decode cX11_terms 18 = .ok (.if_icmp .le 7, 3) := by decide +kernel
theorem dX11_terms_21 : decode cX11_terms 21 = .ok (.ldc_w 326, 3) := by decide +kernel
theorem dX11_terms_24 : decode cX11_terms 24 = .ok (.ireturn, 1) := by decide +kernel
theorem dX11_terms_25 : decode cX11_terms 25 = .ok (.aload_n 0, 1) := by decide +kernel
theorem dX11_terms_26 : decode cX11_terms 26 = .ok (.getfield 53, 3) := by decide +kernel
theorem dX11_terms_29 : decode cX11_terms 29 = .ok (.aload_n 0, 1) := by decide +kernel
theorem dX11_terms_30 : decode cX11_terms 30 = .ok (.getfield 10, 3) := by decide +kernel
theorem dX11_terms_33 : decode cX11_terms 33 = .ok (.getfield 222, 3) := by decide +kernel
theorem dX11_terms_36 : decode cX11_terms 36 = .ok (.iload_n 1, 1) := by decide +kernel
theorem dX11_terms_37 : decode cX11_terms 37 = .ok (.invokevirtual 322, 3) := by decide +kernel
theorem dX11_terms_40 : decode cX11_terms 40 = .ok (.iload_n 2, 1) := by decide +kernel
theorem dX11_terms_41 : decode cX11_terms 41 = .ok (.invokevirtual 327, 3) := by decide +kernel
theorem dX11_terms_44 : decode cX11_terms 44 = .ok (.ireturn, 1) := by decide +kernel
set_option maxRecDepth 100000 in
set_option maxHeartbeats 4000000 in
theorem w_X11_terms {fr : Nat} (hfr : 2 ≤ fr) (Z : AZ) (X : AX Z cX11_terms 3 RX11 (some .int) 0 fr) (x1 : Int32) (x2 : Int32) (s : Mem) (r : Int32 × Mem) (hz : zres Z = (some (.int r.1), r.2)) (h : f_X11_terms x1 x2 s = some r) : AW Z s 0 [some (.ref (zr Z 0)), some (.int x1), some (.int x2)] [] := by
  unfold f_X11_terms at h
  refine aw_iload_n X dX11_terms_0 rfl ?_
  refine aw_if_lt (tgt := 21) X dX11_terms_1 (by decide) (fun c1 => ?_) (fun c1 => ?_)
  · rw [if_pos c1] at h
    refine aw_ldcw X dX11_terms_21 kc_RX11_326 ?_
    cases h
    exact aw_iret X dX11_terms_24 rfl hz.symm
  · rw [if_neg c1] at h
    refine aw_iload_n X dX11_terms_4 rfl ?_
    refine aw_iconst (v := 1) X dX11_terms_5 (by decide) ?_
    refine aw_icmp_gt (tgt := 21) X dX11_terms_6 (by decide) (fun c2 => ?_) (fun c2 => ?_)
    · rw [if_pos c2] at h
      refine aw_ldcw X dX11_terms_21 kc_RX11_326 ?_
      cases h
      exact aw_iret X dX11_terms_24 rfl hz.symm
    · rw [if_neg c2] at h
      refine aw_iload_n X dX11_terms_9 rfl ?_
      refine aw_bipush (v := (-9)) X dX11_terms_10 (by decide) ?_
      refine aw_icmp_lt (tgt := 21) X dX11_terms_12 (by decide) (fun c3 => ?_) (fun c3 => ?_)
      · rw [if_pos c3] at h
        refine aw_ldcw X dX11_terms_21 kc_RX11_326 ?_
        cases h
        exact aw_iret X dX11_terms_24 rfl hz.symm
      · rw [if_neg c3] at h
        refine aw_iload_n X dX11_terms_15 rfl ?_
        refine aw_bipush (v := 9) X dX11_terms_16 (by decide) ?_
        refine aw_icmp_le (tgt := 25) X dX11_terms_18 (by decide) (fun c4 => ?_) (fun c4 => ?_)
        · rw [if_pos c4] at h
          refine aw_aload_n X dX11_terms_25 rfl ?_
          refine aw_getr X dX11_terms_26 fl_RX11_53 iu_RX11 gu_RX11_8 ?_
          refine aw_aload_n X dX11_terms_29 rfl ?_
          refine aw_getr X dX11_terms_30 fl_RX11_10 iu_RX11 gu_RX11_0 ?_
          refine aw_getr X dX11_terms_33 fl_RX11_222 iu_RX11_0 (gt_RX10_5 iu_RX11_0) ?_
          refine aw_iload_n X dX11_terms_36 rfl ?_
          obtain ⟨r5, er5, h⟩ := bnd h
          refine aw_callV X dX11_terms_37 cv_RX11_322 (ok_X8_termRow (it_RX10_5 iu_RX11_0) er5 _ _ _ _ _) (it_RX10_5 iu_RX11_0) rfl (Nat.le_trans (by decide) hfr) (by decide) rfl rfl (Nat.le_of_ble_eq_true rfl) ?_
          refine aw_iload_n X dX11_terms_40 rfl ?_
          obtain ⟨r6, er6, h⟩ := bnd h
          refine aw_callV X dX11_terms_41 cv_RX11_327 (ok_X9_valueAt (rt_X8_termRow (it_RX10_5 iu_RX11_0) er5) er6 _ _ _ _ _) iu_RX11_8 rfl (Nat.le_trans (by decide) hfr) (by decide) rfl rfl (Nat.le_of_ble_eq_true rfl) ?_
          cases h
          exact aw_iret X dX11_terms_44 rfl hz.symm
        · rw [if_neg c4] at h
          refine aw_ldcw X dX11_terms_21 kc_RX11_326 ?_
          cases h
          exact aw_iret X dX11_terms_24 rfl hz.symm
set_option maxRecDepth 100000 in
set_option maxHeartbeats 4000000 in
theorem ok_X11_terms {x1 x2 : Int32} {s : Mem} {r : Int32 × Mem} (h : f_X11_terms x1 x2 s = some r) (l : Launch) (D : va_G) (ρ : Nat → Nat) (cA : ClassId × ClassId × ClassId) (τ : AT) : AM l D ρ cA 0 τ yX11_terms cX11_terms 3 (some .int) 2 [.ref (ρ 0), .int x1, .int x2] (some (.int r.1)) s r.2 := by
  refine AM_of (L := [some (.ref (ρ 0)), some (.int x1), some (.int x2)]) (by decide) (by simp [Value.category]) (Nat.le_of_ble_eq_true rfl) (fun j v q => ?_) (fun Z X hρ hz hτ => ?_)
  · exact aL_ok (n := 0) [.ref (ρ 0), .int x1, .int x2] j v q
  · subst hρ
    subst hτ
    exact w_X11_terms (Nat.le_refl _) Z X x1 x2 s r hz h

theorem dX11_product_0 : decode cX11_product 0 = .ok (.iload_n 1, 1) := by decide +kernel
theorem dX11_product_1 : decode cX11_product 1 = .ok (.ifCond .eq 8, 3) := by decide +kernel
theorem dX11_product_4 : decode cX11_product 4 = .ok (.iload_n 1, 1) := by decide +kernel
theorem dX11_product_5 : decode cX11_product 5 = .ok (.iconst 1, 1) := by decide +kernel
theorem dX11_product_6 : decode cX11_product 6 = .ok (.if_icmp .ne 22, 3) := by decide +kernel
theorem dX11_product_9 : decode cX11_product 9 = .ok (.aload_n 0, 1) := by decide +kernel
theorem dX11_product_10 : decode cX11_product 10 = .ok (.getfield 53, 3) := by decide +kernel
theorem dX11_product_13 : decode cX11_product 13 = .ok (.aload_n 0, 1) := by decide +kernel
theorem dX11_product_14 : decode cX11_product 14 = .ok (.getfield 10, 3) := by decide +kernel
theorem dX11_product_17 : decode cX11_product 17 = .ok (.getfield 222, 3) := by decide +kernel
theorem dX11_product_20 : decode cX11_product 20 = .ok (.iload_n 1, 1) := by decide +kernel
theorem dX11_product_21 : decode cX11_product 21 = .ok (.invokevirtual 322, 3) := by decide +kernel
theorem dX11_product_24 : decode cX11_product 24 = .ok (.invokevirtual 330, 3) := by decide +kernel
theorem dX11_product_27 : decode cX11_product 27 = .ok (.ireturn, 1) := by decide +kernel
theorem dX11_product_28 : decode cX11_product 28 = .ok (.iload_n 1, 1) := by decide +kernel
theorem dX11_product_29 : decode cX11_product 29 = .ok (.bipush 10, 2) := by decide +kernel
theorem dX11_product_31 : decode cX11_product 31 = .ok (.if_icmp .lt 9, 3) := by decide +kernel
theorem dX11_product_34 : decode cX11_product 34 = .ok (.iload_n 1, 1) := by decide +kernel
theorem dX11_product_35 : decode cX11_product 35 = .ok (.bipush 20, 2) := by decide +kernel
theorem dX11_product_37 : decode cX11_product 37 = .ok (.if_icmp .le 7, 3) := by decide +kernel
theorem dX11_product_40 : decode cX11_product 40 = .ok (.ldc_w 326, 3) := by decide +kernel
theorem dX11_product_43 : decode cX11_product 43 = .ok (.ireturn, 1) := by decide +kernel
theorem dX11_product_44 : decode cX11_product 44 = .ok (.aload_n 0, 1) := by decide +kernel
theorem dX11_product_45 : decode cX11_product 45 = .ok (.getfield 53, 3) := by decide +kernel
theorem dX11_product_48 : decode cX11_product 48 = .ok (.aload_n 0, 1) := by decide +kernel
theorem dX11_product_49 : decode cX11_product 49 = .ok (.getfield 10, 3) := by decide +kernel
theorem dX11_product_52 : decode cX11_product 52 = .ok (.getfield 222, 3) := by decide +kernel
theorem dX11_product_55 : decode cX11_product 55 = .ok (.getfield 334, 3) := by decide +kernel
theorem dX11_product_58 : decode cX11_product 58 = .ok (.aload_n 0, 1) := by decide +kernel
theorem dX11_product_59 : decode cX11_product 59 = .ok (.getfield 10, 3) := by decide +kernel
theorem dX11_product_62 : decode cX11_product 62 = .ok (.getfield 222, 3) := by decide +kernel
theorem dX11_product_65 : decode cX11_product 65 = .ok (.getfield 337, 3) := by decide +kernel
theorem dX11_product_68 : decode cX11_product 68 = .ok (.iload_n 1, 1) := by decide +kernel
theorem dX11_product_69 : decode cX11_product 69 = .ok (.bipush 10, 2) := by decide +kernel
theorem dX11_product_71 : decode cX11_product 71 = .ok (.isub, 1) := by decide +kernel
theorem dX11_product_72 : decode cX11_product 72 = .ok (.invokevirtual 340, 3) := by decide +kernel
theorem dX11_product_75 : decode cX11_product 75 = .ok (.ireturn, 1) := by decide +kernel
set_option maxRecDepth 100000 in
set_option maxHeartbeats 4000000 in
theorem jo_X11_product_9 {fr : Nat} (hfr : 3 ≤ fr) (Z : AZ) (X : AX Z cX11_product 2 RX11 (some .int) 0 fr) (x1 : Int32) (s : Mem) (r : Int32 × Mem) (hz : zres Z = (some (.int r.1), r.2)) (h : jn_X11_product_9 x1 s = some r) : AW Z s 9 [some (.ref (zr Z 0)), some (.int x1)] [] := by
  unfold jn_X11_product_9 at h
  refine aw_aload_n X dX11_product_9 rfl ?_
  refine aw_getr X dX11_product_10 fl_RX11_53 iu_RX11 gu_RX11_8 ?_
  refine aw_aload_n X dX11_product_13 rfl ?_
  refine aw_getr X dX11_product_14 fl_RX11_10 iu_RX11 gu_RX11_0 ?_
  refine aw_getr X dX11_product_17 fl_RX11_222 iu_RX11_0 (gt_RX10_5 iu_RX11_0) ?_
  refine aw_iload_n X dX11_product_20 rfl ?_
  obtain ⟨r2, er2, h⟩ := bnd h
  refine aw_callV X dX11_product_21 cv_RX11_322 (ok_X8_termRow (it_RX10_5 iu_RX11_0) er2 _ _ _ _ _) (it_RX10_5 iu_RX11_0) rfl (Nat.le_trans (by decide) hfr) (by decide) rfl rfl (Nat.le_of_ble_eq_true rfl) ?_
  obtain ⟨r3, er3, h⟩ := bnd h
  refine aw_callV X dX11_product_24 cv_RX11_330 (ok_X9_zeros (rt_X8_termRow (it_RX10_5 iu_RX11_0) er2) er3 _ _ _ _ _) iu_RX11_8 rfl (Nat.le_trans (by decide) hfr) (by decide) rfl rfl (Nat.le_of_ble_eq_true rfl) ?_
  cases h
  exact aw_iret X dX11_product_27 rfl hz.symm
set_option maxRecDepth 100000 in
set_option maxHeartbeats 4000000 in
theorem w_X11_product {fr : Nat} (hfr : 3 ≤ fr) (Z : AZ) (X : AX Z cX11_product 2 RX11 (some .int) 0 fr) (x1 : Int32) (s : Mem) (r : Int32 × Mem) (hz : zres Z = (some (.int r.1), r.2)) (h : f_X11_product x1 s = some r) : AW Z s 0 [some (.ref (zr Z 0)), some (.int x1)] [] := by
  unfold f_X11_product at h
  refine aw_iload_n X dX11_product_0 rfl ?_
  refine aw_if_eq (tgt := 9) X dX11_product_1 (by decide) (fun c1 => ?_) (fun c1 => ?_)
  · rw [if_pos c1] at h
    refine aw_msk [true, true] ?_
    exact jo_X11_product_9 hfr Z X _ _ _ hz h
  · rw [if_neg c1] at h
    refine aw_iload_n X dX11_product_4 rfl ?_
    refine aw_iconst (v := 1) X dX11_product_5 (by decide) ?_
    refine aw_icmp_ne (tgt := 28) X dX11_product_6 (by decide) (fun c4 => ?_) (fun c4 => ?_)
    · rw [if_neg c4] at h
      refine aw_iload_n X dX11_product_28 rfl ?_
      refine aw_bipush (v := 10) X dX11_product_29 (by decide) ?_
      refine aw_icmp_lt (tgt := 40) X dX11_product_31 (by decide) (fun c5 => ?_) (fun c5 => ?_)
      · rw [if_pos c5] at h
        refine aw_ldcw X dX11_product_40 kc_RX11_326 ?_
        cases h
        exact aw_iret X dX11_product_43 rfl hz.symm
      · rw [if_neg c5] at h
        refine aw_iload_n X dX11_product_34 rfl ?_
        refine aw_bipush (v := 20) X dX11_product_35 (by decide) ?_
        refine aw_icmp_le (tgt := 44) X dX11_product_37 (by decide) (fun c6 => ?_) (fun c6 => ?_)
        · rw [if_pos c6] at h
          refine aw_aload_n X dX11_product_44 rfl ?_
          refine aw_getr X dX11_product_45 fl_RX11_53 iu_RX11 gu_RX11_8 ?_
          refine aw_aload_n X dX11_product_48 rfl ?_
          refine aw_getr X dX11_product_49 fl_RX11_10 iu_RX11 gu_RX11_0 ?_
          refine aw_getr X dX11_product_52 fl_RX11_222 iu_RX11_0 (gt_RX10_5 iu_RX11_0) ?_
          refine aw_getr X dX11_product_55 fl_RX11_334 (it_RX10_5 iu_RX11_0) (gt_RX8_7 (it_RX10_5 iu_RX11_0)) ?_
          refine aw_aload_n X dX11_product_58 rfl ?_
          refine aw_getr X dX11_product_59 fl_RX11_10 iu_RX11 gu_RX11_0 ?_
          refine aw_getr X dX11_product_62 fl_RX11_222 iu_RX11_0 (gt_RX10_5 iu_RX11_0) ?_
          refine aw_getr X dX11_product_65 fl_RX11_337 (it_RX10_5 iu_RX11_0) (gt_RX8_8 (it_RX10_5 iu_RX11_0)) ?_
          refine aw_iload_n X dX11_product_68 rfl ?_
          refine aw_bipush (v := 10) X dX11_product_69 (by decide) ?_
          refine aw_isub X dX11_product_71 ?_
          obtain ⟨r7, er7, h⟩ := bnd h
          refine aw_callV X dX11_product_72 cv_RX11_340 (ok_X9_productTerm (it_RX8_7 (it_RX10_5 iu_RX11_0)) (it_RX8_8 (it_RX10_5 iu_RX11_0)) er7 _ _ _ _ _) iu_RX11_8 rfl (Nat.le_trans (by decide) hfr) (by decide) rfl rfl (Nat.le_of_ble_eq_true rfl) ?_
          cases h
          exact aw_iret X dX11_product_75 rfl hz.symm
        · rw [if_neg c6] at h
          refine aw_ldcw X dX11_product_40 kc_RX11_326 ?_
          cases h
          exact aw_iret X dX11_product_43 rfl hz.symm
    · rw [if_pos c4] at h
      refine aw_msk [true, true] ?_
      exact jo_X11_product_9 hfr Z X _ _ _ hz h
set_option maxRecDepth 100000 in
set_option maxHeartbeats 4000000 in
theorem ok_X11_product {x1 : Int32} {s : Mem} {r : Int32 × Mem} (h : f_X11_product x1 s = some r) (l : Launch) (D : va_G) (ρ : Nat → Nat) (cA : ClassId × ClassId × ClassId) (τ : AT) : AM l D ρ cA 0 τ yX11_product cX11_product 2 (some .int) 3 [.ref (ρ 0), .int x1] (some (.int r.1)) s r.2 := by
  refine AM_of (L := [some (.ref (ρ 0)), some (.int x1)]) (by decide) (by simp [Value.category]) (Nat.le_of_ble_eq_true rfl) (fun j v q => ?_) (fun Z X hρ hz hτ => ?_)
  · exact aL_ok (n := 0) [.ref (ρ 0), .int x1] j v q
  · subst hρ
    subst hτ
    exact w_X11_product (Nat.le_refl _) Z X x1 s r hz h
