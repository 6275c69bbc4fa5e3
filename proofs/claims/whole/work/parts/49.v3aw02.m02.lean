/-! ===== walks: J0_indexOf_7cf53 .. X4_readPlanLine ===== -/
theorem dJ0_indexOf_7cf53_0 : decode cJ0_indexOf_7cf53 0 = .ok (.aload_n 0, 1) := by decide +kernel
theorem dJ0_indexOf_7cf53_1 : decode cJ0_indexOf_7cf53 1 = .ok (.invokevirtual 492, 3) := by decide +kernel
theorem dJ0_indexOf_7cf53_4 : decode cJ0_indexOf_7cf53 4 = .ok (.ifCond .eq 19, 3) := by decide +kernel
theorem dJ0_indexOf_7cf53_7 : decode cJ0_indexOf_7cf53 7 = .ok (.aload_n 0, 1) := by decide +kernel
theorem dJ0_indexOf_7cf53_8 : decode cJ0_indexOf_7cf53 8 = .ok (.getfield 9, 3) := by decide +kernel
theorem dJ0_indexOf_7cf53_11 : decode cJ0_indexOf_7cf53 11 = .ok (.iload_n 1, 1) := by decide +kernel
theorem dJ0_indexOf_7cf53_12 : decode cJ0_indexOf_7cf53 12 = .ok (.iload_n 2, 1) := by decide +kernel
theorem dJ0_indexOf_7cf53_13 : decode cJ0_indexOf_7cf53 13 = .ok (.aload_n 0, 1) := by decide +kernel
theorem dJ0_indexOf_7cf53_14 : decode cJ0_indexOf_7cf53 14 = .ok (.invokevirtual 505, 3) := by decide +kernel
theorem dJ0_indexOf_7cf53_17 : decode cJ0_indexOf_7cf53 17 = .ok (.invokestatic 637, 3) := by decide +kernel
theorem dJ0_indexOf_7cf53_20 : decode cJ0_indexOf_7cf53 20 = .ok (.goto 16, 3) := by decide +kernel
theorem dJ0_indexOf_7cf53_23 : decode cJ0_indexOf_7cf53 23 = .ok (.aload_n 0, 1) := by decide +kernel
theorem dJ0_indexOf_7cf53_24 : decode cJ0_indexOf_7cf53 24 = .ok (.getfield 9, 3) := by decide +kernel
theorem dJ0_indexOf_7cf53_27 : decode cJ0_indexOf_7cf53 27 = .ok (.iload_n 1, 1) := by decide +kernel
theorem dJ0_indexOf_7cf53_28 : decode cJ0_indexOf_7cf53 28 = .ok (.iload_n 2, 1) := by decide +kernel
theorem dJ0_indexOf_7cf53_29 : decode cJ0_indexOf_7cf53 29 = .ok (.aload_n 0, 1) := by decide +kernel
theorem dJ0_indexOf_7cf53_30 : decode cJ0_indexOf_7cf53 30 = .ok (.invokevirtual 505, 3) := by decide +kernel
theorem dJ0_indexOf_7cf53_33 : decode cJ0_indexOf_7cf53 33 = .ok (.invokestatic 640, 3) := by decide +kernel
theorem dJ0_indexOf_7cf53_36 : decode cJ0_indexOf_7cf53 36 = .ok (.ireturn, 1) := by decide +kernel
set_option maxRecDepth 100000 in
set_option maxHeartbeats 4000000 in
theorem w_J0_indexOf_7cf53 {fr : Nat} (hfr : 2 ≤ fr) (Z : AZ) (X : AX Z cJ0_indexOf_7cf53 3 RJ0 (some .int) 0 fr) (a0 : Nat) (h0 : a0 < 2) (x1 : Int32) (x2 : Int32) (s : Mem) (r : Int32 × Mem) (hz : zres Z = (some (.int r.1), r.2)) (h : f_J0_indexOf_7cf53 a0 x1 x2 s = some r) : AW Z s 0 [some (.ref (zk Z a0)), some (.int x1), some (.int x2)] [] := by
  unfold f_J0_indexOf_7cf53 at h
  refine aw_aload_n X dJ0_indexOf_7cf53_0 rfl ?_
  obtain ⟨r1, er1, h⟩ := bnd h
  refine aw_callT X dJ0_indexOf_7cf53_1 cv_RJ0_492 (ok_J0_isLatin1_aae02 h0 er1 _ _ _ _ _) h0 rfl (Nat.le_trans (by decide) hfr) (by decide) rfl rfl (Nat.le_of_ble_eq_true rfl) ?_
  refine aw_if_eq (tgt := 23) X dJ0_indexOf_7cf53_4 (by decide) (fun c2 => ?_) (fun c2 => ?_)
  · rw [if_pos c2] at h
    refine aw_aload_n X dJ0_indexOf_7cf53_23 rfl ?_
    refine aw_sval X dJ0_indexOf_7cf53_24 sw_RJ0_9 h0 ?_
    refine aw_iload_n X dJ0_indexOf_7cf53_27 rfl ?_
    refine aw_iload_n X dJ0_indexOf_7cf53_28 rfl ?_
    refine aw_aload_n X dJ0_indexOf_7cf53_29 rfl ?_
    obtain ⟨r3, er3, h⟩ := bnd h
    refine aw_callT X dJ0_indexOf_7cf53_30 cv_RJ0_505 (ok_J0_length_8abf5 h0 er3 _ _ _ _ _) h0 rfl (Nat.le_trans (by decide) hfr) (by decide) rfl rfl (Nat.le_of_ble_eq_true rfl) ?_
    cases h
  · rw [if_neg c2] at h
    refine aw_aload_n X dJ0_indexOf_7cf53_7 rfl ?_
    refine aw_sval X dJ0_indexOf_7cf53_8 sw_RJ0_9 h0 ?_
    refine aw_iload_n X dJ0_indexOf_7cf53_11 rfl ?_
    refine aw_iload_n X dJ0_indexOf_7cf53_12 rfl ?_
    refine aw_aload_n X dJ0_indexOf_7cf53_13 rfl ?_
    obtain ⟨r4, er4, h⟩ := bnd h
    refine aw_callT X dJ0_indexOf_7cf53_14 cv_RJ0_505 (ok_J0_length_8abf5 h0 er4 _ _ _ _ _) h0 rfl (Nat.le_trans (by decide) hfr) (by decide) rfl rfl (Nat.le_of_ble_eq_true rfl) ?_
    obtain ⟨r5, er5, h⟩ := bnd h
    refine aw_callS X dJ0_indexOf_7cf53_17 cv_RJ0_637 (ok_J1_indexOf_4cfef h0 er5 _ _ _ _ _) (Nat.le_trans (by decide) hfr) (by decide) rfl rfl (Nat.le_of_ble_eq_true rfl) ?_
    refine aw_goto (tgt := 36) X dJ0_indexOf_7cf53_20 (by decide) ?_
    cases h
    exact aw_iret X dJ0_indexOf_7cf53_36 rfl hz.symm
set_option maxRecDepth 100000 in
set_option maxHeartbeats 4000000 in
theorem ok_J0_indexOf_7cf53 {a0 : Nat} (h0 : a0 < 2) {x1 x2 : Int32} {s : Mem} {r : Int32 × Mem} (h : f_J0_indexOf_7cf53 a0 x1 x2 s = some r) (l : Launch) (D : va_G) (ρ : Nat → Nat) (cA : ClassId × ClassId × ClassId) (τ : AT) : AM l D ρ cA 0 τ yJ0_indexOf_7cf53 cJ0_indexOf_7cf53 3 (some .int) 2 [.ref (τ.2.1 a0), .int x1, .int x2] (some (.int r.1)) s r.2 := by
  refine AM_of (L := [some (.ref (τ.2.1 a0)), some (.int x1), some (.int x2)]) (by decide) (by simp [Value.category]) (Nat.le_of_ble_eq_true rfl) (fun j v q => ?_) (fun Z X hρ hz hτ => ?_)
  · exact aL_ok (n := 0) [.ref (τ.2.1 a0), .int x1, .int x2] j v q
  · subst hρ
    subst hτ
    exact w_J0_indexOf_7cf53 (Nat.le_refl _) Z X a0 h0 x1 x2 s r hz h

theorem dJ0_indexOf_0f7a4_0 : decode cJ0_indexOf_0f7a4 0 = .ok (.aload_n 0, 1) := by decide +kernel
theorem dJ0_indexOf_0f7a4_1 : decode cJ0_indexOf_0f7a4 1 = .ok (.iload_n 1, 1) := by decide +kernel
theorem dJ0_indexOf_0f7a4_2 : decode cJ0_indexOf_0f7a4 2 = .ok (.iconst 0, 1) := by decide +kernel
theorem dJ0_indexOf_0f7a4_3 : decode cJ0_indexOf_0f7a4 3 = .ok (.invokevirtual 633, 3) := by decide +kernel
theorem dJ0_indexOf_0f7a4_6 : decode cJ0_indexOf_0f7a4 6 = .ok (.ireturn, 1) := by decide +kernel
set_option maxRecDepth 100000 in
set_option maxHeartbeats 4000000 in
theorem w_J0_indexOf_0f7a4 {fr : Nat} (hfr : 3 ≤ fr) (Z : AZ) (X : AX Z cJ0_indexOf_0f7a4 2 RJ0 (some .int) 0 fr) (a0 : Nat) (h0 : a0 < 2) (x1 : Int32) (s : Mem) (r : Int32 × Mem) (hz : zres Z = (some (.int r.1), r.2)) (h : f_J0_indexOf_0f7a4 a0 x1 s = some r) : AW Z s 0 [some (.ref (zk Z a0)), some (.int x1)] [] := by
  unfold f_J0_indexOf_0f7a4 at h
  refine aw_aload_n X dJ0_indexOf_0f7a4_0 rfl ?_
  refine aw_iload_n X dJ0_indexOf_0f7a4_1 rfl ?_
  refine aw_iconst (v := 0) X dJ0_indexOf_0f7a4_2 (by decide) ?_
  obtain ⟨r1, er1, h⟩ := bnd h
  refine aw_callT X dJ0_indexOf_0f7a4_3 cv_RJ0_633 (ok_J0_indexOf_7cf53 h0 er1 _ _ _ _ _) h0 rfl (Nat.le_trans (by decide) hfr) (by decide) rfl rfl (Nat.le_of_ble_eq_true rfl) ?_
  cases h
  exact aw_iret X dJ0_indexOf_0f7a4_6 rfl hz.symm
set_option maxRecDepth 100000 in
set_option maxHeartbeats 4000000 in
theorem ok_J0_indexOf_0f7a4 {a0 : Nat} (h0 : a0 < 2) {x1 : Int32} {s : Mem} {r : Int32 × Mem} (h : f_J0_indexOf_0f7a4 a0 x1 s = some r) (l : Launch) (D : va_G) (ρ : Nat → Nat) (cA : ClassId × ClassId × ClassId) (τ : AT) : AM l D ρ cA 0 τ yJ0_indexOf_0f7a4 cJ0_indexOf_0f7a4 2 (some .int) 3 [.ref (τ.2.1 a0), .int x1] (some (.int r.1)) s r.2 := by
  refine AM_of (L := [some (.ref (τ.2.1 a0)), some (.int x1)]) (by decide) (by simp [Value.category]) (Nat.le_of_ble_eq_true rfl) (fun j v q => ?_) (fun Z X hρ hz hτ => ?_)
  · exact aL_ok (n := 0) [.ref (τ.2.1 a0), .int x1] j v q
  · subst hρ
    subst hτ
    exact w_J0_indexOf_0f7a4 (Nat.le_refl _) Z X a0 h0 x1 s r hz h

theorem dX6_advance_0 : decode cX6_advance 0 = .ok (.aload_n 0, 1) := by decide +kernel
theorem dX6_advance_1 : decode cX6_advance 1 = .ok (.getfield 27, 3) := by decide +kernel
theorem dX6_advance_4 : decode cX6_advance 4 = .ok (.aload_n 0, 1) := by decide +kernel
theorem dX6_advance_5 : decode cX6_advance 5 = .ok (.getfield 24, 3) := by decide +kernel
theorem dX6_advance_8 : decode cX6_advance 8 = .ok (.if_icmp .ge 13, 3) := by decide +kernel
theorem dX6_advance_11 : decode cX6_advance 11 = .ok (.aload_n 0, 1) := by decide +kernel
theorem dX6_advance_12 : decode cX6_advance 12 = .ok (.dup, 1) := by decide +kernel
theorem dX6_advance_13 : decode cX6_advance 13 = .ok (.getfield 27, 3) := by decide +kernel
theorem dX6_advance_16 : decode cX6_advance 16 = .ok (.iconst 1, 1) := by decide +kernel
theorem dX6_advance_17 : decode cX6_advance 17 = .ok (.iadd, 1) := by decide +kernel
theorem dX6_advance_18 : decode cX6_advance 18 = .ok (.putfield 27, 3) := by decide +kernel
theorem dX6_advance_21 : decode cX6_advance 21 = .ok (.aload_n 0, 1) := by decide +kernel
theorem dX6_advance_22 : decode cX6_advance 22 = .ok (.getfield 27, 3) := by decide +kernel
theorem dX6_advance_25 : decode cX6_advance 25 = .ok (.aload_n 0, 1) := by decide +kernel
theorem dX6_advance_26 : decode cX6_advance 26 = .ok (.getfield 24, 3) := by decide +kernel
theorem dX6_advance_29 : decode cX6_advance 29 = .ok (.if_icmp .lt 7, 3) := by decide +kernel
theorem dX6_advance_32 : decode cX6_advance 32 = .ok (.iconst 1, 1) := by decide +kernel
theorem dX6_advance_33 : decode cX6_advance 33 = .ok (.goto 4, 3) := by decide +kernel
theorem dX6_advance_36 : decode cX6_advance 36 = .ok (.iconst 0, 1) := by decide +kernel
theorem dX6_advance_37 : decode cX6_advance 37 = .ok (.istore_n 1, 1) := by decide +kernel
theorem dX6_advance_38 : decode cX6_advance 38 = .ok (.aload_n 0, 1) := by decide +kernel
theorem dX6_advance_39 : decode cX6_advance 39 = .ok (.iload_n 1, 1) := by decide +kernel
theorem dX6_advance_40 : decode cX6_advance 40 = .ok (.ifCond .eq 7, 3) := by decide +kernel
theorem dX6_advance_43 : decode cX6_advance 43 = .ok (.iconst 0, 1) := by decide +kernel
theorem dX6_advance_44 : decode cX6_advance 44 = .ok (.goto 12, 3) := by decide +kernel
theorem dX6_advance_47 : decode cX6_advance 47 = .ok (.aload_n 0, 1) := by decide +kernel
theorem dX6_advance_48 : decode cX6_advance 48 = .ok (.getfield 34, 3) := by decide +kernel
theorem dX6_advance_51 : decode cX6_advance 51 = .ok (.aload_n 0, 1) := by decide +kernel
theorem dX6_advance_52 : decode cX6_advance 52 = .ok (.getfield 27, 3) := by decide +kernel
theorem dX6_advance_55 : decode cX6_advance 55 = .ok (.iaload, 1) := by decide +kernel
theorem dX6_advance_56 : decode cX6_advance 56 = .ok (.putfield 15, 3) := by decide +kernel
theorem dX6_advance_59 : decode cX6_advance 59 = .ok (.aload_n 0, 1) := by decide +kernel
theorem dX6_advance_60 : decode cX6_advance 60 = .ok (.iload_n 1, 1) := by decide +kernel
theorem dX6_advance_61 : decode cX6_advance 61 = .ok (.ifCond .eq 7, 3) := by decide +kernel
theorem dX6_advance_64 : decode cX6_advance 64 = .ok (.iconst (-1), 1) := by decide +kernel
theorem dX6_advance_65 : decode cX6_advance 65 = .ok (.goto 12, 3) := by decide +kernel
theorem dX6_advance_68 : decode cX6_advance 68 = .ok (.aload_n 0, 1) := by decide +kernel
theorem dX6_advance_69 : decode cX6_advance 69 = .ok (.getfield 37, 3) := by decide +kernel
theorem dX6_advance_72 : decode cX6_advance 72 = .ok (.aload_n 0, 1) := by decide +kernel
theorem dX6_advance_73 : decode cX6_advance 73 = .ok (.getfield 27, 3) := by decide +kernel
theorem dX6_advance_76 : decode cX6_advance 76 = .ok (.iaload, 1) := by decide +kernel
theorem dX6_advance_77 : decode cX6_advance 77 = .ok (.putfield 18, 3) := by decide +kernel
theorem dX6_advance_80 : decode cX6_advance 80 = .ok (.aload_n 0, 1) := by decide +kernel
theorem dX6_advance_81 : decode cX6_advance 81 = .ok (.iload_n 1, 1) := by decide +kernel
theorem dX6_advance_82 : decode cX6_advance 82 = .ok (.ifCond .eq 10, 3) := by decide +kernel
theorem dX6_advance_85 : decode cX6_advance 85 = .ok (.aload_n 0, 1) := by decide +kernel
theorem dX6_advance_86 : decode cX6_advance 86 = .ok (.getfield 9, 3) := by decide +kernel
theorem dX6_advance_89 : decode cX6_advance 89 = .ok (.goto 12, 3) := by decide +kernel
theorem dX6_advance_92 : decode cX6_advance 92 = .ok (.aload_n 0, 1) := by decide +kernel
theorem dX6_advance_93 : decode cX6_advance 93 = .ok (.getfield 40, 3) := by decide +kernel
theorem dX6_advance_96 : decode cX6_advance 96 = .ok (.aload_n 0, 1) := by decide +kernel
theorem dX6_advance_97 : decode cX6_advance 97 = .ok (.getfield 27, 3) := by decide +kernel
theorem dX6_advance_100 : decode cX6_advance 100 = .ok (.iaload, 1) := by decide +kernel
theorem dX6_advance_101 : decode cX6_advance 101 = .ok (.putfield 21, 3) := by decide +kernel
theorem dX6_advance_104 : decode cX6_advance 104 = .ok (.return_, 1) := by decide +kernel
set_option maxRecDepth 100000 in
set_option maxHeartbeats 4000000 in
theorem jo_X6_advance_77 {fr : Nat} (hfr : 0 ≤ fr) (Z : AZ) (X : AX Z cX6_advance 2 RX6 none 0 fr) (x1 : Int32) (t1 : Int32) (s : Mem) (r : Mem) (hz : zres Z = (none, r)) (h : jn_X6_advance_77 x1 t1 s = some r) : AW Z s 77 [some (.ref (zr Z 173)), some (.int x1)] [.int t1, .ref (zr Z 173)] := by
  unfold jn_X6_advance_77 at h
  refine aw_put X dX6_advance_77 fp_RX6_18 iu_RX6 gu_RX6_2 rfl rfl ?_
  refine aw_aload_n X dX6_advance_80 rfl ?_
  refine aw_iload_n X dX6_advance_81 rfl ?_
  refine aw_if_eq (tgt := 92) X dX6_advance_82 (by decide) (fun c7 => ?_) (fun c7 => ?_)
  · rw [if_pos c7] at h
    refine aw_aload_n X dX6_advance_92 rfl ?_
    refine aw_getr X dX6_advance_93 fl_RX6_40 iu_RX6 gu_RX6_9 ?_
    refine aw_aload_n X dX6_advance_96 rfl ?_
    refine aw_geti X dX6_advance_97 fl_RX6_27 iu_RX6 gu_RX6_5 ?_
    obtain ⟨v8, ev8, h⟩ := bnd h
    refine aw_iald X dX6_advance_100 iu_RX6_9 ev8 ?_
    refine aw_put X dX6_advance_101 fp_RX6_21 iu_RX6 gu_RX6_3 rfl rfl ?_
    cases h
    exact aw_vret X dX6_advance_104 rfl hz.symm
  · rw [if_neg c7] at h
    refine aw_aload_n X dX6_advance_85 rfl ?_
    refine aw_geti X dX6_advance_86 fl_RX6_9 iu_RX6 gu_RX6_0 ?_
    refine aw_goto (tgt := 101) X dX6_advance_89 (by decide) ?_
    refine aw_put X dX6_advance_101 fp_RX6_21 iu_RX6 gu_RX6_3 rfl rfl ?_
    cases h
    exact aw_vret X dX6_advance_104 rfl hz.symm
set_option maxRecDepth 100000 in
set_option maxHeartbeats 4000000 in
theorem jo_X6_advance_56 {fr : Nat} (hfr : 0 ≤ fr) (Z : AZ) (X : AX Z cX6_advance 2 RX6 none 0 fr) (x1 : Int32) (t1 : Int32) (s : Mem) (r : Mem) (hz : zres Z = (none, r)) (h : jn_X6_advance_56 x1 t1 s = some r) : AW Z s 56 [some (.ref (zr Z 173)), some (.int x1)] [.int t1, .ref (zr Z 173)] := by
  unfold jn_X6_advance_56 at h
  refine aw_put X dX6_advance_56 fp_RX6_15 iu_RX6 gu_RX6_1 rfl rfl ?_
  refine aw_aload_n X dX6_advance_59 rfl ?_
  refine aw_iload_n X dX6_advance_60 rfl ?_
  refine aw_if_eq (tgt := 68) X dX6_advance_61 (by decide) (fun c5 => ?_) (fun c5 => ?_)
  · rw [if_pos c5] at h
    refine aw_aload_n X dX6_advance_68 rfl ?_
    refine aw_getr X dX6_advance_69 fl_RX6_37 iu_RX6 gu_RX6_8 ?_
    refine aw_aload_n X dX6_advance_72 rfl ?_
    refine aw_geti X dX6_advance_73 fl_RX6_27 iu_RX6 gu_RX6_5 ?_
    obtain ⟨v6, ev6, h⟩ := bnd h
    refine aw_iald X dX6_advance_76 iu_RX6_8 ev6 ?_
    refine aw_msk [true, true] ?_
    exact jo_X6_advance_77 hfr Z X _ _ _ _ hz h
  · rw [if_neg c5] at h
    refine aw_iconst (v := (-1)) X dX6_advance_64 (by decide) ?_
    refine aw_goto (tgt := 77) X dX6_advance_65 (by decide) ?_
    refine aw_msk [true, true] ?_
    exact jo_X6_advance_77 hfr Z X _ _ _ _ hz h
set_option maxRecDepth 100000 in
set_option maxHeartbeats 4000000 in
theorem jo_X6_advance_37 {fr : Nat} (hfr : 0 ≤ fr) (Z : AZ) (X : AX Z cX6_advance 2 RX6 none 0 fr) (t0 : Int32) (s : Mem) (r : Mem) (hz : zres Z = (none, r)) (h : jn_X6_advance_37 t0 s = some r) : AW Z s 37 [some (.ref (zr Z 173)), none] [.int t0] := by
  unfold jn_X6_advance_37 at h
  refine aw_istore_n (L' := [some (.ref (zr Z 173)), some (.int t0)]) X dX6_advance_37 (by decide) rfl ?_
  refine aw_aload_n X dX6_advance_38 rfl ?_
  refine aw_iload_n X dX6_advance_39 rfl ?_
  refine aw_if_eq (tgt := 47) X dX6_advance_40 (by decide) (fun c3 => ?_) (fun c3 => ?_)
  · rw [if_pos c3] at h
    refine aw_aload_n X dX6_advance_47 rfl ?_
    refine aw_getr X dX6_advance_48 fl_RX6_34 iu_RX6 gu_RX6_7 ?_
    refine aw_aload_n X dX6_advance_51 rfl ?_
    refine aw_geti X dX6_advance_52 fl_RX6_27 iu_RX6 gu_RX6_5 ?_
    obtain ⟨v4, ev4, h⟩ := bnd h
    refine aw_iald X dX6_advance_55 iu_RX6_7 ev4 ?_
    refine aw_msk [true, true] ?_
    exact jo_X6_advance_56 hfr Z X _ _ _ _ hz h
  · rw [if_neg c3] at h
    refine aw_iconst (v := 0) X dX6_advance_43 (by decide) ?_
    refine aw_goto (tgt := 56) X dX6_advance_44 (by decide) ?_
    refine aw_msk [true, true] ?_
    exact jo_X6_advance_56 hfr Z X _ _ _ _ hz h
set_option maxRecDepth 100000 in
set_option maxHeartbeats 4000000 in
theorem jo_X6_advance_21 {fr : Nat} (hfr : 0 ≤ fr) (Z : AZ) (X : AX Z cX6_advance 2 RX6 none 0 fr) (s : Mem) (r : Mem) (hz : zres Z = (none, r)) (h : jn_X6_advance_21 s = some r) : AW Z s 21 [some (.ref (zr Z 173)), none] [] := by
  unfold jn_X6_advance_21 at h
  refine aw_aload_n X dX6_advance_21 rfl ?_
  refine aw_geti X dX6_advance_22 fl_RX6_27 iu_RX6 gu_RX6_5 ?_
  refine aw_aload_n X dX6_advance_25 rfl ?_
  refine aw_geti X dX6_advance_26 fl_RX6_24 iu_RX6 gu_RX6_4 ?_
  refine aw_icmp_lt (tgt := 36) X dX6_advance_29 (by decide) (fun c2 => ?_) (fun c2 => ?_)
  · rw [if_pos c2] at h
    refine aw_iconst (v := 0) X dX6_advance_36 (by decide) ?_
    refine aw_msk [true, false] ?_
    exact jo_X6_advance_37 hfr Z X _ _ _ hz h
  · rw [if_neg c2] at h
    refine aw_iconst (v := 1) X dX6_advance_32 (by decide) ?_
    refine aw_goto (tgt := 37) X dX6_advance_33 (by decide) ?_
    refine aw_msk [true, false] ?_
    exact jo_X6_advance_37 hfr Z X _ _ _ hz h
set_option maxRecDepth 100000 in
set_option maxHeartbeats 4000000 in
theorem w_X6_advance {fr : Nat} (hfr : 0 ≤ fr) (Z : AZ) (X : AX Z cX6_advance 2 RX6 none 0 fr) (s : Mem) (r : Mem) (hz : zres Z = (none, r)) (h : f_X6_advance s = some r) : AW Z s 0 [some (.ref (zr Z 173)), none] [] := by
  unfold f_X6_advance at h
  refine aw_aload_n X dX6_advance_0 rfl ?_
  refine aw_geti X dX6_advance_1 fl_RX6_27 iu_RX6 gu_RX6_5 ?_
  refine aw_aload_n X dX6_advance_4 rfl ?_
  refine aw_geti X dX6_advance_5 fl_RX6_24 iu_RX6 gu_RX6_4 ?_
  refine aw_icmp_ge (tgt := 21) X dX6_advance_8 (by decide) (fun c1 => ?_) (fun c1 => ?_)
  · rw [if_pos c1] at h
    refine aw_msk [true, false] ?_
    exact jo_X6_advance_21 hfr Z X _ _ hz h
  · rw [if_neg c1] at h
    refine aw_aload_n X dX6_advance_11 rfl ?_
    refine aw_dup X dX6_advance_12 rfl ?_
    refine aw_geti X dX6_advance_13 fl_RX6_27 iu_RX6 gu_RX6_5 ?_
    refine aw_iconst (v := 1) X dX6_advance_16 (by decide) ?_
    refine aw_iadd X dX6_advance_17 ?_
    refine aw_put X dX6_advance_18 fp_RX6_27 iu_RX6 gu_RX6_5 rfl rfl ?_
    refine aw_msk [true, false] ?_
    exact jo_X6_advance_21 hfr Z X _ _ hz h
set_option maxRecDepth 100000 in
set_option maxHeartbeats 4000000 in
theorem ok_X6_advance {s : Mem} {r : Mem} (h : f_X6_advance s = some r) (l : Launch) (D : va_G) (ρ : Nat → Nat) (cA : ClassId × ClassId × ClassId) (τ : AT) : AM l D ρ cA 0 τ yX6_advance cX6_advance 2 none 0 [.ref (ρ 173)] none s r := by
  refine AM_of (L := [some (.ref (ρ 173)), none]) (by decide) (by simp [Value.category]) (Nat.le_of_ble_eq_true rfl) (fun j v q => ?_) (fun Z X hρ hz hτ => ?_)
  · exact aL_ok (n := 1) [.ref (ρ 173)] j v q
  · subst hρ
    subst hτ
    exact w_X6_advance (Nat.le_refl _) Z X s r hz h

theorem dX6_begin_0 : decode cX6_begin 0 = .ok (.aload_n 0, 1) := by decide +kernel
theorem dX6_begin_1 : decode cX6_begin 1 = .ok (.iconst 0, 1) := by decide +kernel
theorem dX6_begin_2 : decode cX6_begin 2 = .ok (.putfield 24, 3) := by decide +kernel
theorem dX6_begin_5 : decode cX6_begin 5 = .ok (.iconst 0, 1) := by decide +kernel
theorem dX6_begin_6 : decode cX6_begin 6 = .ok (.istore_n 1, 1) := by decide +kernel
theorem dX6_begin_7 : decode cX6_begin 7 = .ok (.iconst 0, 1) := by decide +kernel
theorem dX6_begin_8 : decode cX6_begin 8 = .ok (.istore_n 2, 1) := by decide +kernel
theorem dX6_begin_9 : decode cX6_begin 9 = .ok (.iload_n 2, 1) := by decide +kernel
theorem dX6_begin_10 : decode cX6_begin 10 = .ok (.sipush 400, 3) := by decide +kernel
theorem dX6_begin_13 : decode cX6_begin 13 = .ok (.if_icmp .ge 151, 3) := by decide +kernel
theorem dX6_begin_16 : decode cX6_begin 16 = .ok (.iload_n 1, 1) := by decide +kernel
theorem dX6_begin_17 : decode cX6_begin 17 = .ok (.aload_n 0, 1) := by decide +kernel
theorem dX6_begin_18 : decode cX6_begin 18 = .ok (.getfield 9, 3) := by decide +kernel
theorem dX6_begin_21 : decode cX6_begin 21 = .ok (.if_icmp .ge 143, 3) := by decide +kernel
theorem dX6_begin_24 : decode cX6_begin 24 = .ok (.aload_n 0, 1) := by decide +kernel
theorem dX6_begin_25 : decode cX6_begin 25 = .ok (.getfield 30, 3) := by decide +kernel
theorem dX6_begin_28 : decode cX6_begin 28 = .ok (.iload_n 1, 1) := by decide +kernel
theorem dX6_begin_29 : decode cX6_begin 29 = .ok (.iaload, 1) := by decide +kernel
theorem dX6_begin_30 : decode cX6_begin 30 = .ok (.istore_n 3, 1) := by decide +kernel
theorem dX6_begin_31 : decode cX6_begin 31 = .ok (.iload_n 1, 1) := by decide +kernel
theorem dX6_begin_32 : decode cX6_begin 32 = .ok (.iconst 1, 1) := by decide +kernel
theorem dX6_begin_33 : decode cX6_begin 33 = .ok (.iadd, 1) := by decide +kernel
theorem dX6_begin_34 : decode cX6_begin 34 = .ok (.istore 4, 2) := by decide +kernel
theorem dX6_begin_36 : decode cX6_begin 36 = .ok (.iload_n 3, 1) := by decide +kernel
theorem dX6_begin_37 : decode cX6_begin 37 = .ok (.invokestatic 43, 3) := by decide +kernel
theorem dX6_begin_40 : decode cX6_begin 40 = .ok (.ifCond .eq 40, 3) := by decide +kernel
theorem dX6_begin_43 : decode cX6_begin 43 = .ok (.aload_n 0, 1) := by decide +kernel
theorem dX6_begin_44 : decode cX6_begin 44 = .ok (.iload_n 1, 1) := by decide +kernel
theorem dX6_begin_45 : decode cX6_begin 45 = .ok (.invokevirtual 47, 3) := by decide +kernel
theorem dX6_begin_48 : decode cX6_begin 48 = .ok (.istore 4, 2) := by decide +kernel
theorem dX6_begin_50 : decode cX6_begin 50 = .ok (.aload_n 0, 1) := by decide +kernel
theorem dX6_begin_51 : decode cX6_begin 51 = .ok (.iload_n 1, 1) := by decide +kernel
theorem dX6_begin_52 : decode cX6_begin 52 = .ok (.iload 4, 2) := by decide +kernel
theorem dX6_begin_54 : decode cX6_begin 54 = .ok (.invokevirtual 51, 3) := by decide +kernel
theorem dX6_begin_57 : decode cX6_begin 57 = .ok (.istore 5, 2) := by decide +kernel
theorem dX6_begin_59 : decode cX6_begin 59 = .ok (.aload_n 0, 1) := by decide +kernel
theorem dX6_begin_60 : decode cX6_begin 60 = .ok (.iload 5, 2) := by decide +kernel
theorem dX6_begin_62 : decode cX6_begin 62 = .ok (.iconst (-1), 1) := by decide +kernel
theorem dX6_begin_63 : decode cX6_begin 63 = .ok (.if_icmp .ne 7, 3) := by decide +kernel
theorem dX6_begin_66 : decode cX6_begin 66 = .ok (.iconst 4, 1) := by decide +kernel
theorem dX6_begin_67 : decode cX6_begin 67 = .ok (.goto 4, 3) := by decide +kernel
theorem dX6_begin_70 : decode cX6_begin 70 = .ok (.iconst 1, 1) := by decide +kernel
theorem dX6_begin_71 : decode cX6_begin 71 = .ok (.iload 5, 2) := by decide +kernel
theorem dX6_begin_73 : decode cX6_begin 73 = .ok (.iload_n 1, 1) := by decide +kernel
theorem dX6_begin_74 : decode cX6_begin 74 = .ok (.invokevirtual 55, 3) := by decide +kernel
theorem dX6_begin_77 : decode cX6_begin 77 = .ok (.goto 78, 3) := by decide +kernel
theorem dX6_begin_80 : decode cX6_begin 80 = .ok (.iload_n 3, 1) := by decide +kernel
theorem dX6_begin_81 : decode cX6_begin 81 = .ok (.invokestatic 59, 3) := by decide +kernel
theorem dX6_begin_84 : decode cX6_begin 84 = .ok (.ifCond .eq 38, 3) := by decide +kernel
theorem dX6_begin_87 : decode cX6_begin 87 = .ok (.aload_n 0, 1) := by decide +kernel
theorem dX6_begin_88 : decode cX6_begin 88 = .ok (.iload_n 1, 1) := by decide +kernel
theorem dX6_begin_89 : decode cX6_begin 89 = .ok (.invokevirtual 62, 3) := by decide +kernel
theorem dX6_begin_92 : decode cX6_begin 92 = .ok (.istore 4, 2) := by decide +kernel
theorem dX6_begin_94 : decode cX6_begin 94 = .ok (.aload_n 0, 1) := by decide +kernel
theorem dX6_begin_95 : decode cX6_begin 95 = .ok (.iload 4, 2) := by decide +kernel
theorem dX6_begin_97 : decode cX6_begin 97 = .ok (.iload_n 1, 1) := by decide +kernel
theorem dX6_begin_98 : decode cX6_begin 98 = .ok (.isub, 1) := by decide +kernel
theorem dX6_begin_99 : decode cX6_begin 99 = .ok (.iconst 4, 1) := by decide +kernel
theorem dX6_begin_100 : decode cX6_begin 100 = .ok (.if_icmp .gt 7, 3) := by decide +kernel
theorem dX6_begin_103 : decode cX6_begin 103 = .ok (.iconst 2, 1) := by decide +kernel
theorem dX6_begin_104 : decode cX6_begin 104 = .ok (.goto 4, 3) := by decide +kernel
theorem dX6_begin_107 : decode cX6_begin 107 = .ok (.iconst 4, 1) := by decide +kernel
theorem dX6_begin_108 : decode cX6_begin 108 = .ok (.aload_n 0, 1) := by decide +kernel
theorem dX6_begin_109 : decode cX6_begin 109 = .ok (.iload_n 1, 1) := by decide +kernel
theorem dX6_begin_110 : decode cX6_begin 110 = .ok (.iload 4, 2) := by decide +kernel
theorem dX6_begin_112 : decode cX6_begin 112 = .ok (.invokevirtual 65, 3) := by decide +kernel
theorem dX6_begin_115 : decode cX6_begin 115 = .ok (.iload_n 1, 1) := by decide +kernel
theorem dX6_begin_116 : decode cX6_begin 116 = .ok (.invokevirtual 55, 3) := by decide +kernel
theorem dX6_begin_119 : decode cX6_begin 119 = .ok (.goto 36, 3) := by decide +kernel
theorem dX6_begin_122 : decode cX6_begin 122 = .ok (.iload_n 3, 1) := by decide +kernel
theorem dX6_begin_123 : decode cX6_begin 123 = .ok (.bipush 32, 2) := by decide +kernel
theorem dX6_begin_125 : decode cX6_begin 125 = .ok (.if_icmp .eq 30, 3) := by decide +kernel
theorem dX6_begin_128 : decode cX6_begin 128 = .ok (.iload_n 3, 1) := by decide +kernel
theorem dX6_begin_129 : decode cX6_begin 129 = .ok (.bipush 10, 2) := by decide +kernel
theorem dX6_begin_131 : decode cX6_begin 131 = .ok (.if_icmp .eq 24, 3) := by decide +kernel
theorem dX6_begin_134 : decode cX6_begin 134 = .ok (.aload_n 0, 1) := by decide +kernel
theorem dX6_begin_135 : decode cX6_begin 135 = .ok (.ldc 68, 2) := by decide +kernel
theorem dX6_begin_137 : decode cX6_begin 137 = .ok (.iload_n 3, 1) := by decide +kernel
theorem dX6_begin_138 : decode cX6_begin 138 = .ok (.i2c, 1) := by decide +kernel
theorem dX6_begin_139 : decode cX6_begin 139 = .ok (.invokevirtual 70, 3) := by decide +kernel
theorem dX6_begin_142 : decode cX6_begin 142 = .ok (.ifCond .lt 7, 3) := by decide +kernel
theorem dX6_begin_145 : decode cX6_begin 145 = .ok (.iconst 3, 1) := by decide +kernel
theorem dX6_begin_146 : decode cX6_begin 146 = .ok (.goto 4, 3) := by decide +kernel
theorem dX6_begin_149 : decode cX6_begin 149 = .ok (.iconst 4, 1) := by decide +kernel
theorem dX6_begin_150 : decode cX6_begin 150 = .ok (.iload_n 3, 1) := by decide +kernel
theorem dX6_begin_151 : decode cX6_begin 151 = .ok (.iload_n 1, 1) := by decide +kernel
theorem dX6_begin_152 : decode cX6_begin 152 = .ok (.invokevirtual 55, 3) := by decide +kernel
theorem dX6_begin_155 : decode cX6_begin 155 = .ok (.iload 4, 2) := by decide +kernel
theorem dX6_begin_157 : decode cX6_begin 157 = .ok (.istore_n 1, 1) := by decide +kernel
theorem dX6_begin_158 : decode cX6_begin 158 = .ok (.iinc 2 1, 3) := by decide +kernel
theorem dX6_begin_161 : decode cX6_begin 161 = .ok (.goto (-152), 3) := by decide +kernel
theorem dX6_begin_164 : decode cX6_begin 164 = .ok (.aload_n 0, 1) := by decide +kernel
theorem dX6_begin_165 : decode cX6_begin 165 = .ok (.iconst (-1), 1) := by decide +kernel
theorem dX6_begin_166 : decode cX6_begin 166 = .ok (.putfield 27, 3) := by decide +kernel
theorem dX6_begin_169 : decode cX6_begin 169 = .ok (.aload_n 0, 1) := by decide +kernel
theorem dX6_begin_170 : decode cX6_begin 170 = .ok (.invokevirtual 75, 3) := by decide +kernel
theorem dX6_begin_173 : decode cX6_begin 173 = .ok (.return_, 1) := by decide +kernel
set_option maxRecDepth 100000 in
set_option maxHeartbeats 4000000 in
theorem jo_X6_begin_150 {fr : Nat} (hfr : 6 ≤ fr) (Z : AZ) (X : AX Z cX6_begin 6 RX6 none 0 fr) (x1 : Int32) (x2 : Int32) (x3 : Int32) (x4 : Int32) (t1 : Int32) (s : Mem) (q : (Int32 × Int32 × Mem) ⊕ (Mem)) (h : jn_X6_begin_150 x1 x2 x3 x4 t1 s = some q) (hi : ∀ y : Int32 × Int32 × Mem, q = .inl y → AW Z y.2.2 9 [some (.ref (zr Z 173)), some (.int y.1), some (.int y.2.1), none, none, none] []) (he : ∀ b : Mem, q = .inr b → AW Z b 164 [some (.ref (zr Z 173)), none, none, none, none, none] []) : AW Z s 150 [some (.ref (zr Z 173)), some (.int x1), some (.int x2), some (.int x3), some (.int x4), none] [.int t1, .ref (zr Z 173)] := by
  unfold jn_X6_begin_150 at h
  refine aw_iload_n X dX6_begin_150 rfl ?_
  refine aw_iload_n X dX6_begin_151 rfl ?_
  obtain ⟨r12, er12, h⟩ := bnd h
  refine aw_callV X dX6_begin_152 cv_RX6_55 (ok_X6_addToken er12 _ _ _ _ _) iu_RX6 rfl (Nat.le_trans (by decide) hfr) (by decide) rfl rfl (Nat.le_of_ble_eq_true rfl) ?_
  refine aw_iload X dX6_begin_155 rfl ?_
  refine aw_istore_n (L' := [some (.ref (zr Z 173)), some (.int x4), some (.int x2), some (.int x3), some (.int x4), none]) X dX6_begin_157 (by decide) rfl ?_
  refine aw_iinc (v := (x2 + 1)) (L' := [some (.ref (zr Z 173)), some (.int x4), some (.int (x2 + 1)), some (.int x3), some (.int x4), none]) X dX6_begin_158 rfl rfl (by decide) rfl ?_
  refine aw_goto (tgt := 9) X dX6_begin_161 (by decide) ?_
  cases h
  refine aw_msk [true, true, true, false, false, false] ?_
  exact hi _ rfl
set_option maxRecDepth 100000 in
set_option maxHeartbeats 4000000 in
theorem jo_X6_begin_108 {fr : Nat} (hfr : 6 ≤ fr) (Z : AZ) (X : AX Z cX6_begin 6 RX6 none 0 fr) (x1 : Int32) (x2 : Int32) (x4 : Int32) (t1 : Int32) (s : Mem) (q : (Int32 × Int32 × Mem) ⊕ (Mem)) (h : jn_X6_begin_108 x1 x2 x4 t1 s = some q) (hi : ∀ y : Int32 × Int32 × Mem, q = .inl y → AW Z y.2.2 9 [some (.ref (zr Z 173)), some (.int y.1), some (.int y.2.1), none, none, none] []) (he : ∀ b : Mem, q = .inr b → AW Z b 164 [some (.ref (zr Z 173)), none, none, none, none, none] []) : AW Z s 108 [some (.ref (zr Z 173)), some (.int x1), some (.int x2), none, some (.int x4), none] [.int t1, .ref (zr Z 173)] := by
  unfold jn_X6_begin_108 at h
  refine aw_aload_n X dX6_begin_108 rfl ?_
  refine aw_iload_n X dX6_begin_109 rfl ?_
  refine aw_iload X dX6_begin_110 rfl ?_
  obtain ⟨r15, er15, h⟩ := bnd h
  refine aw_callV X dX6_begin_112 cv_RX6_65 (ok_X6_number er15 _ _ _ _ _) iu_RX6 rfl (Nat.le_trans (by decide) hfr) (by decide) rfl rfl (Nat.le_of_ble_eq_true rfl) ?_
  refine aw_iload_n X dX6_begin_115 rfl ?_
  obtain ⟨r16, er16, h⟩ := bnd h
  refine aw_callV X dX6_begin_116 cv_RX6_55 (ok_X6_addToken er16 _ _ _ _ _) iu_RX6 rfl (Nat.le_trans (by decide) hfr) (by decide) rfl rfl (Nat.le_of_ble_eq_true rfl) ?_
  refine aw_goto (tgt := 155) X dX6_begin_119 (by decide) ?_
  refine aw_iload X dX6_begin_155 rfl ?_
  refine aw_istore_n (L' := [some (.ref (zr Z 173)), some (.int x4), some (.int x2), none, some (.int x4), none]) X dX6_begin_157 (by decide) rfl ?_
  refine aw_iinc (v := (x2 + 1)) (L' := [some (.ref (zr Z 173)), some (.int x4), some (.int (x2 + 1)), none, some (.int x4), none]) X dX6_begin_158 rfl rfl (by decide) rfl ?_
  refine aw_goto (tgt := 9) X dX6_begin_161 (by decide) ?_
  cases h
  refine aw_msk [true, true, true, false, false, false] ?_
  exact hi _ rfl
set_option maxRecDepth 100000 in
set_option maxHeartbeats 4000000 in
theorem jo_X6_begin_71 {fr : Nat} (hfr : 6 ≤ fr) (Z : AZ) (X : AX Z cX6_begin 6 RX6 none 0 fr) (x1 : Int32) (x2 : Int32) (x4 : Int32) (x5 : Int32) (t1 : Int32) (s : Mem) (q : (Int32 × Int32 × Mem) ⊕ (Mem)) (h : jn_X6_begin_71 x1 x2 x4 x5 t1 s = some q) (hi : ∀ y : Int32 × Int32 × Mem, q = .inl y → AW Z y.2.2 9 [some (.ref (zr Z 173)), some (.int y.1), some (.int y.2.1), none, none, none] []) (he : ∀ b : Mem, q = .inr b → AW Z b 164 [some (.ref (zr Z 173)), none, none, none, none, none] []) : AW Z s 71 [some (.ref (zr Z 173)), some (.int x1), some (.int x2), none, some (.int x4), some (.int x5)] [.int t1, .ref (zr Z 173)] := by
  unfold jn_X6_begin_71 at h
  refine aw_iload X dX6_begin_71 rfl ?_
  refine aw_iload_n X dX6_begin_73 rfl ?_
  obtain ⟨r20, er20, h⟩ := bnd h
  refine aw_callV X dX6_begin_74 cv_RX6_55 (ok_X6_addToken er20 _ _ _ _ _) iu_RX6 rfl (Nat.le_trans (by decide) hfr) (by decide) rfl rfl (Nat.le_of_ble_eq_true rfl) ?_
  refine aw_goto (tgt := 155) X dX6_begin_77 (by decide) ?_
  refine aw_iload X dX6_begin_155 rfl ?_
  refine aw_istore_n (L' := [some (.ref (zr Z 173)), some (.int x4), some (.int x2), none, some (.int x4), some (.int x5)]) X dX6_begin_157 (by decide) rfl ?_
  refine aw_iinc (v := (x2 + 1)) (L' := [some (.ref (zr Z 173)), some (.int x4), some (.int (x2 + 1)), none, some (.int x4), some (.int x5)]) X dX6_begin_158 rfl rfl (by decide) rfl ?_
  refine aw_goto (tgt := 9) X dX6_begin_161 (by decide) ?_
  cases h
  refine aw_msk [true, true, true, false, false, false] ?_
  exact hi _ rfl
set_option maxRecDepth 100000 in
set_option maxHeartbeats 4000000 in
theorem so_X6_begin_9 {fr : Nat} (hfr : 6 ≤ fr) (Z : AZ) (X : AX Z cX6_begin 6 RX6 none 0 fr) (x1 : Int32) (x2 : Int32) (s : Mem) (q : (Int32 × Int32 × Mem) ⊕ (Mem)) (h : st_X6_begin_9 x1 x2 s = some q) (hi : ∀ y : Int32 × Int32 × Mem, q = .inl y → AW Z y.2.2 9 [some (.ref (zr Z 173)), some (.int y.1), some (.int y.2.1), none, none, none] []) (he : ∀ b : Mem, q = .inr b → AW Z b 164 [some (.ref (zr Z 173)), none, none, none, none, none] []) : AW Z s 9 [some (.ref (zr Z 173)), some (.int x1), some (.int x2), none, none, none] [] := by
  unfold st_X6_begin_9 at h
  refine aw_iload_n X dX6_begin_9 rfl ?_
  refine aw_sipush (v := 400) X dX6_begin_10 (by decide) ?_
  refine aw_icmp_ge (tgt := 164) X dX6_begin_13 (by decide) (fun c1 => ?_) (fun c1 => ?_)
  · rw [if_pos c1] at h
    cases h
    refine aw_msk [true, false, false, false, false, false] ?_
    exact he _ rfl
  · rw [if_neg c1] at h
    refine aw_iload_n X dX6_begin_16 rfl ?_
    refine aw_aload_n X dX6_begin_17 rfl ?_
    refine aw_geti X dX6_begin_18 fl_RX6_9 iu_RX6 gu_RX6_0 ?_
    refine aw_icmp_ge (tgt := 164) X dX6_begin_21 (by decide) (fun c2 => ?_) (fun c2 => ?_)
    · rw [if_pos c2] at h
      cases h
      refine aw_msk [true, false, false, false, false, false] ?_
      exact he _ rfl
    · rw [if_neg c2] at h
      refine aw_aload_n X dX6_begin_24 rfl ?_
      refine aw_getr X dX6_begin_25 fl_RX6_30 iu_RX6 gu_RX6_6 ?_
      refine aw_iload_n X dX6_begin_28 rfl ?_
      obtain ⟨v3, ev3, h⟩ := bnd h
      refine aw_iald X dX6_begin_29 iu_RX6_6 ev3 ?_
      refine aw_istore_n (L' := [some (.ref (zr Z 173)), some (.int x1), some (.int x2), some (.int v3), none, none]) X dX6_begin_30 (by decide) rfl ?_
      refine aw_iload_n X dX6_begin_31 rfl ?_
      refine aw_iconst (v := 1) X dX6_begin_32 (by decide) ?_
      refine aw_iadd X dX6_begin_33 ?_
      refine aw_istore (L' := [some (.ref (zr Z 173)), some (.int x1), some (.int x2), some (.int v3), some (.int (x1 + 1)), none]) X dX6_begin_34 (by decide) rfl ?_
      refine aw_iload_n X dX6_begin_36 rfl ?_
      obtain ⟨r4, er4, h⟩ := bnd h
      refine aw_callS X dX6_begin_37 cv_RX6_43 (ok_X6_isLetter er4 _ _ _ _ _) (Nat.le_trans (by decide) hfr) (by decide) rfl rfl (Nat.le_of_ble_eq_true rfl) ?_
      refine aw_if_eq (tgt := 80) X dX6_begin_40 (by decide) (fun c5 => ?_) (fun c5 => ?_)
      · rw [if_pos c5] at h
        refine aw_iload_n X dX6_begin_80 rfl ?_
        obtain ⟨r6, er6, h⟩ := bnd h
        refine aw_callS X dX6_begin_81 cv_RX6_59 (ok_X6_isDigit er6 _ _ _ _ _) (Nat.le_trans (by decide) hfr) (by decide) rfl rfl (Nat.le_of_ble_eq_true rfl) ?_
        refine aw_if_eq (tgt := 122) X dX6_begin_84 (by decide) (fun c7 => ?_) (fun c7 => ?_)
        · rw [if_pos c7] at h
          refine aw_iload_n X dX6_begin_122 rfl ?_
          refine aw_bipush (v := 32) X dX6_begin_123 (by decide) ?_
          refine aw_icmp_eq (tgt := 155) X dX6_begin_125 (by decide) (fun c8 => ?_) (fun c8 => ?_)
          · rw [if_pos c8] at h
            refine aw_iload X dX6_begin_155 rfl ?_
            refine aw_istore_n (L' := [some (.ref (zr Z 173)), some (.int (x1 + 1)), some (.int x2), some (.int v3), some (.int (x1 + 1)), none]) X dX6_begin_157 (by decide) rfl ?_
            refine aw_iinc (v := (x2 + 1)) (L' := [some (.ref (zr Z 173)), some (.int (x1 + 1)), some (.int (x2 + 1)), some (.int v3), some (.int (x1 + 1)), none]) X dX6_begin_158 rfl rfl (by decide) rfl ?_
            refine aw_goto (tgt := 9) X dX6_begin_161 (by decide) ?_
            cases h
            refine aw_msk [true, true, true, false, false, false] ?_
            exact hi _ rfl
          · rw [if_neg c8] at h
            refine aw_iload_n X dX6_begin_128 rfl ?_
            refine aw_bipush (v := 10) X dX6_begin_129 (by decide) ?_
            refine aw_icmp_eq (tgt := 155) X dX6_begin_131 (by decide) (fun c9 => ?_) (fun c9 => ?_)
            · rw [if_pos c9] at h
              refine aw_iload X dX6_begin_155 rfl ?_
              refine aw_istore_n (L' := [some (.ref (zr Z 173)), some (.int (x1 + 1)), some (.int x2), some (.int v3), some (.int (x1 + 1)), none]) X dX6_begin_157 (by decide) rfl ?_
              refine aw_iinc (v := (x2 + 1)) (L' := [some (.ref (zr Z 173)), some (.int (x1 + 1)), some (.int (x2 + 1)), some (.int v3), some (.int (x1 + 1)), none]) X dX6_begin_158 rfl rfl (by decide) rfl ?_
              refine aw_goto (tgt := 9) X dX6_begin_161 (by decide) ?_
              cases h
              refine aw_msk [true, true, true, false, false, false] ?_
              exact hi _ rfl
            · rw [if_neg c9] at h
              refine aw_aload_n X dX6_begin_134 rfl ?_
              refine aw_lds1 X dX6_begin_135 ?_
              refine aw_iload_n X dX6_begin_137 rfl ?_
              refine aw_i2c X dX6_begin_138 ?_
              obtain ⟨r10, er10, h⟩ := bnd h
              refine aw_callT X dX6_begin_139 cv_RX6_70 (ok_J0_indexOf_0f7a4 (by decide) er10 _ _ _ _ _) (by decide) rfl (Nat.le_trans (by decide) hfr) (by decide) rfl rfl (Nat.le_of_ble_eq_true rfl) ?_
              refine aw_if_lt (tgt := 149) X dX6_begin_142 (by decide) (fun c11 => ?_) (fun c11 => ?_)
              · rw [if_pos c11] at h
                refine aw_iconst (v := 4) X dX6_begin_149 (by decide) ?_
                refine aw_msk [true, true, true, true, true, false] ?_
                exact jo_X6_begin_150 hfr Z X _ _ _ _ _ _ _ h hi he
              · rw [if_neg c11] at h
                refine aw_iconst (v := 3) X dX6_begin_145 (by decide) ?_
                refine aw_goto (tgt := 150) X dX6_begin_146 (by decide) ?_
                refine aw_msk [true, true, true, true, true, false] ?_
                exact jo_X6_begin_150 hfr Z X _ _ _ _ _ _ _ h hi he
        · rw [if_neg c7] at h
          refine aw_aload_n X dX6_begin_87 rfl ?_
          refine aw_iload_n X dX6_begin_88 rfl ?_
          obtain ⟨r13, er13, h⟩ := bnd h
          refine aw_callV X dX6_begin_89 cv_RX6_62 (ok_X6_digitsEnd er13 _ _ _ _ _) iu_RX6 rfl (Nat.le_trans (by decide) hfr) (by decide) rfl rfl (Nat.le_of_ble_eq_true rfl) ?_
          refine aw_istore (L' := [some (.ref (zr Z 173)), some (.int x1), some (.int x2), some (.int v3), some (.int r13.1), none]) X dX6_begin_92 (by decide) rfl ?_
          refine aw_aload_n X dX6_begin_94 rfl ?_
          refine aw_iload X dX6_begin_95 rfl ?_
          refine aw_iload_n X dX6_begin_97 rfl ?_
          refine aw_isub X dX6_begin_98 ?_
          refine aw_iconst (v := 4) X dX6_begin_99 (by decide) ?_
          refine aw_icmp_gt (tgt := 107) X dX6_begin_100 (by decide) (fun c14 => ?_) (fun c14 => ?_)
          · rw [if_pos c14] at h
            refine aw_iconst (v := 4) X dX6_begin_107 (by decide) ?_
            refine aw_msk [true, true, true, false, true, false] ?_
            exact jo_X6_begin_108 hfr Z X _ _ _ _ _ _ h hi he
          · rw [if_neg c14] at h
            refine aw_iconst (v := 2) X dX6_begin_103 (by decide) ?_
            refine aw_goto (tgt := 108) X dX6_begin_104 (by decide) ?_
            refine aw_msk [true, true, true, false, true, false] ?_
            exact jo_X6_begin_108 hfr Z X _ _ _ _ _ _ h hi he
      · rw [if_neg c5] at h
        refine aw_aload_n X dX6_begin_43 rfl ?_
        refine aw_iload_n X dX6_begin_44 rfl ?_
        obtain ⟨r17, er17, h⟩ := bnd h
        refine aw_callV X dX6_begin_45 cv_RX6_47 (ok_X6_lettersEnd er17 _ _ _ _ _) iu_RX6 rfl (Nat.le_trans (by decide) hfr) (by decide) rfl rfl (Nat.le_of_ble_eq_true rfl) ?_
        refine aw_istore (L' := [some (.ref (zr Z 173)), some (.int x1), some (.int x2), some (.int v3), some (.int r17.1), none]) X dX6_begin_48 (by decide) rfl ?_
        refine aw_aload_n X dX6_begin_50 rfl ?_
        refine aw_iload_n X dX6_begin_51 rfl ?_
        refine aw_iload X dX6_begin_52 rfl ?_
        obtain ⟨r18, er18, h⟩ := bnd h
        refine aw_callV X dX6_begin_54 cv_RX6_51 (ok_X6_keyword er18 _ _ _ _ _) iu_RX6 rfl (Nat.le_trans (by decide) hfr) (by decide) rfl rfl (Nat.le_of_ble_eq_true rfl) ?_
        refine aw_istore (L' := [some (.ref (zr Z 173)), some (.int x1), some (.int x2), some (.int v3), some (.int r17.1), some (.int r18.1)]) X dX6_begin_57 (by decide) rfl ?_
        refine aw_aload_n X dX6_begin_59 rfl ?_
        refine aw_iload X dX6_begin_60 rfl ?_
        refine aw_iconst (v := (-1)) X dX6_begin_62 (by decide) ?_
        refine aw_icmp_ne (tgt := 70) X dX6_begin_63 (by decide) (fun c19 => ?_) (fun c19 => ?_)
        · rw [if_neg c19] at h
          refine aw_iconst (v := 1) X dX6_begin_70 (by decide) ?_
          refine aw_msk [true, true, true, false, true, true] ?_
          exact jo_X6_begin_71 hfr Z X _ _ _ _ _ _ _ h hi he
        · rw [if_pos c19] at h
          refine aw_iconst (v := 4) X dX6_begin_66 (by decide) ?_
          refine aw_goto (tgt := 71) X dX6_begin_67 (by decide) ?_
          refine aw_msk [true, true, true, false, true, true] ?_
          exact jo_X6_begin_71 hfr Z X _ _ _ _ _ _ _ h hi he
set_option maxRecDepth 100000 in
set_option maxHeartbeats 4000000 in
theorem jo_X6_begin_164 {fr : Nat} (hfr : 6 ≤ fr) (Z : AZ) (X : AX Z cX6_begin 6 RX6 none 0 fr) (s : Mem) (r : Mem) (hz : zres Z = (none, r)) (h : jn_X6_begin_164 s = some r) : AW Z s 164 [some (.ref (zr Z 173)), none, none, none, none, none] [] := by
  unfold jn_X6_begin_164 at h
  refine aw_aload_n X dX6_begin_164 rfl ?_
  refine aw_iconst (v := (-1)) X dX6_begin_165 (by decide) ?_
  refine aw_put X dX6_begin_166 fp_RX6_27 iu_RX6 gu_RX6_5 rfl rfl ?_
  refine aw_aload_n X dX6_begin_169 rfl ?_
  obtain ⟨r22, er22, h⟩ := bnd h
  refine aw_callV X dX6_begin_170 cv_RX6_75 (ok_X6_advance er22 _ _ _ _ _) iu_RX6 rfl (Nat.le_trans (by decide) hfr) (by decide) rfl rfl (Nat.le_of_ble_eq_true rfl) ?_
  cases h
  exact aw_vret X dX6_begin_173 rfl hz.symm
set_option maxRecDepth 100000 in
set_option maxHeartbeats 4000000 in
theorem w_X6_begin {fr : Nat} (hfr : 6 ≤ fr) (Z : AZ) (X : AX Z cX6_begin 6 RX6 none 0 fr) (s : Mem) (r : Mem) (hz : zres Z = (none, r)) (h : f_X6_begin s = some r) : AW Z s 0 [some (.ref (zr Z 173)), none, none, none, none, none] [] := by
  unfold f_X6_begin at h
  refine aw_aload_n X dX6_begin_0 rfl ?_
  refine aw_iconst (v := 0) X dX6_begin_1 (by decide) ?_
  refine aw_put X dX6_begin_2 fp_RX6_24 iu_RX6 gu_RX6_4 rfl rfl ?_
  refine aw_iconst (v := 0) X dX6_begin_5 (by decide) ?_
  refine aw_istore_n (L' := [some (.ref (zr Z 173)), some (.int 0), none, none, none, none]) X dX6_begin_6 (by decide) rfl ?_
  refine aw_iconst (v := 0) X dX6_begin_7 (by decide) ?_
  refine aw_istore_n (L' := [some (.ref (zr Z 173)), some (.int 0), some (.int 0), none, none, none]) X dX6_begin_8 (by decide) rfl ?_
  obtain ⟨r21, er21, h⟩ := bnd h
  refine aw_msk [true, true, true, false, false, false] ?_
  refine it_ok (P := fun y : Int32 × Int32 × Mem => AW Z y.2.2 9 [some (.ref (zr Z 173)), some (.int y.1), some (.int y.2.1), none, none, none] []) (Q := fun b : Mem => AW Z b 164 [some (.ref (zr Z 173)), none, none, none, none, none] []) (fun y q hq hi he => so_X6_begin_9 hfr Z X y.1 y.2.1 y.2.2 q hq hi he) FUEL _ _ er21 ?_
  refine aw_msk [true, false, false, false, false, false] ?_
  exact jo_X6_begin_164 hfr Z X _ _ hz h
set_option maxRecDepth 100000 in
set_option maxHeartbeats 4000000 in
theorem ok_X6_begin {s : Mem} {r : Mem} (h : f_X6_begin s = some r) (l : Launch) (D : va_G) (ρ : Nat → Nat) (cA : ClassId × ClassId × ClassId) (τ : AT) : AM l D ρ cA 0 τ yX6_begin cX6_begin 6 none 6 [.ref (ρ 173)] none s r := by
  refine AM_of (L := [some (.ref (ρ 173)), none, none, none, none, none]) (by decide) (by simp [Value.category]) (Nat.le_of_ble_eq_true rfl) (fun j v q => ?_) (fun Z X hρ hz hτ => ?_)
  · exact aL_ok (n := 5) [.ref (ρ 173)] j v q
  · subst hρ
    subst hτ
    exact w_X6_begin (Nat.le_refl _) Z X s r hz h

theorem dX4_begin_0 : decode cX4_begin 0 = .ok (.aload_n 0, 1) := by decide +kernel
theorem dX4_begin_1 : decode cX4_begin 1 = .ok (.iconst 0, 1) := by decide +kernel
theorem dX4_begin_2 : decode cX4_begin 2 = .ok (.putfield 18, 3) := by decide +kernel
theorem dX4_begin_5 : decode cX4_begin 5 = .ok (.aload_n 0, 1) := by decide +kernel
theorem dX4_begin_6 : decode cX4_begin 6 = .ok (.iconst (-1), 1) := by decide +kernel
theorem dX4_begin_7 : decode cX4_begin 7 = .ok (.putfield 22, 3) := by decide +kernel
theorem dX4_begin_10 : decode cX4_begin 10 = .ok (.aload_n 0, 1) := by decide +kernel
theorem dX4_begin_11 : decode cX4_begin 11 = .ok (.iload_n 1, 1) := by decide +kernel
theorem dX4_begin_12 : decode cX4_begin 12 = .ok (.putfield 25, 3) := by decide +kernel
theorem dX4_begin_15 : decode cX4_begin 15 = .ok (.aload_n 0, 1) := by decide +kernel
theorem dX4_begin_16 : decode cX4_begin 16 = .ok (.getfield 12, 3) := by decide +kernel
theorem dX4_begin_19 : decode cX4_begin 19 = .ok (.invokevirtual 49, 3) := by decide +kernel
theorem dX4_begin_22 : decode cX4_begin 22 = .ok (.return_, 1) := by decide +kernel
set_option maxRecDepth 100000 in
set_option maxHeartbeats 4000000 in
theorem w_X4_begin {fr : Nat} (hfr : 7 ≤ fr) (Z : AZ) (X : AX Z cX4_begin 2 RX4 none 0 fr) (x1 : Int32) (s : Mem) (r : Mem) (hz : zres Z = (none, r)) (h : f_X4_begin x1 s = some r) : AW Z s 0 [some (.ref (zr Z 172)), some (.int x1)] [] := by
  unfold f_X4_begin at h
  refine aw_aload_n X dX4_begin_0 rfl ?_
  refine aw_iconst (v := 0) X dX4_begin_1 (by decide) ?_
  refine aw_put X dX4_begin_2 fp_RX4_18 iu_RX4 gu_RX4_1 rfl rfl ?_
  refine aw_aload_n X dX4_begin_5 rfl ?_
  refine aw_iconst (v := (-1)) X dX4_begin_6 (by decide) ?_
  refine aw_put X dX4_begin_7 fp_RX4_22 iu_RX4 gu_RX4_2 rfl rfl ?_
  refine aw_aload_n X dX4_begin_10 rfl ?_
  refine aw_iload_n X dX4_begin_11 rfl ?_
  refine aw_put X dX4_begin_12 fp_RX4_25 iu_RX4 gu_RX4_3 rfl rfl ?_
  refine aw_aload_n X dX4_begin_15 rfl ?_
  refine aw_getr X dX4_begin_16 fl_RX4_12 iu_RX4 gu_RX4_0 ?_
  obtain ⟨r1, er1, h⟩ := bnd h
  refine aw_callV X dX4_begin_19 cv_RX4_49 (ok_X6_begin er1 _ _ _ _ _) iu_RX4_0 rfl (Nat.le_trans (by decide) hfr) (by decide) rfl rfl (Nat.le_of_ble_eq_true rfl) ?_
  cases h
  exact aw_vret X dX4_begin_22 rfl hz.symm
set_option maxRecDepth 100000 in
set_option maxHeartbeats 4000000 in
theorem ok_X4_begin {x1 : Int32} {s : Mem} {r : Mem} (h : f_X4_begin x1 s = some r) (l : Launch) (D : va_G) (ρ : Nat → Nat) (cA : ClassId × ClassId × ClassId) (τ : AT) : AM l D ρ cA 0 τ yX4_begin cX4_begin 2 none 7 [.ref (ρ 172), .int x1] none s r := by
  refine AM_of (L := [some (.ref (ρ 172)), some (.int x1)]) (by decide) (by simp [Value.category]) (Nat.le_of_ble_eq_true rfl) (fun j v q => ?_) (fun Z X hρ hz hτ => ?_)
  · exact aL_ok (n := 0) [.ref (ρ 172), .int x1] j v q
  · subst hρ
    subst hτ
    exact w_X4_begin (Nat.le_refl _) Z X x1 s r hz h

theorem dX4_fail_0 : decode cX4_fail 0 = .ok (.aload_n 0, 1) := by decide +kernel
theorem dX4_fail_1 : decode cX4_fail 1 = .ok (.iload_n 1, 1) := by decide +kernel
theorem dX4_fail_2 : decode cX4_fail 2 = .ok (.putfield 18, 3) := by decide +kernel
theorem dX4_fail_5 : decode cX4_fail 5 = .ok (.aload_n 0, 1) := by decide +kernel
theorem dX4_fail_6 : decode cX4_fail 6 = .ok (.aload_n 0, 1) := by decide +kernel
theorem dX4_fail_7 : decode cX4_fail 7 = .ok (.getfield 12, 3) := by decide +kernel
theorem dX4_fail_10 : decode cX4_fail 10 = .ok (.getfield 180, 3) := by decide +kernel
theorem dX4_fail_13 : decode cX4_fail 13 = .ok (.putfield 22, 3) := by decide +kernel
theorem dX4_fail_16 : decode cX4_fail 16 = .ok (.iconst 0, 1) := by decide +kernel
theorem dX4_fail_17 : decode cX4_fail 17 = .ok (.ireturn, 1) := by decide +kernel
set_option maxRecDepth 100000 in
set_option maxHeartbeats 4000000 in
theorem w_X4_fail {fr : Nat} (hfr : 0 ≤ fr) (Z : AZ) (X : AX Z cX4_fail 2 RX4 (some .boolean) 0 fr) (x1 : Int32) (s : Mem) (r : Int32 × Mem) (hz : zres Z = (some (.int r.1), r.2)) (h : f_X4_fail x1 s = some r) : AW Z s 0 [some (.ref (zr Z 172)), some (.int x1)] [] := by
  unfold f_X4_fail at h
  refine aw_aload_n X dX4_fail_0 rfl ?_
  refine aw_iload_n X dX4_fail_1 rfl ?_
  refine aw_put X dX4_fail_2 fp_RX4_18 iu_RX4 gu_RX4_1 rfl rfl ?_
  refine aw_aload_n X dX4_fail_5 rfl ?_
  refine aw_aload_n X dX4_fail_6 rfl ?_
  refine aw_getr X dX4_fail_7 fl_RX4_12 iu_RX4 gu_RX4_0 ?_
  refine aw_geti X dX4_fail_10 fl_RX4_180 iu_RX4_0 gu_RX6_3 ?_
  refine aw_put X dX4_fail_13 fp_RX4_22 iu_RX4 gu_RX4_2 rfl rfl ?_
  refine aw_iconst (v := 0) X dX4_fail_16 (by decide) ?_
  cases h
  exact aw_zret X dX4_fail_17 rfl rfl hz.symm
set_option maxRecDepth 100000 in
set_option maxHeartbeats 4000000 in
theorem ok_X4_fail {x1 : Int32} {s : Mem} {r : Int32 × Mem} (h : f_X4_fail x1 s = some r) (l : Launch) (D : va_G) (ρ : Nat → Nat) (cA : ClassId × ClassId × ClassId) (τ : AT) : AM l D ρ cA 0 τ yX4_fail cX4_fail 2 (some .boolean) 0 [.ref (ρ 172), .int x1] (some (.int r.1)) s r.2 := by
  refine AM_of (L := [some (.ref (ρ 172)), some (.int x1)]) (by decide) (by simp [Value.category]) (Nat.le_of_ble_eq_true rfl) (fun j v q => ?_) (fun Z X hρ hz hτ => ?_)
  · exact aL_ok (n := 0) [.ref (ρ 172), .int x1] j v q
  · subst hρ
    subst hτ
    exact w_X4_fail (Nat.le_refl _) Z X x1 s r hz h

theorem dX4_beginsLine_0 : decode cX4_beginsLine 0 = .ok (.iload_n 1, 1) := by decide +kernel
theorem dX4_beginsLine_1 : decode cX4_beginsLine 1 = .ok (.ifCond .ne 9, 3) := by decide +kernel
theorem dX4_beginsLine_4 : decode cX4_beginsLine 4 = .ok (.aload_n 0, 1) := by decide +kernel
theorem dX4_beginsLine_5 : decode cX4_beginsLine 5 = .ok (.iconst 1, 1) := by decide +kernel
theorem dX4_beginsLine_6 : decode cX4_beginsLine 6 = .ok (.invokevirtual 95, 3) := by decide +kernel
theorem dX4_beginsLine_9 : decode cX4_beginsLine 9 = .ok (.ireturn, 1) := by decide +kernel
theorem dX4_beginsLine_10 : decode cX4_beginsLine 10 = .ok (.iload_n 2, 1) := by decide +kernel
theorem dX4_beginsLine_11 : decode cX4_beginsLine 11 = .ok (.bipush 16, 2) := by decide +kernel
theorem dX4_beginsLine_13 : decode cX4_beginsLine 13 = .ok (.if_icmp .lt 11, 3) := by decide +kernel
theorem dX4_beginsLine_16 : decode cX4_beginsLine 16 = .ok (.aload_n 0, 1) := by decide +kernel
theorem dX4_beginsLine_17 : decode cX4_beginsLine 17 = .ok (.iconst 3, 1) := by decide +kernel
theorem dX4_beginsLine_18 : decode cX4_beginsLine 18 = .ok (.invokevirtual 95, 3) := by decide +kernel
theorem dX4_beginsLine_21 : decode cX4_beginsLine 21 = .ok (.ifCond .eq 7, 3) := by decide +kernel
theorem dX4_beginsLine_24 : decode cX4_beginsLine 24 = .ok (.iconst 1, 1) := by decide +kernel
theorem dX4_beginsLine_25 : decode cX4_beginsLine 25 = .ok (.goto 4, 3) := by decide +kernel
theorem dX4_beginsLine_28 : decode cX4_beginsLine 28 = .ok (.iconst 0, 1) := by decide +kernel
theorem dX4_beginsLine_29 : decode cX4_beginsLine 29 = .ok (.ireturn, 1) := by decide +kernel
set_option maxRecDepth 100000 in
set_option maxHeartbeats 4000000 in
theorem jo_X4_beginsLine_24 {fr : Nat} (hfr : 1 ≤ fr) (Z : AZ) (X : AX Z cX4_beginsLine 3 RX4 (some .boolean) 0 fr) (s : Mem) (r : Int32 × Mem) (hz : zres Z = (some (.int r.1), r.2)) (h : jn_X4_beginsLine_24 s = some r) : AW Z s 24 [none, none, none] [] := by
  unfold jn_X4_beginsLine_24 at h
  refine aw_iconst (v := 1) X dX4_beginsLine_24 (by decide) ?_
  refine aw_goto (tgt := 29) X dX4_beginsLine_25 (by decide) ?_
  cases h
  exact aw_zret X dX4_beginsLine_29 rfl rfl hz.symm
set_option maxRecDepth 100000 in
set_option maxHeartbeats 4000000 in
theorem w_X4_beginsLine {fr : Nat} (hfr : 1 ≤ fr) (Z : AZ) (X : AX Z cX4_beginsLine 3 RX4 (some .boolean) 0 fr) (x1 : Int32) (x2 : Int32) (s : Mem) (r : Int32 × Mem) (hz : zres Z = (some (.int r.1), r.2)) (h : f_X4_beginsLine x1 x2 s = some r) : AW Z s 0 [some (.ref (zr Z 172)), some (.int x1), some (.int x2)] [] := by
  unfold f_X4_beginsLine at h
  refine aw_iload_n X dX4_beginsLine_0 rfl ?_
  refine aw_if_ne (tgt := 10) X dX4_beginsLine_1 (by decide) (fun c1 => ?_) (fun c1 => ?_)
  · rw [if_neg c1] at h
    refine aw_iload_n X dX4_beginsLine_10 rfl ?_
    refine aw_bipush (v := 16) X dX4_beginsLine_11 (by decide) ?_
    refine aw_icmp_lt (tgt := 24) X dX4_beginsLine_13 (by decide) (fun c2 => ?_) (fun c2 => ?_)
    · rw [if_pos c2] at h
      refine aw_msk [false, false, false] ?_
      exact jo_X4_beginsLine_24 hfr Z X _ _ hz h
    · rw [if_neg c2] at h
      refine aw_aload_n X dX4_beginsLine_16 rfl ?_
      refine aw_iconst (v := 3) X dX4_beginsLine_17 (by decide) ?_
      obtain ⟨r3, er3, h⟩ := bnd h
      refine aw_callV X dX4_beginsLine_18 cv_RX4_95 (ok_X4_fail er3 _ _ _ _ _) iu_RX4 rfl (Nat.le_trans (by decide) hfr) (by decide) rfl rfl (Nat.le_of_ble_eq_true rfl) ?_
      refine aw_if_eq (tgt := 28) X dX4_beginsLine_21 (by decide) (fun c4 => ?_) (fun c4 => ?_)
      · rw [if_pos c4] at h
        refine aw_iconst (v := 0) X dX4_beginsLine_28 (by decide) ?_
        cases h
        exact aw_zret X dX4_beginsLine_29 rfl rfl hz.symm
      · rw [if_neg c4] at h
        refine aw_msk [false, false, false] ?_
        exact jo_X4_beginsLine_24 hfr Z X _ _ hz h
  · rw [if_pos c1] at h
    refine aw_aload_n X dX4_beginsLine_4 rfl ?_
    refine aw_iconst (v := 1) X dX4_beginsLine_5 (by decide) ?_
    obtain ⟨r5, er5, h⟩ := bnd h
    refine aw_callV X dX4_beginsLine_6 cv_RX4_95 (ok_X4_fail er5 _ _ _ _ _) iu_RX4 rfl (Nat.le_trans (by decide) hfr) (by decide) rfl rfl (Nat.le_of_ble_eq_true rfl) ?_
    by_cases c6 : ¬ (r5.1 = 0 ∨ r5.1 = 1)
    · rw [if_pos c6] at h
      cases h
    rw [if_neg c6] at h
    cases h
    exact aw_zret X dX4_beginsLine_9 rfl (bz_n (Decidable.of_not_not c6)) hz.symm
set_option maxRecDepth 100000 in
set_option maxHeartbeats 4000000 in
theorem ok_X4_beginsLine {x1 x2 : Int32} {s : Mem} {r : Int32 × Mem} (h : f_X4_beginsLine x1 x2 s = some r) (l : Launch) (D : va_G) (ρ : Nat → Nat) (cA : ClassId × ClassId × ClassId) (τ : AT) : AM l D ρ cA 0 τ yX4_beginsLine cX4_beginsLine 3 (some .boolean) 1 [.ref (ρ 172), .int x1, .int x2] (some (.int r.1)) s r.2 := by
  refine AM_of (L := [some (.ref (ρ 172)), some (.int x1), some (.int x2)]) (by decide) (by simp [Value.category]) (Nat.le_of_ble_eq_true rfl) (fun j v q => ?_) (fun Z X hρ hz hτ => ?_)
  · exact aL_ok (n := 0) [.ref (ρ 172), .int x1, .int x2] j v q
  · subst hρ
    subst hτ
    exact w_X4_beginsLine (Nat.le_refl _) Z X x1 x2 s r hz h

theorem dX4_isFact_0 : decode cX4_isFact 0 = .ok (.aload_n 0, 1) := by decide +kernel
theorem dX4_isFact_1 : decode cX4_isFact 1 = .ok (.getfield 12, 3) := by decide +kernel
theorem dX4_isFact_4 : decode cX4_isFact 4 = .ok (.getfield 55, 3) := by decide +kernel
theorem dX4_isFact_7 : decode cX4_isFact 7 = .ok (.iconst 1, 1) := by decide +kernel
theorem dX4_isFact_8 : decode cX4_isFact 8 = .ok (.if_icmp .ne 30, 3) := by decide +kernel
theorem dX4_isFact_11 : decode cX4_isFact 11 = .ok (.aload_n 0, 1) := by decide +kernel
theorem dX4_isFact_12 : decode cX4_isFact 12 = .ok (.getfield 12, 3) := by decide +kernel
theorem dX4_isFact_15 : decode cX4_isFact 15 = .ok (.getfield 58, 3) := by decide +kernel
theorem dX4_isFact_18 : decode cX4_isFact 18 = .ok (.iconst 3, 1) := by decide +kernel
theorem dX4_isFact_19 : decode cX4_isFact 19 = .ok (.if_icmp .lt 19, 3) := by decide +kernel
theorem dX4_isFact_22 : decode cX4_isFact 22 = .ok (.aload_n 0, 1) := by decide +kernel
theorem dX4_isFact_23 : decode cX4_isFact 23 = .ok (.getfield 12, 3) := by decide +kernel
theorem dX4_isFact_26 : decode cX4_isFact 26 = .ok (.getfield 58, 3) := by decide +kernel
theorem dX4_isFact_29 : decode cX4_isFact 29 = .ok (.bipush 10, 2) := by decide +kernel
theorem dX4_isFact_31 : decode cX4_isFact 31 = .ok (.if_icmp .gt 7, 3) := by decide +kernel
theorem dX4_isFact_34 : decode cX4_isFact 34 = .ok (.iconst 1, 1) := by decide +kernel
theorem dX4_isFact_35 : decode cX4_isFact 35 = .ok (.goto 4, 3) := by decide +kernel
theorem dX4_isFact_38 : decode cX4_isFact 38 = .ok (.iconst 0, 1) := by decide +kernel
theorem dX4_isFact_39 : decode cX4_isFact 39 = .ok (.ireturn, 1) := by decide +kernel
set_option maxRecDepth 100000 in
set_option maxHeartbeats 4000000 in
theorem w_X4_isFact {fr : Nat} (hfr : 0 ≤ fr) (Z : AZ) (X : AX Z cX4_isFact 1 RX4 (some .boolean) 0 fr) (s : Mem) (r : Int32 × Mem) (hz : zres Z = (some (.int r.1), r.2)) (h : f_X4_isFact s = some r) : AW Z s 0 [some (.ref (zr Z 172))] [] := by
  unfold f_X4_isFact at h
  refine aw_aload_n X dX4_isFact_0 rfl ?_
  refine aw_getr X dX4_isFact_1 fl_RX4_12 iu_RX4 gu_RX4_0 ?_
  refine aw_geti X dX4_isFact_4 fl_RX4_55 iu_RX4_0 gu_RX6_1 ?_
  refine aw_iconst (v := 1) X dX4_isFact_7 (by decide) ?_
  refine aw_icmp_ne (tgt := 38) X dX4_isFact_8 (by decide) (fun c1 => ?_) (fun c1 => ?_)
  · rw [if_neg c1] at h
    refine aw_iconst (v := 0) X dX4_isFact_38 (by decide) ?_
    cases h
    exact aw_zret X dX4_isFact_39 rfl rfl hz.symm
  · rw [if_pos c1] at h
    refine aw_aload_n X dX4_isFact_11 rfl ?_
    refine aw_getr X dX4_isFact_12 fl_RX4_12 iu_RX4 gu_RX4_0 ?_
    refine aw_geti X dX4_isFact_15 fl_RX4_58 iu_RX4_0 gu_RX6_2 ?_
    refine aw_iconst (v := 3) X dX4_isFact_18 (by decide) ?_
    refine aw_icmp_lt (tgt := 38) X dX4_isFact_19 (by decide) (fun c2 => ?_) (fun c2 => ?_)
    · rw [if_pos c2] at h
      refine aw_iconst (v := 0) X dX4_isFact_38 (by decide) ?_
      cases h
      exact aw_zret X dX4_isFact_39 rfl rfl hz.symm
    · rw [if_neg c2] at h
      refine aw_aload_n X dX4_isFact_22 rfl ?_
      refine aw_getr X dX4_isFact_23 fl_RX4_12 iu_RX4 gu_RX4_0 ?_
      refine aw_geti X dX4_isFact_26 fl_RX4_58 iu_RX4_0 gu_RX6_2 ?_
      refine aw_bipush (v := 10) X dX4_isFact_29 (by decide) ?_
      refine aw_icmp_gt (tgt := 38) X dX4_isFact_31 (by decide) (fun c3 => ?_) (fun c3 => ?_)
      · rw [if_pos c3] at h
        refine aw_iconst (v := 0) X dX4_isFact_38 (by decide) ?_
        cases h
        exact aw_zret X dX4_isFact_39 rfl rfl hz.symm
      · rw [if_neg c3] at h
        refine aw_iconst (v := 1) X dX4_isFact_34 (by decide) ?_
        refine aw_goto (tgt := 39) X dX4_isFact_35 (by decide) ?_
        cases h
        exact aw_zret X dX4_isFact_39 rfl rfl hz.symm
set_option maxRecDepth 100000 in
set_option maxHeartbeats 4000000 in
theorem ok_X4_isFact {s : Mem} {r : Int32 × Mem} (h : f_X4_isFact s = some r) (l : Launch) (D : va_G) (ρ : Nat → Nat) (cA : ClassId × ClassId × ClassId) (τ : AT) : AM l D ρ cA 0 τ yX4_isFact cX4_isFact 1 (some .boolean) 0 [.ref (ρ 172)] (some (.int r.1)) s r.2 := by
  refine AM_of (L := [some (.ref (ρ 172))]) (by decide) (by simp [Value.category]) (Nat.le_of_ble_eq_true rfl) (fun j v q => ?_) (fun Z X hρ hz hτ => ?_)
  · exact aL_ok (n := 0) [.ref (ρ 172)] j v q
  · subst hρ
    subst hτ
    exact w_X4_isFact (Nat.le_refl _) Z X s r hz h

theorem dX4_readUnit_0 : decode cX4_readUnit 0 = .ok (.aload_n 0, 1) := by decide +kernel
theorem dX4_readUnit_1 : decode cX4_readUnit 1 = .ok (.getfield 12, 3) := by decide +kernel
theorem dX4_readUnit_4 : decode cX4_readUnit 4 = .ok (.getfield 55, 3) := by decide +kernel
theorem dX4_readUnit_7 : decode cX4_readUnit 7 = .ok (.iconst 2, 1) := by decide +kernel
theorem dX4_readUnit_8 : decode cX4_readUnit 8 = .ok (.if_icmp .ne 40, 3) := by decide +kernel
theorem dX4_readUnit_11 : decode cX4_readUnit 11 = .ok (.iload_n 1, 1) := by decide +kernel
theorem dX4_readUnit_12 : decode cX4_readUnit 12 = .ok (.ifCond .eq 19, 3) := by decide +kernel
theorem dX4_readUnit_15 : decode cX4_readUnit 15 = .ok (.aload_n 0, 1) := by decide +kernel
theorem dX4_readUnit_16 : decode cX4_readUnit 16 = .ok (.getfield 12, 3) := by decide +kernel
theorem dX4_readUnit_19 : decode cX4_readUnit 19 = .ok (.getfield 58, 3) := by decide +kernel
theorem dX4_readUnit_22 : decode cX4_readUnit 22 = .ok (.ifCond .ne 9, 3) := by decide +kernel
theorem dX4_readUnit_25 : decode cX4_readUnit 25 = .ok (.aload_n 0, 1) := by decide +kernel
theorem dX4_readUnit_26 : decode cX4_readUnit 26 = .ok (.iconst 2, 1) := by decide +kernel
theorem dX4_readUnit_27 : decode cX4_readUnit 27 = .ok (.invokevirtual 95, 3) := by decide +kernel
theorem dX4_readUnit_30 : decode cX4_readUnit 30 = .ok (.ireturn, 1) := by decide +kernel
theorem dX4_readUnit_31 : decode cX4_readUnit 31 = .ok (.aload_n 0, 1) := by decide +kernel
theorem dX4_readUnit_32 : decode cX4_readUnit 32 = .ok (.getfield 31, 3) := by decide +kernel
theorem dX4_readUnit_35 : decode cX4_readUnit 35 = .ok (.aload_n 0, 1) := by decide +kernel
theorem dX4_readUnit_36 : decode cX4_readUnit 36 = .ok (.getfield 12, 3) := by decide +kernel
theorem dX4_readUnit_39 : decode cX4_readUnit 39 = .ok (.getfield 58, 3) := by decide +kernel
theorem dX4_readUnit_42 : decode cX4_readUnit 42 = .ok (.invokevirtual 156, 3) := by decide +kernel
theorem dX4_readUnit_45 : decode cX4_readUnit 45 = .ok (.goto 43, 3) := by decide +kernel
theorem dX4_readUnit_48 : decode cX4_readUnit 48 = .ok (.iload_n 1, 1) := by decide +kernel
theorem dX4_readUnit_49 : decode cX4_readUnit 49 = .ok (.ifCond .ne 33, 3) := by decide +kernel
theorem dX4_readUnit_52 : decode cX4_readUnit 52 = .ok (.aload_n 0, 1) := by decide +kernel
theorem dX4_readUnit_53 : decode cX4_readUnit 53 = .ok (.invokevirtual 173, 3) := by decide +kernel
theorem dX4_readUnit_56 : decode cX4_readUnit 56 = .ok (.ifCond .eq 26, 3) := by decide +kernel
theorem dX4_readUnit_59 : decode cX4_readUnit 59 = .ok (.aload_n 0, 1) := by decide +kernel
theorem dX4_readUnit_60 : decode cX4_readUnit 60 = .ok (.getfield 31, 3) := by decide +kernel
theorem dX4_readUnit_63 : decode cX4_readUnit 63 = .ok (.sipush 10000, 3) := by decide +kernel
theorem dX4_readUnit_66 : decode cX4_readUnit 66 = .ok (.aload_n 0, 1) := by decide +kernel
theorem dX4_readUnit_67 : decode cX4_readUnit 67 = .ok (.getfield 12, 3) := by decide +kernel
theorem dX4_readUnit_70 : decode cX4_readUnit 70 = .ok (.getfield 58, 3) := by decide +kernel
theorem dX4_readUnit_73 : decode cX4_readUnit 73 = .ok (.iadd, 1) := by decide +kernel
theorem dX4_readUnit_74 : decode cX4_readUnit 74 = .ok (.iconst 3, 1) := by decide +kernel
theorem dX4_readUnit_75 : decode cX4_readUnit 75 = .ok (.isub, 1) := by decide +kernel
theorem dX4_readUnit_76 : decode cX4_readUnit 76 = .ok (.invokevirtual 156, 3) := by decide +kernel
theorem dX4_readUnit_79 : decode cX4_readUnit 79 = .ok (.goto 9, 3) := by decide +kernel
theorem dX4_readUnit_82 : decode cX4_readUnit 82 = .ok (.aload_n 0, 1) := by decide +kernel
theorem dX4_readUnit_83 : decode cX4_readUnit 83 = .ok (.iconst 1, 1) := by decide +kernel
theorem dX4_readUnit_84 : decode cX4_readUnit 84 = .ok (.invokevirtual 95, 3) := by decide +kernel
theorem dX4_readUnit_87 : decode cX4_readUnit 87 = .ok (.ireturn, 1) := by decide +kernel
theorem dX4_readUnit_88 : decode cX4_readUnit 88 = .ok (.aload_n 0, 1) := by decide +kernel
theorem dX4_readUnit_89 : decode cX4_readUnit 89 = .ok (.getfield 12, 3) := by decide +kernel
theorem dX4_readUnit_92 : decode cX4_readUnit 92 = .ok (.invokevirtual 98, 3) := by decide +kernel
theorem dX4_readUnit_95 : decode cX4_readUnit 95 = .ok (.iconst 1, 1) := by decide +kernel
theorem dX4_readUnit_96 : decode cX4_readUnit 96 = .ok (.ireturn, 1) := by decide +kernel
set_option maxRecDepth 100000 in
set_option maxHeartbeats 4000000 in
theorem jo_X4_readUnit_82 {fr : Nat} (hfr : 1 ≤ fr) (Z : AZ) (X : AX Z cX4_readUnit 2 RX4 (some .boolean) 0 fr) (s : Mem) (r : Int32 × Mem) (hz : zres Z = (some (.int r.1), r.2)) (h : jn_X4_readUnit_82 s = some r) : AW Z s 82 [some (.ref (zr Z 172)), none] [] := by
  unfold jn_X4_readUnit_82 at h
  refine aw_aload_n X dX4_readUnit_82 rfl ?_
  refine aw_iconst (v := 1) X dX4_readUnit_83 (by decide) ?_
  obtain ⟨r3, er3, h⟩ := bnd h
  refine aw_callV X dX4_readUnit_84 cv_RX4_95 (ok_X4_fail er3 _ _ _ _ _) iu_RX4 rfl (Nat.le_trans (by decide) hfr) (by decide) rfl rfl (Nat.le_of_ble_eq_true rfl) ?_
  by_cases c4 : ¬ (r3.1 = 0 ∨ r3.1 = 1)
  · rw [if_pos c4] at h
    cases h
  rw [if_neg c4] at h
  cases h
  exact aw_zret X dX4_readUnit_87 rfl (bz_n (Decidable.of_not_not c4)) hz.symm
set_option maxRecDepth 100000 in
set_option maxHeartbeats 4000000 in
theorem jo_X4_readUnit_88 {fr : Nat} (hfr : 1 ≤ fr) (Z : AZ) (X : AX Z cX4_readUnit 2 RX4 (some .boolean) 0 fr) (s : Mem) (r : Int32 × Mem) (hz : zres Z = (some (.int r.1), r.2)) (h : jn_X4_readUnit_88 s = some r) : AW Z s 88 [some (.ref (zr Z 172)), none] [] := by
  unfold jn_X4_readUnit_88 at h
  refine aw_aload_n X dX4_readUnit_88 rfl ?_
  refine aw_getr X dX4_readUnit_89 fl_RX4_12 iu_RX4 gu_RX4_0 ?_
  obtain ⟨r8, er8, h⟩ := bnd h
  refine aw_callV X dX4_readUnit_92 cv_RX4_98 (ok_X6_advance er8 _ _ _ _ _) iu_RX4_0 rfl (Nat.le_trans (by decide) hfr) (by decide) rfl rfl (Nat.le_of_ble_eq_true rfl) ?_
  refine aw_iconst (v := 1) X dX4_readUnit_95 (by decide) ?_
  cases h
  exact aw_zret X dX4_readUnit_96 rfl rfl hz.symm
set_option maxRecDepth 100000 in
set_option maxHeartbeats 4000000 in
theorem jo_X4_readUnit_31 {fr : Nat} (hfr : 1 ≤ fr) (Z : AZ) (X : AX Z cX4_readUnit 2 RX4 (some .boolean) 0 fr) (s : Mem) (r : Int32 × Mem) (hz : zres Z = (some (.int r.1), r.2)) (h : jn_X4_readUnit_31 s = some r) : AW Z s 31 [some (.ref (zr Z 172)), none] [] := by
  unfold jn_X4_readUnit_31 at h
  refine aw_aload_n X dX4_readUnit_31 rfl ?_
  refine aw_getr X dX4_readUnit_32 fl_RX4_31 iu_RX4 gu_RX4_4 ?_
  refine aw_aload_n X dX4_readUnit_35 rfl ?_
  refine aw_getr X dX4_readUnit_36 fl_RX4_12 iu_RX4 gu_RX4_0 ?_
  refine aw_geti X dX4_readUnit_39 fl_RX4_58 iu_RX4_0 gu_RX6_2 ?_
  obtain ⟨r10, er10, h⟩ := bnd h
  refine aw_callV X dX4_readUnit_42 cv_RX4_156 (ok_X1_emit iu_RX4_4 er10 _ _ _ _ _) iu_RX4_4 rfl (Nat.le_trans (by decide) hfr) (by decide) rfl rfl (Nat.le_of_ble_eq_true rfl) ?_
  refine aw_goto (tgt := 88) X dX4_readUnit_45 (by decide) ?_
  refine aw_msk [true, false] ?_
  exact jo_X4_readUnit_88 hfr Z X _ _ hz h
set_option maxRecDepth 100000 in
set_option maxHeartbeats 4000000 in
theorem w_X4_readUnit {fr : Nat} (hfr : 1 ≤ fr) (Z : AZ) (X : AX Z cX4_readUnit 2 RX4 (some .boolean) 0 fr) (x1 : Int32) (s : Mem) (r : Int32 × Mem) (hz : zres Z = (some (.int r.1), r.2)) (h : f_X4_readUnit x1 s = some r) : AW Z s 0 [some (.ref (zr Z 172)), some (.int x1)] [] := by
  unfold f_X4_readUnit at h
  refine aw_aload_n X dX4_readUnit_0 rfl ?_
  refine aw_getr X dX4_readUnit_1 fl_RX4_12 iu_RX4 gu_RX4_0 ?_
  refine aw_geti X dX4_readUnit_4 fl_RX4_55 iu_RX4_0 gu_RX6_1 ?_
  refine aw_iconst (v := 2) X dX4_readUnit_7 (by decide) ?_
  refine aw_icmp_ne (tgt := 48) X dX4_readUnit_8 (by decide) (fun c1 => ?_) (fun c1 => ?_)
  · rw [if_neg c1] at h
    refine aw_iload_n X dX4_readUnit_48 rfl ?_
    refine aw_if_ne (tgt := 82) X dX4_readUnit_49 (by decide) (fun c2 => ?_) (fun c2 => ?_)
    · rw [if_neg c2] at h
      refine aw_msk [true, false] ?_
      exact jo_X4_readUnit_82 hfr Z X _ _ hz h
    · rw [if_pos c2] at h
      refine aw_aload_n X dX4_readUnit_52 rfl ?_
      obtain ⟨r5, er5, h⟩ := bnd h
      refine aw_callV X dX4_readUnit_53 cv_RX4_173 (ok_X4_isFact er5 _ _ _ _ _) iu_RX4 rfl (Nat.le_trans (by decide) hfr) (by decide) rfl rfl (Nat.le_of_ble_eq_true rfl) ?_
      refine aw_if_eq (tgt := 82) X dX4_readUnit_56 (by decide) (fun c6 => ?_) (fun c6 => ?_)
      · rw [if_pos c6] at h
        refine aw_msk [true, false] ?_
        exact jo_X4_readUnit_82 hfr Z X _ _ hz h
      · rw [if_neg c6] at h
        refine aw_aload_n X dX4_readUnit_59 rfl ?_
        refine aw_getr X dX4_readUnit_60 fl_RX4_31 iu_RX4 gu_RX4_4 ?_
        refine aw_sipush (v := 10000) X dX4_readUnit_63 (by decide) ?_
        refine aw_aload_n X dX4_readUnit_66 rfl ?_
        refine aw_getr X dX4_readUnit_67 fl_RX4_12 iu_RX4 gu_RX4_0 ?_
        refine aw_geti X dX4_readUnit_70 fl_RX4_58 iu_RX4_0 gu_RX6_2 ?_
        refine aw_iadd X dX4_readUnit_73 ?_
        refine aw_iconst (v := 3) X dX4_readUnit_74 (by decide) ?_
        refine aw_isub X dX4_readUnit_75 ?_
        obtain ⟨r7, er7, h⟩ := bnd h
        refine aw_callV X dX4_readUnit_76 cv_RX4_156 (ok_X1_emit iu_RX4_4 er7 _ _ _ _ _) iu_RX4_4 rfl (Nat.le_trans (by decide) hfr) (by decide) rfl rfl (Nat.le_of_ble_eq_true rfl) ?_
        refine aw_goto (tgt := 88) X dX4_readUnit_79 (by decide) ?_
        refine aw_msk [true, false] ?_
        exact jo_X4_readUnit_88 hfr Z X _ _ hz h
  · rw [if_pos c1] at h
    refine aw_iload_n X dX4_readUnit_11 rfl ?_
    refine aw_if_eq (tgt := 31) X dX4_readUnit_12 (by decide) (fun c9 => ?_) (fun c9 => ?_)
    · rw [if_pos c9] at h
      refine aw_msk [true, false] ?_
      exact jo_X4_readUnit_31 hfr Z X _ _ hz h
    · rw [if_neg c9] at h
      refine aw_aload_n X dX4_readUnit_15 rfl ?_
      refine aw_getr X dX4_readUnit_16 fl_RX4_12 iu_RX4 gu_RX4_0 ?_
      refine aw_geti X dX4_readUnit_19 fl_RX4_58 iu_RX4_0 gu_RX6_2 ?_
      refine aw_if_ne (tgt := 31) X dX4_readUnit_22 (by decide) (fun c11 => ?_) (fun c11 => ?_)
      · rw [if_neg c11] at h
        refine aw_msk [true, false] ?_
        exact jo_X4_readUnit_31 hfr Z X _ _ hz h
      · rw [if_pos c11] at h
        refine aw_aload_n X dX4_readUnit_25 rfl ?_
        refine aw_iconst (v := 2) X dX4_readUnit_26 (by decide) ?_
        obtain ⟨r12, er12, h⟩ := bnd h
        refine aw_callV X dX4_readUnit_27 cv_RX4_95 (ok_X4_fail er12 _ _ _ _ _) iu_RX4 rfl (Nat.le_trans (by decide) hfr) (by decide) rfl rfl (Nat.le_of_ble_eq_true rfl) ?_
        by_cases c13 : ¬ (r12.1 = 0 ∨ r12.1 = 1)
        · rw [if_pos c13] at h
          cases h
        rw [if_neg c13] at h
        cases h
        exact aw_zret X dX4_readUnit_30 rfl (bz_n (Decidable.of_not_not c13)) hz.symm
set_option maxRecDepth 100000 in
set_option maxHeartbeats 4000000 in
theorem ok_X4_readUnit {x1 : Int32} {s : Mem} {r : Int32 × Mem} (h : f_X4_readUnit x1 s = some r) (l : Launch) (D : va_G) (ρ : Nat → Nat) (cA : ClassId × ClassId × ClassId) (τ : AT) : AM l D ρ cA 0 τ yX4_readUnit cX4_readUnit 2 (some .boolean) 1 [.ref (ρ 172), .int x1] (some (.int r.1)) s r.2 := by
  refine AM_of (L := [some (.ref (ρ 172)), some (.int x1)]) (by decide) (by simp [Value.category]) (Nat.le_of_ble_eq_true rfl) (fun j v q => ?_) (fun Z X hρ hz hτ => ?_)
  · exact aL_ok (n := 0) [.ref (ρ 172), .int x1] j v q
  · subst hρ
    subst hτ
    exact w_X4_readUnit (Nat.le_refl _) Z X x1 s r hz h

theorem dX6_isSign_0 : decode cX6_isSign 0 = .ok (.aload_n 0, 1) := by decide +kernel
theorem dX6_isSign_1 : decode cX6_isSign 1 = .ok (.getfield 15, 3) := by decide +kernel
theorem dX6_isSign_4 : decode cX6_isSign 4 = .ok (.iconst 3, 1) := by decide +kernel
theorem dX6_isSign_5 : decode cX6_isSign 5 = .ok (.if_icmp .ne 15, 3) := by decide +kernel
theorem dX6_isSign_8 : decode cX6_isSign 8 = .ok (.aload_n 0, 1) := by decide +kernel
theorem dX6_isSign_9 : decode cX6_isSign 9 = .ok (.getfield 18, 3) := by decide +kernel
theorem dX6_isSign_12 : decode cX6_isSign 12 = .ok (.iload_n 1, 1) := by decide +kernel
theorem dX6_isSign_13 : decode cX6_isSign 13 = .ok (.if_icmp .ne 7, 3) := by decide +kernel
theorem dX6_isSign_16 : decode cX6_isSign 16 = .ok (.iconst 1, 1) := by decide +kernel
theorem dX6_isSign_17 : decode cX6_isSign 17 = .ok (.goto 4, 3) := by decide +kernel
theorem dX6_isSign_20 : decode cX6_isSign 20 = .ok (.iconst 0, 1) := by decide +kernel
theorem dX6_isSign_21 : decode cX6_isSign 21 = .ok (.ireturn, 1) := by decide +kernel
set_option maxRecDepth 100000 in
set_option maxHeartbeats 4000000 in
theorem w_X6_isSign {fr : Nat} (hfr : 0 ≤ fr) (Z : AZ) (X : AX Z cX6_isSign 2 RX6 (some .boolean) 0 fr) (x1 : Int32) (s : Mem) (r : Int32 × Mem) (hz : zres Z = (some (.int r.1), r.2)) (h : f_X6_isSign x1 s = some r) : AW Z s 0 [some (.ref (zr Z 173)), some (.int x1)] [] := by
  unfold f_X6_isSign at h
  refine aw_aload_n X dX6_isSign_0 rfl ?_
  refine aw_geti X dX6_isSign_1 fl_RX6_15 iu_RX6 gu_RX6_1 ?_
  refine aw_iconst (v := 3) X dX6_isSign_4 (by decide) ?_
  refine aw_icmp_ne (tgt := 20) X dX6_isSign_5 (by decide) (fun c1 => ?_) (fun c1 => ?_)
  · rw [if_neg c1] at h
    refine aw_iconst (v := 0) X dX6_isSign_20 (by decide) ?_
    cases h
    exact aw_zret X dX6_isSign_21 rfl rfl hz.symm
  · rw [if_pos c1] at h
    refine aw_aload_n X dX6_isSign_8 rfl ?_
    refine aw_geti X dX6_isSign_9 fl_RX6_18 iu_RX6 gu_RX6_2 ?_
    refine aw_iload_n X dX6_isSign_12 rfl ?_
    refine aw_icmp_ne (tgt := 20) X dX6_isSign_13 (by decide) (fun c2 => ?_) (fun c2 => ?_)
    · rw [if_neg c2] at h
      refine aw_iconst (v := 0) X dX6_isSign_20 (by decide) ?_
      cases h
      exact aw_zret X dX6_isSign_21 rfl rfl hz.symm
    · rw [if_pos c2] at h
      refine aw_iconst (v := 1) X dX6_isSign_16 (by decide) ?_
      refine aw_goto (tgt := 21) X dX6_isSign_17 (by decide) ?_
      cases h
      exact aw_zret X dX6_isSign_21 rfl rfl hz.symm
set_option maxRecDepth 100000 in
set_option maxHeartbeats 4000000 in
theorem ok_X6_isSign {x1 : Int32} {s : Mem} {r : Int32 × Mem} (h : f_X6_isSign x1 s = some r) (l : Launch) (D : va_G) (ρ : Nat → Nat) (cA : ClassId × ClassId × ClassId) (τ : AT) : AM l D ρ cA 0 τ yX6_isSign cX6_isSign 2 (some .boolean) 0 [.ref (ρ 173), .int x1] (some (.int r.1)) s r.2 := by
  refine AM_of (L := [some (.ref (ρ 173)), some (.int x1)]) (by decide) (by simp [Value.category]) (Nat.le_of_ble_eq_true rfl) (fun j v q => ?_) (fun Z X hρ hz hτ => ?_)
  · exact aL_ok (n := 0) [.ref (ρ 173), .int x1] j v q
  · subst hρ
    subst hτ
    exact w_X6_isSign (Nat.le_refl _) Z X x1 s r hz h

theorem dX4_eitherSign_0 : decode cX4_eitherSign 0 = .ok (.aload_n 0, 1) := by decide +kernel
theorem dX4_eitherSign_1 : decode cX4_eitherSign 1 = .ok (.getfield 12, 3) := by decide +kernel
theorem dX4_eitherSign_4 : decode cX4_eitherSign 4 = .ok (.iload_n 1, 1) := by decide +kernel
theorem dX4_eitherSign_5 : decode cX4_eitherSign 5 = .ok (.invokevirtual 159, 3) := by decide +kernel
theorem dX4_eitherSign_8 : decode cX4_eitherSign 8 = .ok (.ifCond .eq 5, 3) := by decide +kernel
theorem dX4_eitherSign_11 : decode cX4_eitherSign 11 = .ok (.iload_n 2, 1) := by decide +kernel
theorem dX4_eitherSign_12 : decode cX4_eitherSign 12 = .ok (.ireturn, 1) := by decide +kernel
theorem dX4_eitherSign_13 : decode cX4_eitherSign 13 = .ok (.aload_n 0, 1) := by decide +kernel
theorem dX4_eitherSign_14 : decode cX4_eitherSign 14 = .ok (.getfield 12, 3) := by decide +kernel
theorem dX4_eitherSign_17 : decode cX4_eitherSign 17 = .ok (.iload_n 3, 1) := by decide +kernel
theorem dX4_eitherSign_18 : decode cX4_eitherSign 18 = .ok (.invokevirtual 159, 3) := by decide +kernel
theorem dX4_eitherSign_21 : decode cX4_eitherSign 21 = .ok (.ifCond .eq 8, 3) := by decide +kernel
theorem dX4_eitherSign_24 : decode cX4_eitherSign 24 = .ok (.iload 4, 2) := by decide +kernel
theorem dX4_eitherSign_26 : decode cX4_eitherSign 26 = .ok (.goto 4, 3) := by decide +kernel
theorem dX4_eitherSign_29 : decode cX4_eitherSign 29 = .ok (.iconst (-1), 1) := by decide +kernel
theorem dX4_eitherSign_30 : decode cX4_eitherSign 30 = .ok (.ireturn, 1) := by decide +kernel
set_option maxRecDepth 100000 in
set_option maxHeartbeats 4000000 in
theorem w_X4_eitherSign {fr : Nat} (hfr : 1 ≤ fr) (Z : AZ) (X : AX Z cX4_eitherSign 5 RX4 (some .int) 0 fr) (x1 : Int32) (x2 : Int32) (x3 : Int32) (x4 : Int32) (s : Mem) (r : Int32 × Mem) (hz : zres Z = (some (.int r.1), r.2)) (h : f_X4_eitherSign x1 x2 x3 x4 s = some r) : AW Z s 0 [some (.ref (zr Z 172)), some (.int x1), some (.int x2), some (.int x3), some (.int x4)] [] := by
  unfold f_X4_eitherSign at h
  refine aw_aload_n X dX4_eitherSign_0 rfl ?_
  refine aw_getr X dX4_eitherSign_1 fl_RX4_12 iu_RX4 gu_RX4_0 ?_
  refine aw_iload_n X dX4_eitherSign_4 rfl ?_
  obtain ⟨r1, er1, h⟩ := bnd h
  refine aw_callV X dX4_eitherSign_5 cv_RX4_159 (ok_X6_isSign er1 _ _ _ _ _) iu_RX4_0 rfl (Nat.le_trans (by decide) hfr) (by decide) rfl rfl (Nat.le_of_ble_eq_true rfl) ?_
  refine aw_if_eq (tgt := 13) X dX4_eitherSign_8 (by decide) (fun c2 => ?_) (fun c2 => ?_)
  · rw [if_pos c2] at h
    refine aw_aload_n X dX4_eitherSign_13 rfl ?_
    refine aw_getr X dX4_eitherSign_14 fl_RX4_12 iu_RX4 gu_RX4_0 ?_
    refine aw_iload_n X dX4_eitherSign_17 rfl ?_
    obtain ⟨r3, er3, h⟩ := bnd h
    refine aw_callV X dX4_eitherSign_18 cv_RX4_159 (ok_X6_isSign er3 _ _ _ _ _) iu_RX4_0 rfl (Nat.le_trans (by decide) hfr) (by decide) rfl rfl (Nat.le_of_ble_eq_true rfl) ?_
    refine aw_if_eq (tgt := 29) X dX4_eitherSign_21 (by decide) (fun c4 => ?_) (fun c4 => ?_)
    · rw [if_pos c4] at h
      refine aw_iconst (v := (-1)) X dX4_eitherSign_29 (by decide) ?_
      cases h
      exact aw_iret X dX4_eitherSign_30 rfl hz.symm
    · rw [if_neg c4] at h
      refine aw_iload X dX4_eitherSign_24 rfl ?_
      refine aw_goto (tgt := 30) X dX4_eitherSign_26 (by decide) ?_
      cases h
      exact aw_iret X dX4_eitherSign_30 rfl hz.symm
  · rw [if_neg c2] at h
    refine aw_iload_n X dX4_eitherSign_11 rfl ?_
    cases h
    exact aw_iret X dX4_eitherSign_12 rfl hz.symm
set_option maxRecDepth 100000 in
set_option maxHeartbeats 4000000 in
theorem ok_X4_eitherSign {x1 x2 x3 x4 : Int32} {s : Mem} {r : Int32 × Mem} (h : f_X4_eitherSign x1 x2 x3 x4 s = some r) (l : Launch) (D : va_G) (ρ : Nat → Nat) (cA : ClassId × ClassId × ClassId) (τ : AT) : AM l D ρ cA 0 τ yX4_eitherSign cX4_eitherSign 5 (some .int) 1 [.ref (ρ 172), .int x1, .int x2, .int x3, .int x4] (some (.int r.1)) s r.2 := by
  refine AM_of (L := [some (.ref (ρ 172)), some (.int x1), some (.int x2), some (.int x3), some (.int x4)]) (by decide) (by simp [Value.category]) (Nat.le_of_ble_eq_true rfl) (fun j v q => ?_) (fun Z X hρ hz hτ => ?_)
  · exact aL_ok (n := 0) [.ref (ρ 172), .int x1, .int x2, .int x3, .int x4] j v q
  · subst hρ
    subst hτ
    exact w_X4_eitherSign (Nat.le_refl _) Z X x1 x2 x3 x4 s r hz h

theorem dX4_readSum_0 : decode cX4_readSum 0 = .ok (.iconst (-1), 1) := by decide +kernel
theorem dX4_readSum_1 : decode cX4_readSum 1 = .ok (.istore_n 1, 1) := by decide +kernel
theorem dX4_readSum_2 : decode cX4_readSum 2 = .ok (.iconst (-1), 1) := by decide +kernel
theorem dX4_readSum_3 : decode cX4_readSum 3 = .ok (.istore_n 2, 1) := by decide +kernel
theorem dX4_readSum_4 : decode cX4_readSum 4 = .ok (.iconst 0, 1) := by decide +kernel
theorem dX4_readSum_5 : decode cX4_readSum 5 = .ok (.istore_n 3, 1) := by decide +kernel
theorem dX4_readSum_6 : decode cX4_readSum 6 = .ok (.iload_n 3, 1) := by decide +kernel
theorem dX4_readSum_7 : decode cX4_readSum 7 = .ok (.sipush 400, 3) := by decide +kernel
theorem dX4_readSum_10 : decode cX4_readSum 10 = .ok (.if_icmp .ge 105, 3) := by decide +kernel
theorem dX4_readSum_13 : decode cX4_readSum 13 = .ok (.aload_n 0, 1) := by decide +kernel
theorem dX4_readSum_14 : decode cX4_readSum 14 = .ok (.iload_n 2, 1) := by decide +kernel
theorem dX4_readSum_15 : decode cX4_readSum 15 = .ok (.sipush 20003, 3) := by decide +kernel
theorem dX4_readSum_18 : decode cX4_readSum 18 = .ok (.if_icmp .ne 7, 3) := by decide +kernel
theorem dX4_readSum_21 : decode cX4_readSum 21 = .ok (.iconst 1, 1) := by decide +kernel
theorem dX4_readSum_22 : decode cX4_readSum 22 = .ok (.goto 4, 3) := by decide +kernel
theorem dX4_readSum_25 : decode cX4_readSum 25 = .ok (.iconst 0, 1) := by decide +kernel
theorem dX4_readSum_26 : decode cX4_readSum 26 = .ok (.invokevirtual 166, 3) := by decide +kernel
theorem dX4_readSum_29 : decode cX4_readSum 29 = .ok (.ifCond .ne 5, 3) := by decide +kernel
theorem dX4_readSum_32 : decode cX4_readSum 32 = .ok (.iconst 0, 1) := by decide +kernel
theorem dX4_readSum_33 : decode cX4_readSum 33 = .ok (.ireturn, 1) := by decide +kernel
theorem dX4_readSum_34 : decode cX4_readSum 34 = .ok (.iload_n 2, 1) := by decide +kernel
theorem dX4_readSum_35 : decode cX4_readSum 35 = .ok (.iconst (-1), 1) := by decide +kernel
theorem dX4_readSum_36 : decode cX4_readSum 36 = .ok (.if_icmp .eq 11, 3) := by decide +kernel
theorem dX4_readSum_39 : decode cX4_readSum 39 = .ok (.aload_n 0, 1) := by decide +kernel
theorem dX4_readSum_40 : decode cX4_readSum 40 = .ok (.getfield 31, 3) := by decide +kernel
theorem dX4_readSum_43 : decode cX4_readSum 43 = .ok (.iload_n 2, 1) := by decide +kernel
theorem dX4_readSum_44 : decode cX4_readSum 44 = .ok (.invokevirtual 156, 3) := by decide +kernel
theorem dX4_readSum_47 : decode cX4_readSum 47 = .ok (.aload_n 0, 1) := by decide +kernel
theorem dX4_readSum_48 : decode cX4_readSum 48 = .ok (.bipush 42, 2) := by decide +kernel
theorem dX4_readSum_50 : decode cX4_readSum 50 = .ok (.sipush 20002, 3) := by decide +kernel
theorem dX4_readSum_53 : decode cX4_readSum 53 = .ok (.bipush 47, 2) := by decide +kernel
theorem dX4_readSum_55 : decode cX4_readSum 55 = .ok (.sipush 20003, 3) := by decide +kernel
theorem dX4_readSum_58 : decode cX4_readSum 58 = .ok (.invokevirtual 169, 3) := by decide +kernel
theorem dX4_readSum_61 : decode cX4_readSum 61 = .ok (.istore_n 2, 1) := by decide +kernel
theorem dX4_readSum_62 : decode cX4_readSum 62 = .ok (.iload_n 2, 1) := by decide +kernel
theorem dX4_readSum_63 : decode cX4_readSum 63 = .ok (.iconst (-1), 1) := by decide +kernel
theorem dX4_readSum_64 : decode cX4_readSum 64 = .ok (.if_icmp .ne 38, 3) := by decide +kernel
theorem dX4_readSum_67 : decode cX4_readSum 67 = .ok (.iload_n 1, 1) := by decide +kernel
theorem dX4_readSum_68 : decode cX4_readSum 68 = .ok (.iconst (-1), 1) := by decide +kernel
theorem dX4_readSum_69 : decode cX4_readSum 69 = .ok (.if_icmp .eq 11, 3) := by decide +kernel
theorem dX4_readSum_72 : decode cX4_readSum 72 = .ok (.aload_n 0, 1) := by decide +kernel
theorem dX4_readSum_73 : decode cX4_readSum 73 = .ok (.getfield 31, 3) := by decide +kernel
theorem dX4_readSum_76 : decode cX4_readSum 76 = .ok (.iload_n 1, 1) := by decide +kernel
theorem dX4_readSum_77 : decode cX4_readSum 77 = .ok (.invokevirtual 156, 3) := by decide +kernel
theorem dX4_readSum_80 : decode cX4_readSum 80 = .ok (.aload_n 0, 1) := by decide +kernel
theorem dX4_readSum_81 : decode cX4_readSum 81 = .ok (.bipush 43, 2) := by decide +kernel
theorem dX4_readSum_83 : decode cX4_readSum 83 = .ok (.sipush 20000, 3) := by decide +kernel
theorem dX4_readSum_86 : decode cX4_readSum 86 = .ok (.bipush 45, 2) := by decide +kernel
theorem dX4_readSum_88 : decode cX4_readSum 88 = .ok (.sipush 20001, 3) := by decide +kernel
theorem dX4_readSum_91 : decode cX4_readSum 91 = .ok (.invokevirtual 169, 3) := by decide +kernel
theorem dX4_readSum_94 : decode cX4_readSum 94 = .ok (.istore_n 1, 1) := by decide +kernel
theorem dX4_readSum_95 : decode cX4_readSum 95 = .ok (.iload_n 1, 1) := by decide +kernel
theorem dX4_readSum_96 : decode cX4_readSum 96 = .ok (.iconst (-1), 1) := by decide +kernel
theorem dX4_readSum_97 : decode cX4_readSum 97 = .ok (.if_icmp .ne 5, 3) := by decide +kernel
theorem dX4_readSum_100 : decode cX4_readSum 100 = .ok (.iconst 1, 1) := by decide +kernel
theorem dX4_readSum_101 : decode cX4_readSum 101 = .ok (.ireturn, 1) := by decide +kernel
theorem dX4_readSum_102 : decode cX4_readSum 102 = .ok (.aload_n 0, 1) := by decide +kernel
theorem dX4_readSum_103 : decode cX4_readSum 103 = .ok (.getfield 12, 3) := by decide +kernel
theorem dX4_readSum_106 : decode cX4_readSum 106 = .ok (.invokevirtual 98, 3) := by decide +kernel
theorem dX4_readSum_109 : decode cX4_readSum 109 = .ok (.iinc 3 1, 3) := by decide +kernel
theorem dX4_readSum_112 : decode cX4_readSum 112 = .ok (.goto (-106), 3) := by decide +kernel
theorem dX4_readSum_115 : decode cX4_readSum 115 = .ok (.aload_n 0, 1) := by decide +kernel
theorem dX4_readSum_116 : decode cX4_readSum 116 = .ok (.iconst 1, 1) := by decide +kernel
theorem dX4_readSum_117 : decode cX4_readSum 117 = .ok (.invokevirtual 95, 3) := by decide +kernel
theorem dX4_readSum_120 : decode cX4_readSum 120 = .ok (.ireturn, 1) := by decide +kernel
set_option maxRecDepth 100000 in
set_option maxHeartbeats 4000000 in
theorem jo_X4_readSum_102 {fr : Nat} (hfr : 2 ≤ fr) (Z : AZ) (X : AX Z cX4_readSum 4 RX4 (some .boolean) 0 fr) (x1 : Int32) (x2 : Int32) (x3 : Int32) (s : Mem) (q : (Int32 × Int32 × Int32 × Mem) ⊕ (Nat × Mem)) (h : jn_X4_readSum_102 x1 x2 x3 s = some q) (hi : ∀ y : Int32 × Int32 × Int32 × Mem, q = .inl y → AW Z y.2.2.2 6 [some (.ref (zr Z 172)), some (.int y.1), some (.int y.2.1), some (.int y.2.2.1)] []) (he : ∀ b : Nat × Mem, q = .inr b → (b.1 = 0 → AW Z b.2 32 [none, none, none, none] []) ∧ (b.1 = 1 → AW Z b.2 100 [none, none, none, none] []) ∧ (b.1 = 2 → AW Z b.2 115 [some (.ref (zr Z 172)), none, none, none] [])) : AW Z s 102 [some (.ref (zr Z 172)), some (.int x1), some (.int x2), some (.int x3)] [] := by
  unfold jn_X4_readSum_102 at h
  refine aw_aload_n X dX4_readSum_102 rfl ?_
  refine aw_getr X dX4_readSum_103 fl_RX4_12 iu_RX4 gu_RX4_0 ?_
  obtain ⟨r8, er8, h⟩ := bnd h
  refine aw_callV X dX4_readSum_106 cv_RX4_98 (ok_X6_advance er8 _ _ _ _ _) iu_RX4_0 rfl (Nat.le_trans (by decide) hfr) (by decide) rfl rfl (Nat.le_of_ble_eq_true rfl) ?_
  refine aw_iinc (v := (x3 + 1)) (L' := [some (.ref (zr Z 172)), some (.int x1), some (.int x2), some (.int (x3 + 1))]) X dX4_readSum_109 rfl rfl (by decide) rfl ?_
  refine aw_goto (tgt := 6) X dX4_readSum_112 (by decide) ?_
  cases h
  refine aw_msk [true, true, true, true] ?_
  exact hi _ rfl
set_option maxRecDepth 100000 in
set_option maxHeartbeats 4000000 in
theorem jo_X4_readSum_80 {fr : Nat} (hfr : 2 ≤ fr) (Z : AZ) (X : AX Z cX4_readSum 4 RX4 (some .boolean) 0 fr) (x2 : Int32) (x3 : Int32) (s : Mem) (q : (Int32 × Int32 × Int32 × Mem) ⊕ (Nat × Mem)) (h : jn_X4_readSum_80 x2 x3 s = some q) (hi : ∀ y : Int32 × Int32 × Int32 × Mem, q = .inl y → AW Z y.2.2.2 6 [some (.ref (zr Z 172)), some (.int y.1), some (.int y.2.1), some (.int y.2.2.1)] []) (he : ∀ b : Nat × Mem, q = .inr b → (b.1 = 0 → AW Z b.2 32 [none, none, none, none] []) ∧ (b.1 = 1 → AW Z b.2 100 [none, none, none, none] []) ∧ (b.1 = 2 → AW Z b.2 115 [some (.ref (zr Z 172)), none, none, none] [])) : AW Z s 80 [some (.ref (zr Z 172)), none, some (.int x2), some (.int x3)] [] := by
  unfold jn_X4_readSum_80 at h
  refine aw_aload_n X dX4_readSum_80 rfl ?_
  refine aw_bipush (v := 43) X dX4_readSum_81 (by decide) ?_
  refine aw_sipush (v := 20000) X dX4_readSum_83 (by decide) ?_
  refine aw_bipush (v := 45) X dX4_readSum_86 (by decide) ?_
  refine aw_sipush (v := 20001) X dX4_readSum_88 (by decide) ?_
  obtain ⟨r10, er10, h⟩ := bnd h
  refine aw_callV X dX4_readSum_91 cv_RX4_169 (ok_X4_eitherSign er10 _ _ _ _ _) iu_RX4 rfl (Nat.le_trans (by decide) hfr) (by decide) rfl rfl (Nat.le_of_ble_eq_true rfl) ?_
  refine aw_istore_n (L' := [some (.ref (zr Z 172)), some (.int r10.1), some (.int x2), some (.int x3)]) X dX4_readSum_94 (by decide) rfl ?_
  refine aw_iload_n X dX4_readSum_95 rfl ?_
  refine aw_iconst (v := (-1)) X dX4_readSum_96 (by decide) ?_
  refine aw_icmp_ne (tgt := 102) X dX4_readSum_97 (by decide) (fun c11 => ?_) (fun c11 => ?_)
  · rw [if_neg c11] at h
    refine aw_msk [true, true, true, true] ?_
    exact jo_X4_readSum_102 hfr Z X _ _ _ _ _ h hi he
  · rw [if_pos c11] at h
    cases h
    refine aw_msk [false, false, false, false] ?_
    exact (he _ rfl).2.1 rfl
set_option maxRecDepth 100000 in
set_option maxHeartbeats 4000000 in
theorem jo_X4_readSum_47 {fr : Nat} (hfr : 2 ≤ fr) (Z : AZ) (X : AX Z cX4_readSum 4 RX4 (some .boolean) 0 fr) (x1 : Int32) (x3 : Int32) (s : Mem) (q : (Int32 × Int32 × Int32 × Mem) ⊕ (Nat × Mem)) (h : jn_X4_readSum_47 x1 x3 s = some q) (hi : ∀ y : Int32 × Int32 × Int32 × Mem, q = .inl y → AW Z y.2.2.2 6 [some (.ref (zr Z 172)), some (.int y.1), some (.int y.2.1), some (.int y.2.2.1)] []) (he : ∀ b : Nat × Mem, q = .inr b → (b.1 = 0 → AW Z b.2 32 [none, none, none, none] []) ∧ (b.1 = 1 → AW Z b.2 100 [none, none, none, none] []) ∧ (b.1 = 2 → AW Z b.2 115 [some (.ref (zr Z 172)), none, none, none] [])) : AW Z s 47 [some (.ref (zr Z 172)), some (.int x1), none, some (.int x3)] [] := by
  unfold jn_X4_readSum_47 at h
  refine aw_aload_n X dX4_readSum_47 rfl ?_
  refine aw_bipush (v := 42) X dX4_readSum_48 (by decide) ?_
  refine aw_sipush (v := 20002) X dX4_readSum_50 (by decide) ?_
  refine aw_bipush (v := 47) X dX4_readSum_53 (by decide) ?_
  refine aw_sipush (v := 20003) X dX4_readSum_55 (by decide) ?_
  obtain ⟨r6, er6, h⟩ := bnd h
  refine aw_callV X dX4_readSum_58 cv_RX4_169 (ok_X4_eitherSign er6 _ _ _ _ _) iu_RX4 rfl (Nat.le_trans (by decide) hfr) (by decide) rfl rfl (Nat.le_of_ble_eq_true rfl) ?_
  refine aw_istore_n (L' := [some (.ref (zr Z 172)), some (.int x1), some (.int r6.1), some (.int x3)]) X dX4_readSum_61 (by decide) rfl ?_
  refine aw_iload_n X dX4_readSum_62 rfl ?_
  refine aw_iconst (v := (-1)) X dX4_readSum_63 (by decide) ?_
  refine aw_icmp_ne (tgt := 102) X dX4_readSum_64 (by decide) (fun c7 => ?_) (fun c7 => ?_)
  · rw [if_neg c7] at h
    refine aw_msk [true, true, true, true] ?_
    exact jo_X4_readSum_102 hfr Z X _ _ _ _ _ h hi he
  · rw [if_pos c7] at h
    refine aw_iload_n X dX4_readSum_67 rfl ?_
    refine aw_iconst (v := (-1)) X dX4_readSum_68 (by decide) ?_
    refine aw_icmp_eq (tgt := 80) X dX4_readSum_69 (by decide) (fun c9 => ?_) (fun c9 => ?_)
    · rw [if_pos c9] at h
      refine aw_msk [true, false, true, true] ?_
      exact jo_X4_readSum_80 hfr Z X _ _ _ _ h hi he
    · rw [if_neg c9] at h
      refine aw_aload_n X dX4_readSum_72 rfl ?_
      refine aw_getr X dX4_readSum_73 fl_RX4_31 iu_RX4 gu_RX4_4 ?_
      refine aw_iload_n X dX4_readSum_76 rfl ?_
      obtain ⟨r12, er12, h⟩ := bnd h
      refine aw_callV X dX4_readSum_77 cv_RX4_156 (ok_X1_emit iu_RX4_4 er12 _ _ _ _ _) iu_RX4_4 rfl (Nat.le_trans (by decide) hfr) (by decide) rfl rfl (Nat.le_of_ble_eq_true rfl) ?_
      refine aw_msk [true, false, true, true] ?_
      exact jo_X4_readSum_80 hfr Z X _ _ _ _ h hi he
set_option maxRecDepth 100000 in
set_option maxHeartbeats 4000000 in
theorem jo_X4_readSum_26 {fr : Nat} (hfr : 2 ≤ fr) (Z : AZ) (X : AX Z cX4_readSum 4 RX4 (some .boolean) 0 fr) (x1 : Int32) (x2 : Int32) (x3 : Int32) (t1 : Int32) (s : Mem) (q : (Int32 × Int32 × Int32 × Mem) ⊕ (Nat × Mem)) (h : jn_X4_readSum_26 x1 x2 x3 t1 s = some q) (hi : ∀ y : Int32 × Int32 × Int32 × Mem, q = .inl y → AW Z y.2.2.2 6 [some (.ref (zr Z 172)), some (.int y.1), some (.int y.2.1), some (.int y.2.2.1)] []) (he : ∀ b : Nat × Mem, q = .inr b → (b.1 = 0 → AW Z b.2 32 [none, none, none, none] []) ∧ (b.1 = 1 → AW Z b.2 100 [none, none, none, none] []) ∧ (b.1 = 2 → AW Z b.2 115 [some (.ref (zr Z 172)), none, none, none] [])) : AW Z s 26 [some (.ref (zr Z 172)), some (.int x1), some (.int x2), some (.int x3)] [.int t1, .ref (zr Z 172)] := by
  unfold jn_X4_readSum_26 at h
  obtain ⟨r3, er3, h⟩ := bnd h
  refine aw_callV X dX4_readSum_26 cv_RX4_166 (ok_X4_readUnit er3 _ _ _ _ _) iu_RX4 rfl (Nat.le_trans (by decide) hfr) (by decide) rfl rfl (Nat.le_of_ble_eq_true rfl) ?_
  refine aw_if_ne (tgt := 34) X dX4_readSum_29 (by decide) (fun c4 => ?_) (fun c4 => ?_)
  · rw [if_neg c4] at h
    refine aw_iload_n X dX4_readSum_34 rfl ?_
    refine aw_iconst (v := (-1)) X dX4_readSum_35 (by decide) ?_
    refine aw_icmp_eq (tgt := 47) X dX4_readSum_36 (by decide) (fun c5 => ?_) (fun c5 => ?_)
    · rw [if_pos c5] at h
      refine aw_msk [true, true, false, true] ?_
      exact jo_X4_readSum_47 hfr Z X _ _ _ _ h hi he
    · rw [if_neg c5] at h
      refine aw_aload_n X dX4_readSum_39 rfl ?_
      refine aw_getr X dX4_readSum_40 fl_RX4_31 iu_RX4 gu_RX4_4 ?_
      refine aw_iload_n X dX4_readSum_43 rfl ?_
      obtain ⟨r13, er13, h⟩ := bnd h
      refine aw_callV X dX4_readSum_44 cv_RX4_156 (ok_X1_emit iu_RX4_4 er13 _ _ _ _ _) iu_RX4_4 rfl (Nat.le_trans (by decide) hfr) (by decide) rfl rfl (Nat.le_of_ble_eq_true rfl) ?_
      refine aw_msk [true, true, false, true] ?_
      exact jo_X4_readSum_47 hfr Z X _ _ _ _ h hi he
  · rw [if_pos c4] at h
    cases h
    refine aw_msk [false, false, false, false] ?_
    exact (he _ rfl).1 rfl
set_option maxRecDepth 100000 in
set_option maxHeartbeats 4000000 in
theorem so_X4_readSum_6 {fr : Nat} (hfr : 2 ≤ fr) (Z : AZ) (X : AX Z cX4_readSum 4 RX4 (some .boolean) 0 fr) (x1 : Int32) (x2 : Int32) (x3 : Int32) (s : Mem) (q : (Int32 × Int32 × Int32 × Mem) ⊕ (Nat × Mem)) (h : st_X4_readSum_6 x1 x2 x3 s = some q) (hi : ∀ y : Int32 × Int32 × Int32 × Mem, q = .inl y → AW Z y.2.2.2 6 [some (.ref (zr Z 172)), some (.int y.1), some (.int y.2.1), some (.int y.2.2.1)] []) (he : ∀ b : Nat × Mem, q = .inr b → (b.1 = 0 → AW Z b.2 32 [none, none, none, none] []) ∧ (b.1 = 1 → AW Z b.2 100 [none, none, none, none] []) ∧ (b.1 = 2 → AW Z b.2 115 [some (.ref (zr Z 172)), none, none, none] [])) : AW Z s 6 [some (.ref (zr Z 172)), some (.int x1), some (.int x2), some (.int x3)] [] := by
  unfold st_X4_readSum_6 at h
  refine aw_iload_n X dX4_readSum_6 rfl ?_
  refine aw_sipush (v := 400) X dX4_readSum_7 (by decide) ?_
  refine aw_icmp_ge (tgt := 115) X dX4_readSum_10 (by decide) (fun c1 => ?_) (fun c1 => ?_)
  · rw [if_pos c1] at h
    cases h
    refine aw_msk [true, false, false, false] ?_
    exact (he _ rfl).2.2 rfl
  · rw [if_neg c1] at h
    refine aw_aload_n X dX4_readSum_13 rfl ?_
    refine aw_iload_n X dX4_readSum_14 rfl ?_
    refine aw_sipush (v := 20003) X dX4_readSum_15 (by decide) ?_
    refine aw_icmp_ne (tgt := 25) X dX4_readSum_18 (by decide) (fun c2 => ?_) (fun c2 => ?_)
    · rw [if_neg c2] at h
      refine aw_iconst (v := 0) X dX4_readSum_25 (by decide) ?_
      refine aw_msk [true, true, true, true] ?_
      exact jo_X4_readSum_26 hfr Z X _ _ _ _ _ _ h hi he
    · rw [if_pos c2] at h
      refine aw_iconst (v := 1) X dX4_readSum_21 (by decide) ?_
      refine aw_goto (tgt := 26) X dX4_readSum_22 (by decide) ?_
      refine aw_msk [true, true, true, true] ?_
      exact jo_X4_readSum_26 hfr Z X _ _ _ _ _ _ h hi he
set_option maxRecDepth 100000 in
set_option maxHeartbeats 4000000 in
theorem w_X4_readSum {fr : Nat} (hfr : 2 ≤ fr) (Z : AZ) (X : AX Z cX4_readSum 4 RX4 (some .boolean) 0 fr) (s : Mem) (r : Int32 × Mem) (hz : zres Z = (some (.int r.1), r.2)) (h : f_X4_readSum s = some r) : AW Z s 0 [some (.ref (zr Z 172)), none, none, none] [] := by
  unfold f_X4_readSum at h
  refine aw_iconst (v := (-1)) X dX4_readSum_0 (by decide) ?_
  refine aw_istore_n (L' := [some (.ref (zr Z 172)), some (.int (-1)), none, none]) X dX4_readSum_1 (by decide) rfl ?_
  refine aw_iconst (v := (-1)) X dX4_readSum_2 (by decide) ?_
  refine aw_istore_n (L' := [some (.ref (zr Z 172)), some (.int (-1)), some (.int (-1)), none]) X dX4_readSum_3 (by decide) rfl ?_
  refine aw_iconst (v := 0) X dX4_readSum_4 (by decide) ?_
  refine aw_istore_n (L' := [some (.ref (zr Z 172)), some (.int (-1)), some (.int (-1)), some (.int 0)]) X dX4_readSum_5 (by decide) rfl ?_
  obtain ⟨r14, er14, h⟩ := bnd h
  refine aw_msk [true, true, true, true] ?_
  refine it_ok (P := fun y : Int32 × Int32 × Int32 × Mem => AW Z y.2.2.2 6 [some (.ref (zr Z 172)), some (.int y.1), some (.int y.2.1), some (.int y.2.2.1)] []) (Q := fun b : Nat × Mem => (b.1 = 0 → AW Z b.2 32 [none, none, none, none] []) ∧ (b.1 = 1 → AW Z b.2 100 [none, none, none, none] []) ∧ (b.1 = 2 → AW Z b.2 115 [some (.ref (zr Z 172)), none, none, none] [])) (fun y q hq hi he => so_X4_readSum_6 hfr Z X y.1 y.2.1 y.2.2.1 y.2.2.2 q hq hi he) FUEL _ _ er14 ?_
  refine ⟨fun c0 => ?_, fun c1 => ?_, fun c2 => ?_⟩
  · rw [if_pos c0] at h
    refine aw_iconst (v := 0) X dX4_readSum_32 (by decide) ?_
    cases h
    exact aw_zret X dX4_readSum_33 rfl rfl hz.symm
  · rw [if_neg (by rw [c1]; decide)] at h
    rw [if_pos c1] at h
    refine aw_iconst (v := 1) X dX4_readSum_100 (by decide) ?_
    cases h
    exact aw_zret X dX4_readSum_101 rfl rfl hz.symm
  · rw [if_neg (by rw [c2]; decide)] at h
    rw [if_neg (by rw [c2]; decide)] at h
    refine aw_aload_n X dX4_readSum_115 rfl ?_
    refine aw_iconst (v := 1) X dX4_readSum_116 (by decide) ?_
    obtain ⟨r15, er15, h⟩ := bnd h
    refine aw_callV X dX4_readSum_117 cv_RX4_95 (ok_X4_fail er15 _ _ _ _ _) iu_RX4 rfl (Nat.le_trans (by decide) hfr) (by decide) rfl rfl (Nat.le_of_ble_eq_true rfl) ?_
    by_cases c16 : ¬ (r15.1 = 0 ∨ r15.1 = 1)
    · rw [if_pos c16] at h
      cases h
    rw [if_neg c16] at h
    cases h
    exact aw_zret X dX4_readSum_120 rfl (bz_n (Decidable.of_not_not c16)) hz.symm
set_option maxRecDepth 100000 in
set_option maxHeartbeats 4000000 in
theorem ok_X4_readSum {s : Mem} {r : Int32 × Mem} (h : f_X4_readSum s = some r) (l : Launch) (D : va_G) (ρ : Nat → Nat) (cA : ClassId × ClassId × ClassId) (τ : AT) : AM l D ρ cA 0 τ yX4_readSum cX4_readSum 4 (some .boolean) 2 [.ref (ρ 172)] (some (.int r.1)) s r.2 := by
  refine AM_of (L := [some (.ref (ρ 172)), none, none, none]) (by decide) (by simp [Value.category]) (Nat.le_of_ble_eq_true rfl) (fun j v q => ?_) (fun Z X hρ hz hτ => ?_)
  · exact aL_ok (n := 3) [.ref (ρ 172)] j v q
  · subst hρ
    subst hτ
    exact w_X4_readSum (Nat.le_refl _) Z X s r hz h

theorem dX6_isWord_0 : decode cX6_isWord 0 = .ok (.aload_n 0, 1) := by decide +kernel
theorem dX6_isWord_1 : decode cX6_isWord 1 = .ok (.getfield 15, 3) := by decide +kernel
theorem dX6_isWord_4 : decode cX6_isWord 4 = .ok (.iconst 1, 1) := by decide +kernel
theorem dX6_isWord_5 : decode cX6_isWord 5 = .ok (.if_icmp .ne 15, 3) := by decide +kernel
theorem dX6_isWord_8 : decode cX6_isWord 8 = .ok (.aload_n 0, 1) := by decide +kernel
theorem dX6_isWord_9 : decode cX6_isWord 9 = .ok (.getfield 18, 3) := by decide +kernel
theorem dX6_isWord_12 : decode cX6_isWord 12 = .ok (.iload_n 1, 1) := by decide +kernel
theorem dX6_isWord_13 : decode cX6_isWord 13 = .ok (.if_icmp .ne 7, 3) := by decide +kernel
theorem dX6_isWord_16 : decode cX6_isWord 16 = .ok (.iconst 1, 1) := by decide +kernel
theorem dX6_isWord_17 : decode cX6_isWord 17 = .ok (.goto 4, 3) := by decide +kernel
theorem dX6_isWord_20 : decode cX6_isWord 20 = .ok (.iconst 0, 1) := by decide +kernel
theorem dX6_isWord_21 : decode cX6_isWord 21 = .ok (.ireturn, 1) := by decide +kernel
set_option maxRecDepth 100000 in
set_option maxHeartbeats 4000000 in
theorem w_X6_isWord {fr : Nat} (hfr : 0 ≤ fr) (Z : AZ) (X : AX Z cX6_isWord 2 RX6 (some .boolean) 0 fr) (x1 : Int32) (s : Mem) (r : Int32 × Mem) (hz : zres Z = (some (.int r.1), r.2)) (h : f_X6_isWord x1 s = some r) : AW Z s 0 [some (.ref (zr Z 173)), some (.int x1)] [] := by
  unfold f_X6_isWord at h
  refine aw_aload_n X dX6_isWord_0 rfl ?_
  refine aw_geti X dX6_isWord_1 fl_RX6_15 iu_RX6 gu_RX6_1 ?_
  refine aw_iconst (v := 1) X dX6_isWord_4 (by decide) ?_
  refine aw_icmp_ne (tgt := 20) X dX6_isWord_5 (by decide) (fun c1 => ?_) (fun c1 => ?_)
  · rw [if_neg c1] at h
    refine aw_iconst (v := 0) X dX6_isWord_20 (by decide) ?_
    cases h
    exact aw_zret X dX6_isWord_21 rfl rfl hz.symm
  · rw [if_pos c1] at h
    refine aw_aload_n X dX6_isWord_8 rfl ?_
    refine aw_geti X dX6_isWord_9 fl_RX6_18 iu_RX6 gu_RX6_2 ?_
    refine aw_iload_n X dX6_isWord_12 rfl ?_
    refine aw_icmp_ne (tgt := 20) X dX6_isWord_13 (by decide) (fun c2 => ?_) (fun c2 => ?_)
    · rw [if_neg c2] at h
      refine aw_iconst (v := 0) X dX6_isWord_20 (by decide) ?_
      cases h
      exact aw_zret X dX6_isWord_21 rfl rfl hz.symm
    · rw [if_pos c2] at h
      refine aw_iconst (v := 1) X dX6_isWord_16 (by decide) ?_
      refine aw_goto (tgt := 21) X dX6_isWord_17 (by decide) ?_
      cases h
      exact aw_zret X dX6_isWord_21 rfl rfl hz.symm
set_option maxRecDepth 100000 in
set_option maxHeartbeats 4000000 in
theorem ok_X6_isWord {x1 : Int32} {s : Mem} {r : Int32 × Mem} (h : f_X6_isWord x1 s = some r) (l : Launch) (D : va_G) (ρ : Nat → Nat) (cA : ClassId × ClassId × ClassId) (τ : AT) : AM l D ρ cA 0 τ yX6_isWord cX6_isWord 2 (some .boolean) 0 [.ref (ρ 173), .int x1] (some (.int r.1)) s r.2 := by
  refine AM_of (L := [some (.ref (ρ 173)), some (.int x1)]) (by decide) (by simp [Value.category]) (Nat.le_of_ble_eq_true rfl) (fun j v q => ?_) (fun Z X hρ hz hτ => ?_)
  · exact aL_ok (n := 0) [.ref (ρ 173), .int x1] j v q
  · subst hρ
    subst hτ
    exact w_X6_isWord (Nat.le_refl _) Z X x1 s r hz h

theorem dX4_takeSign_0 : decode cX4_takeSign 0 = .ok (.aload_n 0, 1) := by decide +kernel
theorem dX4_takeSign_1 : decode cX4_takeSign 1 = .ok (.getfield 12, 3) := by decide +kernel
theorem dX4_takeSign_4 : decode cX4_takeSign 4 = .ok (.iload_n 1, 1) := by decide +kernel
theorem dX4_takeSign_5 : decode cX4_takeSign 5 = .ok (.invokevirtual 159, 3) := by decide +kernel
theorem dX4_takeSign_8 : decode cX4_takeSign 8 = .ok (.ifCond .ne 9, 3) := by decide +kernel
theorem dX4_takeSign_11 : decode cX4_takeSign 11 = .ok (.aload_n 0, 1) := by decide +kernel
theorem dX4_takeSign_12 : decode cX4_takeSign 12 = .ok (.iconst 1, 1) := by decide +kernel
theorem dX4_takeSign_13 : decode cX4_takeSign 13 = .ok (.invokevirtual 95, 3) := by decide +kernel
theorem dX4_takeSign_16 : decode cX4_takeSign 16 = .ok (.ireturn, 1) := by decide +kernel
theorem dX4_takeSign_17 : decode cX4_takeSign 17 = .ok (.aload_n 0, 1) := by decide +kernel
theorem dX4_takeSign_18 : decode cX4_takeSign 18 = .ok (.getfield 12, 3) := by decide +kernel
theorem dX4_takeSign_21 : decode cX4_takeSign 21 = .ok (.invokevirtual 98, 3) := by decide +kernel
theorem dX4_takeSign_24 : decode cX4_takeSign 24 = .ok (.iconst 1, 1) := by decide +kernel
theorem dX4_takeSign_25 : decode cX4_takeSign 25 = .ok (.ireturn, 1) := by decide +kernel
set_option maxRecDepth 100000 in
set_option maxHeartbeats 4000000 in
theorem w_X4_takeSign {fr : Nat} (hfr : 1 ≤ fr) (Z : AZ) (X : AX Z cX4_takeSign 2 RX4 (some .boolean) 0 fr) (x1 : Int32) (s : Mem) (r : Int32 × Mem) (hz : zres Z = (some (.int r.1), r.2)) (h : f_X4_takeSign x1 s = some r) : AW Z s 0 [some (.ref (zr Z 172)), some (.int x1)] [] := by
  unfold f_X4_takeSign at h
  refine aw_aload_n X dX4_takeSign_0 rfl ?_
  refine aw_getr X dX4_takeSign_1 fl_RX4_12 iu_RX4 gu_RX4_0 ?_
  refine aw_iload_n X dX4_takeSign_4 rfl ?_
  obtain ⟨r1, er1, h⟩ := bnd h
  refine aw_callV X dX4_takeSign_5 cv_RX4_159 (ok_X6_isSign er1 _ _ _ _ _) iu_RX4_0 rfl (Nat.le_trans (by decide) hfr) (by decide) rfl rfl (Nat.le_of_ble_eq_true rfl) ?_
  refine aw_if_ne (tgt := 17) X dX4_takeSign_8 (by decide) (fun c2 => ?_) (fun c2 => ?_)
  · rw [if_neg c2] at h
    refine aw_aload_n X dX4_takeSign_17 rfl ?_
    refine aw_getr X dX4_takeSign_18 fl_RX4_12 iu_RX4 gu_RX4_0 ?_
    obtain ⟨r3, er3, h⟩ := bnd h
    refine aw_callV X dX4_takeSign_21 cv_RX4_98 (ok_X6_advance er3 _ _ _ _ _) iu_RX4_0 rfl (Nat.le_trans (by decide) hfr) (by decide) rfl rfl (Nat.le_of_ble_eq_true rfl) ?_
    refine aw_iconst (v := 1) X dX4_takeSign_24 (by decide) ?_
    cases h
    exact aw_zret X dX4_takeSign_25 rfl rfl hz.symm
  · rw [if_pos c2] at h
    refine aw_aload_n X dX4_takeSign_11 rfl ?_
    refine aw_iconst (v := 1) X dX4_takeSign_12 (by decide) ?_
    obtain ⟨r4, er4, h⟩ := bnd h
    refine aw_callV X dX4_takeSign_13 cv_RX4_95 (ok_X4_fail er4 _ _ _ _ _) iu_RX4 rfl (Nat.le_trans (by decide) hfr) (by decide) rfl rfl (Nat.le_of_ble_eq_true rfl) ?_
    by_cases c5 : ¬ (r4.1 = 0 ∨ r4.1 = 1)
    · rw [if_pos c5] at h
      cases h
    rw [if_neg c5] at h
    cases h
    exact aw_zret X dX4_takeSign_16 rfl (bz_n (Decidable.of_not_not c5)) hz.symm
set_option maxRecDepth 100000 in
set_option maxHeartbeats 4000000 in
theorem ok_X4_takeSign {x1 : Int32} {s : Mem} {r : Int32 × Mem} (h : f_X4_takeSign x1 s = some r) (l : Launch) (D : va_G) (ρ : Nat → Nat) (cA : ClassId × ClassId × ClassId) (τ : AT) : AM l D ρ cA 0 τ yX4_takeSign cX4_takeSign 2 (some .boolean) 1 [.ref (ρ 172), .int x1] (some (.int r.1)) s r.2 := by
  refine AM_of (L := [some (.ref (ρ 172)), some (.int x1)]) (by decide) (by simp [Value.category]) (Nat.le_of_ble_eq_true rfl) (fun j v q => ?_) (fun Z X hρ hz hτ => ?_)
  · exact aL_ok (n := 0) [.ref (ρ 172), .int x1] j v q
  · subst hρ
    subst hτ
    exact w_X4_takeSign (Nat.le_refl _) Z X x1 s r hz h

theorem dX4_comparing_0 : decode cX4_comparing 0 = .ok (.aload_n 0, 1) := by decide +kernel
theorem dX4_comparing_1 : decode cX4_comparing 1 = .ok (.getfield 12, 3) := by decide +kernel
theorem dX4_comparing_4 : decode cX4_comparing 4 = .ok (.bipush 60, 2) := by decide +kernel
theorem dX4_comparing_6 : decode cX4_comparing 6 = .ok (.invokevirtual 159, 3) := by decide +kernel
theorem dX4_comparing_9 : decode cX4_comparing 9 = .ok (.ifCond .eq 7, 3) := by decide +kernel
theorem dX4_comparing_12 : decode cX4_comparing 12 = .ok (.sipush 20004, 3) := by decide +kernel
theorem dX4_comparing_15 : decode cX4_comparing 15 = .ok (.ireturn, 1) := by decide +kernel
theorem dX4_comparing_16 : decode cX4_comparing 16 = .ok (.aload_n 0, 1) := by decide +kernel
theorem dX4_comparing_17 : decode cX4_comparing 17 = .ok (.getfield 12, 3) := by decide +kernel
theorem dX4_comparing_20 : decode cX4_comparing 20 = .ok (.bipush 61, 2) := by decide +kernel
theorem dX4_comparing_22 : decode cX4_comparing 22 = .ok (.invokevirtual 159, 3) := by decide +kernel
theorem dX4_comparing_25 : decode cX4_comparing 25 = .ok (.ifCond .eq 7, 3) := by decide +kernel
theorem dX4_comparing_28 : decode cX4_comparing 28 = .ok (.sipush 20005, 3) := by decide +kernel
theorem dX4_comparing_31 : decode cX4_comparing 31 = .ok (.ireturn, 1) := by decide +kernel
theorem dX4_comparing_32 : decode cX4_comparing 32 = .ok (.aload_n 0, 1) := by decide +kernel
theorem dX4_comparing_33 : decode cX4_comparing 33 = .ok (.getfield 12, 3) := by decide +kernel
theorem dX4_comparing_36 : decode cX4_comparing 36 = .ok (.bipush 62, 2) := by decide +kernel
theorem dX4_comparing_38 : decode cX4_comparing 38 = .ok (.invokevirtual 159, 3) := by decide +kernel
theorem dX4_comparing_41 : decode cX4_comparing 41 = .ok (.ifCond .eq 9, 3) := by decide +kernel
theorem dX4_comparing_44 : decode cX4_comparing 44 = .ok (.sipush 20006, 3) := by decide +kernel
theorem dX4_comparing_47 : decode cX4_comparing 47 = .ok (.goto 4, 3) := by decide +kernel
theorem dX4_comparing_50 : decode cX4_comparing 50 = .ok (.iconst (-1), 1) := by decide +kernel
theorem dX4_comparing_51 : decode cX4_comparing 51 = .ok (.ireturn, 1) := by decide +kernel
set_option maxRecDepth 100000 in
set_option maxHeartbeats 4000000 in
theorem w_X4_comparing {fr : Nat} (hfr : 1 ≤ fr) (Z : AZ) (X : AX Z cX4_comparing 1 RX4 (some .int) 0 fr) (s : Mem) (r : Int32 × Mem) (hz : zres Z = (some (.int r.1), r.2)) (h : f_X4_comparing s = some r) : AW Z s 0 [some (.ref (zr Z 172))] [] := by
  unfold f_X4_comparing at h
  refine aw_aload_n X dX4_comparing_0 rfl ?_
  refine aw_getr X dX4_comparing_1 fl_RX4_12 iu_RX4 gu_RX4_0 ?_
  refine aw_bipush (v := 60) X dX4_comparing_4 (by decide) ?_
  obtain ⟨r1, er1, h⟩ := bnd h
  refine aw_callV X dX4_comparing_6 cv_RX4_159 (ok_X6_isSign er1 _ _ _ _ _) iu_RX4_0 rfl (Nat.le_trans (by decide) hfr) (by decide) rfl rfl (Nat.le_of_ble_eq_true rfl) ?_
  refine aw_if_eq (tgt := 16) X dX4_comparing_9 (by decide) (fun c2 => ?_) (fun c2 => ?_)
  · rw [if_pos c2] at h
    refine aw_aload_n X dX4_comparing_16 rfl ?_
    refine aw_getr X dX4_comparing_17 fl_RX4_12 iu_RX4 gu_RX4_0 ?_
    refine aw_bipush (v := 61) X dX4_comparing_20 (by decide) ?_
    obtain ⟨r3, er3, h⟩ := bnd h
    refine aw_callV X dX4_comparing_22 cv_RX4_159 (ok_X6_isSign er3 _ _ _ _ _) iu_RX4_0 rfl (Nat.le_trans (by decide) hfr) (by decide) rfl rfl (Nat.le_of_ble_eq_true rfl) ?_
    refine aw_if_eq (tgt := 32) X dX4_comparing_25 (by decide) (fun c4 => ?_) (fun c4 => ?_)
    · rw [if_pos c4] at h
      refine aw_aload_n X dX4_comparing_32 rfl ?_
      refine aw_getr X dX4_comparing_33 fl_RX4_12 iu_RX4 gu_RX4_0 ?_
      refine aw_bipush (v := 62) X dX4_comparing_36 (by decide) ?_
      obtain ⟨r5, er5, h⟩ := bnd h
      refine aw_callV X dX4_comparing_38 cv_RX4_159 (ok_X6_isSign er5 _ _ _ _ _) iu_RX4_0 rfl (Nat.le_trans (by decide) hfr) (by decide) rfl rfl (Nat.le_of_ble_eq_true rfl) ?_
      refine aw_if_eq (tgt := 50) X dX4_comparing_41 (by decide) (fun c6 => ?_) (fun c6 => ?_)
      · rw [if_pos c6] at h
        refine aw_iconst (v := (-1)) X dX4_comparing_50 (by decide) ?_
        cases h
        exact aw_iret X dX4_comparing_51 rfl hz.symm
      · rw [if_neg c6] at h
        refine aw_sipush (v := 20006) X dX4_comparing_44 (by decide) ?_
        refine aw_goto (tgt := 51) X dX4_comparing_47 (by decide) ?_
        cases h
        exact aw_iret X dX4_comparing_51 rfl hz.symm
    · rw [if_neg c4] at h
      refine aw_sipush (v := 20005) X dX4_comparing_28 (by decide) ?_
      cases h
      exact aw_iret X dX4_comparing_31 rfl hz.symm
  · rw [if_neg c2] at h
    refine aw_sipush (v := 20004) X dX4_comparing_12 (by decide) ?_
    cases h
    exact aw_iret X dX4_comparing_15 rfl hz.symm
set_option maxRecDepth 100000 in
set_option maxHeartbeats 4000000 in
theorem ok_X4_comparing {s : Mem} {r : Int32 × Mem} (h : f_X4_comparing s = some r) (l : Launch) (D : va_G) (ρ : Nat → Nat) (cA : ClassId × ClassId × ClassId) (τ : AT) : AM l D ρ cA 0 τ yX4_comparing cX4_comparing 1 (some .int) 1 [.ref (ρ 172)] (some (.int r.1)) s r.2 := by
  refine AM_of (L := [some (.ref (ρ 172))]) (by decide) (by simp [Value.category]) (Nat.le_of_ble_eq_true rfl) (fun j v q => ?_) (fun Z X hρ hz hτ => ?_)
  · exact aL_ok (n := 0) [.ref (ρ 172)] j v q
  · subst hρ
    subst hτ
    exact w_X4_comparing (Nat.le_refl _) Z X s r hz h

theorem dX4_readEither_0 : decode cX4_readEither 0 = .ok (.iconst 0, 1) := by decide +kernel
theorem dX4_readEither_1 : decode cX4_readEither 1 = .ok (.istore_n 2, 1) := by decide +kernel
theorem dX4_readEither_2 : decode cX4_readEither 2 = .ok (.iconst 0, 1) := by decide +kernel
theorem dX4_readEither_3 : decode cX4_readEither 3 = .ok (.istore_n 3, 1) := by decide +kernel
theorem dX4_readEither_4 : decode cX4_readEither 4 = .ok (.iconst 0, 1) := by decide +kernel
theorem dX4_readEither_5 : decode cX4_readEither 5 = .ok (.istore 4, 2) := by decide +kernel
theorem dX4_readEither_7 : decode cX4_readEither 7 = .ok (.iload 4, 2) := by decide +kernel
theorem dX4_readEither_9 : decode cX4_readEither 9 = .ok (.sipush 400, 3) := by decide +kernel
theorem dX4_readEither_12 : decode cX4_readEither 12 = .ok (.if_icmp .ge 84, 3) := by decide +kernel
theorem dX4_readEither_15 : decode cX4_readEither 15 = .ok (.aload_n 0, 1) := by decide +kernel
theorem dX4_readEither_16 : decode cX4_readEither 16 = .ok (.iload_n 1, 1) := by decide +kernel
theorem dX4_readEither_17 : decode cX4_readEither 17 = .ok (.invokevirtual 153, 3) := by decide +kernel
theorem dX4_readEither_20 : decode cX4_readEither 20 = .ok (.ifCond .ne 5, 3) := by decide +kernel
theorem dX4_readEither_23 : decode cX4_readEither 23 = .ok (.iconst 0, 1) := by decide +kernel
theorem dX4_readEither_24 : decode cX4_readEither 24 = .ok (.ireturn, 1) := by decide +kernel
theorem dX4_readEither_25 : decode cX4_readEither 25 = .ok (.iload_n 3, 1) := by decide +kernel
theorem dX4_readEither_26 : decode cX4_readEither 26 = .ok (.ifCond .eq 13, 3) := by decide +kernel
theorem dX4_readEither_29 : decode cX4_readEither 29 = .ok (.aload_n 0, 1) := by decide +kernel
theorem dX4_readEither_30 : decode cX4_readEither 30 = .ok (.getfield 31, 3) := by decide +kernel
theorem dX4_readEither_33 : decode cX4_readEither 33 = .ok (.sipush 20007, 3) := by decide +kernel
theorem dX4_readEither_36 : decode cX4_readEither 36 = .ok (.invokevirtual 156, 3) := by decide +kernel
theorem dX4_readEither_39 : decode cX4_readEither 39 = .ok (.aload_n 0, 1) := by decide +kernel
theorem dX4_readEither_40 : decode cX4_readEither 40 = .ok (.getfield 12, 3) := by decide +kernel
theorem dX4_readEither_43 : decode cX4_readEither 43 = .ok (.bipush 13, 2) := by decide +kernel
theorem dX4_readEither_45 : decode cX4_readEither 45 = .ok (.invokevirtual 77, 3) := by decide +kernel
theorem dX4_readEither_48 : decode cX4_readEither 48 = .ok (.istore_n 3, 1) := by decide +kernel
theorem dX4_readEither_49 : decode cX4_readEither 49 = .ok (.iload_n 3, 1) := by decide +kernel
theorem dX4_readEither_50 : decode cX4_readEither 50 = .ok (.ifCond .ne 33, 3) := by decide +kernel
theorem dX4_readEither_53 : decode cX4_readEither 53 = .ok (.iload_n 2, 1) := by decide +kernel
theorem dX4_readEither_54 : decode cX4_readEither 54 = .ok (.ifCond .eq 13, 3) := by decide +kernel
theorem dX4_readEither_57 : decode cX4_readEither 57 = .ok (.aload_n 0, 1) := by decide +kernel
theorem dX4_readEither_58 : decode cX4_readEither 58 = .ok (.getfield 31, 3) := by decide +kernel
theorem dX4_readEither_61 : decode cX4_readEither 61 = .ok (.sipush 20008, 3) := by decide +kernel
theorem dX4_readEither_64 : decode cX4_readEither 64 = .ok (.invokevirtual 156, 3) := by decide +kernel
theorem dX4_readEither_67 : decode cX4_readEither 67 = .ok (.aload_n 0, 1) := by decide +kernel
theorem dX4_readEither_68 : decode cX4_readEither 68 = .ok (.getfield 12, 3) := by decide +kernel
theorem dX4_readEither_71 : decode cX4_readEither 71 = .ok (.bipush 12, 2) := by decide +kernel
theorem dX4_readEither_73 : decode cX4_readEither 73 = .ok (.invokevirtual 77, 3) := by decide +kernel
theorem dX4_readEither_76 : decode cX4_readEither 76 = .ok (.istore_n 2, 1) := by decide +kernel
theorem dX4_readEither_77 : decode cX4_readEither 77 = .ok (.iload_n 2, 1) := by decide +kernel
theorem dX4_readEither_78 : decode cX4_readEither 78 = .ok (.ifCond .ne 5, 3) := by decide +kernel
theorem dX4_readEither_81 : decode cX4_readEither 81 = .ok (.iconst 1, 1) := by decide +kernel
theorem dX4_readEither_82 : decode cX4_readEither 82 = .ok (.ireturn, 1) := by decide +kernel
theorem dX4_readEither_83 : decode cX4_readEither 83 = .ok (.aload_n 0, 1) := by decide +kernel
theorem dX4_readEither_84 : decode cX4_readEither 84 = .ok (.getfield 12, 3) := by decide +kernel
theorem dX4_readEither_87 : decode cX4_readEither 87 = .ok (.invokevirtual 98, 3) := by decide +kernel
theorem dX4_readEither_90 : decode cX4_readEither 90 = .ok (.iinc 4 1, 3) := by decide +kernel
theorem dX4_readEither_93 : decode cX4_readEither 93 = .ok (.goto (-86), 3) := by decide +kernel
theorem dX4_readEither_96 : decode cX4_readEither 96 = .ok (.aload_n 0, 1) := by decide +kernel
theorem dX4_readEither_97 : decode cX4_readEither 97 = .ok (.iconst 1, 1) := by decide +kernel
theorem dX4_readEither_98 : decode cX4_readEither 98 = .ok (.invokevirtual 95, 3) := by decide +kernel
theorem dX4_readEither_101 : decode cX4_readEither 101 = .ok (.ireturn, 1) := by decide +kernel
set_option maxRecDepth 100000 in
set_option maxHeartbeats 4000000 in
theorem jo_X4_readEither_83 {fr F : Nat} (hfr : (F + 4) ≤ fr) (Z : AZ) (X : AX Z cX4_readEither 5 RX4 (some .boolean) 0 fr) (cl : Int32 → Mem → Option (Int32 × Mem)) (hF : 20 ≤ F) (hcl : ∀ {x : Int32} {s : Mem} {r : Int32 × Mem}, cl x s = some r → ∀ (l : Launch) (D : va_G) (ρ : Nat → Nat) (cA : ClassId × ClassId × ClassId) (τ : AT), AM l D ρ cA 0 τ yX4_readClaim cX4_readClaim 4 (some .boolean) (F) [.ref (ρ 172), .int x] (some (.int r.1)) s r.2) (x1 : Int32) (x2 : Int32) (x3 : Int32) (x4 : Int32) (s : Mem) (q : (Int32 × Int32 × Int32 × Mem) ⊕ (Nat × Mem)) (h : jn_X4_readEither_83 cl x1 x2 x3 x4 s = some q) (hi : ∀ y : Int32 × Int32 × Int32 × Mem, q = .inl y → AW Z y.2.2.2 7 [some (.ref (zr Z 172)), some (.int x1), some (.int y.1), some (.int y.2.1), some (.int y.2.2.1)] []) (he : ∀ b : Nat × Mem, q = .inr b → (b.1 = 0 → AW Z b.2 23 [none, none, none, none, none] []) ∧ (b.1 = 1 → AW Z b.2 81 [none, none, none, none, none] []) ∧ (b.1 = 2 → AW Z b.2 96 [some (.ref (zr Z 172)), none, none, none, none] [])) : AW Z s 83 [some (.ref (zr Z 172)), some (.int x1), some (.int x2), some (.int x3), some (.int x4)] [] := by
  unfold jn_X4_readEither_83 at h
  refine aw_aload_n X dX4_readEither_83 rfl ?_
  refine aw_getr X dX4_readEither_84 fl_RX4_12 iu_RX4 gu_RX4_0 ?_
  obtain ⟨r7, er7, h⟩ := bnd h
  refine aw_callV X dX4_readEither_87 cv_RX4_98 (ok_X6_advance er7 _ _ _ _ _) iu_RX4_0 rfl (by omega) (by decide) rfl rfl (Nat.le_of_ble_eq_true rfl) ?_
  refine aw_iinc (v := (x4 + 1)) (L' := [some (.ref (zr Z 172)), some (.int x1), some (.int x2), some (.int x3), some (.int (x4 + 1))]) X dX4_readEither_90 rfl rfl (by decide) rfl ?_
  refine aw_goto (tgt := 7) X dX4_readEither_93 (by decide) ?_
  cases h
  refine aw_msk [true, true, true, true, true] ?_
  exact hi _ rfl
set_option maxRecDepth 100000 in
set_option maxHeartbeats 4000000 in
theorem jo_X4_readEither_67 {fr F : Nat} (hfr : (F + 4) ≤ fr) (Z : AZ) (X : AX Z cX4_readEither 5 RX4 (some .boolean) 0 fr) (cl : Int32 → Mem → Option (Int32 × Mem)) (hF : 20 ≤ F) (hcl : ∀ {x : Int32} {s : Mem} {r : Int32 × Mem}, cl x s = some r → ∀ (l : Launch) (D : va_G) (ρ : Nat → Nat) (cA : ClassId × ClassId × ClassId) (τ : AT), AM l D ρ cA 0 τ yX4_readClaim cX4_readClaim 4 (some .boolean) (F) [.ref (ρ 172), .int x] (some (.int r.1)) s r.2) (x1 : Int32) (x3 : Int32) (x4 : Int32) (s : Mem) (q : (Int32 × Int32 × Int32 × Mem) ⊕ (Nat × Mem)) (h : jn_X4_readEither_67 cl x1 x3 x4 s = some q) (hi : ∀ y : Int32 × Int32 × Int32 × Mem, q = .inl y → AW Z y.2.2.2 7 [some (.ref (zr Z 172)), some (.int x1), some (.int y.1), some (.int y.2.1), some (.int y.2.2.1)] []) (he : ∀ b : Nat × Mem, q = .inr b → (b.1 = 0 → AW Z b.2 23 [none, none, none, none, none] []) ∧ (b.1 = 1 → AW Z b.2 81 [none, none, none, none, none] []) ∧ (b.1 = 2 → AW Z b.2 96 [some (.ref (zr Z 172)), none, none, none, none] [])) : AW Z s 67 [some (.ref (zr Z 172)), some (.int x1), none, some (.int x3), some (.int x4)] [] := by
  unfold jn_X4_readEither_67 at h
  refine aw_aload_n X dX4_readEither_67 rfl ?_
  refine aw_getr X dX4_readEither_68 fl_RX4_12 iu_RX4 gu_RX4_0 ?_
  refine aw_bipush (v := 12) X dX4_readEither_71 (by decide) ?_
  obtain ⟨r9, er9, h⟩ := bnd h
  refine aw_callV X dX4_readEither_73 cv_RX4_77 (ok_X6_isWord er9 _ _ _ _ _) iu_RX4_0 rfl (by omega) (by decide) rfl rfl (Nat.le_of_ble_eq_true rfl) ?_
  refine aw_istore_n (L' := [some (.ref (zr Z 172)), some (.int x1), some (.int r9.1), some (.int x3), some (.int x4)]) X dX4_readEither_76 (by decide) rfl ?_
  refine aw_iload_n X dX4_readEither_77 rfl ?_
  refine aw_if_ne (tgt := 83) X dX4_readEither_78 (by decide) (fun c10 => ?_) (fun c10 => ?_)
  · rw [if_neg c10] at h
    refine aw_msk [true, true, true, true, true] ?_
    exact jo_X4_readEither_83 hfr Z X cl hF hcl _ _ _ _ _ _ h hi he
  · rw [if_pos c10] at h
    cases h
    refine aw_msk [false, false, false, false, false] ?_
    exact (he _ rfl).2.1 rfl
set_option maxRecDepth 100000 in
set_option maxHeartbeats 4000000 in
theorem jo_X4_readEither_39 {fr F : Nat} (hfr : (F + 4) ≤ fr) (Z : AZ) (X : AX Z cX4_readEither 5 RX4 (some .boolean) 0 fr) (cl : Int32 → Mem → Option (Int32 × Mem)) (hF : 20 ≤ F) (hcl : ∀ {x : Int32} {s : Mem} {r : Int32 × Mem}, cl x s = some r → ∀ (l : Launch) (D : va_G) (ρ : Nat → Nat) (cA : ClassId × ClassId × ClassId) (τ : AT), AM l D ρ cA 0 τ yX4_readClaim cX4_readClaim 4 (some .boolean) (F) [.ref (ρ 172), .int x] (some (.int r.1)) s r.2) (x1 : Int32) (x2 : Int32) (x4 : Int32) (s : Mem) (q : (Int32 × Int32 × Int32 × Mem) ⊕ (Nat × Mem)) (h : jn_X4_readEither_39 cl x1 x2 x4 s = some q) (hi : ∀ y : Int32 × Int32 × Int32 × Mem, q = .inl y → AW Z y.2.2.2 7 [some (.ref (zr Z 172)), some (.int x1), some (.int y.1), some (.int y.2.1), some (.int y.2.2.1)] []) (he : ∀ b : Nat × Mem, q = .inr b → (b.1 = 0 → AW Z b.2 23 [none, none, none, none, none] []) ∧ (b.1 = 1 → AW Z b.2 81 [none, none, none, none, none] []) ∧ (b.1 = 2 → AW Z b.2 96 [some (.ref (zr Z 172)), none, none, none, none] [])) : AW Z s 39 [some (.ref (zr Z 172)), some (.int x1), some (.int x2), none, some (.int x4)] [] := by
  unfold jn_X4_readEither_39 at h
  refine aw_aload_n X dX4_readEither_39 rfl ?_
  refine aw_getr X dX4_readEither_40 fl_RX4_12 iu_RX4 gu_RX4_0 ?_
  refine aw_bipush (v := 13) X dX4_readEither_43 (by decide) ?_
  obtain ⟨r5, er5, h⟩ := bnd h
  refine aw_callV X dX4_readEither_45 cv_RX4_77 (ok_X6_isWord er5 _ _ _ _ _) iu_RX4_0 rfl (by omega) (by decide) rfl rfl (Nat.le_of_ble_eq_true rfl) ?_
  refine aw_istore_n (L' := [some (.ref (zr Z 172)), some (.int x1), some (.int x2), some (.int r5.1), some (.int x4)]) X dX4_readEither_48 (by decide) rfl ?_
  refine aw_iload_n X dX4_readEither_49 rfl ?_
  refine aw_if_ne (tgt := 83) X dX4_readEither_50 (by decide) (fun c6 => ?_) (fun c6 => ?_)
  · rw [if_neg c6] at h
    refine aw_msk [true, true, true, true, true] ?_
    exact jo_X4_readEither_83 hfr Z X cl hF hcl _ _ _ _ _ _ h hi he
  · rw [if_pos c6] at h
    refine aw_iload_n X dX4_readEither_53 rfl ?_
    refine aw_if_eq (tgt := 67) X dX4_readEither_54 (by decide) (fun c8 => ?_) (fun c8 => ?_)
    · rw [if_pos c8] at h
      refine aw_msk [true, true, false, true, true] ?_
      exact jo_X4_readEither_67 hfr Z X cl hF hcl _ _ _ _ _ h hi he
    · rw [if_neg c8] at h
      refine aw_aload_n X dX4_readEither_57 rfl ?_
      refine aw_getr X dX4_readEither_58 fl_RX4_31 iu_RX4 gu_RX4_4 ?_
      refine aw_sipush (v := 20008) X dX4_readEither_61 (by decide) ?_
      obtain ⟨r11, er11, h⟩ := bnd h
      refine aw_callV X dX4_readEither_64 cv_RX4_156 (ok_X1_emit iu_RX4_4 er11 _ _ _ _ _) iu_RX4_4 rfl (by omega) (by decide) rfl rfl (Nat.le_of_ble_eq_true rfl) ?_
      refine aw_msk [true, true, false, true, true] ?_
      exact jo_X4_readEither_67 hfr Z X cl hF hcl _ _ _ _ _ h hi he
set_option maxRecDepth 100000 in
set_option maxHeartbeats 4000000 in
theorem so_X4_readEither_7 {fr F : Nat} (hfr : (F + 4) ≤ fr) (Z : AZ) (X : AX Z cX4_readEither 5 RX4 (some .boolean) 0 fr) (cl : Int32 → Mem → Option (Int32 × Mem)) (hF : 20 ≤ F) (hcl : ∀ {x : Int32} {s : Mem} {r : Int32 × Mem}, cl x s = some r → ∀ (l : Launch) (D : va_G) (ρ : Nat → Nat) (cA : ClassId × ClassId × ClassId) (τ : AT), AM l D ρ cA 0 τ yX4_readClaim cX4_readClaim 4 (some .boolean) (F) [.ref (ρ 172), .int x] (some (.int r.1)) s r.2) (x1 : Int32) (x2 : Int32) (x3 : Int32) (x4 : Int32) (s : Mem) (q : (Int32 × Int32 × Int32 × Mem) ⊕ (Nat × Mem)) (h : st_X4_readEither_7 cl x1 x2 x3 x4 s = some q) (hi : ∀ y : Int32 × Int32 × Int32 × Mem, q = .inl y → AW Z y.2.2.2 7 [some (.ref (zr Z 172)), some (.int x1), some (.int y.1), some (.int y.2.1), some (.int y.2.2.1)] []) (he : ∀ b : Nat × Mem, q = .inr b → (b.1 = 0 → AW Z b.2 23 [none, none, none, none, none] []) ∧ (b.1 = 1 → AW Z b.2 81 [none, none, none, none, none] []) ∧ (b.1 = 2 → AW Z b.2 96 [some (.ref (zr Z 172)), none, none, none, none] [])) : AW Z s 7 [some (.ref (zr Z 172)), some (.int x1), some (.int x2), some (.int x3), some (.int x4)] [] := by
  unfold st_X4_readEither_7 at h
  refine aw_iload X dX4_readEither_7 rfl ?_
  refine aw_sipush (v := 400) X dX4_readEither_9 (by decide) ?_
  refine aw_icmp_ge (tgt := 96) X dX4_readEither_12 (by decide) (fun c1 => ?_) (fun c1 => ?_)
  · rw [if_pos c1] at h
    cases h
    refine aw_msk [true, false, false, false, false] ?_
    exact (he _ rfl).2.2 rfl
  · rw [if_neg c1] at h
    refine aw_aload_n X dX4_readEither_15 rfl ?_
    refine aw_iload_n X dX4_readEither_16 rfl ?_
    obtain ⟨r2, er2, h⟩ := bnd h
    refine aw_callV X dX4_readEither_17 cv_RX4_153 (hcl er2 _ _ _ _ _) iu_RX4 rfl (by omega) (by decide) rfl rfl (Nat.le_of_ble_eq_true rfl) ?_
    refine aw_if_ne (tgt := 25) X dX4_readEither_20 (by decide) (fun c3 => ?_) (fun c3 => ?_)
    · rw [if_neg c3] at h
      refine aw_iload_n X dX4_readEither_25 rfl ?_
      refine aw_if_eq (tgt := 39) X dX4_readEither_26 (by decide) (fun c4 => ?_) (fun c4 => ?_)
      · rw [if_pos c4] at h
        refine aw_msk [true, true, true, false, true] ?_
        exact jo_X4_readEither_39 hfr Z X cl hF hcl _ _ _ _ _ h hi he
      · rw [if_neg c4] at h
        refine aw_aload_n X dX4_readEither_29 rfl ?_
        refine aw_getr X dX4_readEither_30 fl_RX4_31 iu_RX4 gu_RX4_4 ?_
        refine aw_sipush (v := 20007) X dX4_readEither_33 (by decide) ?_
        obtain ⟨r12, er12, h⟩ := bnd h
        refine aw_callV X dX4_readEither_36 cv_RX4_156 (ok_X1_emit iu_RX4_4 er12 _ _ _ _ _) iu_RX4_4 rfl (by omega) (by decide) rfl rfl (Nat.le_of_ble_eq_true rfl) ?_
        refine aw_msk [true, true, true, false, true] ?_
        exact jo_X4_readEither_39 hfr Z X cl hF hcl _ _ _ _ _ h hi he
    · rw [if_pos c3] at h
      cases h
      refine aw_msk [false, false, false, false, false] ?_
      exact (he _ rfl).1 rfl
set_option maxRecDepth 100000 in
set_option maxHeartbeats 4000000 in
theorem w_X4_readEither {fr F : Nat} (hfr : (F + 4) ≤ fr) (Z : AZ) (X : AX Z cX4_readEither 5 RX4 (some .boolean) 0 fr) (cl : Int32 → Mem → Option (Int32 × Mem)) (hF : 20 ≤ F) (hcl : ∀ {x : Int32} {s : Mem} {r : Int32 × Mem}, cl x s = some r → ∀ (l : Launch) (D : va_G) (ρ : Nat → Nat) (cA : ClassId × ClassId × ClassId) (τ : AT), AM l D ρ cA 0 τ yX4_readClaim cX4_readClaim 4 (some .boolean) (F) [.ref (ρ 172), .int x] (some (.int r.1)) s r.2) (x1 : Int32) (s : Mem) (r : Int32 × Mem) (hz : zres Z = (some (.int r.1), r.2)) (h : f_X4_readEither cl x1 s = some r) : AW Z s 0 [some (.ref (zr Z 172)), some (.int x1), none, none, none] [] := by
  unfold f_X4_readEither at h
  refine aw_iconst (v := 0) X dX4_readEither_0 (by decide) ?_
  refine aw_istore_n (L' := [some (.ref (zr Z 172)), some (.int x1), some (.int 0), none, none]) X dX4_readEither_1 (by decide) rfl ?_
  refine aw_iconst (v := 0) X dX4_readEither_2 (by decide) ?_
  refine aw_istore_n (L' := [some (.ref (zr Z 172)), some (.int x1), some (.int 0), some (.int 0), none]) X dX4_readEither_3 (by decide) rfl ?_
  refine aw_iconst (v := 0) X dX4_readEither_4 (by decide) ?_
  refine aw_istore (L' := [some (.ref (zr Z 172)), some (.int x1), some (.int 0), some (.int 0), some (.int 0)]) X dX4_readEither_5 (by decide) rfl ?_
  obtain ⟨r13, er13, h⟩ := bnd h
  refine aw_msk [true, true, true, true, true] ?_
  refine it_ok (P := fun y : Int32 × Int32 × Int32 × Mem => AW Z y.2.2.2 7 [some (.ref (zr Z 172)), some (.int x1), some (.int y.1), some (.int y.2.1), some (.int y.2.2.1)] []) (Q := fun b : Nat × Mem => (b.1 = 0 → AW Z b.2 23 [none, none, none, none, none] []) ∧ (b.1 = 1 → AW Z b.2 81 [none, none, none, none, none] []) ∧ (b.1 = 2 → AW Z b.2 96 [some (.ref (zr Z 172)), none, none, none, none] [])) (fun y q hq hi he => so_X4_readEither_7 hfr Z X cl hF hcl x1 y.1 y.2.1 y.2.2.1 y.2.2.2 q hq hi he) FUEL _ _ er13 ?_
  refine ⟨fun c0 => ?_, fun c1 => ?_, fun c2 => ?_⟩
  · rw [if_pos c0] at h
    refine aw_iconst (v := 0) X dX4_readEither_23 (by decide) ?_
    cases h
    exact aw_zret X dX4_readEither_24 rfl rfl hz.symm
  · rw [if_neg (by rw [c1]; decide)] at h
    rw [if_pos c1] at h
    refine aw_iconst (v := 1) X dX4_readEither_81 (by decide) ?_
    cases h
    exact aw_zret X dX4_readEither_82 rfl rfl hz.symm
  · rw [if_neg (by rw [c2]; decide)] at h
    rw [if_neg (by rw [c2]; decide)] at h
    refine aw_aload_n X dX4_readEither_96 rfl ?_
    refine aw_iconst (v := 1) X dX4_readEither_97 (by decide) ?_
    obtain ⟨r14, er14, h⟩ := bnd h
    refine aw_callV X dX4_readEither_98 cv_RX4_95 (ok_X4_fail er14 _ _ _ _ _) iu_RX4 rfl (by omega) (by decide) rfl rfl (Nat.le_of_ble_eq_true rfl) ?_
    by_cases c15 : ¬ (r14.1 = 0 ∨ r14.1 = 1)
    · rw [if_pos c15] at h
      cases h
    rw [if_neg c15] at h
    cases h
    exact aw_zret X dX4_readEither_101 rfl (bz_n (Decidable.of_not_not c15)) hz.symm
set_option maxRecDepth 100000 in
set_option maxHeartbeats 4000000 in
theorem ok_X4_readEither (cl : Int32 → Mem → Option (Int32 × Mem)) {F : Nat} (hF : 20 ≤ F) (hcl : ∀ {x : Int32} {s : Mem} {r : Int32 × Mem}, cl x s = some r → ∀ (l : Launch) (D : va_G) (ρ : Nat → Nat) (cA : ClassId × ClassId × ClassId) (τ : AT), AM l D ρ cA 0 τ yX4_readClaim cX4_readClaim 4 (some .boolean) (F) [.ref (ρ 172), .int x] (some (.int r.1)) s r.2) {x1 : Int32} {s : Mem} {r : Int32 × Mem} (h : f_X4_readEither cl x1 s = some r) (l : Launch) (D : va_G) (ρ : Nat → Nat) (cA : ClassId × ClassId × ClassId) (τ : AT) : AM l D ρ cA 0 τ yX4_readEither cX4_readEither 5 (some .boolean) (F + 4) [.ref (ρ 172), .int x1] (some (.int r.1)) s r.2 := by
  refine AM_of (L := [some (.ref (ρ 172)), some (.int x1), none, none, none]) (by decide) (by simp [Value.category]) (Nat.le_of_ble_eq_true rfl) (fun j v q => ?_) (fun Z X hρ hz hτ => ?_)
  · exact aL_ok (n := 3) [.ref (ρ 172), .int x1] j v q
  · subst hρ
    subst hτ
    exact w_X4_readEither (Nat.le_refl _) Z X cl hF hcl x1 s r hz h

theorem dX4_readClaim_0 : decode cX4_readClaim 0 = .ok (.aload_n 0, 1) := by decide +kernel
theorem dX4_readClaim_1 : decode cX4_readClaim 1 = .ok (.getfield 12, 3) := by decide +kernel
theorem dX4_readClaim_4 : decode cX4_readClaim 4 = .ok (.bipush 14, 2) := by decide +kernel
theorem dX4_readClaim_6 : decode cX4_readClaim 6 = .ok (.invokevirtual 77, 3) := by decide +kernel
theorem dX4_readClaim_9 : decode cX4_readClaim 9 = .ok (.istore_n 2, 1) := by decide +kernel
theorem dX4_readClaim_10 : decode cX4_readClaim 10 = .ok (.iload_n 2, 1) := by decide +kernel
theorem dX4_readClaim_11 : decode cX4_readClaim 11 = .ok (.ifCond .ne 15, 3) := by decide +kernel
theorem dX4_readClaim_14 : decode cX4_readClaim 14 = .ok (.aload_n 0, 1) := by decide +kernel
theorem dX4_readClaim_15 : decode cX4_readClaim 15 = .ok (.getfield 12, 3) := by decide +kernel
theorem dX4_readClaim_18 : decode cX4_readClaim 18 = .ok (.bipush 40, 2) := by decide +kernel
theorem dX4_readClaim_20 : decode cX4_readClaim 20 = .ok (.invokevirtual 159, 3) := by decide +kernel
theorem dX4_readClaim_23 : decode cX4_readClaim 23 = .ok (.ifCond .eq 75, 3) := by decide +kernel
theorem dX4_readClaim_26 : decode cX4_readClaim 26 = .ok (.iload_n 1, 1) := by decide +kernel
theorem dX4_readClaim_27 : decode cX4_readClaim 27 = .ok (.bipush 8, 2) := by decide +kernel
theorem dX4_readClaim_29 : decode cX4_readClaim 29 = .ok (.if_icmp .lt 9, 3) := by decide +kernel
theorem dX4_readClaim_32 : decode cX4_readClaim 32 = .ok (.aload_n 0, 1) := by decide +kernel
theorem dX4_readClaim_33 : decode cX4_readClaim 33 = .ok (.iconst 3, 1) := by decide +kernel
theorem dX4_readClaim_34 : decode cX4_readClaim 34 = .ok (.invokevirtual 95, 3) := by decide +kernel
theorem dX4_readClaim_37 : decode cX4_readClaim 37 = .ok (.ireturn, 1) := by decide +kernel
theorem dX4_readClaim_38 : decode cX4_readClaim 38 = .ok (.aload_n 0, 1) := by decide +kernel
theorem dX4_readClaim_39 : decode cX4_readClaim 39 = .ok (.getfield 12, 3) := by decide +kernel
theorem dX4_readClaim_42 : decode cX4_readClaim 42 = .ok (.invokevirtual 98, 3) := by decide +kernel
theorem dX4_readClaim_45 : decode cX4_readClaim 45 = .ok (.iload_n 2, 1) := by decide +kernel
theorem dX4_readClaim_46 : decode cX4_readClaim 46 = .ok (.ifCond .ne 28, 3) := by decide +kernel
theorem dX4_readClaim_49 : decode cX4_readClaim 49 = .ok (.aload_n 0, 1) := by decide +kernel
theorem dX4_readClaim_50 : decode cX4_readClaim 50 = .ok (.iload_n 1, 1) := by decide +kernel
theorem dX4_readClaim_51 : decode cX4_readClaim 51 = .ok (.iconst 1, 1) := by decide +kernel
theorem dX4_readClaim_52 : decode cX4_readClaim 52 = .ok (.iadd, 1) := by decide +kernel
theorem dX4_readClaim_53 : decode cX4_readClaim 53 = .ok (.invokevirtual 149, 3) := by decide +kernel
theorem dX4_readClaim_56 : decode cX4_readClaim 56 = .ok (.ifCond .eq 16, 3) := by decide +kernel
theorem dX4_readClaim_59 : decode cX4_readClaim 59 = .ok (.aload_n 0, 1) := by decide +kernel
theorem dX4_readClaim_60 : decode cX4_readClaim 60 = .ok (.bipush 41, 2) := by decide +kernel
theorem dX4_readClaim_62 : decode cX4_readClaim 62 = .ok (.invokevirtual 122, 3) := by decide +kernel
theorem dX4_readClaim_65 : decode cX4_readClaim 65 = .ok (.ifCond .eq 7, 3) := by decide +kernel
theorem dX4_readClaim_68 : decode cX4_readClaim 68 = .ok (.iconst 1, 1) := by decide +kernel
theorem dX4_readClaim_69 : decode cX4_readClaim 69 = .ok (.goto 4, 3) := by decide +kernel
theorem dX4_readClaim_72 : decode cX4_readClaim 72 = .ok (.iconst 0, 1) := by decide +kernel
theorem dX4_readClaim_73 : decode cX4_readClaim 73 = .ok (.ireturn, 1) := by decide +kernel
theorem dX4_readClaim_74 : decode cX4_readClaim 74 = .ok (.aload_n 0, 1) := by decide +kernel
theorem dX4_readClaim_75 : decode cX4_readClaim 75 = .ok (.iload_n 1, 1) := by decide +kernel
theorem dX4_readClaim_76 : decode cX4_readClaim 76 = .ok (.iconst 1, 1) := by decide +kernel
theorem dX4_readClaim_77 : decode cX4_readClaim 77 = .ok (.iadd, 1) := by decide +kernel
theorem dX4_readClaim_78 : decode cX4_readClaim 78 = .ok (.invokevirtual 153, 3) := by decide +kernel
theorem dX4_readClaim_81 : decode cX4_readClaim 81 = .ok (.ifCond .ne 5, 3) := by decide +kernel
theorem dX4_readClaim_84 : decode cX4_readClaim 84 = .ok (.iconst 0, 1) := by decide +kernel
theorem dX4_readClaim_85 : decode cX4_readClaim 85 = .ok (.ireturn, 1) := by decide +kernel
theorem dX4_readClaim_86 : decode cX4_readClaim 86 = .ok (.aload_n 0, 1) := by decide +kernel
theorem dX4_readClaim_87 : decode cX4_readClaim 87 = .ok (.getfield 31, 3) := by decide +kernel
theorem dX4_readClaim_90 : decode cX4_readClaim 90 = .ok (.sipush 20009, 3) := by decide +kernel
theorem dX4_readClaim_93 : decode cX4_readClaim 93 = .ok (.invokevirtual 156, 3) := by decide +kernel
theorem dX4_readClaim_96 : decode cX4_readClaim 96 = .ok (.iconst 1, 1) := by decide +kernel
theorem dX4_readClaim_97 : decode cX4_readClaim 97 = .ok (.ireturn, 1) := by decide +kernel
theorem dX4_readClaim_98 : decode cX4_readClaim 98 = .ok (.aload_n 0, 1) := by decide +kernel
theorem dX4_readClaim_99 : decode cX4_readClaim 99 = .ok (.invokevirtual 143, 3) := by decide +kernel
theorem dX4_readClaim_102 : decode cX4_readClaim 102 = .ok (.ifCond .ne 5, 3) := by decide +kernel
theorem dX4_readClaim_105 : decode cX4_readClaim 105 = .ok (.iconst 0, 1) := by decide +kernel
theorem dX4_readClaim_106 : decode cX4_readClaim 106 = .ok (.ireturn, 1) := by decide +kernel
theorem dX4_readClaim_107 : decode cX4_readClaim 107 = .ok (.aload_n 0, 1) := by decide +kernel
theorem dX4_readClaim_108 : decode cX4_readClaim 108 = .ok (.invokevirtual 162, 3) := by decide +kernel
theorem dX4_readClaim_111 : decode cX4_readClaim 111 = .ok (.istore_n 3, 1) := by decide +kernel
theorem dX4_readClaim_112 : decode cX4_readClaim 112 = .ok (.iload_n 3, 1) := by decide +kernel
theorem dX4_readClaim_113 : decode cX4_readClaim 113 = .ok (.iconst (-1), 1) := by decide +kernel
theorem dX4_readClaim_114 : decode cX4_readClaim 114 = .ok (.if_icmp .ne 9, 3) := by decide +kernel
theorem dX4_readClaim_117 : decode cX4_readClaim 117 = .ok (.aload_n 0, 1) := by decide +kernel
theorem dX4_readClaim_118 : decode cX4_readClaim 118 = .ok (.iconst 1, 1) := by decide +kernel
theorem dX4_readClaim_119 : decode cX4_readClaim 119 = .ok (.invokevirtual 95, 3) := by decide +kernel
theorem dX4_readClaim_122 : decode cX4_readClaim 122 = .ok (.ireturn, 1) := by decide +kernel
theorem dX4_readClaim_123 : decode cX4_readClaim 123 = .ok (.aload_n 0, 1) := by decide +kernel
theorem dX4_readClaim_124 : decode cX4_readClaim 124 = .ok (.getfield 12, 3) := by decide +kernel
theorem dX4_readClaim_127 : decode cX4_readClaim 127 = .ok (.invokevirtual 98, 3) := by decide +kernel
theorem dX4_readClaim_130 : decode cX4_readClaim 130 = .ok (.aload_n 0, 1) := by decide +kernel
theorem dX4_readClaim_131 : decode cX4_readClaim 131 = .ok (.invokevirtual 143, 3) := by decide +kernel
theorem dX4_readClaim_134 : decode cX4_readClaim 134 = .ok (.ifCond .ne 5, 3) := by decide +kernel
theorem dX4_readClaim_137 : decode cX4_readClaim 137 = .ok (.iconst 0, 1) := by decide +kernel
theorem dX4_readClaim_138 : decode cX4_readClaim 138 = .ok (.ireturn, 1) := by decide +kernel
theorem dX4_readClaim_139 : decode cX4_readClaim 139 = .ok (.aload_n 0, 1) := by decide +kernel
theorem dX4_readClaim_140 : decode cX4_readClaim 140 = .ok (.getfield 31, 3) := by decide +kernel
theorem dX4_readClaim_143 : decode cX4_readClaim 143 = .ok (.iload_n 3, 1) := by decide +kernel
theorem dX4_readClaim_144 : decode cX4_readClaim 144 = .ok (.invokevirtual 156, 3) := by decide +kernel
theorem dX4_readClaim_147 : decode cX4_readClaim 147 = .ok (.iconst 1, 1) := by decide +kernel
theorem dX4_readClaim_148 : decode cX4_readClaim 148 = .ok (.ireturn, 1) := by decide +kernel
set_option maxRecDepth 100000 in
set_option maxHeartbeats 4000000 in
theorem jo_X4_readClaim_26 {fr F : Nat} (hfr : (F + 8) ≤ fr) (Z : AZ) (X : AX Z cX4_readClaim 4 RX4 (some .boolean) 0 fr) (cl ei : Int32 → Mem → Option (Int32 × Mem)) (hF : 20 ≤ F) (hcl : ∀ {x : Int32} {s : Mem} {r : Int32 × Mem}, cl x s = some r → ∀ (l : Launch) (D : va_G) (ρ : Nat → Nat) (cA : ClassId × ClassId × ClassId) (τ : AT), AM l D ρ cA 0 τ yX4_readClaim cX4_readClaim 4 (some .boolean) (F) [.ref (ρ 172), .int x] (some (.int r.1)) s r.2) (hei : ∀ {x : Int32} {s : Mem} {r : Int32 × Mem}, ei x s = some r → ∀ (l : Launch) (D : va_G) (ρ : Nat → Nat) (cA : ClassId × ClassId × ClassId) (τ : AT), AM l D ρ cA 0 τ yX4_readEither cX4_readEither 5 (some .boolean) (F + 4) [.ref (ρ 172), .int x] (some (.int r.1)) s r.2) (x1 : Int32) (x2 : Int32) (s : Mem) (r : Int32 × Mem) (hz : zres Z = (some (.int r.1), r.2)) (h : jn_X4_readClaim_26 cl ei x1 x2 s = some r) : AW Z s 26 [some (.ref (zr Z 172)), some (.int x1), some (.int x2), none] [] := by
  unfold jn_X4_readClaim_26 at h
  refine aw_iload_n X dX4_readClaim_26 rfl ?_
  refine aw_bipush (v := 8) X dX4_readClaim_27 (by decide) ?_
  refine aw_icmp_lt (tgt := 38) X dX4_readClaim_29 (by decide) (fun c3 => ?_) (fun c3 => ?_)
  · rw [if_pos c3] at h
    refine aw_aload_n X dX4_readClaim_38 rfl ?_
    refine aw_getr X dX4_readClaim_39 fl_RX4_12 iu_RX4 gu_RX4_0 ?_
    obtain ⟨r4, er4, h⟩ := bnd h
    refine aw_callV X dX4_readClaim_42 cv_RX4_98 (ok_X6_advance er4 _ _ _ _ _) iu_RX4_0 rfl (by omega) (by decide) rfl rfl (Nat.le_of_ble_eq_true rfl) ?_
    refine aw_iload_n X dX4_readClaim_45 rfl ?_
    refine aw_if_ne (tgt := 74) X dX4_readClaim_46 (by decide) (fun c5 => ?_) (fun c5 => ?_)
    · rw [if_neg c5] at h
      refine aw_aload_n X dX4_readClaim_74 rfl ?_
      refine aw_iload_n X dX4_readClaim_75 rfl ?_
      refine aw_iconst (v := 1) X dX4_readClaim_76 (by decide) ?_
      refine aw_iadd X dX4_readClaim_77 ?_
      obtain ⟨r6, er6, h⟩ := bnd h
      refine aw_callV X dX4_readClaim_78 cv_RX4_153 (hcl er6 _ _ _ _ _) iu_RX4 rfl (by omega) (by decide) rfl rfl (Nat.le_of_ble_eq_true rfl) ?_
      refine aw_if_ne (tgt := 86) X dX4_readClaim_81 (by decide) (fun c7 => ?_) (fun c7 => ?_)
      · rw [if_neg c7] at h
        refine aw_aload_n X dX4_readClaim_86 rfl ?_
        refine aw_getr X dX4_readClaim_87 fl_RX4_31 iu_RX4 gu_RX4_4 ?_
        refine aw_sipush (v := 20009) X dX4_readClaim_90 (by decide) ?_
        obtain ⟨r8, er8, h⟩ := bnd h
        refine aw_callV X dX4_readClaim_93 cv_RX4_156 (ok_X1_emit iu_RX4_4 er8 _ _ _ _ _) iu_RX4_4 rfl (by omega) (by decide) rfl rfl (Nat.le_of_ble_eq_true rfl) ?_
        refine aw_iconst (v := 1) X dX4_readClaim_96 (by decide) ?_
        cases h
        exact aw_zret X dX4_readClaim_97 rfl rfl hz.symm
      · rw [if_pos c7] at h
        refine aw_iconst (v := 0) X dX4_readClaim_84 (by decide) ?_
        cases h
        exact aw_zret X dX4_readClaim_85 rfl rfl hz.symm
    · rw [if_pos c5] at h
      refine aw_aload_n X dX4_readClaim_49 rfl ?_
      refine aw_iload_n X dX4_readClaim_50 rfl ?_
      refine aw_iconst (v := 1) X dX4_readClaim_51 (by decide) ?_
      refine aw_iadd X dX4_readClaim_52 ?_
      obtain ⟨r9, er9, h⟩ := bnd h
      refine aw_callV X dX4_readClaim_53 cv_RX4_149 (hei er9 _ _ _ _ _) iu_RX4 rfl (by omega) (by decide) rfl rfl (Nat.le_of_ble_eq_true rfl) ?_
      refine aw_if_eq (tgt := 72) X dX4_readClaim_56 (by decide) (fun c10 => ?_) (fun c10 => ?_)
      · rw [if_pos c10] at h
        refine aw_iconst (v := 0) X dX4_readClaim_72 (by decide) ?_
        cases h
        exact aw_zret X dX4_readClaim_73 rfl rfl hz.symm
      · rw [if_neg c10] at h
        refine aw_aload_n X dX4_readClaim_59 rfl ?_
        refine aw_bipush (v := 41) X dX4_readClaim_60 (by decide) ?_
        obtain ⟨r11, er11, h⟩ := bnd h
        refine aw_callV X dX4_readClaim_62 cv_RX4_122 (ok_X4_takeSign er11 _ _ _ _ _) iu_RX4 rfl (by omega) (by decide) rfl rfl (Nat.le_of_ble_eq_true rfl) ?_
        refine aw_if_eq (tgt := 72) X dX4_readClaim_65 (by decide) (fun c12 => ?_) (fun c12 => ?_)
        · rw [if_pos c12] at h
          refine aw_iconst (v := 0) X dX4_readClaim_72 (by decide) ?_
          cases h
          exact aw_zret X dX4_readClaim_73 rfl rfl hz.symm
        · rw [if_neg c12] at h
          refine aw_iconst (v := 1) X dX4_readClaim_68 (by decide) ?_
          refine aw_goto (tgt := 73) X dX4_readClaim_69 (by decide) ?_
          cases h
          exact aw_zret X dX4_readClaim_73 rfl rfl hz.symm
  · rw [if_neg c3] at h
    refine aw_aload_n X dX4_readClaim_32 rfl ?_
    refine aw_iconst (v := 3) X dX4_readClaim_33 (by decide) ?_
    obtain ⟨r13, er13, h⟩ := bnd h
    refine aw_callV X dX4_readClaim_34 cv_RX4_95 (ok_X4_fail er13 _ _ _ _ _) iu_RX4 rfl (by omega) (by decide) rfl rfl (Nat.le_of_ble_eq_true rfl) ?_
    by_cases c14 : ¬ (r13.1 = 0 ∨ r13.1 = 1)
    · rw [if_pos c14] at h
      cases h
    rw [if_neg c14] at h
    cases h
    exact aw_zret X dX4_readClaim_37 rfl (bz_n (Decidable.of_not_not c14)) hz.symm
set_option maxRecDepth 100000 in
set_option maxHeartbeats 4000000 in
theorem w_X4_readClaim {fr F : Nat} (hfr : (F + 8) ≤ fr) (Z : AZ) (X : AX Z cX4_readClaim 4 RX4 (some .boolean) 0 fr) (cl ei : Int32 → Mem → Option (Int32 × Mem)) (hF : 20 ≤ F) (hcl : ∀ {x : Int32} {s : Mem} {r : Int32 × Mem}, cl x s = some r → ∀ (l : Launch) (D : va_G) (ρ : Nat → Nat) (cA : ClassId × ClassId × ClassId) (τ : AT), AM l D ρ cA 0 τ yX4_readClaim cX4_readClaim 4 (some .boolean) (F) [.ref (ρ 172), .int x] (some (.int r.1)) s r.2) (hei : ∀ {x : Int32} {s : Mem} {r : Int32 × Mem}, ei x s = some r → ∀ (l : Launch) (D : va_G) (ρ : Nat → Nat) (cA : ClassId × ClassId × ClassId) (τ : AT), AM l D ρ cA 0 τ yX4_readEither cX4_readEither 5 (some .boolean) (F + 4) [.ref (ρ 172), .int x] (some (.int r.1)) s r.2) (x1 : Int32) (s : Mem) (r : Int32 × Mem) (hz : zres Z = (some (.int r.1), r.2)) (h : f_X4_readClaim cl ei x1 s = some r) : AW Z s 0 [some (.ref (zr Z 172)), some (.int x1), none, none] [] := by
  unfold f_X4_readClaim at h
  refine aw_aload_n X dX4_readClaim_0 rfl ?_
  refine aw_getr X dX4_readClaim_1 fl_RX4_12 iu_RX4 gu_RX4_0 ?_
  refine aw_bipush (v := 14) X dX4_readClaim_4 (by decide) ?_
  obtain ⟨r1, er1, h⟩ := bnd h
  refine aw_callV X dX4_readClaim_6 cv_RX4_77 (ok_X6_isWord er1 _ _ _ _ _) iu_RX4_0 rfl (by omega) (by decide) rfl rfl (Nat.le_of_ble_eq_true rfl) ?_
  refine aw_istore_n (L' := [some (.ref (zr Z 172)), some (.int x1), some (.int r1.1), none]) X dX4_readClaim_9 (by decide) rfl ?_
  refine aw_iload_n X dX4_readClaim_10 rfl ?_
  refine aw_if_ne (tgt := 26) X dX4_readClaim_11 (by decide) (fun c2 => ?_) (fun c2 => ?_)
  · rw [if_neg c2] at h
    refine aw_msk [true, true, true, false] ?_
    exact jo_X4_readClaim_26 hfr Z X cl ei hF hcl hei _ _ _ _ hz h
  · rw [if_pos c2] at h
    refine aw_aload_n X dX4_readClaim_14 rfl ?_
    refine aw_getr X dX4_readClaim_15 fl_RX4_12 iu_RX4 gu_RX4_0 ?_
    refine aw_bipush (v := 40) X dX4_readClaim_18 (by decide) ?_
    obtain ⟨r15, er15, h⟩ := bnd h
    refine aw_callV X dX4_readClaim_20 cv_RX4_159 (ok_X6_isSign er15 _ _ _ _ _) iu_RX4_0 rfl (by omega) (by decide) rfl rfl (Nat.le_of_ble_eq_true rfl) ?_
    refine aw_if_eq (tgt := 98) X dX4_readClaim_23 (by decide) (fun c16 => ?_) (fun c16 => ?_)
    · rw [if_pos c16] at h
      refine aw_aload_n X dX4_readClaim_98 rfl ?_
      obtain ⟨r17, er17, h⟩ := bnd h
      refine aw_callV X dX4_readClaim_99 cv_RX4_143 (ok_X4_readSum er17 _ _ _ _ _) iu_RX4 rfl (by omega) (by decide) rfl rfl (Nat.le_of_ble_eq_true rfl) ?_
      refine aw_if_ne (tgt := 107) X dX4_readClaim_102 (by decide) (fun c18 => ?_) (fun c18 => ?_)
      · rw [if_neg c18] at h
        refine aw_aload_n X dX4_readClaim_107 rfl ?_
        obtain ⟨r19, er19, h⟩ := bnd h
        refine aw_callV X dX4_readClaim_108 cv_RX4_162 (ok_X4_comparing er19 _ _ _ _ _) iu_RX4 rfl (by omega) (by decide) rfl rfl (Nat.le_of_ble_eq_true rfl) ?_
        refine aw_istore_n (L' := [some (.ref (zr Z 172)), some (.int x1), some (.int r1.1), some (.int r19.1)]) X dX4_readClaim_111 (by decide) rfl ?_
        refine aw_iload_n X dX4_readClaim_112 rfl ?_
        refine aw_iconst (v := (-1)) X dX4_readClaim_113 (by decide) ?_
        refine aw_icmp_ne (tgt := 123) X dX4_readClaim_114 (by decide) (fun c20 => ?_) (fun c20 => ?_)
        · rw [if_neg c20] at h
          refine aw_aload_n X dX4_readClaim_123 rfl ?_
          refine aw_getr X dX4_readClaim_124 fl_RX4_12 iu_RX4 gu_RX4_0 ?_
          obtain ⟨r21, er21, h⟩ := bnd h
          refine aw_callV X dX4_readClaim_127 cv_RX4_98 (ok_X6_advance er21 _ _ _ _ _) iu_RX4_0 rfl (by omega) (by decide) rfl rfl (Nat.le_of_ble_eq_true rfl) ?_
          refine aw_aload_n X dX4_readClaim_130 rfl ?_
          obtain ⟨r22, er22, h⟩ := bnd h
          refine aw_callV X dX4_readClaim_131 cv_RX4_143 (ok_X4_readSum er22 _ _ _ _ _) iu_RX4 rfl (by omega) (by decide) rfl rfl (Nat.le_of_ble_eq_true rfl) ?_
          refine aw_if_ne (tgt := 139) X dX4_readClaim_134 (by decide) (fun c23 => ?_) (fun c23 => ?_)
          · rw [if_neg c23] at h
            refine aw_aload_n X dX4_readClaim_139 rfl ?_
            refine aw_getr X dX4_readClaim_140 fl_RX4_31 iu_RX4 gu_RX4_4 ?_
            refine aw_iload_n X dX4_readClaim_143 rfl ?_
            obtain ⟨r24, er24, h⟩ := bnd h
            refine aw_callV X dX4_readClaim_144 cv_RX4_156 (ok_X1_emit iu_RX4_4 er24 _ _ _ _ _) iu_RX4_4 rfl (by omega) (by decide) rfl rfl (Nat.le_of_ble_eq_true rfl) ?_
            refine aw_iconst (v := 1) X dX4_readClaim_147 (by decide) ?_
            cases h
            exact aw_zret X dX4_readClaim_148 rfl rfl hz.symm
          · rw [if_pos c23] at h
            refine aw_iconst (v := 0) X dX4_readClaim_137 (by decide) ?_
            cases h
            exact aw_zret X dX4_readClaim_138 rfl rfl hz.symm
        · rw [if_pos c20] at h
          refine aw_aload_n X dX4_readClaim_117 rfl ?_
          refine aw_iconst (v := 1) X dX4_readClaim_118 (by decide) ?_
          obtain ⟨r25, er25, h⟩ := bnd h
          refine aw_callV X dX4_readClaim_119 cv_RX4_95 (ok_X4_fail er25 _ _ _ _ _) iu_RX4 rfl (by omega) (by decide) rfl rfl (Nat.le_of_ble_eq_true rfl) ?_
          by_cases c26 : ¬ (r25.1 = 0 ∨ r25.1 = 1)
          · rw [if_pos c26] at h
            cases h
          rw [if_neg c26] at h
          cases h
          exact aw_zret X dX4_readClaim_122 rfl (bz_n (Decidable.of_not_not c26)) hz.symm
      · rw [if_pos c18] at h
        refine aw_iconst (v := 0) X dX4_readClaim_105 (by decide) ?_
        cases h
        exact aw_zret X dX4_readClaim_106 rfl rfl hz.symm
    · rw [if_neg c16] at h
      refine aw_msk [true, true, true, false] ?_
      exact jo_X4_readClaim_26 hfr Z X cl ei hF hcl hei _ _ _ _ hz h
set_option maxRecDepth 100000 in
set_option maxHeartbeats 4000000 in
theorem ok_X4_readClaim (cl ei : Int32 → Mem → Option (Int32 × Mem)) {F : Nat} (hF : 20 ≤ F) (hcl : ∀ {x : Int32} {s : Mem} {r : Int32 × Mem}, cl x s = some r → ∀ (l : Launch) (D : va_G) (ρ : Nat → Nat) (cA : ClassId × ClassId × ClassId) (τ : AT), AM l D ρ cA 0 τ yX4_readClaim cX4_readClaim 4 (some .boolean) (F) [.ref (ρ 172), .int x] (some (.int r.1)) s r.2) (hei : ∀ {x : Int32} {s : Mem} {r : Int32 × Mem}, ei x s = some r → ∀ (l : Launch) (D : va_G) (ρ : Nat → Nat) (cA : ClassId × ClassId × ClassId) (τ : AT), AM l D ρ cA 0 τ yX4_readEither cX4_readEither 5 (some .boolean) (F + 4) [.ref (ρ 172), .int x] (some (.int r.1)) s r.2) {x1 : Int32} {s : Mem} {r : Int32 × Mem} (h : f_X4_readClaim cl ei x1 s = some r) (l : Launch) (D : va_G) (ρ : Nat → Nat) (cA : ClassId × ClassId × ClassId) (τ : AT) : AM l D ρ cA 0 τ yX4_readClaim cX4_readClaim 4 (some .boolean) (F + 8) [.ref (ρ 172), .int x1] (some (.int r.1)) s r.2 := by
  refine AM_of (L := [some (.ref (ρ 172)), some (.int x1), none, none]) (by decide) (by simp [Value.category]) (Nat.le_of_ble_eq_true rfl) (fun j v q => ?_) (fun Z X hρ hz hτ => ?_)
  · exact aL_ok (n := 2) [.ref (ρ 172), .int x1] j v q
  · subst hρ
    subst hτ
    exact w_X4_readClaim (Nat.le_refl _) Z X cl ei hF hcl hei x1 s r hz h
theorem ok_claim : ∀ (d : Nat) {x : Int32} {s : Mem} {r : Int32 × Mem}, F_claim d x s = some r → ∀ (l : Launch) (D : va_G) (ρ : Nat → Nat) (cA : ClassId × ClassId × ClassId) (τ : AT), AM l D ρ cA 0 τ yX4_readClaim cX4_readClaim 4 (some .boolean) (20 + 8 * d) [.ref (ρ 172), .int x] (some (.int r.1)) s r.2
  | 0 => fun h => by cases h
  | d + 1 => fun h => ok_X4_readClaim (F_claim d) (f_X4_readEither (F_claim d)) (F := 20 + 8 * d) (by omega) (ok_claim d) (fun h => ok_X4_readEither (F_claim d) (F := 20 + 8 * d) (by omega) (ok_claim d) h) h
theorem ok_X4_readEither0 {x : Int32} {s : Mem} {r : Int32 × Mem} (h : f_X4_readEither0 x s = some r) (l : Launch) (D : va_G) (ρ : Nat → Nat) (cA : ClassId × ClassId × ClassId) (τ : AT) : AM l D ρ cA 0 τ yX4_readEither cX4_readEither 5 (some .boolean) 120 [.ref (ρ 172), .int x] (some (.int r.1)) s r.2 :=
  ok_X4_readEither (F_claim 12) (F := 20 + 8 * 12) (by omega) (ok_claim 12) h l D ρ cA τ


theorem dX4_readLawLine_0 : decode cX4_readLawLine 0 = .ok (.aload_n 0, 1) := by decide +kernel
theorem dX4_readLawLine_1 : decode cX4_readLawLine 1 = .ok (.getfield 31, 3) := by decide +kernel
theorem dX4_readLawLine_4 : decode cX4_readLawLine 4 = .ok (.aload_n 0, 1) := by decide +kernel
theorem dX4_readLawLine_5 : decode cX4_readLawLine 5 = .ok (.getfield 12, 3) := by decide +kernel
theorem dX4_readLawLine_8 : decode cX4_readLawLine 8 = .ok (.getfield 58, 3) := by decide +kernel
theorem dX4_readLawLine_11 : decode cX4_readLawLine 11 = .ok (.invokevirtual 142, 3) := by decide +kernel
theorem dX4_readLawLine_14 : decode cX4_readLawLine 14 = .ok (.aload_n 0, 1) := by decide +kernel
theorem dX4_readLawLine_15 : decode cX4_readLawLine 15 = .ok (.getfield 12, 3) := by decide +kernel
theorem dX4_readLawLine_18 : decode cX4_readLawLine 18 = .ok (.invokevirtual 98, 3) := by decide +kernel
theorem dX4_readLawLine_21 : decode cX4_readLawLine 21 = .ok (.aload_n 0, 1) := by decide +kernel
theorem dX4_readLawLine_22 : decode cX4_readLawLine 22 = .ok (.invokevirtual 143, 3) := by decide +kernel
theorem dX4_readLawLine_25 : decode cX4_readLawLine 25 = .ok (.ifCond .ne 5, 3) := by decide +kernel
theorem dX4_readLawLine_28 : decode cX4_readLawLine 28 = .ok (.iconst 0, 1) := by decide +kernel
theorem dX4_readLawLine_29 : decode cX4_readLawLine 29 = .ok (.ireturn, 1) := by decide +kernel
theorem dX4_readLawLine_30 : decode cX4_readLawLine 30 = .ok (.aload_n 0, 1) := by decide +kernel
theorem dX4_readLawLine_31 : decode cX4_readLawLine 31 = .ok (.getfield 31, 3) := by decide +kernel
theorem dX4_readLawLine_34 : decode cX4_readLawLine 34 = .ok (.invokevirtual 146, 3) := by decide +kernel
theorem dX4_readLawLine_37 : decode cX4_readLawLine 37 = .ok (.aload_n 0, 1) := by decide +kernel
theorem dX4_readLawLine_38 : decode cX4_readLawLine 38 = .ok (.getfield 12, 3) := by decide +kernel
theorem dX4_readLawLine_41 : decode cX4_readLawLine 41 = .ok (.bipush 11, 2) := by decide +kernel
theorem dX4_readLawLine_43 : decode cX4_readLawLine 43 = .ok (.invokevirtual 77, 3) := by decide +kernel
theorem dX4_readLawLine_46 : decode cX4_readLawLine 46 = .ok (.ifCond .eq 20, 3) := by decide +kernel
theorem dX4_readLawLine_49 : decode cX4_readLawLine 49 = .ok (.aload_n 0, 1) := by decide +kernel
theorem dX4_readLawLine_50 : decode cX4_readLawLine 50 = .ok (.getfield 12, 3) := by decide +kernel
theorem dX4_readLawLine_53 : decode cX4_readLawLine 53 = .ok (.invokevirtual 98, 3) := by decide +kernel
theorem dX4_readLawLine_56 : decode cX4_readLawLine 56 = .ok (.aload_n 0, 1) := by decide +kernel
theorem dX4_readLawLine_57 : decode cX4_readLawLine 57 = .ok (.iconst 0, 1) := by decide +kernel
theorem dX4_readLawLine_58 : decode cX4_readLawLine 58 = .ok (.invokevirtual 149, 3) := by decide +kernel
theorem dX4_readLawLine_61 : decode cX4_readLawLine 61 = .ok (.ifCond .ne 5, 3) := by decide +kernel
theorem dX4_readLawLine_64 : decode cX4_readLawLine 64 = .ok (.iconst 0, 1) := by decide +kernel
theorem dX4_readLawLine_65 : decode cX4_readLawLine 65 = .ok (.ireturn, 1) := by decide +kernel
theorem dX4_readLawLine_66 : decode cX4_readLawLine 66 = .ok (.aload_n 0, 1) := by decide +kernel
theorem dX4_readLawLine_67 : decode cX4_readLawLine 67 = .ok (.getfield 31, 3) := by decide +kernel
theorem dX4_readLawLine_70 : decode cX4_readLawLine 70 = .ok (.invokevirtual 152, 3) := by decide +kernel
theorem dX4_readLawLine_73 : decode cX4_readLawLine 73 = .ok (.aload_n 0, 1) := by decide +kernel
theorem dX4_readLawLine_74 : decode cX4_readLawLine 74 = .ok (.bipush 59, 2) := by decide +kernel
theorem dX4_readLawLine_76 : decode cX4_readLawLine 76 = .ok (.invokevirtual 122, 3) := by decide +kernel
theorem dX4_readLawLine_79 : decode cX4_readLawLine 79 = .ok (.ireturn, 1) := by decide +kernel
set_option maxRecDepth 100000 in
set_option maxHeartbeats 4000000 in
theorem jo_X4_readLawLine_66 {fr : Nat} (hfr : 151 ≤ fr) (Z : AZ) (X : AX Z cX4_readLawLine 1 RX4 (some .boolean) 0 fr) (s : Mem) (r : Int32 × Mem) (hz : zres Z = (some (.int r.1), r.2)) (h : jn_X4_readLawLine_66 s = some r) : AW Z s 66 [some (.ref (zr Z 172))] [] := by
  unfold jn_X4_readLawLine_66 at h
  refine aw_aload_n X dX4_readLawLine_66 rfl ?_
  refine aw_getr X dX4_readLawLine_67 fl_RX4_31 iu_RX4 gu_RX4_4 ?_
  obtain ⟨r8, er8, h⟩ := bnd h
  refine aw_callV X dX4_readLawLine_70 cv_RX4_152 (ok_X1_endLine iu_RX4_4 er8 _ _ _ _ _) iu_RX4_4 rfl (Nat.le_trans (by decide) hfr) (by decide) rfl rfl (Nat.le_of_ble_eq_true rfl) ?_
  refine aw_aload_n X dX4_readLawLine_73 rfl ?_
  refine aw_bipush (v := 59) X dX4_readLawLine_74 (by decide) ?_
  obtain ⟨r9, er9, h⟩ := bnd h
  refine aw_callV X dX4_readLawLine_76 cv_RX4_122 (ok_X4_takeSign er9 _ _ _ _ _) iu_RX4 rfl (Nat.le_trans (by decide) hfr) (by decide) rfl rfl (Nat.le_of_ble_eq_true rfl) ?_
  by_cases c10 : ¬ (r9.1 = 0 ∨ r9.1 = 1)
  · rw [if_pos c10] at h
    cases h
  rw [if_neg c10] at h
  cases h
  exact aw_zret X dX4_readLawLine_79 rfl (bz_n (Decidable.of_not_not c10)) hz.symm
set_option maxRecDepth 100000 in
set_option maxHeartbeats 4000000 in
theorem w_X4_readLawLine {fr : Nat} (hfr : 151 ≤ fr) (Z : AZ) (X : AX Z cX4_readLawLine 1 RX4 (some .boolean) 0 fr) (s : Mem) (r : Int32 × Mem) (hz : zres Z = (some (.int r.1), r.2)) (h : f_X4_readLawLine s = some r) : AW Z s 0 [some (.ref (zr Z 172))] [] := by
  unfold f_X4_readLawLine at h
  refine aw_aload_n X dX4_readLawLine_0 rfl ?_
  refine aw_getr X dX4_readLawLine_1 fl_RX4_31 iu_RX4 gu_RX4_4 ?_
  refine aw_aload_n X dX4_readLawLine_4 rfl ?_
  refine aw_getr X dX4_readLawLine_5 fl_RX4_12 iu_RX4 gu_RX4_0 ?_
  refine aw_geti X dX4_readLawLine_8 fl_RX4_58 iu_RX4_0 gu_RX6_2 ?_
  obtain ⟨r1, er1, h⟩ := bnd h
  refine aw_callV X dX4_readLawLine_11 cv_RX4_142 (ok_X1_beginLine iu_RX4_4 er1 _ _ _ _ _) iu_RX4_4 rfl (Nat.le_trans (by decide) hfr) (by decide) rfl rfl (Nat.le_of_ble_eq_true rfl) ?_
  refine aw_aload_n X dX4_readLawLine_14 rfl ?_
  refine aw_getr X dX4_readLawLine_15 fl_RX4_12 iu_RX4 gu_RX4_0 ?_
  obtain ⟨r2, er2, h⟩ := bnd h
  refine aw_callV X dX4_readLawLine_18 cv_RX4_98 (ok_X6_advance er2 _ _ _ _ _) iu_RX4_0 rfl (Nat.le_trans (by decide) hfr) (by decide) rfl rfl (Nat.le_of_ble_eq_true rfl) ?_
  refine aw_aload_n X dX4_readLawLine_21 rfl ?_
  obtain ⟨r3, er3, h⟩ := bnd h
  refine aw_callV X dX4_readLawLine_22 cv_RX4_143 (ok_X4_readSum er3 _ _ _ _ _) iu_RX4 rfl (Nat.le_trans (by decide) hfr) (by decide) rfl rfl (Nat.le_of_ble_eq_true rfl) ?_
  refine aw_if_ne (tgt := 30) X dX4_readLawLine_25 (by decide) (fun c4 => ?_) (fun c4 => ?_)
  · rw [if_neg c4] at h
    refine aw_aload_n X dX4_readLawLine_30 rfl ?_
    refine aw_getr X dX4_readLawLine_31 fl_RX4_31 iu_RX4 gu_RX4_4 ?_
    obtain ⟨r5, er5, h⟩ := bnd h
    refine aw_callV X dX4_readLawLine_34 cv_RX4_146 (ok_X1_beginWhen iu_RX4_4 er5 _ _ _ _ _) iu_RX4_4 rfl (Nat.le_trans (by decide) hfr) (by decide) rfl rfl (Nat.le_of_ble_eq_true rfl) ?_
    refine aw_aload_n X dX4_readLawLine_37 rfl ?_
    refine aw_getr X dX4_readLawLine_38 fl_RX4_12 iu_RX4 gu_RX4_0 ?_
    refine aw_bipush (v := 11) X dX4_readLawLine_41 (by decide) ?_
    obtain ⟨r6, er6, h⟩ := bnd h
    refine aw_callV X dX4_readLawLine_43 cv_RX4_77 (ok_X6_isWord er6 _ _ _ _ _) iu_RX4_0 rfl (Nat.le_trans (by decide) hfr) (by decide) rfl rfl (Nat.le_of_ble_eq_true rfl) ?_
    refine aw_if_eq (tgt := 66) X dX4_readLawLine_46 (by decide) (fun c7 => ?_) (fun c7 => ?_)
    · rw [if_pos c7] at h
      refine aw_msk [true] ?_
      exact jo_X4_readLawLine_66 hfr Z X _ _ hz h
    · rw [if_neg c7] at h
      refine aw_aload_n X dX4_readLawLine_49 rfl ?_
      refine aw_getr X dX4_readLawLine_50 fl_RX4_12 iu_RX4 gu_RX4_0 ?_
      obtain ⟨r11, er11, h⟩ := bnd h
      refine aw_callV X dX4_readLawLine_53 cv_RX4_98 (ok_X6_advance er11 _ _ _ _ _) iu_RX4_0 rfl (Nat.le_trans (by decide) hfr) (by decide) rfl rfl (Nat.le_of_ble_eq_true rfl) ?_
      refine aw_aload_n X dX4_readLawLine_56 rfl ?_
      refine aw_iconst (v := 0) X dX4_readLawLine_57 (by decide) ?_
      obtain ⟨r12, er12, h⟩ := bnd h
      refine aw_callV X dX4_readLawLine_58 cv_RX4_149 (ok_X4_readEither0 er12 _ _ _ _ _) iu_RX4 rfl (Nat.le_trans (by decide) hfr) (by decide) rfl rfl (Nat.le_of_ble_eq_true rfl) ?_
      refine aw_if_ne (tgt := 66) X dX4_readLawLine_61 (by decide) (fun c13 => ?_) (fun c13 => ?_)
      · rw [if_neg c13] at h
        refine aw_msk [true] ?_
        exact jo_X4_readLawLine_66 hfr Z X _ _ hz h
      · rw [if_pos c13] at h
        refine aw_iconst (v := 0) X dX4_readLawLine_64 (by decide) ?_
        cases h
        exact aw_zret X dX4_readLawLine_65 rfl rfl hz.symm
  · rw [if_pos c4] at h
    refine aw_iconst (v := 0) X dX4_readLawLine_28 (by decide) ?_
    cases h
    exact aw_zret X dX4_readLawLine_29 rfl rfl hz.symm
set_option maxRecDepth 100000 in
set_option maxHeartbeats 4000000 in
theorem ok_X4_readLawLine {s : Mem} {r : Int32 × Mem} (h : f_X4_readLawLine s = some r) (l : Launch) (D : va_G) (ρ : Nat → Nat) (cA : ClassId × ClassId × ClassId) (τ : AT) : AM l D ρ cA 0 τ yX4_readLawLine cX4_readLawLine 1 (some .boolean) 151 [.ref (ρ 172)] (some (.int r.1)) s r.2 := by
  refine AM_of (L := [some (.ref (ρ 172))]) (by decide) (by simp [Value.category]) (Nat.le_of_ble_eq_true rfl) (fun j v q => ?_) (fun Z X hρ hz hτ => ?_)
  · exact aL_ok (n := 0) [.ref (ρ 172)] j v q
  · subst hρ
    subst hτ
    exact w_X4_readLawLine (Nat.le_refl _) Z X s r hz h

theorem dX4_readLaw_0 : decode cX4_readLaw 0 = .ok (.aload_n 0, 1) := by decide +kernel
theorem dX4_readLaw_1 : decode cX4_readLaw 1 = .ok (.getfield 31, 3) := by decide +kernel
theorem dX4_readLaw_4 : decode cX4_readLaw 4 = .ok (.invokevirtual 52, 3) := by decide +kernel
theorem dX4_readLaw_7 : decode cX4_readLaw 7 = .ok (.iconst 0, 1) := by decide +kernel
theorem dX4_readLaw_8 : decode cX4_readLaw 8 = .ok (.istore_n 2, 1) := by decide +kernel
theorem dX4_readLaw_9 : decode cX4_readLaw 9 = .ok (.iload_n 2, 1) := by decide +kernel
theorem dX4_readLaw_10 : decode cX4_readLaw 10 = .ok (.bipush 16, 2) := by decide +kernel
theorem dX4_readLaw_12 : decode cX4_readLaw 12 = .ok (.if_icmp .gt 65, 3) := by decide +kernel
theorem dX4_readLaw_15 : decode cX4_readLaw 15 = .ok (.aload_n 0, 1) := by decide +kernel
theorem dX4_readLaw_16 : decode cX4_readLaw 16 = .ok (.getfield 12, 3) := by decide +kernel
theorem dX4_readLaw_19 : decode cX4_readLaw 19 = .ok (.getfield 55, 3) := by decide +kernel
theorem dX4_readLaw_22 : decode cX4_readLaw 22 = .ok (.ifCond .eq 55, 3) := by decide +kernel
theorem dX4_readLaw_25 : decode cX4_readLaw 25 = .ok (.aload_n 0, 1) := by decide +kernel
theorem dX4_readLaw_26 : decode cX4_readLaw 26 = .ok (.getfield 12, 3) := by decide +kernel
theorem dX4_readLaw_29 : decode cX4_readLaw 29 = .ok (.getfield 55, 3) := by decide +kernel
theorem dX4_readLaw_32 : decode cX4_readLaw 32 = .ok (.iconst 1, 1) := by decide +kernel
theorem dX4_readLaw_33 : decode cX4_readLaw 33 = .ok (.if_icmp .ne 18, 3) := by decide +kernel
theorem dX4_readLaw_36 : decode cX4_readLaw 36 = .ok (.aload_n 0, 1) := by decide +kernel
theorem dX4_readLaw_37 : decode cX4_readLaw 37 = .ok (.getfield 12, 3) := by decide +kernel
theorem dX4_readLaw_40 : decode cX4_readLaw 40 = .ok (.getfield 58, 3) := by decide +kernel
theorem dX4_readLaw_43 : decode cX4_readLaw 43 = .ok (.iconst 2, 1) := by decide +kernel
theorem dX4_readLaw_44 : decode cX4_readLaw 44 = .ok (.if_icmp .gt 7, 3) := by decide +kernel
theorem dX4_readLaw_47 : decode cX4_readLaw 47 = .ok (.iconst 1, 1) := by decide +kernel
theorem dX4_readLaw_48 : decode cX4_readLaw 48 = .ok (.goto 4, 3) := by decide +kernel
theorem dX4_readLaw_51 : decode cX4_readLaw 51 = .ok (.iconst 0, 1) := by decide +kernel
theorem dX4_readLaw_52 : decode cX4_readLaw 52 = .ok (.istore_n 3, 1) := by decide +kernel
theorem dX4_readLaw_53 : decode cX4_readLaw 53 = .ok (.aload_n 0, 1) := by decide +kernel
theorem dX4_readLaw_54 : decode cX4_readLaw 54 = .ok (.iload_n 3, 1) := by decide +kernel
theorem dX4_readLaw_55 : decode cX4_readLaw 55 = .ok (.iload_n 2, 1) := by decide +kernel
theorem dX4_readLaw_56 : decode cX4_readLaw 56 = .ok (.invokevirtual 61, 3) := by decide +kernel
theorem dX4_readLaw_59 : decode cX4_readLaw 59 = .ok (.ifCond .eq 10, 3) := by decide +kernel
theorem dX4_readLaw_62 : decode cX4_readLaw 62 = .ok (.aload_n 0, 1) := by decide +kernel
theorem dX4_readLaw_63 : decode cX4_readLaw 63 = .ok (.invokevirtual 65, 3) := by decide +kernel
theorem dX4_readLaw_66 : decode cX4_readLaw 66 = .ok (.ifCond .ne 5, 3) := by decide +kernel
theorem dX4_readLaw_69 : decode cX4_readLaw 69 = .ok (.iconst (-1), 1) := by decide +kernel
theorem dX4_readLaw_70 : decode cX4_readLaw 70 = .ok (.ireturn, 1) := by decide +kernel
theorem dX4_readLaw_71 : decode cX4_readLaw 71 = .ok (.iinc 2 1, 3) := by decide +kernel
theorem dX4_readLaw_74 : decode cX4_readLaw 74 = .ok (.goto (-65), 3) := by decide +kernel
theorem dX4_readLaw_77 : decode cX4_readLaw 77 = .ok (.aload_n 1, 1) := by decide +kernel
theorem dX4_readLaw_78 : decode cX4_readLaw 78 = .ok (.aload_n 0, 1) := by decide +kernel
theorem dX4_readLaw_79 : decode cX4_readLaw 79 = .ok (.getfield 31, 3) := by decide +kernel
theorem dX4_readLaw_82 : decode cX4_readLaw 82 = .ok (.invokevirtual 69, 3) := by decide +kernel
theorem dX4_readLaw_85 : decode cX4_readLaw 85 = .ok (.aload_n 0, 1) := by decide +kernel
theorem dX4_readLaw_86 : decode cX4_readLaw 86 = .ok (.getfield 31, 3) := by decide +kernel
theorem dX4_readLaw_89 : decode cX4_readLaw 89 = .ok (.getfield 73, 3) := by decide +kernel
theorem dX4_readLaw_92 : decode cX4_readLaw 92 = .ok (.ireturn, 1) := by decide +kernel
set_option maxRecDepth 100000 in
set_option maxHeartbeats 4000000 in
theorem jo_X4_readLaw_52 {fr : Nat} (hfr : 152 ≤ fr) (Z : AZ) (X : AX Z cX4_readLaw 4 RX4 (some .int) 0 fr) (a1 : Nat) (h1 : IO 0 a1 1) (x2 : Int32) (t0 : Int32) (s : Mem) (q : (Int32 × Mem) ⊕ (Nat × Mem)) (h : jn_X4_readLaw_52 a1 x2 t0 s = some q) (hi : ∀ y : Int32 × Mem, q = .inl y → AW Z y.2 9 [some (.ref (zr Z 172)), some (.ref (zr Z a1)), some (.int y.1), none] []) (he : ∀ b : Nat × Mem, q = .inr b → (b.1 = 0 → AW Z b.2 69 [none, none, none, none] []) ∧ (b.1 = 1 → AW Z b.2 77 [some (.ref (zr Z 172)), some (.ref (zr Z a1)), none, none] [])) : AW Z s 52 [some (.ref (zr Z 172)), some (.ref (zr Z a1)), some (.int x2), none] [.int t0] := by
  unfold jn_X4_readLaw_52 at h
  refine aw_istore_n (L' := [some (.ref (zr Z 172)), some (.ref (zr Z a1)), some (.int x2), some (.int t0)]) X dX4_readLaw_52 (by decide) rfl ?_
  refine aw_aload_n X dX4_readLaw_53 rfl ?_
  refine aw_iload_n X dX4_readLaw_54 rfl ?_
  refine aw_iload_n X dX4_readLaw_55 rfl ?_
  obtain ⟨r5, er5, h⟩ := bnd h
  refine aw_callV X dX4_readLaw_56 cv_RX4_61 (ok_X4_beginsLine er5 _ _ _ _ _) iu_RX4 rfl (Nat.le_trans (by decide) hfr) (by decide) rfl rfl (Nat.le_of_ble_eq_true rfl) ?_
  refine aw_if_eq (tgt := 69) X dX4_readLaw_59 (by decide) (fun c6 => ?_) (fun c6 => ?_)
  · rw [if_pos c6] at h
    cases h
    refine aw_msk [false, false, false, false] ?_
    exact (he _ rfl).1 rfl
  · rw [if_neg c6] at h
    refine aw_aload_n X dX4_readLaw_62 rfl ?_
    obtain ⟨r7, er7, h⟩ := bnd h
    refine aw_callV X dX4_readLaw_63 cv_RX4_65 (ok_X4_readLawLine er7 _ _ _ _ _) iu_RX4 rfl (Nat.le_trans (by decide) hfr) (by decide) rfl rfl (Nat.le_of_ble_eq_true rfl) ?_
    refine aw_if_ne (tgt := 71) X dX4_readLaw_66 (by decide) (fun c8 => ?_) (fun c8 => ?_)
    · rw [if_neg c8] at h
      refine aw_iinc (v := (x2 + 1)) (L' := [some (.ref (zr Z 172)), some (.ref (zr Z a1)), some (.int (x2 + 1)), some (.int t0)]) X dX4_readLaw_71 rfl rfl (by decide) rfl ?_
      refine aw_goto (tgt := 9) X dX4_readLaw_74 (by decide) ?_
      cases h
      refine aw_msk [true, true, true, false] ?_
      exact hi _ rfl
    · rw [if_pos c8] at h
      cases h
      refine aw_msk [false, false, false, false] ?_
      exact (he _ rfl).1 rfl
set_option maxRecDepth 100000 in
set_option maxHeartbeats 4000000 in
theorem jo_X4_readLaw_51 {fr : Nat} (hfr : 152 ≤ fr) (Z : AZ) (X : AX Z cX4_readLaw 4 RX4 (some .int) 0 fr) (a1 : Nat) (h1 : IO 0 a1 1) (x2 : Int32) (s : Mem) (q : (Int32 × Mem) ⊕ (Nat × Mem)) (h : jn_X4_readLaw_51 a1 x2 s = some q) (hi : ∀ y : Int32 × Mem, q = .inl y → AW Z y.2 9 [some (.ref (zr Z 172)), some (.ref (zr Z a1)), some (.int y.1), none] []) (he : ∀ b : Nat × Mem, q = .inr b → (b.1 = 0 → AW Z b.2 69 [none, none, none, none] []) ∧ (b.1 = 1 → AW Z b.2 77 [some (.ref (zr Z 172)), some (.ref (zr Z a1)), none, none] [])) : AW Z s 51 [some (.ref (zr Z 172)), some (.ref (zr Z a1)), some (.int x2), none] [] := by
  unfold jn_X4_readLaw_51 at h
  refine aw_iconst (v := 0) X dX4_readLaw_51 (by decide) ?_
  refine aw_msk [true, true, true, false] ?_
  exact jo_X4_readLaw_52 hfr Z X a1 h1 _ _ _ _ h hi he
set_option maxRecDepth 100000 in
set_option maxHeartbeats 4000000 in
theorem so_X4_readLaw_9 {fr : Nat} (hfr : 152 ≤ fr) (Z : AZ) (X : AX Z cX4_readLaw 4 RX4 (some .int) 0 fr) (a1 : Nat) (h1 : IO 0 a1 1) (x2 : Int32) (s : Mem) (q : (Int32 × Mem) ⊕ (Nat × Mem)) (h : st_X4_readLaw_9 a1 x2 s = some q) (hi : ∀ y : Int32 × Mem, q = .inl y → AW Z y.2 9 [some (.ref (zr Z 172)), some (.ref (zr Z a1)), some (.int y.1), none] []) (he : ∀ b : Nat × Mem, q = .inr b → (b.1 = 0 → AW Z b.2 69 [none, none, none, none] []) ∧ (b.1 = 1 → AW Z b.2 77 [some (.ref (zr Z 172)), some (.ref (zr Z a1)), none, none] [])) : AW Z s 9 [some (.ref (zr Z 172)), some (.ref (zr Z a1)), some (.int x2), none] [] := by
  unfold st_X4_readLaw_9 at h
  refine aw_iload_n X dX4_readLaw_9 rfl ?_
  refine aw_bipush (v := 16) X dX4_readLaw_10 (by decide) ?_
  refine aw_icmp_gt (tgt := 77) X dX4_readLaw_12 (by decide) (fun c2 => ?_) (fun c2 => ?_)
  · rw [if_pos c2] at h
    cases h
    refine aw_msk [true, true, false, false] ?_
    exact (he _ rfl).2 rfl
  · rw [if_neg c2] at h
    refine aw_aload_n X dX4_readLaw_15 rfl ?_
    refine aw_getr X dX4_readLaw_16 fl_RX4_12 iu_RX4 gu_RX4_0 ?_
    refine aw_geti X dX4_readLaw_19 fl_RX4_55 iu_RX4_0 gu_RX6_1 ?_
    refine aw_if_eq (tgt := 77) X dX4_readLaw_22 (by decide) (fun c3 => ?_) (fun c3 => ?_)
    · rw [if_pos c3] at h
      cases h
      refine aw_msk [true, true, false, false] ?_
      exact (he _ rfl).2 rfl
    · rw [if_neg c3] at h
      refine aw_aload_n X dX4_readLaw_25 rfl ?_
      refine aw_getr X dX4_readLaw_26 fl_RX4_12 iu_RX4 gu_RX4_0 ?_
      refine aw_geti X dX4_readLaw_29 fl_RX4_55 iu_RX4_0 gu_RX6_1 ?_
      refine aw_iconst (v := 1) X dX4_readLaw_32 (by decide) ?_
      refine aw_icmp_ne (tgt := 51) X dX4_readLaw_33 (by decide) (fun c4 => ?_) (fun c4 => ?_)
      · rw [if_neg c4] at h
        refine aw_msk [true, true, true, false] ?_
        exact jo_X4_readLaw_51 hfr Z X a1 h1 _ _ _ h hi he
      · rw [if_pos c4] at h
        refine aw_aload_n X dX4_readLaw_36 rfl ?_
        refine aw_getr X dX4_readLaw_37 fl_RX4_12 iu_RX4 gu_RX4_0 ?_
        refine aw_geti X dX4_readLaw_40 fl_RX4_58 iu_RX4_0 gu_RX6_2 ?_
        refine aw_iconst (v := 2) X dX4_readLaw_43 (by decide) ?_
        refine aw_icmp_gt (tgt := 51) X dX4_readLaw_44 (by decide) (fun c9 => ?_) (fun c9 => ?_)
        · rw [if_pos c9] at h
          refine aw_msk [true, true, true, false] ?_
          exact jo_X4_readLaw_51 hfr Z X a1 h1 _ _ _ h hi he
        · rw [if_neg c9] at h
          refine aw_iconst (v := 1) X dX4_readLaw_47 (by decide) ?_
          refine aw_goto (tgt := 52) X dX4_readLaw_48 (by decide) ?_
          refine aw_msk [true, true, true, false] ?_
          exact jo_X4_readLaw_52 hfr Z X a1 h1 _ _ _ _ h hi he
set_option maxRecDepth 100000 in
set_option maxHeartbeats 4000000 in
theorem jo_X4_readLaw_77 {fr : Nat} (hfr : 152 ≤ fr) (Z : AZ) (X : AX Z cX4_readLaw 4 RX4 (some .int) 0 fr) (a1 : Nat) (h1 : IO 0 a1 1) (s : Mem) (r : Int32 × Mem) (hz : zres Z = (some (.int r.1), r.2)) (h : jn_X4_readLaw_77 a1 s = some r) : AW Z s 77 [some (.ref (zr Z 172)), some (.ref (zr Z a1)), none, none] [] := by
  unfold jn_X4_readLaw_77 at h
  refine aw_aload_n X dX4_readLaw_77 rfl ?_
  refine aw_aload_n X dX4_readLaw_78 rfl ?_
  refine aw_getr X dX4_readLaw_79 fl_RX4_31 iu_RX4 gu_RX4_4 ?_
  obtain ⟨r11, er11, h⟩ := bnd h
  refine aw_callV X dX4_readLaw_82 cv_RX4_69 (ok_X1_copyFrom h1 iu_RX4_4 er11 _ _ _ _ _) h1 rfl (Nat.le_trans (by decide) hfr) (by decide) rfl rfl (Nat.le_of_ble_eq_true rfl) ?_
  refine aw_aload_n X dX4_readLaw_85 rfl ?_
  refine aw_getr X dX4_readLaw_86 fl_RX4_31 iu_RX4 gu_RX4_4 ?_
  refine aw_geti X dX4_readLaw_89 fl_RX4_73 iu_RX4_4 (gt_RX1_0 iu_RX4_4) ?_
  cases h
  exact aw_iret X dX4_readLaw_92 rfl hz.symm
set_option maxRecDepth 100000 in
set_option maxHeartbeats 4000000 in
theorem w_X4_readLaw {fr : Nat} (hfr : 152 ≤ fr) (Z : AZ) (X : AX Z cX4_readLaw 4 RX4 (some .int) 0 fr) (a1 : Nat) (h1 : IO 0 a1 1) (s : Mem) (r : Int32 × Mem) (hz : zres Z = (some (.int r.1), r.2)) (h : f_X4_readLaw a1 s = some r) : AW Z s 0 [some (.ref (zr Z 172)), some (.ref (zr Z a1)), none, none] [] := by
  unfold f_X4_readLaw at h
  refine aw_aload_n X dX4_readLaw_0 rfl ?_
  refine aw_getr X dX4_readLaw_1 fl_RX4_31 iu_RX4 gu_RX4_4 ?_
  obtain ⟨r1, er1, h⟩ := bnd h
  refine aw_callV X dX4_readLaw_4 cv_RX4_52 (ok_X1_clear iu_RX4_4 er1 _ _ _ _ _) iu_RX4_4 rfl (Nat.le_trans (by decide) hfr) (by decide) rfl rfl (Nat.le_of_ble_eq_true rfl) ?_
  refine aw_iconst (v := 0) X dX4_readLaw_7 (by decide) ?_
  refine aw_istore_n (L' := [some (.ref (zr Z 172)), some (.ref (zr Z a1)), some (.int 0), none]) X dX4_readLaw_8 (by decide) rfl ?_
  obtain ⟨r10, er10, h⟩ := bnd h
  refine aw_msk [true, true, true, false] ?_
  refine it_ok (P := fun y : Int32 × Mem => AW Z y.2 9 [some (.ref (zr Z 172)), some (.ref (zr Z a1)), some (.int y.1), none] []) (Q := fun b : Nat × Mem => (b.1 = 0 → AW Z b.2 69 [none, none, none, none] []) ∧ (b.1 = 1 → AW Z b.2 77 [some (.ref (zr Z 172)), some (.ref (zr Z a1)), none, none] [])) (fun y q hq hi he => so_X4_readLaw_9 hfr Z X a1 h1 y.1 y.2 q hq hi he) FUEL _ _ er10 ?_
  refine ⟨fun c0 => ?_, fun c1 => ?_⟩
  · rw [if_pos c0] at h
    refine aw_iconst (v := (-1)) X dX4_readLaw_69 (by decide) ?_
    cases h
    exact aw_iret X dX4_readLaw_70 rfl hz.symm
  · rw [if_neg (by rw [c1]; decide)] at h
    refine aw_msk [true, true, false, false] ?_
    exact jo_X4_readLaw_77 hfr Z X a1 h1 _ _ hz h
set_option maxRecDepth 100000 in
set_option maxHeartbeats 4000000 in
theorem ok_X4_readLaw {a1 : Nat} (h1 : IO 0 a1 1) {s : Mem} {r : Int32 × Mem} (h : f_X4_readLaw a1 s = some r) (l : Launch) (D : va_G) (ρ : Nat → Nat) (cA : ClassId × ClassId × ClassId) (τ : AT) : AM l D ρ cA 0 τ yX4_readLaw cX4_readLaw 4 (some .int) 152 [.ref (ρ 172), .ref (ρ a1)] (some (.int r.1)) s r.2 := by
  refine AM_of (L := [some (.ref (ρ 172)), some (.ref (ρ a1)), none, none]) (by decide) (by simp [Value.category]) (Nat.le_of_ble_eq_true rfl) (fun j v q => ?_) (fun Z X hρ hz hτ => ?_)
  · exact aL_ok (n := 2) [.ref (ρ 172), .ref (ρ a1)] j v q
  · subst hρ
    subst hτ
    exact w_X4_readLaw (Nat.le_refl _) Z X a1 h1 s r hz h

theorem dX4_isNumber_0 : decode cX4_isNumber 0 = .ok (.aload_n 0, 1) := by decide +kernel
theorem dX4_isNumber_1 : decode cX4_isNumber 1 = .ok (.getfield 12, 3) := by decide +kernel
theorem dX4_isNumber_4 : decode cX4_isNumber 4 = .ok (.getfield 55, 3) := by decide +kernel
theorem dX4_isNumber_7 : decode cX4_isNumber 7 = .ok (.iconst 2, 1) := by decide +kernel
theorem dX4_isNumber_8 : decode cX4_isNumber 8 = .ok (.if_icmp .eq 9, 3) := by decide +kernel
theorem dX4_isNumber_11 : decode cX4_isNumber 11 = .ok (.aload_n 0, 1) := by decide +kernel
theorem dX4_isNumber_12 : decode cX4_isNumber 12 = .ok (.iconst 1, 1) := by decide +kernel
theorem dX4_isNumber_13 : decode cX4_isNumber 13 = .ok (.invokevirtual 95, 3) := by decide +kernel
theorem dX4_isNumber_16 : decode cX4_isNumber 16 = .ok (.ireturn, 1) := by decide +kernel
theorem dX4_isNumber_17 : decode cX4_isNumber 17 = .ok (.aload_n 0, 1) := by decide +kernel
theorem dX4_isNumber_18 : decode cX4_isNumber 18 = .ok (.getfield 12, 3) := by decide +kernel
theorem dX4_isNumber_21 : decode cX4_isNumber 21 = .ok (.getfield 58, 3) := by decide +kernel
theorem dX4_isNumber_24 : decode cX4_isNumber 24 = .ok (.iload_n 1, 1) := by decide +kernel
theorem dX4_isNumber_25 : decode cX4_isNumber 25 = .ok (.if_icmp .lt 14, 3) := by decide +kernel
theorem dX4_isNumber_28 : decode cX4_isNumber 28 = .ok (.aload_n 0, 1) := by decide +kernel
theorem dX4_isNumber_29 : decode cX4_isNumber 29 = .ok (.getfield 12, 3) := by decide +kernel
theorem dX4_isNumber_32 : decode cX4_isNumber 32 = .ok (.getfield 58, 3) := by decide +kernel
theorem dX4_isNumber_35 : decode cX4_isNumber 35 = .ok (.iload_n 2, 1) := by decide +kernel
theorem dX4_isNumber_36 : decode cX4_isNumber 36 = .ok (.if_icmp .le 11, 3) := by decide +kernel
theorem dX4_isNumber_39 : decode cX4_isNumber 39 = .ok (.aload_n 0, 1) := by decide +kernel
theorem dX4_isNumber_40 : decode cX4_isNumber 40 = .ok (.iconst 2, 1) := by decide +kernel
theorem dX4_isNumber_41 : decode cX4_isNumber 41 = .ok (.invokevirtual 95, 3) := by decide +kernel
theorem dX4_isNumber_44 : decode cX4_isNumber 44 = .ok (.ifCond .eq 7, 3) := by decide +kernel
theorem dX4_isNumber_47 : decode cX4_isNumber 47 = .ok (.iconst 1, 1) := by decide +kernel
theorem dX4_isNumber_48 : decode cX4_isNumber 48 = .ok (.goto 4, 3) := by decide +kernel
theorem dX4_isNumber_51 : decode cX4_isNumber 51 = .ok (.iconst 0, 1) := by decide +kernel
theorem dX4_isNumber_52 : decode cX4_isNumber 52 = .ok (.ireturn, 1) := by decide +kernel
set_option maxRecDepth 100000 in
set_option maxHeartbeats 4000000 in
theorem jo_X4_isNumber_47 {fr : Nat} (hfr : 1 ≤ fr) (Z : AZ) (X : AX Z cX4_isNumber 3 RX4 (some .boolean) 0 fr) (s : Mem) (r : Int32 × Mem) (hz : zres Z = (some (.int r.1), r.2)) (h : jn_X4_isNumber_47 s = some r) : AW Z s 47 [none, none, none] [] := by
  unfold jn_X4_isNumber_47 at h
  refine aw_iconst (v := 1) X dX4_isNumber_47 (by decide) ?_
  refine aw_goto (tgt := 52) X dX4_isNumber_48 (by decide) ?_
  cases h
  exact aw_zret X dX4_isNumber_52 rfl rfl hz.symm
set_option maxRecDepth 100000 in
set_option maxHeartbeats 4000000 in
theorem jo_X4_isNumber_39 {fr : Nat} (hfr : 1 ≤ fr) (Z : AZ) (X : AX Z cX4_isNumber 3 RX4 (some .boolean) 0 fr) (s : Mem) (r : Int32 × Mem) (hz : zres Z = (some (.int r.1), r.2)) (h : jn_X4_isNumber_39 s = some r) : AW Z s 39 [some (.ref (zr Z 172)), none, none] [] := by
  unfold jn_X4_isNumber_39 at h
  refine aw_aload_n X dX4_isNumber_39 rfl ?_
  refine aw_iconst (v := 2) X dX4_isNumber_40 (by decide) ?_
  obtain ⟨r3, er3, h⟩ := bnd h
  refine aw_callV X dX4_isNumber_41 cv_RX4_95 (ok_X4_fail er3 _ _ _ _ _) iu_RX4 rfl (Nat.le_trans (by decide) hfr) (by decide) rfl rfl (Nat.le_of_ble_eq_true rfl) ?_
  refine aw_if_eq (tgt := 51) X dX4_isNumber_44 (by decide) (fun c4 => ?_) (fun c4 => ?_)
  · rw [if_pos c4] at h
    refine aw_iconst (v := 0) X dX4_isNumber_51 (by decide) ?_
    cases h
    exact aw_zret X dX4_isNumber_52 rfl rfl hz.symm
  · rw [if_neg c4] at h
    refine aw_msk [false, false, false] ?_
    exact jo_X4_isNumber_47 hfr Z X _ _ hz h
set_option maxRecDepth 100000 in
set_option maxHeartbeats 4000000 in
theorem w_X4_isNumber {fr : Nat} (hfr : 1 ≤ fr) (Z : AZ) (X : AX Z cX4_isNumber 3 RX4 (some .boolean) 0 fr) (x1 : Int32) (x2 : Int32) (s : Mem) (r : Int32 × Mem) (hz : zres Z = (some (.int r.1), r.2)) (h : f_X4_isNumber x1 x2 s = some r) : AW Z s 0 [some (.ref (zr Z 172)), some (.int x1), some (.int x2)] [] := by
  unfold f_X4_isNumber at h
  refine aw_aload_n X dX4_isNumber_0 rfl ?_
  refine aw_getr X dX4_isNumber_1 fl_RX4_12 iu_RX4 gu_RX4_0 ?_
  refine aw_geti X dX4_isNumber_4 fl_RX4_55 iu_RX4_0 gu_RX6_1 ?_
  refine aw_iconst (v := 2) X dX4_isNumber_7 (by decide) ?_
  refine aw_icmp_eq (tgt := 17) X dX4_isNumber_8 (by decide) (fun c1 => ?_) (fun c1 => ?_)
  · rw [if_pos c1] at h
    refine aw_aload_n X dX4_isNumber_17 rfl ?_
    refine aw_getr X dX4_isNumber_18 fl_RX4_12 iu_RX4 gu_RX4_0 ?_
    refine aw_geti X dX4_isNumber_21 fl_RX4_58 iu_RX4_0 gu_RX6_2 ?_
    refine aw_iload_n X dX4_isNumber_24 rfl ?_
    refine aw_icmp_lt (tgt := 39) X dX4_isNumber_25 (by decide) (fun c2 => ?_) (fun c2 => ?_)
    · rw [if_pos c2] at h
      refine aw_msk [true, false, false] ?_
      exact jo_X4_isNumber_39 hfr Z X _ _ hz h
    · rw [if_neg c2] at h
      refine aw_aload_n X dX4_isNumber_28 rfl ?_
      refine aw_getr X dX4_isNumber_29 fl_RX4_12 iu_RX4 gu_RX4_0 ?_
      refine aw_geti X dX4_isNumber_32 fl_RX4_58 iu_RX4_0 gu_RX6_2 ?_
      refine aw_iload_n X dX4_isNumber_35 rfl ?_
      refine aw_icmp_le (tgt := 47) X dX4_isNumber_36 (by decide) (fun c5 => ?_) (fun c5 => ?_)
      · rw [if_pos c5] at h
        refine aw_msk [false, false, false] ?_
        exact jo_X4_isNumber_47 hfr Z X _ _ hz h
      · rw [if_neg c5] at h
        refine aw_msk [true, false, false] ?_
        exact jo_X4_isNumber_39 hfr Z X _ _ hz h
  · rw [if_neg c1] at h
    refine aw_aload_n X dX4_isNumber_11 rfl ?_
    refine aw_iconst (v := 1) X dX4_isNumber_12 (by decide) ?_
    obtain ⟨r6, er6, h⟩ := bnd h
    refine aw_callV X dX4_isNumber_13 cv_RX4_95 (ok_X4_fail er6 _ _ _ _ _) iu_RX4 rfl (Nat.le_trans (by decide) hfr) (by decide) rfl rfl (Nat.le_of_ble_eq_true rfl) ?_
    by_cases c7 : ¬ (r6.1 = 0 ∨ r6.1 = 1)
    · rw [if_pos c7] at h
      cases h
    rw [if_neg c7] at h
    cases h
    exact aw_zret X dX4_isNumber_16 rfl (bz_n (Decidable.of_not_not c7)) hz.symm
set_option maxRecDepth 100000 in
set_option maxHeartbeats 4000000 in
theorem ok_X4_isNumber {x1 x2 : Int32} {s : Mem} {r : Int32 × Mem} (h : f_X4_isNumber x1 x2 s = some r) (l : Launch) (D : va_G) (ρ : Nat → Nat) (cA : ClassId × ClassId × ClassId) (τ : AT) : AM l D ρ cA 0 τ yX4_isNumber cX4_isNumber 3 (some .boolean) 1 [.ref (ρ 172), .int x1, .int x2] (some (.int r.1)) s r.2 := by
  refine AM_of (L := [some (.ref (ρ 172)), some (.int x1), some (.int x2)]) (by decide) (by simp [Value.category]) (Nat.le_of_ble_eq_true rfl) (fun j v q => ?_) (fun Z X hρ hz hτ => ?_)
  · exact aL_ok (n := 0) [.ref (ρ 172), .int x1, .int x2] j v q
  · subst hρ
    subst hτ
    exact w_X4_isNumber (Nat.le_refl _) Z X x1 x2 s r hz h

theorem dX4_takeNumber_0 : decode cX4_takeNumber 0 = .ok (.aload_n 0, 1) := by decide +kernel
theorem dX4_takeNumber_1 : decode cX4_takeNumber 1 = .ok (.iload_n 1, 1) := by decide +kernel
theorem dX4_takeNumber_2 : decode cX4_takeNumber 2 = .ok (.iload_n 2, 1) := by decide +kernel
theorem dX4_takeNumber_3 : decode cX4_takeNumber 3 = .ok (.invokevirtual 176, 3) := by decide +kernel
theorem dX4_takeNumber_6 : decode cX4_takeNumber 6 = .ok (.ifCond .ne 5, 3) := by decide +kernel
theorem dX4_takeNumber_9 : decode cX4_takeNumber 9 = .ok (.iconst (-1), 1) := by decide +kernel
theorem dX4_takeNumber_10 : decode cX4_takeNumber 10 = .ok (.ireturn, 1) := by decide +kernel
theorem dX4_takeNumber_11 : decode cX4_takeNumber 11 = .ok (.aload_n 0, 1) := by decide +kernel
theorem dX4_takeNumber_12 : decode cX4_takeNumber 12 = .ok (.getfield 12, 3) := by decide +kernel
theorem dX4_takeNumber_15 : decode cX4_takeNumber 15 = .ok (.getfield 58, 3) := by decide +kernel
theorem dX4_takeNumber_18 : decode cX4_takeNumber 18 = .ok (.istore_n 3, 1) := by decide +kernel
theorem dX4_takeNumber_19 : decode cX4_takeNumber 19 = .ok (.aload_n 0, 1) := by decide +kernel
theorem dX4_takeNumber_20 : decode cX4_takeNumber 20 = .ok (.getfield 12, 3) := by decide +kernel
theorem dX4_takeNumber_23 : decode cX4_takeNumber 23 = .ok (.invokevirtual 98, 3) := by decide +kernel
theorem dX4_takeNumber_26 : decode cX4_takeNumber 26 = .ok (.iload_n 3, 1) := by decide +kernel
theorem dX4_takeNumber_27 : decode cX4_takeNumber 27 = .ok (.ireturn, 1) := by decide +kernel
set_option maxRecDepth 100000 in
set_option maxHeartbeats 4000000 in
theorem w_X4_takeNumber {fr : Nat} (hfr : 2 ≤ fr) (Z : AZ) (X : AX Z cX4_takeNumber 4 RX4 (some .int) 0 fr) (x1 : Int32) (x2 : Int32) (s : Mem) (r : Int32 × Mem) (hz : zres Z = (some (.int r.1), r.2)) (h : f_X4_takeNumber x1 x2 s = some r) : AW Z s 0 [some (.ref (zr Z 172)), some (.int x1), some (.int x2), none] [] := by
  unfold f_X4_takeNumber at h
  refine aw_aload_n X dX4_takeNumber_0 rfl ?_
  refine aw_iload_n X dX4_takeNumber_1 rfl ?_
  refine aw_iload_n X dX4_takeNumber_2 rfl ?_
  obtain ⟨r1, er1, h⟩ := bnd h
  refine aw_callV X dX4_takeNumber_3 cv_RX4_176 (ok_X4_isNumber er1 _ _ _ _ _) iu_RX4 rfl (Nat.le_trans (by decide) hfr) (by decide) rfl rfl (Nat.le_of_ble_eq_true rfl) ?_
  refine aw_if_ne (tgt := 11) X dX4_takeNumber_6 (by decide) (fun c2 => ?_) (fun c2 => ?_)
  · rw [if_neg c2] at h
    refine aw_aload_n X dX4_takeNumber_11 rfl ?_
    refine aw_getr X dX4_takeNumber_12 fl_RX4_12 iu_RX4 gu_RX4_0 ?_
    refine aw_geti X dX4_takeNumber_15 fl_RX4_58 iu_RX4_0 gu_RX6_2 ?_
    refine aw_istore_n (L' := [some (.ref (zr Z 172)), some (.int x1), some (.int x2), some (.int (r1.2 173 2))]) X dX4_takeNumber_18 (by decide) rfl ?_
    refine aw_aload_n X dX4_takeNumber_19 rfl ?_
    refine aw_getr X dX4_takeNumber_20 fl_RX4_12 iu_RX4 gu_RX4_0 ?_
    obtain ⟨r3, er3, h⟩ := bnd h
    refine aw_callV X dX4_takeNumber_23 cv_RX4_98 (ok_X6_advance er3 _ _ _ _ _) iu_RX4_0 rfl (Nat.le_trans (by decide) hfr) (by decide) rfl rfl (Nat.le_of_ble_eq_true rfl) ?_
    refine aw_iload_n X dX4_takeNumber_26 rfl ?_
    cases h
    exact aw_iret X dX4_takeNumber_27 rfl hz.symm
  · rw [if_pos c2] at h
    refine aw_iconst (v := (-1)) X dX4_takeNumber_9 (by decide) ?_
    cases h
    exact aw_iret X dX4_takeNumber_10 rfl hz.symm
set_option maxRecDepth 100000 in
set_option maxHeartbeats 4000000 in
theorem ok_X4_takeNumber {x1 x2 : Int32} {s : Mem} {r : Int32 × Mem} (h : f_X4_takeNumber x1 x2 s = some r) (l : Launch) (D : va_G) (ρ : Nat → Nat) (cA : ClassId × ClassId × ClassId) (τ : AT) : AM l D ρ cA 0 τ yX4_takeNumber cX4_takeNumber 4 (some .int) 2 [.ref (ρ 172), .int x1, .int x2] (some (.int r.1)) s r.2 := by
  refine AM_of (L := [some (.ref (ρ 172)), some (.int x1), some (.int x2), none]) (by decide) (by simp [Value.category]) (Nat.le_of_ble_eq_true rfl) (fun j v q => ?_) (fun Z X hρ hz hτ => ?_)
  · exact aL_ok (n := 1) [.ref (ρ 172), .int x1, .int x2] j v q
  · subst hρ
    subst hτ
    exact w_X4_takeNumber (Nat.le_refl _) Z X x1 x2 s r hz h

theorem dX4_isPerson_0 : decode cX4_isPerson 0 = .ok (.aload_n 0, 1) := by decide +kernel
theorem dX4_isPerson_1 : decode cX4_isPerson 1 = .ok (.iconst 0, 1) := by decide +kernel
theorem dX4_isPerson_2 : decode cX4_isPerson 2 = .ok (.aload_n 0, 1) := by decide +kernel
theorem dX4_isPerson_3 : decode cX4_isPerson 3 = .ok (.getfield 25, 3) := by decide +kernel
theorem dX4_isPerson_6 : decode cX4_isPerson 6 = .ok (.iconst 1, 1) := by decide +kernel
theorem dX4_isPerson_7 : decode cX4_isPerson 7 = .ok (.isub, 1) := by decide +kernel
theorem dX4_isPerson_8 : decode cX4_isPerson 8 = .ok (.invokevirtual 176, 3) := by decide +kernel
theorem dX4_isPerson_11 : decode cX4_isPerson 11 = .ok (.ifCond .ne 5, 3) := by decide +kernel
theorem dX4_isPerson_14 : decode cX4_isPerson 14 = .ok (.iconst 0, 1) := by decide +kernel
theorem dX4_isPerson_15 : decode cX4_isPerson 15 = .ok (.ireturn, 1) := by decide +kernel
theorem dX4_isPerson_16 : decode cX4_isPerson 16 = .ok (.aload_n 0, 1) := by decide +kernel
theorem dX4_isPerson_17 : decode cX4_isPerson 17 = .ok (.getfield 12, 3) := by decide +kernel
theorem dX4_isPerson_20 : decode cX4_isPerson 20 = .ok (.getfield 58, 3) := by decide +kernel
theorem dX4_isPerson_23 : decode cX4_isPerson 23 = .ok (.iload_n 1, 1) := by decide +kernel
theorem dX4_isPerson_24 : decode cX4_isPerson 24 = .ok (.if_icmp .ne 11, 3) := by decide +kernel
theorem dX4_isPerson_27 : decode cX4_isPerson 27 = .ok (.aload_n 0, 1) := by decide +kernel
theorem dX4_isPerson_28 : decode cX4_isPerson 28 = .ok (.iconst 2, 1) := by decide +kernel
theorem dX4_isPerson_29 : decode cX4_isPerson 29 = .ok (.invokevirtual 95, 3) := by decide +kernel
theorem dX4_isPerson_32 : decode cX4_isPerson 32 = .ok (.ifCond .eq 7, 3) := by decide +kernel
theorem dX4_isPerson_35 : decode cX4_isPerson 35 = .ok (.iconst 1, 1) := by decide +kernel
theorem dX4_isPerson_36 : decode cX4_isPerson 36 = .ok (.goto 4, 3) := by decide +kernel
theorem dX4_isPerson_39 : decode cX4_isPerson 39 = .ok (.iconst 0, 1) := by decide +kernel
theorem dX4_isPerson_40 : decode cX4_isPerson 40 = .ok (.ireturn, 1) := by decide +kernel
set_option maxRecDepth 100000 in
set_option maxHeartbeats 4000000 in
theorem jo_X4_isPerson_35 {fr : Nat} (hfr : 2 ≤ fr) (Z : AZ) (X : AX Z cX4_isPerson 2 RX4 (some .boolean) 0 fr) (s : Mem) (r : Int32 × Mem) (hz : zres Z = (some (.int r.1), r.2)) (h : jn_X4_isPerson_35 s = some r) : AW Z s 35 [none, none] [] := by
  unfold jn_X4_isPerson_35 at h
  refine aw_iconst (v := 1) X dX4_isPerson_35 (by decide) ?_
  refine aw_goto (tgt := 40) X dX4_isPerson_36 (by decide) ?_
  cases h
  exact aw_zret X dX4_isPerson_40 rfl rfl hz.symm
set_option maxRecDepth 100000 in
set_option maxHeartbeats 4000000 in
theorem w_X4_isPerson {fr : Nat} (hfr : 2 ≤ fr) (Z : AZ) (X : AX Z cX4_isPerson 2 RX4 (some .boolean) 0 fr) (x1 : Int32) (s : Mem) (r : Int32 × Mem) (hz : zres Z = (some (.int r.1), r.2)) (h : f_X4_isPerson x1 s = some r) : AW Z s 0 [some (.ref (zr Z 172)), some (.int x1)] [] := by
  unfold f_X4_isPerson at h
  refine aw_aload_n X dX4_isPerson_0 rfl ?_
  refine aw_iconst (v := 0) X dX4_isPerson_1 (by decide) ?_
  refine aw_aload_n X dX4_isPerson_2 rfl ?_
  refine aw_geti X dX4_isPerson_3 fl_RX4_25 iu_RX4 gu_RX4_3 ?_
  refine aw_iconst (v := 1) X dX4_isPerson_6 (by decide) ?_
  refine aw_isub X dX4_isPerson_7 ?_
  obtain ⟨r1, er1, h⟩ := bnd h
  refine aw_callV X dX4_isPerson_8 cv_RX4_176 (ok_X4_isNumber er1 _ _ _ _ _) iu_RX4 rfl (Nat.le_trans (by decide) hfr) (by decide) rfl rfl (Nat.le_of_ble_eq_true rfl) ?_
  refine aw_if_ne (tgt := 16) X dX4_isPerson_11 (by decide) (fun c2 => ?_) (fun c2 => ?_)
  · rw [if_neg c2] at h
    refine aw_aload_n X dX4_isPerson_16 rfl ?_
    refine aw_getr X dX4_isPerson_17 fl_RX4_12 iu_RX4 gu_RX4_0 ?_
    refine aw_geti X dX4_isPerson_20 fl_RX4_58 iu_RX4_0 gu_RX6_2 ?_
    refine aw_iload_n X dX4_isPerson_23 rfl ?_
    refine aw_icmp_ne (tgt := 35) X dX4_isPerson_24 (by decide) (fun c3 => ?_) (fun c3 => ?_)
    · rw [if_neg c3] at h
      refine aw_msk [false, false] ?_
      exact jo_X4_isPerson_35 hfr Z X _ _ hz h
    · rw [if_pos c3] at h
      refine aw_aload_n X dX4_isPerson_27 rfl ?_
      refine aw_iconst (v := 2) X dX4_isPerson_28 (by decide) ?_
      obtain ⟨r4, er4, h⟩ := bnd h
      refine aw_callV X dX4_isPerson_29 cv_RX4_95 (ok_X4_fail er4 _ _ _ _ _) iu_RX4 rfl (Nat.le_trans (by decide) hfr) (by decide) rfl rfl (Nat.le_of_ble_eq_true rfl) ?_
      refine aw_if_eq (tgt := 39) X dX4_isPerson_32 (by decide) (fun c5 => ?_) (fun c5 => ?_)
      · rw [if_pos c5] at h
        refine aw_iconst (v := 0) X dX4_isPerson_39 (by decide) ?_
        cases h
        exact aw_zret X dX4_isPerson_40 rfl rfl hz.symm
      · rw [if_neg c5] at h
        refine aw_msk [false, false] ?_
        exact jo_X4_isPerson_35 hfr Z X _ _ hz h
  · rw [if_pos c2] at h
    refine aw_iconst (v := 0) X dX4_isPerson_14 (by decide) ?_
    cases h
    exact aw_zret X dX4_isPerson_15 rfl rfl hz.symm
set_option maxRecDepth 100000 in
set_option maxHeartbeats 4000000 in
theorem ok_X4_isPerson {x1 : Int32} {s : Mem} {r : Int32 × Mem} (h : f_X4_isPerson x1 s = some r) (l : Launch) (D : va_G) (ρ : Nat → Nat) (cA : ClassId × ClassId × ClassId) (τ : AT) : AM l D ρ cA 0 τ yX4_isPerson cX4_isPerson 2 (some .boolean) 2 [.ref (ρ 172), .int x1] (some (.int r.1)) s r.2 := by
  refine AM_of (L := [some (.ref (ρ 172)), some (.int x1)]) (by decide) (by simp [Value.category]) (Nat.le_of_ble_eq_true rfl) (fun j v q => ?_) (fun Z X hρ hz hτ => ?_)
  · exact aL_ok (n := 0) [.ref (ρ 172), .int x1] j v q
  · subst hρ
    subst hτ
    exact w_X4_isPerson (Nat.le_refl _) Z X x1 s r hz h

theorem dX4_takePerson_0 : decode cX4_takePerson 0 = .ok (.aload_n 0, 1) := by decide +kernel
theorem dX4_takePerson_1 : decode cX4_takePerson 1 = .ok (.iload_n 1, 1) := by decide +kernel
theorem dX4_takePerson_2 : decode cX4_takePerson 2 = .ok (.invokevirtual 133, 3) := by decide +kernel
theorem dX4_takePerson_5 : decode cX4_takePerson 5 = .ok (.ifCond .ne 5, 3) := by decide +kernel
theorem dX4_takePerson_8 : decode cX4_takePerson 8 = .ok (.iconst (-1), 1) := by decide +kernel
theorem dX4_takePerson_9 : decode cX4_takePerson 9 = .ok (.ireturn, 1) := by decide +kernel
theorem dX4_takePerson_10 : decode cX4_takePerson 10 = .ok (.aload_n 0, 1) := by decide +kernel
theorem dX4_takePerson_11 : decode cX4_takePerson 11 = .ok (.getfield 12, 3) := by decide +kernel
theorem dX4_takePerson_14 : decode cX4_takePerson 14 = .ok (.getfield 58, 3) := by decide +kernel
theorem dX4_takePerson_17 : decode cX4_takePerson 17 = .ok (.istore_n 2, 1) := by decide +kernel
theorem dX4_takePerson_18 : decode cX4_takePerson 18 = .ok (.aload_n 0, 1) := by decide +kernel
theorem dX4_takePerson_19 : decode cX4_takePerson 19 = .ok (.getfield 12, 3) := by decide +kernel
theorem dX4_takePerson_22 : decode cX4_takePerson 22 = .ok (.invokevirtual 98, 3) := by decide +kernel
theorem dX4_takePerson_25 : decode cX4_takePerson 25 = .ok (.iload_n 2, 1) := by decide +kernel
theorem dX4_takePerson_26 : decode cX4_takePerson 26 = .ok (.ireturn, 1) := by decide +kernel
set_option maxRecDepth 100000 in
set_option maxHeartbeats 4000000 in
theorem w_X4_takePerson {fr : Nat} (hfr : 3 ≤ fr) (Z : AZ) (X : AX Z cX4_takePerson 3 RX4 (some .int) 0 fr) (x1 : Int32) (s : Mem) (r : Int32 × Mem) (hz : zres Z = (some (.int r.1), r.2)) (h : f_X4_takePerson x1 s = some r) : AW Z s 0 [some (.ref (zr Z 172)), some (.int x1), none] [] := by
  unfold f_X4_takePerson at h
  refine aw_aload_n X dX4_takePerson_0 rfl ?_
  refine aw_iload_n X dX4_takePerson_1 rfl ?_
  obtain ⟨r1, er1, h⟩ := bnd h
  refine aw_callV X dX4_takePerson_2 cv_RX4_133 (ok_X4_isPerson er1 _ _ _ _ _) iu_RX4 rfl (Nat.le_trans (by decide) hfr) (by decide) rfl rfl (Nat.le_of_ble_eq_true rfl) ?_
  refine aw_if_ne (tgt := 10) X dX4_takePerson_5 (by decide) (fun c2 => ?_) (fun c2 => ?_)
  · rw [if_neg c2] at h
    refine aw_aload_n X dX4_takePerson_10 rfl ?_
    refine aw_getr X dX4_takePerson_11 fl_RX4_12 iu_RX4 gu_RX4_0 ?_
    refine aw_geti X dX4_takePerson_14 fl_RX4_58 iu_RX4_0 gu_RX6_2 ?_
    refine aw_istore_n (L' := [some (.ref (zr Z 172)), some (.int x1), some (.int (r1.2 173 2))]) X dX4_takePerson_17 (by decide) rfl ?_
    refine aw_aload_n X dX4_takePerson_18 rfl ?_
    refine aw_getr X dX4_takePerson_19 fl_RX4_12 iu_RX4 gu_RX4_0 ?_
    obtain ⟨r3, er3, h⟩ := bnd h
    refine aw_callV X dX4_takePerson_22 cv_RX4_98 (ok_X6_advance er3 _ _ _ _ _) iu_RX4_0 rfl (Nat.le_trans (by decide) hfr) (by decide) rfl rfl (Nat.le_of_ble_eq_true rfl) ?_
    refine aw_iload_n X dX4_takePerson_25 rfl ?_
    cases h
    exact aw_iret X dX4_takePerson_26 rfl hz.symm
  · rw [if_pos c2] at h
    refine aw_iconst (v := (-1)) X dX4_takePerson_8 (by decide) ?_
    cases h
    exact aw_iret X dX4_takePerson_9 rfl hz.symm
set_option maxRecDepth 100000 in
set_option maxHeartbeats 4000000 in
theorem ok_X4_takePerson {x1 : Int32} {s : Mem} {r : Int32 × Mem} (h : f_X4_takePerson x1 s = some r) (l : Launch) (D : va_G) (ρ : Nat → Nat) (cA : ClassId × ClassId × ClassId) (τ : AT) : AM l D ρ cA 0 τ yX4_takePerson cX4_takePerson 3 (some .int) 3 [.ref (ρ 172), .int x1] (some (.int r.1)) s r.2 := by
  refine AM_of (L := [some (.ref (ρ 172)), some (.int x1), none]) (by decide) (by simp [Value.category]) (Nat.le_of_ble_eq_true rfl) (fun j v q => ?_) (fun Z X hρ hz hτ => ?_)
  · exact aL_ok (n := 1) [.ref (ρ 172), .int x1] j v q
  · subst hρ
    subst hτ
    exact w_X4_takePerson (Nat.le_refl _) Z X x1 s r hz h

theorem dX4_cureKind_0 : decode cX4_cureKind 0 = .ok (.iload_n 0, 1) := by decide +kernel
theorem dX4_cureKind_1 : decode cX4_cureKind 1 = .ok (.tableswitch 33 18 20 #[27, 29, 31], 27) := by decide +kernel
theorem dX4_cureKind_28 : decode cX4_cureKind 28 = .ok (.iconst 1, 1) := by decide +kernel
theorem dX4_cureKind_29 : decode cX4_cureKind 29 = .ok (.ireturn, 1) := by decide +kernel
theorem dX4_cureKind_30 : decode cX4_cureKind 30 = .ok (.iconst 2, 1) := by decide +kernel
theorem dX4_cureKind_31 : decode cX4_cureKind 31 = .ok (.ireturn, 1) := by decide +kernel
theorem dX4_cureKind_32 : decode cX4_cureKind 32 = .ok (.iconst 3, 1) := by decide +kernel
theorem dX4_cureKind_33 : decode cX4_cureKind 33 = .ok (.ireturn, 1) := by decide +kernel
theorem dX4_cureKind_34 : decode cX4_cureKind 34 = .ok (.iconst 4, 1) := by decide +kernel
theorem dX4_cureKind_35 : decode cX4_cureKind 35 = .ok (.ireturn, 1) := by decide +kernel
set_option maxRecDepth 100000 in
set_option maxHeartbeats 4000000 in
theorem w_X4_cureKind {fr : Nat} (hfr : 0 ≤ fr) (Z : AZ) (X : AX Z cX4_cureKind 1 RX4 (some .int) 0 fr) (x0 : Int32) (s : Mem) (r : Int32 × Mem) (hz : zres Z = (some (.int r.1), r.2)) (h : f_X4_cureKind x0 s = some r) : AW Z s 0 [some (.int x0)] [] := by
  unfold f_X4_cureKind at h
  refine aw_iload_n X dX4_cureKind_0 rfl ?_
  by_cases c1 : x0 = 18
  · rw [if_pos c1] at h
    refine aw_tsw (tgt := 28) X dX4_cureKind_1 (by rw [c1]; decide) ?_
    refine aw_iconst (v := 1) X dX4_cureKind_28 (by decide) ?_
    cases h
    exact aw_iret X dX4_cureKind_29 rfl hz.symm
  rw [if_neg c1] at h
  by_cases c2 : x0 = 19
  · rw [if_pos c2] at h
    refine aw_tsw (tgt := 30) X dX4_cureKind_1 (by rw [c2]; decide) ?_
    refine aw_iconst (v := 2) X dX4_cureKind_30 (by decide) ?_
    cases h
    exact aw_iret X dX4_cureKind_31 rfl hz.symm
  rw [if_neg c2] at h
  by_cases c3 : x0 = 20
  · rw [if_pos c3] at h
    refine aw_tsw (tgt := 32) X dX4_cureKind_1 (by rw [c3]; decide) ?_
    refine aw_iconst (v := 3) X dX4_cureKind_32 (by decide) ?_
    cases h
    exact aw_iret X dX4_cureKind_33 rfl hz.symm
  rw [if_neg c3] at h
  refine aw_tswd (tgt := 34) X dX4_cureKind_1 (by decide) (fun z h1 h2 => ?_) ?_
  · have hz9 : z = 18 ∨ z = 19 ∨ z = 20 := by omega
    rcases hz9 with rfl | rfl | rfl
    · exact c1
    · exact c2
    · exact c3
  refine aw_iconst (v := 4) X dX4_cureKind_34 (by decide) ?_
  cases h
  exact aw_iret X dX4_cureKind_35 rfl hz.symm
set_option maxRecDepth 100000 in
set_option maxHeartbeats 4000000 in
theorem ok_X4_cureKind {x0 : Int32} {s : Mem} {r : Int32 × Mem} (h : f_X4_cureKind x0 s = some r) (l : Launch) (D : va_G) (ρ : Nat → Nat) (cA : ClassId × ClassId × ClassId) (τ : AT) : AM l D ρ cA 0 τ yX4_cureKind cX4_cureKind 1 (some .int) 0 [.int x0] (some (.int r.1)) s r.2 := by
  refine AM_of (L := [some (.int x0)]) (by decide) (by simp [Value.category]) (Nat.le_of_ble_eq_true rfl) (fun j v q => ?_) (fun Z X hρ hz hτ => ?_)
  · exact aL_ok (n := 0) [.int x0] j v q
  · subst hρ
    subst hτ
    exact w_X4_cureKind (Nat.le_refl _) Z X x0 s r hz h

theorem dX5_addLine_0 : decode cX5_addLine 0 = .ok (.aload_n 0, 1) := by decide +kernel
theorem dX5_addLine_1 : decode cX5_addLine 1 = .ok (.getfield 9, 3) := by decide +kernel
theorem dX5_addLine_4 : decode cX5_addLine 4 = .ok (.bipush 16, 2) := by decide +kernel
theorem dX5_addLine_6 : decode cX5_addLine 6 = .ok (.if_icmp .ge 54, 3) := by decide +kernel
theorem dX5_addLine_9 : decode cX5_addLine 9 = .ok (.aload_n 0, 1) := by decide +kernel
theorem dX5_addLine_10 : decode cX5_addLine 10 = .ok (.getfield 15, 3) := by decide +kernel
theorem dX5_addLine_13 : decode cX5_addLine 13 = .ok (.aload_n 0, 1) := by decide +kernel
theorem dX5_addLine_14 : decode cX5_addLine 14 = .ok (.getfield 9, 3) := by decide +kernel
theorem dX5_addLine_17 : decode cX5_addLine 17 = .ok (.iload_n 1, 1) := by decide +kernel
theorem dX5_addLine_18 : decode cX5_addLine 18 = .ok (.iastore, 1) := by decide +kernel
theorem dX5_addLine_19 : decode cX5_addLine 19 = .ok (.aload_n 0, 1) := by decide +kernel
theorem dX5_addLine_20 : decode cX5_addLine 20 = .ok (.getfield 19, 3) := by decide +kernel
theorem dX5_addLine_23 : decode cX5_addLine 23 = .ok (.aload_n 0, 1) := by decide +kernel
theorem dX5_addLine_24 : decode cX5_addLine 24 = .ok (.getfield 9, 3) := by decide +kernel
theorem dX5_addLine_27 : decode cX5_addLine 27 = .ok (.iload_n 2, 1) := by decide +kernel
theorem dX5_addLine_28 : decode cX5_addLine 28 = .ok (.iastore, 1) := by decide +kernel
theorem dX5_addLine_29 : decode cX5_addLine 29 = .ok (.aload_n 0, 1) := by decide +kernel
theorem dX5_addLine_30 : decode cX5_addLine 30 = .ok (.getfield 22, 3) := by decide +kernel
theorem dX5_addLine_33 : decode cX5_addLine 33 = .ok (.aload_n 0, 1) := by decide +kernel
theorem dX5_addLine_34 : decode cX5_addLine 34 = .ok (.getfield 9, 3) := by decide +kernel
theorem dX5_addLine_37 : decode cX5_addLine 37 = .ok (.iload_n 3, 1) := by decide +kernel
theorem dX5_addLine_38 : decode cX5_addLine 38 = .ok (.iastore, 1) := by decide +kernel
theorem dX5_addLine_39 : decode cX5_addLine 39 = .ok (.aload_n 0, 1) := by decide +kernel
theorem dX5_addLine_40 : decode cX5_addLine 40 = .ok (.getfield 25, 3) := by decide +kernel
theorem dX5_addLine_43 : decode cX5_addLine 43 = .ok (.aload_n 0, 1) := by decide +kernel
theorem dX5_addLine_44 : decode cX5_addLine 44 = .ok (.getfield 9, 3) := by decide +kernel
theorem dX5_addLine_47 : decode cX5_addLine 47 = .ok (.iload 4, 2) := by decide +kernel
theorem dX5_addLine_49 : decode cX5_addLine 49 = .ok (.iastore, 1) := by decide +kernel
theorem dX5_addLine_50 : decode cX5_addLine 50 = .ok (.aload_n 0, 1) := by decide +kernel
theorem dX5_addLine_51 : decode cX5_addLine 51 = .ok (.dup, 1) := by decide +kernel
theorem dX5_addLine_52 : decode cX5_addLine 52 = .ok (.getfield 9, 3) := by decide +kernel
theorem dX5_addLine_55 : decode cX5_addLine 55 = .ok (.iconst 1, 1) := by decide +kernel
theorem dX5_addLine_56 : decode cX5_addLine 56 = .ok (.iadd, 1) := by decide +kernel
theorem dX5_addLine_57 : decode cX5_addLine 57 = .ok (.putfield 9, 3) := by decide +kernel
theorem dX5_addLine_60 : decode cX5_addLine 60 = .ok (.return_, 1) := by decide +kernel
set_option maxRecDepth 100000 in
set_option maxHeartbeats 4000000 in
theorem w_X5_addLine {fr : Nat} (hfr : 0 ≤ fr) (Z : AZ) (X : AX Z cX5_addLine 5 RX5 none 0 fr) (a0 : Nat) (h0 : IO 0 a0 4) (x1 : Int32) (x2 : Int32) (x3 : Int32) (x4 : Int32) (s : Mem) (r : Mem) (hz : zres Z = (none, r)) (h : f_X5_addLine a0 x1 x2 x3 x4 s = some r) : AW Z s 0 [some (.ref (zr Z a0)), some (.int x1), some (.int x2), some (.int x3), some (.int x4)] [] := by
  unfold f_X5_addLine at h
  refine aw_aload_n X dX5_addLine_0 rfl ?_
  refine aw_geti X dX5_addLine_1 fl_RX5_9 h0 (gt_RX5_0 h0) ?_
  refine aw_bipush (v := 16) X dX5_addLine_4 (by decide) ?_
  refine aw_icmp_ge (tgt := 60) X dX5_addLine_6 (by decide) (fun c1 => ?_) (fun c1 => ?_)
  · rw [if_pos c1] at h
    cases h
    exact aw_vret X dX5_addLine_60 rfl hz.symm
  · rw [if_neg c1] at h
    refine aw_aload_n X dX5_addLine_9 rfl ?_
    refine aw_getr X dX5_addLine_10 fl_RX5_15 h0 (gt_RX5_1 h0) ?_
    refine aw_aload_n X dX5_addLine_13 rfl ?_
    refine aw_geti X dX5_addLine_14 fl_RX5_9 h0 (gt_RX5_0 h0) ?_
    refine aw_iload_n X dX5_addLine_17 rfl ?_
    obtain ⟨s2, es2, h⟩ := bnd h
    refine aw_iast X dX5_addLine_18 (it_RX5_1 h0) es2 ?_
    refine aw_aload_n X dX5_addLine_19 rfl ?_
    refine aw_getr X dX5_addLine_20 fl_RX5_19 h0 (gt_RX5_2 h0) ?_
    refine aw_aload_n X dX5_addLine_23 rfl ?_
    refine aw_geti X dX5_addLine_24 fl_RX5_9 h0 (gt_RX5_0 h0) ?_
    refine aw_iload_n X dX5_addLine_27 rfl ?_
    obtain ⟨s3, es3, h⟩ := bnd h
    refine aw_iast X dX5_addLine_28 (it_RX5_2 h0) es3 ?_
    refine aw_aload_n X dX5_addLine_29 rfl ?_
    refine aw_getr X dX5_addLine_30 fl_RX5_22 h0 (gt_RX5_3 h0) ?_
    refine aw_aload_n X dX5_addLine_33 rfl ?_
    refine aw_geti X dX5_addLine_34 fl_RX5_9 h0 (gt_RX5_0 h0) ?_
    refine aw_iload_n X dX5_addLine_37 rfl ?_
    obtain ⟨s4, es4, h⟩ := bnd h
    refine aw_iast X dX5_addLine_38 (it_RX5_3 h0) es4 ?_
    refine aw_aload_n X dX5_addLine_39 rfl ?_
    refine aw_getr X dX5_addLine_40 fl_RX5_25 h0 (gt_RX5_4 h0) ?_
    refine aw_aload_n X dX5_addLine_43 rfl ?_
    refine aw_geti X dX5_addLine_44 fl_RX5_9 h0 (gt_RX5_0 h0) ?_
    refine aw_iload X dX5_addLine_47 rfl ?_
    obtain ⟨s5, es5, h⟩ := bnd h
    refine aw_iast X dX5_addLine_49 (it_RX5_4 h0) es5 ?_
    refine aw_aload_n X dX5_addLine_50 rfl ?_
    refine aw_dup X dX5_addLine_51 rfl ?_
    refine aw_geti X dX5_addLine_52 fl_RX5_9 h0 (gt_RX5_0 h0) ?_
    refine aw_iconst (v := 1) X dX5_addLine_55 (by decide) ?_
    refine aw_iadd X dX5_addLine_56 ?_
    refine aw_put X dX5_addLine_57 fp_RX5_9 h0 (gt_RX5_0 h0) rfl rfl ?_
    cases h
    exact aw_vret X dX5_addLine_60 rfl hz.symm
set_option maxRecDepth 100000 in
set_option maxHeartbeats 4000000 in
theorem ok_X5_addLine {a0 : Nat} (h0 : IO 0 a0 4) {x1 x2 x3 x4 : Int32} {s : Mem} {r : Mem} (h : f_X5_addLine a0 x1 x2 x3 x4 s = some r) (l : Launch) (D : va_G) (ρ : Nat → Nat) (cA : ClassId × ClassId × ClassId) (τ : AT) : AM l D ρ cA 0 τ yX5_addLine cX5_addLine 5 none 0 [.ref (ρ a0), .int x1, .int x2, .int x3, .int x4] none s r := by
  refine AM_of (L := [some (.ref (ρ a0)), some (.int x1), some (.int x2), some (.int x3), some (.int x4)]) (by decide) (by simp [Value.category]) (Nat.le_of_ble_eq_true rfl) (fun j v q => ?_) (fun Z X hρ hz hτ => ?_)
  · exact aL_ok (n := 0) [.ref (ρ a0), .int x1, .int x2, .int x3, .int x4] j v q
  · subst hρ
    subst hτ
    exact w_X5_addLine (Nat.le_refl _) Z X a0 h0 x1 x2 x3 x4 s r hz h

theorem dX4_readCure_0 : decode cX4_readCure 0 = .ok (.aload_n 0, 1) := by decide +kernel
theorem dX4_readCure_1 : decode cX4_readCure 1 = .ok (.getfield 12, 3) := by decide +kernel
theorem dX4_readCure_4 : decode cX4_readCure 4 = .ok (.getfield 58, 3) := by decide +kernel
theorem dX4_readCure_7 : decode cX4_readCure 7 = .ok (.istore_n 2, 1) := by decide +kernel
theorem dX4_readCure_8 : decode cX4_readCure 8 = .ok (.aload_n 0, 1) := by decide +kernel
theorem dX4_readCure_9 : decode cX4_readCure 9 = .ok (.getfield 12, 3) := by decide +kernel
theorem dX4_readCure_12 : decode cX4_readCure 12 = .ok (.getfield 55, 3) := by decide +kernel
theorem dX4_readCure_15 : decode cX4_readCure 15 = .ok (.iconst 1, 1) := by decide +kernel
theorem dX4_readCure_16 : decode cX4_readCure 16 = .ok (.if_icmp .ne 15, 3) := by decide +kernel
theorem dX4_readCure_19 : decode cX4_readCure 19 = .ok (.iload_n 2, 1) := by decide +kernel
theorem dX4_readCure_20 : decode cX4_readCure 20 = .ok (.bipush 18, 2) := by decide +kernel
theorem dX4_readCure_22 : decode cX4_readCure 22 = .ok (.if_icmp .lt 9, 3) := by decide +kernel
theorem dX4_readCure_25 : decode cX4_readCure 25 = .ok (.iload_n 2, 1) := by decide +kernel
theorem dX4_readCure_26 : decode cX4_readCure 26 = .ok (.bipush 21, 2) := by decide +kernel
theorem dX4_readCure_28 : decode cX4_readCure 28 = .ok (.if_icmp .le 9, 3) := by decide +kernel
theorem dX4_readCure_31 : decode cX4_readCure 31 = .ok (.aload_n 0, 1) := by decide +kernel
theorem dX4_readCure_32 : decode cX4_readCure 32 = .ok (.iconst 1, 1) := by decide +kernel
theorem dX4_readCure_33 : decode cX4_readCure 33 = .ok (.invokevirtual 95, 3) := by decide +kernel
theorem dX4_readCure_36 : decode cX4_readCure 36 = .ok (.ireturn, 1) := by decide +kernel
theorem dX4_readCure_37 : decode cX4_readCure 37 = .ok (.aload_n 0, 1) := by decide +kernel
theorem dX4_readCure_38 : decode cX4_readCure 38 = .ok (.getfield 12, 3) := by decide +kernel
theorem dX4_readCure_41 : decode cX4_readCure 41 = .ok (.invokevirtual 98, 3) := by decide +kernel
theorem dX4_readCure_44 : decode cX4_readCure 44 = .ok (.aload_n 0, 1) := by decide +kernel
theorem dX4_readCure_45 : decode cX4_readCure 45 = .ok (.iconst (-1), 1) := by decide +kernel
theorem dX4_readCure_46 : decode cX4_readCure 46 = .ok (.invokevirtual 114, 3) := by decide +kernel
theorem dX4_readCure_49 : decode cX4_readCure 49 = .ok (.istore_n 3, 1) := by decide +kernel
theorem dX4_readCure_50 : decode cX4_readCure 50 = .ok (.iload_n 3, 1) := by decide +kernel
theorem dX4_readCure_51 : decode cX4_readCure 51 = .ok (.iconst (-1), 1) := by decide +kernel
theorem dX4_readCure_52 : decode cX4_readCure 52 = .ok (.if_icmp .ne 5, 3) := by decide +kernel
theorem dX4_readCure_55 : decode cX4_readCure 55 = .ok (.iconst 0, 1) := by decide +kernel
theorem dX4_readCure_56 : decode cX4_readCure 56 = .ok (.ireturn, 1) := by decide +kernel
theorem dX4_readCure_57 : decode cX4_readCure 57 = .ok (.iconst 0, 1) := by decide +kernel
theorem dX4_readCure_58 : decode cX4_readCure 58 = .ok (.istore 4, 2) := by decide +kernel
theorem dX4_readCure_60 : decode cX4_readCure 60 = .ok (.iload_n 2, 1) := by decide +kernel
theorem dX4_readCure_61 : decode cX4_readCure 61 = .ok (.bipush 19, 2) := by decide +kernel
theorem dX4_readCure_63 : decode cX4_readCure 63 = .ok (.if_icmp .ne 15, 3) := by decide +kernel
theorem dX4_readCure_66 : decode cX4_readCure 66 = .ok (.aload_n 0, 1) := by decide +kernel
theorem dX4_readCure_67 : decode cX4_readCure 67 = .ok (.iconst 1, 1) := by decide +kernel
theorem dX4_readCure_68 : decode cX4_readCure 68 = .ok (.bipush 99, 2) := by decide +kernel
theorem dX4_readCure_70 : decode cX4_readCure 70 = .ok (.invokevirtual 101, 3) := by decide +kernel
theorem dX4_readCure_73 : decode cX4_readCure 73 = .ok (.istore 4, 2) := by decide +kernel
theorem dX4_readCure_75 : decode cX4_readCure 75 = .ok (.goto 16, 3) := by decide +kernel
theorem dX4_readCure_78 : decode cX4_readCure 78 = .ok (.iload_n 2, 1) := by decide +kernel
theorem dX4_readCure_79 : decode cX4_readCure 79 = .ok (.bipush 20, 2) := by decide +kernel
theorem dX4_readCure_81 : decode cX4_readCure 81 = .ok (.if_icmp .ne 10, 3) := by decide +kernel
theorem dX4_readCure_84 : decode cX4_readCure 84 = .ok (.aload_n 0, 1) := by decide +kernel
theorem dX4_readCure_85 : decode cX4_readCure 85 = .ok (.iload_n 3, 1) := by decide +kernel
theorem dX4_readCure_86 : decode cX4_readCure 86 = .ok (.invokevirtual 114, 3) := by decide +kernel
theorem dX4_readCure_89 : decode cX4_readCure 89 = .ok (.istore 4, 2) := by decide +kernel
theorem dX4_readCure_91 : decode cX4_readCure 91 = .ok (.iload 4, 2) := by decide +kernel
theorem dX4_readCure_93 : decode cX4_readCure 93 = .ok (.iconst (-1), 1) := by decide +kernel
theorem dX4_readCure_94 : decode cX4_readCure 94 = .ok (.if_icmp .ne 5, 3) := by decide +kernel
theorem dX4_readCure_97 : decode cX4_readCure 97 = .ok (.iconst 0, 1) := by decide +kernel
theorem dX4_readCure_98 : decode cX4_readCure 98 = .ok (.ireturn, 1) := by decide +kernel
theorem dX4_readCure_99 : decode cX4_readCure 99 = .ok (.aload_n 0, 1) := by decide +kernel
theorem dX4_readCure_100 : decode cX4_readCure 100 = .ok (.getfield 38, 3) := by decide +kernel
theorem dX4_readCure_103 : decode cX4_readCure 103 = .ok (.iload_n 1, 1) := by decide +kernel
theorem dX4_readCure_104 : decode cX4_readCure 104 = .ok (.iload_n 2, 1) := by decide +kernel
theorem dX4_readCure_105 : decode cX4_readCure 105 = .ok (.invokestatic 126, 3) := by decide +kernel
theorem dX4_readCure_108 : decode cX4_readCure 108 = .ok (.iload_n 3, 1) := by decide +kernel
theorem dX4_readCure_109 : decode cX4_readCure 109 = .ok (.iload 4, 2) := by decide +kernel
theorem dX4_readCure_111 : decode cX4_readCure 111 = .ok (.invokevirtual 118, 3) := by decide +kernel
theorem dX4_readCure_114 : decode cX4_readCure 114 = .ok (.aload_n 0, 1) := by decide +kernel
theorem dX4_readCure_115 : decode cX4_readCure 115 = .ok (.bipush 59, 2) := by decide +kernel
theorem dX4_readCure_117 : decode cX4_readCure 117 = .ok (.invokevirtual 122, 3) := by decide +kernel
theorem dX4_readCure_120 : decode cX4_readCure 120 = .ok (.ireturn, 1) := by decide +kernel
set_option maxRecDepth 100000 in
set_option maxHeartbeats 4000000 in
theorem jo_X4_readCure_31 {fr : Nat} (hfr : 4 ≤ fr) (Z : AZ) (X : AX Z cX4_readCure 5 RX4 (some .boolean) 0 fr) (s : Mem) (r : Int32 × Mem) (hz : zres Z = (some (.int r.1), r.2)) (h : jn_X4_readCure_31 s = some r) : AW Z s 31 [some (.ref (zr Z 172)), none, none, none, none] [] := by
  unfold jn_X4_readCure_31 at h
  refine aw_aload_n X dX4_readCure_31 rfl ?_
  refine aw_iconst (v := 1) X dX4_readCure_32 (by decide) ?_
  obtain ⟨r2, er2, h⟩ := bnd h
  refine aw_callV X dX4_readCure_33 cv_RX4_95 (ok_X4_fail er2 _ _ _ _ _) iu_RX4 rfl (Nat.le_trans (by decide) hfr) (by decide) rfl rfl (Nat.le_of_ble_eq_true rfl) ?_
  by_cases c3 : ¬ (r2.1 = 0 ∨ r2.1 = 1)
  · rw [if_pos c3] at h
    cases h
  rw [if_neg c3] at h
  cases h
  exact aw_zret X dX4_readCure_36 rfl (bz_n (Decidable.of_not_not c3)) hz.symm
set_option maxRecDepth 100000 in
set_option maxHeartbeats 4000000 in
theorem jo_X4_readCure_91 {fr : Nat} (hfr : 4 ≤ fr) (Z : AZ) (X : AX Z cX4_readCure 5 RX4 (some .boolean) 0 fr) (x1 : Int32) (x2 : Int32) (x3 : Int32) (x4 : Int32) (s : Mem) (r : Int32 × Mem) (hz : zres Z = (some (.int r.1), r.2)) (h : jn_X4_readCure_91 x1 x2 x3 x4 s = some r) : AW Z s 91 [some (.ref (zr Z 172)), some (.int x1), some (.int x2), some (.int x3), some (.int x4)] [] := by
  unfold jn_X4_readCure_91 at h
  refine aw_iload X dX4_readCure_91 rfl ?_
  refine aw_iconst (v := (-1)) X dX4_readCure_93 (by decide) ?_
  refine aw_icmp_ne (tgt := 99) X dX4_readCure_94 (by decide) (fun c11 => ?_) (fun c11 => ?_)
  · rw [if_neg c11] at h
    refine aw_aload_n X dX4_readCure_99 rfl ?_
    refine aw_getr X dX4_readCure_100 fl_RX4_38 iu_RX4 gu_RX4_5 ?_
    refine aw_iload_n X dX4_readCure_103 rfl ?_
    refine aw_iload_n X dX4_readCure_104 rfl ?_
    obtain ⟨r12, er12, h⟩ := bnd h
    refine aw_callS X dX4_readCure_105 cv_RX4_126 (ok_X4_cureKind er12 _ _ _ _ _) (Nat.le_trans (by decide) hfr) (by decide) rfl rfl (Nat.le_of_ble_eq_true rfl) ?_
    refine aw_iload_n X dX4_readCure_108 rfl ?_
    refine aw_iload X dX4_readCure_109 rfl ?_
    obtain ⟨r13, er13, h⟩ := bnd h
    refine aw_callV X dX4_readCure_111 cv_RX4_118 (ok_X5_addLine iu_RX4_5 er13 _ _ _ _ _) iu_RX4_5 rfl (Nat.le_trans (by decide) hfr) (by decide) rfl rfl (Nat.le_of_ble_eq_true rfl) ?_
    refine aw_aload_n X dX4_readCure_114 rfl ?_
    refine aw_bipush (v := 59) X dX4_readCure_115 (by decide) ?_
    obtain ⟨r14, er14, h⟩ := bnd h
    refine aw_callV X dX4_readCure_117 cv_RX4_122 (ok_X4_takeSign er14 _ _ _ _ _) iu_RX4 rfl (Nat.le_trans (by decide) hfr) (by decide) rfl rfl (Nat.le_of_ble_eq_true rfl) ?_
    by_cases c15 : ¬ (r14.1 = 0 ∨ r14.1 = 1)
    · rw [if_pos c15] at h
      cases h
    rw [if_neg c15] at h
    cases h
    exact aw_zret X dX4_readCure_120 rfl (bz_n (Decidable.of_not_not c15)) hz.symm
  · rw [if_pos c11] at h
    refine aw_iconst (v := 0) X dX4_readCure_97 (by decide) ?_
    cases h
    exact aw_zret X dX4_readCure_98 rfl rfl hz.symm
set_option maxRecDepth 100000 in
set_option maxHeartbeats 4000000 in
theorem w_X4_readCure {fr : Nat} (hfr : 4 ≤ fr) (Z : AZ) (X : AX Z cX4_readCure 5 RX4 (some .boolean) 0 fr) (x1 : Int32) (s : Mem) (r : Int32 × Mem) (hz : zres Z = (some (.int r.1), r.2)) (h : f_X4_readCure x1 s = some r) : AW Z s 0 [some (.ref (zr Z 172)), some (.int x1), none, none, none] [] := by
  unfold f_X4_readCure at h
  refine aw_aload_n X dX4_readCure_0 rfl ?_
  refine aw_getr X dX4_readCure_1 fl_RX4_12 iu_RX4 gu_RX4_0 ?_
  refine aw_geti X dX4_readCure_4 fl_RX4_58 iu_RX4_0 gu_RX6_2 ?_
  refine aw_istore_n (L' := [some (.ref (zr Z 172)), some (.int x1), some (.int (s 173 2)), none, none]) X dX4_readCure_7 (by decide) rfl ?_
  refine aw_aload_n X dX4_readCure_8 rfl ?_
  refine aw_getr X dX4_readCure_9 fl_RX4_12 iu_RX4 gu_RX4_0 ?_
  refine aw_geti X dX4_readCure_12 fl_RX4_55 iu_RX4_0 gu_RX6_1 ?_
  refine aw_iconst (v := 1) X dX4_readCure_15 (by decide) ?_
  refine aw_icmp_ne (tgt := 31) X dX4_readCure_16 (by decide) (fun c1 => ?_) (fun c1 => ?_)
  · rw [if_neg c1] at h
    refine aw_msk [true, false, false, false, false] ?_
    exact jo_X4_readCure_31 hfr Z X _ _ hz h
  · rw [if_pos c1] at h
    refine aw_iload_n X dX4_readCure_19 rfl ?_
    refine aw_bipush (v := 18) X dX4_readCure_20 (by decide) ?_
    refine aw_icmp_lt (tgt := 31) X dX4_readCure_22 (by decide) (fun c4 => ?_) (fun c4 => ?_)
    · rw [if_pos c4] at h
      refine aw_msk [true, false, false, false, false] ?_
      exact jo_X4_readCure_31 hfr Z X _ _ hz h
    · rw [if_neg c4] at h
      refine aw_iload_n X dX4_readCure_25 rfl ?_
      refine aw_bipush (v := 21) X dX4_readCure_26 (by decide) ?_
      refine aw_icmp_le (tgt := 37) X dX4_readCure_28 (by decide) (fun c5 => ?_) (fun c5 => ?_)
      · rw [if_pos c5] at h
        refine aw_aload_n X dX4_readCure_37 rfl ?_
        refine aw_getr X dX4_readCure_38 fl_RX4_12 iu_RX4 gu_RX4_0 ?_
        obtain ⟨r6, er6, h⟩ := bnd h
        refine aw_callV X dX4_readCure_41 cv_RX4_98 (ok_X6_advance er6 _ _ _ _ _) iu_RX4_0 rfl (Nat.le_trans (by decide) hfr) (by decide) rfl rfl (Nat.le_of_ble_eq_true rfl) ?_
        refine aw_aload_n X dX4_readCure_44 rfl ?_
        refine aw_iconst (v := (-1)) X dX4_readCure_45 (by decide) ?_
        obtain ⟨r7, er7, h⟩ := bnd h
        refine aw_callV X dX4_readCure_46 cv_RX4_114 (ok_X4_takePerson er7 _ _ _ _ _) iu_RX4 rfl (Nat.le_trans (by decide) hfr) (by decide) rfl rfl (Nat.le_of_ble_eq_true rfl) ?_
        refine aw_istore_n (L' := [some (.ref (zr Z 172)), some (.int x1), some (.int (s 173 2)), some (.int r7.1), none]) X dX4_readCure_49 (by decide) rfl ?_
        refine aw_iload_n X dX4_readCure_50 rfl ?_
        refine aw_iconst (v := (-1)) X dX4_readCure_51 (by decide) ?_
        refine aw_icmp_ne (tgt := 57) X dX4_readCure_52 (by decide) (fun c8 => ?_) (fun c8 => ?_)
        · rw [if_neg c8] at h
          refine aw_iconst (v := 0) X dX4_readCure_57 (by decide) ?_
          refine aw_istore (L' := [some (.ref (zr Z 172)), some (.int x1), some (.int (s 173 2)), some (.int r7.1), some (.int 0)]) X dX4_readCure_58 (by decide) rfl ?_
          refine aw_iload_n X dX4_readCure_60 rfl ?_
          refine aw_bipush (v := 19) X dX4_readCure_61 (by decide) ?_
          refine aw_icmp_ne (tgt := 78) X dX4_readCure_63 (by decide) (fun c9 => ?_) (fun c9 => ?_)
          · rw [if_neg c9] at h
            refine aw_iload_n X dX4_readCure_78 rfl ?_
            refine aw_bipush (v := 20) X dX4_readCure_79 (by decide) ?_
            refine aw_icmp_ne (tgt := 91) X dX4_readCure_81 (by decide) (fun c10 => ?_) (fun c10 => ?_)
            · rw [if_neg c10] at h
              refine aw_msk [true, true, true, true, true] ?_
              exact jo_X4_readCure_91 hfr Z X _ _ _ _ _ _ hz h
            · rw [if_pos c10] at h
              refine aw_aload_n X dX4_readCure_84 rfl ?_
              refine aw_iload_n X dX4_readCure_85 rfl ?_
              obtain ⟨r16, er16, h⟩ := bnd h
              refine aw_callV X dX4_readCure_86 cv_RX4_114 (ok_X4_takePerson er16 _ _ _ _ _) iu_RX4 rfl (Nat.le_trans (by decide) hfr) (by decide) rfl rfl (Nat.le_of_ble_eq_true rfl) ?_
              refine aw_istore (L' := [some (.ref (zr Z 172)), some (.int x1), some (.int (s 173 2)), some (.int r7.1), some (.int r16.1)]) X dX4_readCure_89 (by decide) rfl ?_
              refine aw_msk [true, true, true, true, true] ?_
              exact jo_X4_readCure_91 hfr Z X _ _ _ _ _ _ hz h
          · rw [if_pos c9] at h
            refine aw_aload_n X dX4_readCure_66 rfl ?_
            refine aw_iconst (v := 1) X dX4_readCure_67 (by decide) ?_
            refine aw_bipush (v := 99) X dX4_readCure_68 (by decide) ?_
            obtain ⟨r17, er17, h⟩ := bnd h
            refine aw_callV X dX4_readCure_70 cv_RX4_101 (ok_X4_takeNumber er17 _ _ _ _ _) iu_RX4 rfl (Nat.le_trans (by decide) hfr) (by decide) rfl rfl (Nat.le_of_ble_eq_true rfl) ?_
            refine aw_istore (L' := [some (.ref (zr Z 172)), some (.int x1), some (.int (s 173 2)), some (.int r7.1), some (.int r17.1)]) X dX4_readCure_73 (by decide) rfl ?_
            refine aw_goto (tgt := 91) X dX4_readCure_75 (by decide) ?_
            refine aw_msk [true, true, true, true, true] ?_
            exact jo_X4_readCure_91 hfr Z X _ _ _ _ _ _ hz h
        · rw [if_pos c8] at h
          refine aw_iconst (v := 0) X dX4_readCure_55 (by decide) ?_
          cases h
          exact aw_zret X dX4_readCure_56 rfl rfl hz.symm
      · rw [if_neg c5] at h
        refine aw_msk [true, false, false, false, false] ?_
        exact jo_X4_readCure_31 hfr Z X _ _ hz h
set_option maxRecDepth 100000 in
set_option maxHeartbeats 4000000 in
theorem ok_X4_readCure {x1 : Int32} {s : Mem} {r : Int32 × Mem} (h : f_X4_readCure x1 s = some r) (l : Launch) (D : va_G) (ρ : Nat → Nat) (cA : ClassId × ClassId × ClassId) (τ : AT) : AM l D ρ cA 0 τ yX4_readCure cX4_readCure 5 (some .boolean) 4 [.ref (ρ 172), .int x1] (some (.int r.1)) s r.2 := by
  refine AM_of (L := [some (.ref (ρ 172)), some (.int x1), none, none, none]) (by decide) (by simp [Value.category]) (Nat.le_of_ble_eq_true rfl) (fun j v q => ?_) (fun Z X hρ hz hτ => ?_)
  · exact aL_ok (n := 3) [.ref (ρ 172), .int x1] j v q
  · subst hρ
    subst hτ
    exact w_X4_readCure (Nat.le_refl _) Z X x1 s r hz h

theorem dX4_takeWord_0 : decode cX4_takeWord 0 = .ok (.aload_n 0, 1) := by decide +kernel
theorem dX4_takeWord_1 : decode cX4_takeWord 1 = .ok (.getfield 12, 3) := by decide +kernel
theorem dX4_takeWord_4 : decode cX4_takeWord 4 = .ok (.iload_n 1, 1) := by decide +kernel
theorem dX4_takeWord_5 : decode cX4_takeWord 5 = .ok (.invokevirtual 77, 3) := by decide +kernel
theorem dX4_takeWord_8 : decode cX4_takeWord 8 = .ok (.ifCond .ne 9, 3) := by decide +kernel
theorem dX4_takeWord_11 : decode cX4_takeWord 11 = .ok (.aload_n 0, 1) := by decide +kernel
theorem dX4_takeWord_12 : decode cX4_takeWord 12 = .ok (.iconst 1, 1) := by decide +kernel
theorem dX4_takeWord_13 : decode cX4_takeWord 13 = .ok (.invokevirtual 95, 3) := by decide +kernel
theorem dX4_takeWord_16 : decode cX4_takeWord 16 = .ok (.ireturn, 1) := by decide +kernel
theorem dX4_takeWord_17 : decode cX4_takeWord 17 = .ok (.aload_n 0, 1) := by decide +kernel
theorem dX4_takeWord_18 : decode cX4_takeWord 18 = .ok (.getfield 12, 3) := by decide +kernel
theorem dX4_takeWord_21 : decode cX4_takeWord 21 = .ok (.invokevirtual 98, 3) := by decide +kernel
theorem dX4_takeWord_24 : decode cX4_takeWord 24 = .ok (.iconst 1, 1) := by decide +kernel
theorem dX4_takeWord_25 : decode cX4_takeWord 25 = .ok (.ireturn, 1) := by decide +kernel
set_option maxRecDepth 100000 in
set_option maxHeartbeats 4000000 in
theorem w_X4_takeWord {fr : Nat} (hfr : 1 ≤ fr) (Z : AZ) (X : AX Z cX4_takeWord 2 RX4 (some .boolean) 0 fr) (x1 : Int32) (s : Mem) (r : Int32 × Mem) (hz : zres Z = (some (.int r.1), r.2)) (h : f_X4_takeWord x1 s = some r) : AW Z s 0 [some (.ref (zr Z 172)), some (.int x1)] [] := by
  unfold f_X4_takeWord at h
  refine aw_aload_n X dX4_takeWord_0 rfl ?_
  refine aw_getr X dX4_takeWord_1 fl_RX4_12 iu_RX4 gu_RX4_0 ?_
  refine aw_iload_n X dX4_takeWord_4 rfl ?_
  obtain ⟨r1, er1, h⟩ := bnd h
  refine aw_callV X dX4_takeWord_5 cv_RX4_77 (ok_X6_isWord er1 _ _ _ _ _) iu_RX4_0 rfl (Nat.le_trans (by decide) hfr) (by decide) rfl rfl (Nat.le_of_ble_eq_true rfl) ?_
  refine aw_if_ne (tgt := 17) X dX4_takeWord_8 (by decide) (fun c2 => ?_) (fun c2 => ?_)
  · rw [if_neg c2] at h
    refine aw_aload_n X dX4_takeWord_17 rfl ?_
    refine aw_getr X dX4_takeWord_18 fl_RX4_12 iu_RX4 gu_RX4_0 ?_
    obtain ⟨r3, er3, h⟩ := bnd h
    refine aw_callV X dX4_takeWord_21 cv_RX4_98 (ok_X6_advance er3 _ _ _ _ _) iu_RX4_0 rfl (Nat.le_trans (by decide) hfr) (by decide) rfl rfl (Nat.le_of_ble_eq_true rfl) ?_
    refine aw_iconst (v := 1) X dX4_takeWord_24 (by decide) ?_
    cases h
    exact aw_zret X dX4_takeWord_25 rfl rfl hz.symm
  · rw [if_pos c2] at h
    refine aw_aload_n X dX4_takeWord_11 rfl ?_
    refine aw_iconst (v := 1) X dX4_takeWord_12 (by decide) ?_
    obtain ⟨r4, er4, h⟩ := bnd h
    refine aw_callV X dX4_takeWord_13 cv_RX4_95 (ok_X4_fail er4 _ _ _ _ _) iu_RX4 rfl (Nat.le_trans (by decide) hfr) (by decide) rfl rfl (Nat.le_of_ble_eq_true rfl) ?_
    by_cases c5 : ¬ (r4.1 = 0 ∨ r4.1 = 1)
    · rw [if_pos c5] at h
      cases h
    rw [if_neg c5] at h
    cases h
    exact aw_zret X dX4_takeWord_16 rfl (bz_n (Decidable.of_not_not c5)) hz.symm
set_option maxRecDepth 100000 in
set_option maxHeartbeats 4000000 in
theorem ok_X4_takeWord {x1 : Int32} {s : Mem} {r : Int32 × Mem} (h : f_X4_takeWord x1 s = some r) (l : Launch) (D : va_G) (ρ : Nat → Nat) (cA : ClassId × ClassId × ClassId) (τ : AT) : AM l D ρ cA 0 τ yX4_takeWord cX4_takeWord 2 (some .boolean) 1 [.ref (ρ 172), .int x1] (some (.int r.1)) s r.2 := by
  refine AM_of (L := [some (.ref (ρ 172)), some (.int x1)]) (by decide) (by simp [Value.category]) (Nat.le_of_ble_eq_true rfl) (fun j v q => ?_) (fun Z X hρ hz hτ => ?_)
  · exact aL_ok (n := 0) [.ref (ρ 172), .int x1] j v q
  · subst hρ
    subst hτ
    exact w_X4_takeWord (Nat.le_refl _) Z X x1 s r hz h

theorem dX4_readNaming_0 : decode cX4_readNaming 0 = .ok (.aload_n 0, 1) := by decide +kernel
theorem dX4_readNaming_1 : decode cX4_readNaming 1 = .ok (.bipush 16, 2) := by decide +kernel
theorem dX4_readNaming_3 : decode cX4_readNaming 3 = .ok (.invokevirtual 111, 3) := by decide +kernel
theorem dX4_readNaming_6 : decode cX4_readNaming 6 = .ok (.ifCond .ne 5, 3) := by decide +kernel
theorem dX4_readNaming_9 : decode cX4_readNaming 9 = .ok (.iconst 0, 1) := by decide +kernel
theorem dX4_readNaming_10 : decode cX4_readNaming 10 = .ok (.ireturn, 1) := by decide +kernel
theorem dX4_readNaming_11 : decode cX4_readNaming 11 = .ok (.aload_n 0, 1) := by decide +kernel
theorem dX4_readNaming_12 : decode cX4_readNaming 12 = .ok (.iconst (-1), 1) := by decide +kernel
theorem dX4_readNaming_13 : decode cX4_readNaming 13 = .ok (.invokevirtual 114, 3) := by decide +kernel
theorem dX4_readNaming_16 : decode cX4_readNaming 16 = .ok (.istore_n 2, 1) := by decide +kernel
theorem dX4_readNaming_17 : decode cX4_readNaming 17 = .ok (.iload_n 2, 1) := by decide +kernel
theorem dX4_readNaming_18 : decode cX4_readNaming 18 = .ok (.iconst (-1), 1) := by decide +kernel
theorem dX4_readNaming_19 : decode cX4_readNaming 19 = .ok (.if_icmp .eq 12, 3) := by decide +kernel
theorem dX4_readNaming_22 : decode cX4_readNaming 22 = .ok (.aload_n 0, 1) := by decide +kernel
theorem dX4_readNaming_23 : decode cX4_readNaming 23 = .ok (.bipush 17, 2) := by decide +kernel
theorem dX4_readNaming_25 : decode cX4_readNaming 25 = .ok (.invokevirtual 111, 3) := by decide +kernel
theorem dX4_readNaming_28 : decode cX4_readNaming 28 = .ok (.ifCond .ne 5, 3) := by decide +kernel
theorem dX4_readNaming_31 : decode cX4_readNaming 31 = .ok (.iconst 0, 1) := by decide +kernel
theorem dX4_readNaming_32 : decode cX4_readNaming 32 = .ok (.ireturn, 1) := by decide +kernel
theorem dX4_readNaming_33 : decode cX4_readNaming 33 = .ok (.aload_n 0, 1) := by decide +kernel
theorem dX4_readNaming_34 : decode cX4_readNaming 34 = .ok (.iload_n 2, 1) := by decide +kernel
theorem dX4_readNaming_35 : decode cX4_readNaming 35 = .ok (.invokevirtual 114, 3) := by decide +kernel
theorem dX4_readNaming_38 : decode cX4_readNaming 38 = .ok (.istore_n 3, 1) := by decide +kernel
theorem dX4_readNaming_39 : decode cX4_readNaming 39 = .ok (.iload_n 3, 1) := by decide +kernel
theorem dX4_readNaming_40 : decode cX4_readNaming 40 = .ok (.iconst (-1), 1) := by decide +kernel
theorem dX4_readNaming_41 : decode cX4_readNaming 41 = .ok (.if_icmp .ne 5, 3) := by decide +kernel
theorem dX4_readNaming_44 : decode cX4_readNaming 44 = .ok (.iconst 0, 1) := by decide +kernel
theorem dX4_readNaming_45 : decode cX4_readNaming 45 = .ok (.ireturn, 1) := by decide +kernel
theorem dX4_readNaming_46 : decode cX4_readNaming 46 = .ok (.aload_n 0, 1) := by decide +kernel
theorem dX4_readNaming_47 : decode cX4_readNaming 47 = .ok (.getfield 38, 3) := by decide +kernel
theorem dX4_readNaming_50 : decode cX4_readNaming 50 = .ok (.iload_n 1, 1) := by decide +kernel
theorem dX4_readNaming_51 : decode cX4_readNaming 51 = .ok (.iconst 0, 1) := by decide +kernel
theorem dX4_readNaming_52 : decode cX4_readNaming 52 = .ok (.iload_n 2, 1) := by decide +kernel
theorem dX4_readNaming_53 : decode cX4_readNaming 53 = .ok (.iload_n 3, 1) := by decide +kernel
theorem dX4_readNaming_54 : decode cX4_readNaming 54 = .ok (.invokevirtual 118, 3) := by decide +kernel
theorem dX4_readNaming_57 : decode cX4_readNaming 57 = .ok (.aload_n 0, 1) := by decide +kernel
theorem dX4_readNaming_58 : decode cX4_readNaming 58 = .ok (.bipush 59, 2) := by decide +kernel
theorem dX4_readNaming_60 : decode cX4_readNaming 60 = .ok (.invokevirtual 122, 3) := by decide +kernel
theorem dX4_readNaming_63 : decode cX4_readNaming 63 = .ok (.ireturn, 1) := by decide +kernel
set_option maxRecDepth 100000 in
set_option maxHeartbeats 4000000 in
theorem w_X4_readNaming {fr : Nat} (hfr : 4 ≤ fr) (Z : AZ) (X : AX Z cX4_readNaming 4 RX4 (some .boolean) 0 fr) (x1 : Int32) (s : Mem) (r : Int32 × Mem) (hz : zres Z = (some (.int r.1), r.2)) (h : f_X4_readNaming x1 s = some r) : AW Z s 0 [some (.ref (zr Z 172)), some (.int x1), none, none] [] := by
  unfold f_X4_readNaming at h
  refine aw_aload_n X dX4_readNaming_0 rfl ?_
  refine aw_bipush (v := 16) X dX4_readNaming_1 (by decide) ?_
  obtain ⟨r1, er1, h⟩ := bnd h
  refine aw_callV X dX4_readNaming_3 cv_RX4_111 (ok_X4_takeWord er1 _ _ _ _ _) iu_RX4 rfl (Nat.le_trans (by decide) hfr) (by decide) rfl rfl (Nat.le_of_ble_eq_true rfl) ?_
  refine aw_if_ne (tgt := 11) X dX4_readNaming_6 (by decide) (fun c2 => ?_) (fun c2 => ?_)
  · rw [if_neg c2] at h
    refine aw_aload_n X dX4_readNaming_11 rfl ?_
    refine aw_iconst (v := (-1)) X dX4_readNaming_12 (by decide) ?_
    obtain ⟨r3, er3, h⟩ := bnd h
    refine aw_callV X dX4_readNaming_13 cv_RX4_114 (ok_X4_takePerson er3 _ _ _ _ _) iu_RX4 rfl (Nat.le_trans (by decide) hfr) (by decide) rfl rfl (Nat.le_of_ble_eq_true rfl) ?_
    refine aw_istore_n (L' := [some (.ref (zr Z 172)), some (.int x1), some (.int r3.1), none]) X dX4_readNaming_16 (by decide) rfl ?_
    refine aw_iload_n X dX4_readNaming_17 rfl ?_
    refine aw_iconst (v := (-1)) X dX4_readNaming_18 (by decide) ?_
    refine aw_icmp_eq (tgt := 31) X dX4_readNaming_19 (by decide) (fun c4 => ?_) (fun c4 => ?_)
    · rw [if_pos c4] at h
      refine aw_iconst (v := 0) X dX4_readNaming_31 (by decide) ?_
      cases h
      exact aw_zret X dX4_readNaming_32 rfl rfl hz.symm
    · rw [if_neg c4] at h
      refine aw_aload_n X dX4_readNaming_22 rfl ?_
      refine aw_bipush (v := 17) X dX4_readNaming_23 (by decide) ?_
      obtain ⟨r5, er5, h⟩ := bnd h
      refine aw_callV X dX4_readNaming_25 cv_RX4_111 (ok_X4_takeWord er5 _ _ _ _ _) iu_RX4 rfl (Nat.le_trans (by decide) hfr) (by decide) rfl rfl (Nat.le_of_ble_eq_true rfl) ?_
      refine aw_if_ne (tgt := 33) X dX4_readNaming_28 (by decide) (fun c6 => ?_) (fun c6 => ?_)
      · rw [if_neg c6] at h
        refine aw_aload_n X dX4_readNaming_33 rfl ?_
        refine aw_iload_n X dX4_readNaming_34 rfl ?_
        obtain ⟨r7, er7, h⟩ := bnd h
        refine aw_callV X dX4_readNaming_35 cv_RX4_114 (ok_X4_takePerson er7 _ _ _ _ _) iu_RX4 rfl (Nat.le_trans (by decide) hfr) (by decide) rfl rfl (Nat.le_of_ble_eq_true rfl) ?_
        refine aw_istore_n (L' := [some (.ref (zr Z 172)), some (.int x1), some (.int r3.1), some (.int r7.1)]) X dX4_readNaming_38 (by decide) rfl ?_
        refine aw_iload_n X dX4_readNaming_39 rfl ?_
        refine aw_iconst (v := (-1)) X dX4_readNaming_40 (by decide) ?_
        refine aw_icmp_ne (tgt := 46) X dX4_readNaming_41 (by decide) (fun c8 => ?_) (fun c8 => ?_)
        · rw [if_neg c8] at h
          refine aw_aload_n X dX4_readNaming_46 rfl ?_
          refine aw_getr X dX4_readNaming_47 fl_RX4_38 iu_RX4 gu_RX4_5 ?_
          refine aw_iload_n X dX4_readNaming_50 rfl ?_
          refine aw_iconst (v := 0) X dX4_readNaming_51 (by decide) ?_
          refine aw_iload_n X dX4_readNaming_52 rfl ?_
          refine aw_iload_n X dX4_readNaming_53 rfl ?_
          obtain ⟨r9, er9, h⟩ := bnd h
          refine aw_callV X dX4_readNaming_54 cv_RX4_118 (ok_X5_addLine iu_RX4_5 er9 _ _ _ _ _) iu_RX4_5 rfl (Nat.le_trans (by decide) hfr) (by decide) rfl rfl (Nat.le_of_ble_eq_true rfl) ?_
          refine aw_aload_n X dX4_readNaming_57 rfl ?_
          refine aw_bipush (v := 59) X dX4_readNaming_58 (by decide) ?_
          obtain ⟨r10, er10, h⟩ := bnd h
          refine aw_callV X dX4_readNaming_60 cv_RX4_122 (ok_X4_takeSign er10 _ _ _ _ _) iu_RX4 rfl (Nat.le_trans (by decide) hfr) (by decide) rfl rfl (Nat.le_of_ble_eq_true rfl) ?_
          by_cases c11 : ¬ (r10.1 = 0 ∨ r10.1 = 1)
          · rw [if_pos c11] at h
            cases h
          rw [if_neg c11] at h
          cases h
          exact aw_zret X dX4_readNaming_63 rfl (bz_n (Decidable.of_not_not c11)) hz.symm
        · rw [if_pos c8] at h
          refine aw_iconst (v := 0) X dX4_readNaming_44 (by decide) ?_
          cases h
          exact aw_zret X dX4_readNaming_45 rfl rfl hz.symm
      · rw [if_pos c6] at h
        refine aw_iconst (v := 0) X dX4_readNaming_31 (by decide) ?_
        cases h
        exact aw_zret X dX4_readNaming_32 rfl rfl hz.symm
  · rw [if_pos c2] at h
    refine aw_iconst (v := 0) X dX4_readNaming_9 (by decide) ?_
    cases h
    exact aw_zret X dX4_readNaming_10 rfl rfl hz.symm
set_option maxRecDepth 100000 in
set_option maxHeartbeats 4000000 in
theorem ok_X4_readNaming {x1 : Int32} {s : Mem} {r : Int32 × Mem} (h : f_X4_readNaming x1 s = some r) (l : Launch) (D : va_G) (ρ : Nat → Nat) (cA : ClassId × ClassId × ClassId) (τ : AT) : AM l D ρ cA 0 τ yX4_readNaming cX4_readNaming 4 (some .boolean) 4 [.ref (ρ 172), .int x1] (some (.int r.1)) s r.2 := by
  refine AM_of (L := [some (.ref (ρ 172)), some (.int x1), none, none]) (by decide) (by simp [Value.category]) (Nat.le_of_ble_eq_true rfl) (fun j v q => ?_) (fun Z X hρ hz hτ => ?_)
  · exact aL_ok (n := 2) [.ref (ρ 172), .int x1] j v q
  · subst hρ
    subst hτ
    exact w_X4_readNaming (Nat.le_refl _) Z X x1 s r hz h

theorem dX4_readPlanLine_0 : decode cX4_readPlanLine 0 = .ok (.aload_n 0, 1) := by decide +kernel
theorem dX4_readPlanLine_1 : decode cX4_readPlanLine 1 = .ok (.getfield 12, 3) := by decide +kernel
theorem dX4_readPlanLine_4 : decode cX4_readPlanLine 4 = .ok (.invokevirtual 98, 3) := by decide +kernel
theorem dX4_readPlanLine_7 : decode cX4_readPlanLine 7 = .ok (.aload_n 0, 1) := by decide +kernel
theorem dX4_readPlanLine_8 : decode cX4_readPlanLine 8 = .ok (.iconst 0, 1) := by decide +kernel
theorem dX4_readPlanLine_9 : decode cX4_readPlanLine 9 = .ok (.sipush 999, 3) := by decide +kernel
theorem dX4_readPlanLine_12 : decode cX4_readPlanLine 12 = .ok (.invokevirtual 101, 3) := by decide +kernel
theorem dX4_readPlanLine_15 : decode cX4_readPlanLine 15 = .ok (.istore_n 2, 1) := by decide +kernel
theorem dX4_readPlanLine_16 : decode cX4_readPlanLine 16 = .ok (.iload_n 2, 1) := by decide +kernel
theorem dX4_readPlanLine_17 : decode cX4_readPlanLine 17 = .ok (.iconst (-1), 1) := by decide +kernel
theorem dX4_readPlanLine_18 : decode cX4_readPlanLine 18 = .ok (.if_icmp .ne 5, 3) := by decide +kernel
theorem dX4_readPlanLine_21 : decode cX4_readPlanLine 21 = .ok (.iconst 0, 1) := by decide +kernel
theorem dX4_readPlanLine_22 : decode cX4_readPlanLine 22 = .ok (.ireturn, 1) := by decide +kernel
theorem dX4_readPlanLine_23 : decode cX4_readPlanLine 23 = .ok (.iload_n 1, 1) := by decide +kernel
theorem dX4_readPlanLine_24 : decode cX4_readPlanLine 24 = .ok (.ifCond .eq 11, 3) := by decide +kernel
theorem dX4_readPlanLine_27 : decode cX4_readPlanLine 27 = .ok (.aload_n 0, 1) := by decide +kernel
theorem dX4_readPlanLine_28 : decode cX4_readPlanLine 28 = .ok (.iload_n 2, 1) := by decide +kernel
theorem dX4_readPlanLine_29 : decode cX4_readPlanLine 29 = .ok (.invokevirtual 105, 3) := by decide +kernel
theorem dX4_readPlanLine_32 : decode cX4_readPlanLine 32 = .ok (.goto 8, 3) := by decide +kernel
theorem dX4_readPlanLine_35 : decode cX4_readPlanLine 35 = .ok (.aload_n 0, 1) := by decide +kernel
theorem dX4_readPlanLine_36 : decode cX4_readPlanLine 36 = .ok (.iload_n 2, 1) := by decide +kernel
theorem dX4_readPlanLine_37 : decode cX4_readPlanLine 37 = .ok (.invokevirtual 108, 3) := by decide +kernel
theorem dX4_readPlanLine_40 : decode cX4_readPlanLine 40 = .ok (.ireturn, 1) := by decide +kernel
set_option maxRecDepth 100000 in
set_option maxHeartbeats 4000000 in
theorem w_X4_readPlanLine {fr : Nat} (hfr : 5 ≤ fr) (Z : AZ) (X : AX Z cX4_readPlanLine 3 RX4 (some .boolean) 0 fr) (x1 : Int32) (s : Mem) (r : Int32 × Mem) (hz : zres Z = (some (.int r.1), r.2)) (h : f_X4_readPlanLine x1 s = some r) : AW Z s 0 [some (.ref (zr Z 172)), some (.int x1), none] [] := by
  unfold f_X4_readPlanLine at h
  refine aw_aload_n X dX4_readPlanLine_0 rfl ?_
  refine aw_getr X dX4_readPlanLine_1 fl_RX4_12 iu_RX4 gu_RX4_0 ?_
  obtain ⟨r1, er1, h⟩ := bnd h
  refine aw_callV X dX4_readPlanLine_4 cv_RX4_98 (ok_X6_advance er1 _ _ _ _ _) iu_RX4_0 rfl (Nat.le_trans (by decide) hfr) (by decide) rfl rfl (Nat.le_of_ble_eq_true rfl) ?_
  refine aw_aload_n X dX4_readPlanLine_7 rfl ?_
  refine aw_iconst (v := 0) X dX4_readPlanLine_8 (by decide) ?_
  refine aw_sipush (v := 999) X dX4_readPlanLine_9 (by decide) ?_
  obtain ⟨r2, er2, h⟩ := bnd h
  refine aw_callV X dX4_readPlanLine_12 cv_RX4_101 (ok_X4_takeNumber er2 _ _ _ _ _) iu_RX4 rfl (Nat.le_trans (by decide) hfr) (by decide) rfl rfl (Nat.le_of_ble_eq_true rfl) ?_
  refine aw_istore_n (L' := [some (.ref (zr Z 172)), some (.int x1), some (.int r2.1)]) X dX4_readPlanLine_15 (by decide) rfl ?_
  refine aw_iload_n X dX4_readPlanLine_16 rfl ?_
  refine aw_iconst (v := (-1)) X dX4_readPlanLine_17 (by decide) ?_
  refine aw_icmp_ne (tgt := 23) X dX4_readPlanLine_18 (by decide) (fun c3 => ?_) (fun c3 => ?_)
  · rw [if_neg c3] at h
    refine aw_iload_n X dX4_readPlanLine_23 rfl ?_
    refine aw_if_eq (tgt := 35) X dX4_readPlanLine_24 (by decide) (fun c4 => ?_) (fun c4 => ?_)
    · rw [if_pos c4] at h
      refine aw_aload_n X dX4_readPlanLine_35 rfl ?_
      refine aw_iload_n X dX4_readPlanLine_36 rfl ?_
      obtain ⟨r5, er5, h⟩ := bnd h
      refine aw_callV X dX4_readPlanLine_37 cv_RX4_108 (ok_X4_readNaming er5 _ _ _ _ _) iu_RX4 rfl (Nat.le_trans (by decide) hfr) (by decide) rfl rfl (Nat.le_of_ble_eq_true rfl) ?_
      by_cases c6 : ¬ (r5.1 = 0 ∨ r5.1 = 1)
      · rw [if_pos c6] at h
        cases h
      rw [if_neg c6] at h
      cases h
      exact aw_zret X dX4_readPlanLine_40 rfl (bz_n (Decidable.of_not_not c6)) hz.symm
    · rw [if_neg c4] at h
      refine aw_aload_n X dX4_readPlanLine_27 rfl ?_
      refine aw_iload_n X dX4_readPlanLine_28 rfl ?_
      obtain ⟨r7, er7, h⟩ := bnd h
      refine aw_callV X dX4_readPlanLine_29 cv_RX4_105 (ok_X4_readCure er7 _ _ _ _ _) iu_RX4 rfl (Nat.le_trans (by decide) hfr) (by decide) rfl rfl (Nat.le_of_ble_eq_true rfl) ?_
      refine aw_goto (tgt := 40) X dX4_readPlanLine_32 (by decide) ?_
      by_cases c8 : ¬ (r7.1 = 0 ∨ r7.1 = 1)
      · rw [if_pos c8] at h
        cases h
      rw [if_neg c8] at h
      cases h
      exact aw_zret X dX4_readPlanLine_40 rfl (bz_n (Decidable.of_not_not c8)) hz.symm
  · rw [if_pos c3] at h
    refine aw_iconst (v := 0) X dX4_readPlanLine_21 (by decide) ?_
    cases h
    exact aw_zret X dX4_readPlanLine_22 rfl rfl hz.symm
set_option maxRecDepth 100000 in
set_option maxHeartbeats 4000000 in
theorem ok_X4_readPlanLine {x1 : Int32} {s : Mem} {r : Int32 × Mem} (h : f_X4_readPlanLine x1 s = some r) (l : Launch) (D : va_G) (ρ : Nat → Nat) (cA : ClassId × ClassId × ClassId) (τ : AT) : AM l D ρ cA 0 τ yX4_readPlanLine cX4_readPlanLine 3 (some .boolean) 5 [.ref (ρ 172), .int x1] (some (.int r.1)) s r.2 := by
  refine AM_of (L := [some (.ref (ρ 172)), some (.int x1), none]) (by decide) (by simp [Value.category]) (Nat.le_of_ble_eq_true rfl) (fun j v q => ?_) (fun Z X hρ hz hτ => ?_)
  · exact aL_ok (n := 1) [.ref (ρ 172), .int x1] j v q
  · subst hρ
    subst hτ
    exact w_X4_readPlanLine (Nat.le_refl _) Z X x1 s r hz h
