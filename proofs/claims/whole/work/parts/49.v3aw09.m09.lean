/-! ===== walks: X12_lawTells .. X12_sumOf ===== -/
theorem dX12_lawTells_0 : decode cX12_lawTells 0 = .ok (.aload_n 0, 1) := by decide +kernel
theorem dX12_lawTells_1 : decode cX12_lawTells 1 = .ok (.iload_n 1, 1) := by decide +kernel
theorem dX12_lawTells_2 : decode cX12_lawTells 2 = .ok (.invokevirtual 330, 3) := by decide +kernel
theorem dX12_lawTells_5 : decode cX12_lawTells 5 = .ok (.istore 5, 2) := by decide +kernel
theorem dX12_lawTells_7 : decode cX12_lawTells 7 = .ok (.aload_n 0, 1) := by decide +kernel
theorem dX12_lawTells_8 : decode cX12_lawTells 8 = .ok (.iload 5, 2) := by decide +kernel
theorem dX12_lawTells_10 : decode cX12_lawTells 10 = .ok (.iconst (-1), 1) := by decide +kernel
theorem dX12_lawTells_11 : decode cX12_lawTells 11 = .ok (.if_icmp .ne 7, 3) := by decide +kernel
theorem dX12_lawTells_14 : decode cX12_lawTells 14 = .ok (.iload_n 2, 1) := by decide +kernel
theorem dX12_lawTells_15 : decode cX12_lawTells 15 = .ok (.goto 22, 3) := by decide +kernel
theorem dX12_lawTells_18 : decode cX12_lawTells 18 = .ok (.aload_n 0, 1) := by decide +kernel
theorem dX12_lawTells_19 : decode cX12_lawTells 19 = .ok (.iconst 0, 1) := by decide +kernel
theorem dX12_lawTells_20 : decode cX12_lawTells 20 = .ok (.aload_n 0, 1) := by decide +kernel
theorem dX12_lawTells_21 : decode cX12_lawTells 21 = .ok (.getfield 34, 3) := by decide +kernel
theorem dX12_lawTells_24 : decode cX12_lawTells 24 = .ok (.iload 5, 2) := by decide +kernel
theorem dX12_lawTells_26 : decode cX12_lawTells 26 = .ok (.iaload, 1) := by decide +kernel
theorem dX12_lawTells_27 : decode cX12_lawTells 27 = .ok (.aload_n 0, 1) := by decide +kernel
theorem dX12_lawTells_28 : decode cX12_lawTells 28 = .ok (.getfield 37, 3) := by decide +kernel
theorem dX12_lawTells_31 : decode cX12_lawTells 31 = .ok (.iload 5, 2) := by decide +kernel
theorem dX12_lawTells_33 : decode cX12_lawTells 33 = .ok (.iaload, 1) := by decide +kernel
theorem dX12_lawTells_34 : decode cX12_lawTells 34 = .ok (.invokevirtual 305, 3) := by decide +kernel
theorem dX12_lawTells_37 : decode cX12_lawTells 37 = .ok (.iload_n 3, 1) := by decide +kernel
theorem dX12_lawTells_38 : decode cX12_lawTells 38 = .ok (.iload 4, 2) := by decide +kernel
theorem dX12_lawTells_40 : decode cX12_lawTells 40 = .ok (.invokevirtual 333, 3) := by decide +kernel
theorem dX12_lawTells_43 : decode cX12_lawTells 43 = .ok (.ireturn, 1) := by decide +kernel
set_option maxRecDepth 100000 in
set_option maxHeartbeats 4000000 in
theorem jo_X12_lawTells_37 {fr : Nat} (hfr : 3 ≤ fr) (Z : AZ) (X : AX Z cX12_lawTells 6 RX12 (some .int) 1 fr) (x3 : Int32) (x4 : Int32) (t1 : Int32) (s : Mem) (r : Int32 × Mem) (hz : zres Z = (some (.int r.1), r.2)) (h : jn_X12_lawTells_37 x3 x4 t1 s = some r) : AW Z s 37 [none, none, none, some (.int x3), some (.int x4), none] [.int t1, .ref (zr Z 0)] := by
  unfold jn_X12_lawTells_37 at h
  refine aw_iload_n X dX12_lawTells_37 rfl ?_
  refine aw_iload X dX12_lawTells_38 rfl ?_
  obtain ⟨r6, er6, h⟩ := bnd h
  refine aw_callV X dX12_lawTells_40 cv_RX12_333 (ok_X12_bounded er6 _ _ _ _ _) iu_RX12 rfl (Nat.le_trans (by decide) hfr) (by decide) rfl rfl (Nat.le_of_ble_eq_true rfl) ?_
  cases h
  exact aw_iret X dX12_lawTells_43 rfl hz.symm
set_option maxRecDepth 100000 in
set_option maxHeartbeats 4000000 in
theorem w_X12_lawTells {fr : Nat} (hfr : 3 ≤ fr) (Z : AZ) (X : AX Z cX12_lawTells 6 RX12 (some .int) 1 fr) (x1 : Int32) (x2 : Int32) (x3 : Int32) (x4 : Int32) (s : Mem) (r : Int32 × Mem) (hz : zres Z = (some (.int r.1), r.2)) (h : f_X12_lawTells x1 x2 x3 x4 s = some r) : AW Z s 0 [some (.ref (zr Z 0)), some (.int x1), some (.int x2), some (.int x3), some (.int x4), none] [] := by
  unfold f_X12_lawTells at h
  refine aw_aload_n X dX12_lawTells_0 rfl ?_
  refine aw_iload_n X dX12_lawTells_1 rfl ?_
  obtain ⟨r1, er1, h⟩ := bnd h
  refine aw_callV X dX12_lawTells_2 cv_RX12_330 (ok_X12_lineOf er1 _ _ _ _ _) iu_RX12 rfl (Nat.le_trans (by decide) hfr) (by decide) rfl rfl (Nat.le_of_ble_eq_true rfl) ?_
  refine aw_istore (L' := [some (.ref (zr Z 0)), some (.int x1), some (.int x2), some (.int x3), some (.int x4), some (.int r1.1)]) X dX12_lawTells_5 (by decide) rfl ?_
  refine aw_aload_n X dX12_lawTells_7 rfl ?_
  refine aw_iload X dX12_lawTells_8 rfl ?_
  refine aw_iconst (v := (-1)) X dX12_lawTells_10 (by decide) ?_
  refine aw_icmp_ne (tgt := 18) X dX12_lawTells_11 (by decide) (fun c2 => ?_) (fun c2 => ?_)
  · rw [if_neg c2] at h
    refine aw_aload_n X dX12_lawTells_18 rfl ?_
    refine aw_iconst (v := 0) X dX12_lawTells_19 (by decide) ?_
    refine aw_aload_n X dX12_lawTells_20 rfl ?_
    refine aw_getr X dX12_lawTells_21 fl_RX12_34 iu_RX12 gu_RX12_17 ?_
    refine aw_iload X dX12_lawTells_24 rfl ?_
    obtain ⟨v3, ev3, h⟩ := bnd h
    refine aw_iald X dX12_lawTells_26 iu_RX12_17 ev3 ?_
    refine aw_aload_n X dX12_lawTells_27 rfl ?_
    refine aw_getr X dX12_lawTells_28 fl_RX12_37 iu_RX12 gu_RX12_18 ?_
    refine aw_iload X dX12_lawTells_31 rfl ?_
    obtain ⟨v4, ev4, h⟩ := bnd h
    refine aw_iald X dX12_lawTells_33 iu_RX12_18 ev4 ?_
    obtain ⟨r5, er5, h⟩ := bnd h
    refine aw_callV X dX12_lawTells_34 cv_RX12_305 (ok_X12_runs er5 _ _ _ _ _) iu_RX12 rfl (Nat.le_trans (by decide) hfr) (by decide) rfl rfl (Nat.le_of_ble_eq_true rfl) ?_
    refine aw_msk [false, false, false, true, true, false] ?_
    exact jo_X12_lawTells_37 hfr Z X _ _ _ _ _ hz h
  · rw [if_pos c2] at h
    refine aw_iload_n X dX12_lawTells_14 rfl ?_
    refine aw_goto (tgt := 37) X dX12_lawTells_15 (by decide) ?_
    refine aw_msk [false, false, false, true, true, false] ?_
    exact jo_X12_lawTells_37 hfr Z X _ _ _ _ _ hz h
set_option maxRecDepth 100000 in
set_option maxHeartbeats 4000000 in
theorem ok_X12_lawTells {x1 x2 x3 x4 : Int32} {s : Mem} {r : Int32 × Mem} (h : f_X12_lawTells x1 x2 x3 x4 s = some r) (l : Launch) (D : va_G) (ρ : Nat → Nat) (cA : ClassId × ClassId × ClassId) (τ : AT) : AM l D ρ cA 1 τ yX12_lawTells cX12_lawTells 6 (some .int) 3 [.ref (ρ 0), .int x1, .int x2, .int x3, .int x4] (some (.int r.1)) s r.2 := by
  refine AM_of (L := [some (.ref (ρ 0)), some (.int x1), some (.int x2), some (.int x3), some (.int x4), none]) (by decide) (by simp [Value.category]) (Nat.le_of_ble_eq_true rfl) (fun j v q => ?_) (fun Z X hρ hz hτ => ?_)
  · exact aL_ok (n := 1) [.ref (ρ 0), .int x1, .int x2, .int x3, .int x4] j v q
  · subst hρ
    subst hτ
    exact w_X12_lawTells (Nat.le_refl _) Z X x1 x2 x3 x4 s r hz h

theorem dX12_hicsOf_0 : decode cX12_hicsOf 0 = .ok (.aload_n 0, 1) := by decide +kernel
theorem dX12_hicsOf_1 : decode cX12_hicsOf 1 = .ok (.iload_n 1, 1) := by decide +kernel
theorem dX12_hicsOf_2 : decode cX12_hicsOf 2 = .ok (.invokevirtual 336, 3) := by decide +kernel
theorem dX12_hicsOf_5 : decode cX12_hicsOf 5 = .ok (.aload_n 0, 1) := by decide +kernel
theorem dX12_hicsOf_6 : decode cX12_hicsOf 6 = .ok (.iconst 0, 1) := by decide +kernel
theorem dX12_hicsOf_7 : decode cX12_hicsOf 7 = .ok (.bipush 20, 2) := by decide +kernel
theorem dX12_hicsOf_9 : decode cX12_hicsOf 9 = .ok (.aload_n 0, 1) := by decide +kernel
theorem dX12_hicsOf_10 : decode cX12_hicsOf 10 = .ok (.getfield 68, 3) := by decide +kernel
theorem dX12_hicsOf_13 : decode cX12_hicsOf 13 = .ok (.iconst 0, 1) := by decide +kernel
theorem dX12_hicsOf_14 : decode cX12_hicsOf 14 = .ok (.iaload, 1) := by decide +kernel
theorem dX12_hicsOf_15 : decode cX12_hicsOf 15 = .ok (.isub, 1) := by decide +kernel
theorem dX12_hicsOf_16 : decode cX12_hicsOf 16 = .ok (.iconst 1, 1) := by decide +kernel
theorem dX12_hicsOf_17 : decode cX12_hicsOf 17 = .ok (.bipush 99, 2) := by decide +kernel
theorem dX12_hicsOf_19 : decode cX12_hicsOf 19 = .ok (.invokevirtual 339, 3) := by decide +kernel
theorem dX12_hicsOf_22 : decode cX12_hicsOf 22 = .ok (.ireturn, 1) := by decide +kernel
set_option maxRecDepth 100000 in
set_option maxHeartbeats 4000000 in
theorem w_X12_hicsOf {fr : Nat} (hfr : 4 ≤ fr) (Z : AZ) (X : AX Z cX12_hicsOf 2 RX12 (some .int) 1 fr) (x1 : Int32) (s : Mem) (r : Int32 × Mem) (hz : zres Z = (some (.int r.1), r.2)) (h : f_X12_hicsOf x1 s = some r) : AW Z s 0 [some (.ref (zr Z 0)), some (.int x1)] [] := by
  unfold f_X12_hicsOf at h
  refine aw_aload_n X dX12_hicsOf_0 rfl ?_
  refine aw_iload_n X dX12_hicsOf_1 rfl ?_
  obtain ⟨r1, er1, h⟩ := bnd h
  refine aw_callV X dX12_hicsOf_2 cv_RX12_336 (ok_X12_asks er1 _ _ _ _ _) iu_RX12 rfl (Nat.le_trans (by decide) hfr) (by decide) rfl rfl (Nat.le_of_ble_eq_true rfl) ?_
  refine aw_aload_n X dX12_hicsOf_5 rfl ?_
  refine aw_iconst (v := 0) X dX12_hicsOf_6 (by decide) ?_
  refine aw_bipush (v := 20) X dX12_hicsOf_7 (by decide) ?_
  refine aw_aload_n X dX12_hicsOf_9 rfl ?_
  refine aw_getr X dX12_hicsOf_10 fl_RX12_68 iu_RX12 gu_RX12_38 ?_
  refine aw_iconst (v := 0) X dX12_hicsOf_13 (by decide) ?_
  obtain ⟨v2, ev2, h⟩ := bnd h
  refine aw_iald X dX12_hicsOf_14 iu_RX12_38 ev2 ?_
  refine aw_isub X dX12_hicsOf_15 ?_
  refine aw_iconst (v := 1) X dX12_hicsOf_16 (by decide) ?_
  refine aw_bipush (v := 99) X dX12_hicsOf_17 (by decide) ?_
  obtain ⟨r3, er3, h⟩ := bnd h
  refine aw_callV X dX12_hicsOf_19 cv_RX12_339 (ok_X12_lawTells er3 _ _ _ _ _) iu_RX12 rfl (Nat.le_trans (by decide) hfr) (by decide) rfl rfl (Nat.le_of_ble_eq_true rfl) ?_
  cases h
  exact aw_iret X dX12_hicsOf_22 rfl hz.symm
set_option maxRecDepth 100000 in
set_option maxHeartbeats 4000000 in
theorem ok_X12_hicsOf {x1 : Int32} {s : Mem} {r : Int32 × Mem} (h : f_X12_hicsOf x1 s = some r) (l : Launch) (D : va_G) (ρ : Nat → Nat) (cA : ClassId × ClassId × ClassId) (τ : AT) : AM l D ρ cA 1 τ yX12_hicsOf cX12_hicsOf 2 (some .int) 4 [.ref (ρ 0), .int x1] (some (.int r.1)) s r.2 := by
  refine AM_of (L := [some (.ref (ρ 0)), some (.int x1)]) (by decide) (by simp [Value.category]) (Nat.le_of_ble_eq_true rfl) (fun j v q => ?_) (fun Z X hρ hz hτ => ?_)
  · exact aL_ok (n := 0) [.ref (ρ 0), .int x1] j v q
  · subst hρ
    subst hτ
    exact w_X12_hicsOf (Nat.le_refl _) Z X x1 s r hz h

theorem dX12_stopsOf_0 : decode cX12_stopsOf 0 = .ok (.aload_n 0, 1) := by decide +kernel
theorem dX12_stopsOf_1 : decode cX12_stopsOf 1 = .ok (.iload_n 1, 1) := by decide +kernel
theorem dX12_stopsOf_2 : decode cX12_stopsOf 2 = .ok (.invokevirtual 336, 3) := by decide +kernel
theorem dX12_stopsOf_5 : decode cX12_stopsOf 5 = .ok (.aload_n 0, 1) := by decide +kernel
theorem dX12_stopsOf_6 : decode cX12_stopsOf 6 = .ok (.iconst 1, 1) := by decide +kernel
theorem dX12_stopsOf_7 : decode cX12_stopsOf 7 = .ok (.bipush 50, 2) := by decide +kernel
theorem dX12_stopsOf_9 : decode cX12_stopsOf 9 = .ok (.bipush 20, 2) := by decide +kernel
theorem dX12_stopsOf_11 : decode cX12_stopsOf 11 = .ok (.aload_n 0, 1) := by decide +kernel
theorem dX12_stopsOf_12 : decode cX12_stopsOf 12 = .ok (.getfield 68, 3) := by decide +kernel
theorem dX12_stopsOf_15 : decode cX12_stopsOf 15 = .ok (.iconst 0, 1) := by decide +kernel
theorem dX12_stopsOf_16 : decode cX12_stopsOf 16 = .ok (.iaload, 1) := by decide +kernel
theorem dX12_stopsOf_17 : decode cX12_stopsOf 17 = .ok (.imul, 1) := by decide +kernel
theorem dX12_stopsOf_18 : decode cX12_stopsOf 18 = .ok (.iadd, 1) := by decide +kernel
theorem dX12_stopsOf_19 : decode cX12_stopsOf 19 = .ok (.iconst 0, 1) := by decide +kernel
theorem dX12_stopsOf_20 : decode cX12_stopsOf 20 = .ok (.sipush 1000, 3) := by decide +kernel
theorem dX12_stopsOf_23 : decode cX12_stopsOf 23 = .ok (.invokevirtual 339, 3) := by decide +kernel
theorem dX12_stopsOf_26 : decode cX12_stopsOf 26 = .ok (.ireturn, 1) := by decide +kernel
set_option maxRecDepth 100000 in
set_option maxHeartbeats 4000000 in
theorem w_X12_stopsOf {fr : Nat} (hfr : 4 ≤ fr) (Z : AZ) (X : AX Z cX12_stopsOf 2 RX12 (some .int) 1 fr) (x1 : Int32) (s : Mem) (r : Int32 × Mem) (hz : zres Z = (some (.int r.1), r.2)) (h : f_X12_stopsOf x1 s = some r) : AW Z s 0 [some (.ref (zr Z 0)), some (.int x1)] [] := by
  unfold f_X12_stopsOf at h
  refine aw_aload_n X dX12_stopsOf_0 rfl ?_
  refine aw_iload_n X dX12_stopsOf_1 rfl ?_
  obtain ⟨r1, er1, h⟩ := bnd h
  refine aw_callV X dX12_stopsOf_2 cv_RX12_336 (ok_X12_asks er1 _ _ _ _ _) iu_RX12 rfl (Nat.le_trans (by decide) hfr) (by decide) rfl rfl (Nat.le_of_ble_eq_true rfl) ?_
  refine aw_aload_n X dX12_stopsOf_5 rfl ?_
  refine aw_iconst (v := 1) X dX12_stopsOf_6 (by decide) ?_
  refine aw_bipush (v := 50) X dX12_stopsOf_7 (by decide) ?_
  refine aw_bipush (v := 20) X dX12_stopsOf_9 (by decide) ?_
  refine aw_aload_n X dX12_stopsOf_11 rfl ?_
  refine aw_getr X dX12_stopsOf_12 fl_RX12_68 iu_RX12 gu_RX12_38 ?_
  refine aw_iconst (v := 0) X dX12_stopsOf_15 (by decide) ?_
  obtain ⟨v2, ev2, h⟩ := bnd h
  refine aw_iald X dX12_stopsOf_16 iu_RX12_38 ev2 ?_
  refine aw_imul X dX12_stopsOf_17 ?_
  refine aw_iadd X dX12_stopsOf_18 ?_
  refine aw_iconst (v := 0) X dX12_stopsOf_19 (by decide) ?_
  refine aw_sipush (v := 1000) X dX12_stopsOf_20 (by decide) ?_
  obtain ⟨r3, er3, h⟩ := bnd h
  refine aw_callV X dX12_stopsOf_23 cv_RX12_339 (ok_X12_lawTells er3 _ _ _ _ _) iu_RX12 rfl (Nat.le_trans (by decide) hfr) (by decide) rfl rfl (Nat.le_of_ble_eq_true rfl) ?_
  cases h
  exact aw_iret X dX12_stopsOf_26 rfl hz.symm
set_option maxRecDepth 100000 in
set_option maxHeartbeats 4000000 in
theorem ok_X12_stopsOf {x1 : Int32} {s : Mem} {r : Int32 × Mem} (h : f_X12_stopsOf x1 s = some r) (l : Launch) (D : va_G) (ρ : Nat → Nat) (cA : ClassId × ClassId × ClassId) (τ : AT) : AM l D ρ cA 1 τ yX12_stopsOf cX12_stopsOf 2 (some .int) 4 [.ref (ρ 0), .int x1] (some (.int r.1)) s r.2 := by
  refine AM_of (L := [some (.ref (ρ 0)), some (.int x1)]) (by decide) (by simp [Value.category]) (Nat.le_of_ble_eq_true rfl) (fun j v q => ?_) (fun Z X hρ hz hτ => ?_)
  · exact aL_ok (n := 0) [.ref (ρ 0), .int x1] j v q
  · subst hρ
    subst hτ
    exact w_X12_stopsOf (Nat.le_refl _) Z X x1 s r hz h

theorem dX12_passesOf_0 : decode cX12_passesOf 0 = .ok (.aload_n 0, 1) := by decide +kernel
theorem dX12_passesOf_1 : decode cX12_passesOf 1 = .ok (.iload_n 1, 1) := by decide +kernel
theorem dX12_passesOf_2 : decode cX12_passesOf 2 = .ok (.invokevirtual 336, 3) := by decide +kernel
theorem dX12_passesOf_5 : decode cX12_passesOf 5 = .ok (.aload_n 0, 1) := by decide +kernel
theorem dX12_passesOf_6 : decode cX12_passesOf 6 = .ok (.iconst 2, 1) := by decide +kernel
theorem dX12_passesOf_7 : decode cX12_passesOf 7 = .ok (.aload_n 0, 1) := by decide +kernel
theorem dX12_passesOf_8 : decode cX12_passesOf 8 = .ok (.getfield 68, 3) := by decide +kernel
theorem dX12_passesOf_11 : decode cX12_passesOf 11 = .ok (.iconst 1, 1) := by decide +kernel
theorem dX12_passesOf_12 : decode cX12_passesOf 12 = .ok (.iaload, 1) := by decide +kernel
theorem dX12_passesOf_13 : decode cX12_passesOf 13 = .ok (.iconst 2, 1) := by decide +kernel
theorem dX12_passesOf_14 : decode cX12_passesOf 14 = .ok (.idiv, 1) := by decide +kernel
theorem dX12_passesOf_15 : decode cX12_passesOf 15 = .ok (.iconst 0, 1) := by decide +kernel
theorem dX12_passesOf_16 : decode cX12_passesOf 16 = .ok (.bipush 99, 2) := by decide +kernel
theorem dX12_passesOf_18 : decode cX12_passesOf 18 = .ok (.invokevirtual 339, 3) := by decide +kernel
theorem dX12_passesOf_21 : decode cX12_passesOf 21 = .ok (.ireturn, 1) := by decide +kernel
set_option maxRecDepth 100000 in
set_option maxHeartbeats 4000000 in
theorem w_X12_passesOf {fr : Nat} (hfr : 4 ≤ fr) (Z : AZ) (X : AX Z cX12_passesOf 2 RX12 (some .int) 1 fr) (x1 : Int32) (s : Mem) (r : Int32 × Mem) (hz : zres Z = (some (.int r.1), r.2)) (h : f_X12_passesOf x1 s = some r) : AW Z s 0 [some (.ref (zr Z 0)), some (.int x1)] [] := by
  unfold f_X12_passesOf at h
  refine aw_aload_n X dX12_passesOf_0 rfl ?_
  refine aw_iload_n X dX12_passesOf_1 rfl ?_
  obtain ⟨r1, er1, h⟩ := bnd h
  refine aw_callV X dX12_passesOf_2 cv_RX12_336 (ok_X12_asks er1 _ _ _ _ _) iu_RX12 rfl (Nat.le_trans (by decide) hfr) (by decide) rfl rfl (Nat.le_of_ble_eq_true rfl) ?_
  refine aw_aload_n X dX12_passesOf_5 rfl ?_
  refine aw_iconst (v := 2) X dX12_passesOf_6 (by decide) ?_
  refine aw_aload_n X dX12_passesOf_7 rfl ?_
  refine aw_getr X dX12_passesOf_8 fl_RX12_68 iu_RX12 gu_RX12_38 ?_
  refine aw_iconst (v := 1) X dX12_passesOf_11 (by decide) ?_
  obtain ⟨v2, ev2, h⟩ := bnd h
  refine aw_iald X dX12_passesOf_12 iu_RX12_38 ev2 ?_
  refine aw_iconst (v := 2) X dX12_passesOf_13 (by decide) ?_
  refine aw_idiv X dX12_passesOf_14 (by decide) ?_
  refine aw_iconst (v := 0) X dX12_passesOf_15 (by decide) ?_
  refine aw_bipush (v := 99) X dX12_passesOf_16 (by decide) ?_
  obtain ⟨r3, er3, h⟩ := bnd h
  refine aw_callV X dX12_passesOf_18 cv_RX12_339 (ok_X12_lawTells er3 _ _ _ _ _) iu_RX12 rfl (Nat.le_trans (by decide) hfr) (by decide) rfl rfl (Nat.le_of_ble_eq_true rfl) ?_
  cases h
  exact aw_iret X dX12_passesOf_21 rfl hz.symm
set_option maxRecDepth 100000 in
set_option maxHeartbeats 4000000 in
theorem ok_X12_passesOf {x1 : Int32} {s : Mem} {r : Int32 × Mem} (h : f_X12_passesOf x1 s = some r) (l : Launch) (D : va_G) (ρ : Nat → Nat) (cA : ClassId × ClassId × ClassId) (τ : AT) : AM l D ρ cA 1 τ yX12_passesOf cX12_passesOf 2 (some .int) 4 [.ref (ρ 0), .int x1] (some (.int r.1)) s r.2 := by
  refine AM_of (L := [some (.ref (ρ 0)), some (.int x1)]) (by decide) (by simp [Value.category]) (Nat.le_of_ble_eq_true rfl) (fun j v q => ?_) (fun Z X hρ hz hτ => ?_)
  · exact aL_ok (n := 0) [.ref (ρ 0), .int x1] j v q
  · subst hρ
    subst hτ
    exact w_X12_passesOf (Nat.le_refl _) Z X x1 s r hz h

theorem dX12_notes_0 : decode cX12_notes 0 = .ok (.aload_n 0, 1) := by decide +kernel
theorem dX12_notes_1 : decode cX12_notes 1 = .ok (.getfield 128, 3) := by decide +kernel
theorem dX12_notes_4 : decode cX12_notes 4 = .ok (.ifCond .ne 15, 3) := by decide +kernel
theorem dX12_notes_7 : decode cX12_notes 7 = .ok (.aload_n 0, 1) := by decide +kernel
theorem dX12_notes_8 : decode cX12_notes 8 = .ok (.getfield 7, 3) := by decide +kernel
theorem dX12_notes_11 : decode cX12_notes 11 = .ok (.iconst 2, 1) := by decide +kernel
theorem dX12_notes_12 : decode cX12_notes 12 = .ok (.iaload, 1) := by decide +kernel
theorem dX12_notes_13 : decode cX12_notes 13 = .ok (.sipush 150, 3) := by decide +kernel
theorem dX12_notes_16 : decode cX12_notes 16 = .ok (.if_icmp .ne 4, 3) := by decide +kernel
theorem dX12_notes_19 : decode cX12_notes 19 = .ok (.return_, 1) := by decide +kernel
theorem dX12_notes_20 : decode cX12_notes 20 = .ok (.iconst 4, 1) := by decide +kernel
theorem dX12_notes_21 : decode cX12_notes 21 = .ok (.aload_n 0, 1) := by decide +kernel
theorem dX12_notes_22 : decode cX12_notes 22 = .ok (.getfield 7, 3) := by decide +kernel
theorem dX12_notes_25 : decode cX12_notes 25 = .ok (.iconst 2, 1) := by decide +kernel
theorem dX12_notes_26 : decode cX12_notes 26 = .ok (.iaload, 1) := by decide +kernel
theorem dX12_notes_27 : decode cX12_notes 27 = .ok (.imul, 1) := by decide +kernel
theorem dX12_notes_28 : decode cX12_notes 28 = .ok (.istore 4, 2) := by decide +kernel
theorem dX12_notes_30 : decode cX12_notes 30 = .ok (.aload_n 0, 1) := by decide +kernel
theorem dX12_notes_31 : decode cX12_notes 31 = .ok (.getfield 19, 3) := by decide +kernel
theorem dX12_notes_34 : decode cX12_notes 34 = .ok (.iload 4, 2) := by decide +kernel
theorem dX12_notes_36 : decode cX12_notes 36 = .ok (.aload_n 0, 1) := by decide +kernel
theorem dX12_notes_37 : decode cX12_notes 37 = .ok (.getfield 7, 3) := by decide +kernel
theorem dX12_notes_40 : decode cX12_notes 40 = .ok (.iconst 0, 1) := by decide +kernel
theorem dX12_notes_41 : decode cX12_notes 41 = .ok (.iaload, 1) := by decide +kernel
theorem dX12_notes_42 : decode cX12_notes 42 = .ok (.iastore, 1) := by decide +kernel
theorem dX12_notes_43 : decode cX12_notes 43 = .ok (.aload_n 0, 1) := by decide +kernel
theorem dX12_notes_44 : decode cX12_notes 44 = .ok (.getfield 19, 3) := by decide +kernel
theorem dX12_notes_47 : decode cX12_notes 47 = .ok (.iload 4, 2) := by decide +kernel
theorem dX12_notes_49 : decode cX12_notes 49 = .ok (.iconst 1, 1) := by decide +kernel
theorem dX12_notes_50 : decode cX12_notes 50 = .ok (.iadd, 1) := by decide +kernel
theorem dX12_notes_51 : decode cX12_notes 51 = .ok (.iload_n 1, 1) := by decide +kernel
theorem dX12_notes_52 : decode cX12_notes 52 = .ok (.iastore, 1) := by decide +kernel
theorem dX12_notes_53 : decode cX12_notes 53 = .ok (.aload_n 0, 1) := by decide +kernel
theorem dX12_notes_54 : decode cX12_notes 54 = .ok (.getfield 19, 3) := by decide +kernel
theorem dX12_notes_57 : decode cX12_notes 57 = .ok (.iload 4, 2) := by decide +kernel
theorem dX12_notes_59 : decode cX12_notes 59 = .ok (.iconst 2, 1) := by decide +kernel
theorem dX12_notes_60 : decode cX12_notes 60 = .ok (.iadd, 1) := by decide +kernel
theorem dX12_notes_61 : decode cX12_notes 61 = .ok (.iload_n 2, 1) := by decide +kernel
theorem dX12_notes_62 : decode cX12_notes 62 = .ok (.iastore, 1) := by decide +kernel
theorem dX12_notes_63 : decode cX12_notes 63 = .ok (.aload_n 0, 1) := by decide +kernel
theorem dX12_notes_64 : decode cX12_notes 64 = .ok (.getfield 19, 3) := by decide +kernel
theorem dX12_notes_67 : decode cX12_notes 67 = .ok (.iload 4, 2) := by decide +kernel
theorem dX12_notes_69 : decode cX12_notes 69 = .ok (.iconst 3, 1) := by decide +kernel
theorem dX12_notes_70 : decode cX12_notes 70 = .ok (.iadd, 1) := by decide +kernel
theorem dX12_notes_71 : decode cX12_notes 71 = .ok (.iload_n 3, 1) := by decide +kernel
theorem dX12_notes_72 : decode cX12_notes 72 = .ok (.iastore, 1) := by decide +kernel
theorem dX12_notes_73 : decode cX12_notes 73 = .ok (.aload_n 0, 1) := by decide +kernel
theorem dX12_notes_74 : decode cX12_notes 74 = .ok (.getfield 7, 3) := by decide +kernel
theorem dX12_notes_77 : decode cX12_notes 77 = .ok (.iconst 2, 1) := by decide +kernel
theorem dX12_notes_78 : decode cX12_notes 78 = .ok (.aload_n 0, 1) := by decide +kernel
theorem dX12_notes_79 : decode cX12_notes 79 = .ok (.getfield 7, 3) := by decide +kernel
theorem dX12_notes_82 : decode cX12_notes 82 = .ok (.iconst 2, 1) := by decide +kernel
theorem dX12_notes_83 : decode cX12_notes 83 = .ok (.iaload, 1) := by decide +kernel
theorem dX12_notes_84 : decode cX12_notes 84 = .ok (.iconst 1, 1) := by decide +kernel
theorem dX12_notes_85 : decode cX12_notes 85 = .ok (.iadd, 1) := by decide +kernel
theorem dX12_notes_86 : decode cX12_notes 86 = .ok (.iastore, 1) := by decide +kernel
theorem dX12_notes_87 : decode cX12_notes 87 = .ok (.return_, 1) := by decide +kernel
set_option maxRecDepth 100000 in
set_option maxHeartbeats 4000000 in
theorem w_X12_notes {fr : Nat} (hfr : 0 ≤ fr) (Z : AZ) (X : AX Z cX12_notes 5 RX12 none 1 fr) (x1 : Int32) (x2 : Int32) (x3 : Int32) (s : Mem) (r : Mem) (hz : zres Z = (none, r)) (h : f_X12_notes x1 x2 x3 s = some r) : AW Z s 0 [some (.ref (zr Z 0)), some (.int x1), some (.int x2), some (.int x3), none] [] := by
  unfold f_X12_notes at h
  refine aw_aload_n X dX12_notes_0 rfl ?_
  refine aw_geti X dX12_notes_1 fl_RX12_128 iu_RX12 gu_RX12_5 ?_
  refine aw_if_ne (tgt := 19) X dX12_notes_4 (by decide) (fun c1 => ?_) (fun c1 => ?_)
  · rw [if_neg c1] at h
    cases h
    exact aw_vret X dX12_notes_19 rfl hz.symm
  · rw [if_pos c1] at h
    refine aw_aload_n X dX12_notes_7 rfl ?_
    refine aw_getr X dX12_notes_8 fl_RX12_7 iu_RX12 gu_RX12_1 ?_
    refine aw_iconst (v := 2) X dX12_notes_11 (by decide) ?_
    obtain ⟨v2, ev2, h⟩ := bnd h
    refine aw_iald X dX12_notes_12 iu_RX12_1 ev2 ?_
    refine aw_sipush (v := 150) X dX12_notes_13 (by decide) ?_
    refine aw_icmp_ne (tgt := 20) X dX12_notes_16 (by decide) (fun c3 => ?_) (fun c3 => ?_)
    · rw [if_neg c3] at h
      refine aw_iconst (v := 4) X dX12_notes_20 (by decide) ?_
      refine aw_aload_n X dX12_notes_21 rfl ?_
      refine aw_getr X dX12_notes_22 fl_RX12_7 iu_RX12 gu_RX12_1 ?_
      refine aw_iconst (v := 2) X dX12_notes_25 (by decide) ?_
      obtain ⟨v4, ev4, h⟩ := bnd h
      refine aw_iald X dX12_notes_26 iu_RX12_1 ev4 ?_
      refine aw_imul X dX12_notes_27 ?_
      refine aw_istore (L' := [some (.ref (zr Z 0)), some (.int x1), some (.int x2), some (.int x3), some (.int (4 * v4))]) X dX12_notes_28 (by decide) rfl ?_
      refine aw_aload_n X dX12_notes_30 rfl ?_
      refine aw_getr X dX12_notes_31 fl_RX12_19 iu_RX12 gu_RX12_7 ?_
      refine aw_iload X dX12_notes_34 rfl ?_
      refine aw_aload_n X dX12_notes_36 rfl ?_
      refine aw_getr X dX12_notes_37 fl_RX12_7 iu_RX12 gu_RX12_1 ?_
      refine aw_iconst (v := 0) X dX12_notes_40 (by decide) ?_
      obtain ⟨v5, ev5, h⟩ := bnd h
      refine aw_iald X dX12_notes_41 iu_RX12_1 ev5 ?_
      obtain ⟨s6, es6, h⟩ := bnd h
      refine aw_iast X dX12_notes_42 iu_RX12_7 es6 ?_
      refine aw_aload_n X dX12_notes_43 rfl ?_
      refine aw_getr X dX12_notes_44 fl_RX12_19 iu_RX12 gu_RX12_7 ?_
      refine aw_iload X dX12_notes_47 rfl ?_
      refine aw_iconst (v := 1) X dX12_notes_49 (by decide) ?_
      refine aw_iadd X dX12_notes_50 ?_
      refine aw_iload_n X dX12_notes_51 rfl ?_
      obtain ⟨s7, es7, h⟩ := bnd h
      refine aw_iast X dX12_notes_52 iu_RX12_7 es7 ?_
      refine aw_aload_n X dX12_notes_53 rfl ?_
      refine aw_getr X dX12_notes_54 fl_RX12_19 iu_RX12 gu_RX12_7 ?_
      refine aw_iload X dX12_notes_57 rfl ?_
      refine aw_iconst (v := 2) X dX12_notes_59 (by decide) ?_
      refine aw_iadd X dX12_notes_60 ?_
      refine aw_iload_n X dX12_notes_61 rfl ?_
      obtain ⟨s8, es8, h⟩ := bnd h
      refine aw_iast X dX12_notes_62 iu_RX12_7 es8 ?_
      refine aw_aload_n X dX12_notes_63 rfl ?_
      refine aw_getr X dX12_notes_64 fl_RX12_19 iu_RX12 gu_RX12_7 ?_
      refine aw_iload X dX12_notes_67 rfl ?_
      refine aw_iconst (v := 3) X dX12_notes_69 (by decide) ?_
      refine aw_iadd X dX12_notes_70 ?_
      refine aw_iload_n X dX12_notes_71 rfl ?_
      obtain ⟨s9, es9, h⟩ := bnd h
      refine aw_iast X dX12_notes_72 iu_RX12_7 es9 ?_
      refine aw_aload_n X dX12_notes_73 rfl ?_
      refine aw_getr X dX12_notes_74 fl_RX12_7 iu_RX12 gu_RX12_1 ?_
      refine aw_iconst (v := 2) X dX12_notes_77 (by decide) ?_
      refine aw_aload_n X dX12_notes_78 rfl ?_
      refine aw_getr X dX12_notes_79 fl_RX12_7 iu_RX12 gu_RX12_1 ?_
      refine aw_iconst (v := 2) X dX12_notes_82 (by decide) ?_
      obtain ⟨v10, ev10, h⟩ := bnd h
      refine aw_iald X dX12_notes_83 iu_RX12_1 ev10 ?_
      refine aw_iconst (v := 1) X dX12_notes_84 (by decide) ?_
      refine aw_iadd X dX12_notes_85 ?_
      obtain ⟨s11, es11, h⟩ := bnd h
      refine aw_iast X dX12_notes_86 iu_RX12_1 es11 ?_
      cases h
      exact aw_vret X dX12_notes_87 rfl hz.symm
    · rw [if_pos c3] at h
      cases h
      exact aw_vret X dX12_notes_19 rfl hz.symm
set_option maxRecDepth 100000 in
set_option maxHeartbeats 4000000 in
theorem ok_X12_notes {x1 x2 x3 : Int32} {s : Mem} {r : Mem} (h : f_X12_notes x1 x2 x3 s = some r) (l : Launch) (D : va_G) (ρ : Nat → Nat) (cA : ClassId × ClassId × ClassId) (τ : AT) : AM l D ρ cA 1 τ yX12_notes cX12_notes 5 none 0 [.ref (ρ 0), .int x1, .int x2, .int x3] none s r := by
  refine AM_of (L := [some (.ref (ρ 0)), some (.int x1), some (.int x2), some (.int x3), none]) (by decide) (by simp [Value.category]) (Nat.le_of_ble_eq_true rfl) (fun j v q => ?_) (fun Z X hρ hz hτ => ?_)
  · exact aL_ok (n := 1) [.ref (ρ 0), .int x1, .int x2, .int x3] j v q
  · subst hρ
    subst hτ
    exact w_X12_notes (Nat.le_refl _) Z X x1 x2 x3 s r hz h

theorem dX12_isNamed_0 : decode cX12_isNamed 0 = .ok (.aload_n 0, 1) := by decide +kernel
theorem dX12_isNamed_1 : decode cX12_isNamed 1 = .ok (.getfield 7, 3) := by decide +kernel
theorem dX12_isNamed_4 : decode cX12_isNamed 4 = .ok (.bipush 60, 2) := by decide +kernel
theorem dX12_isNamed_6 : decode cX12_isNamed 6 = .ok (.iload_n 1, 1) := by decide +kernel
theorem dX12_isNamed_7 : decode cX12_isNamed 7 = .ok (.iadd, 1) := by decide +kernel
theorem dX12_isNamed_8 : decode cX12_isNamed 8 = .ok (.aload_n 0, 1) := by decide +kernel
theorem dX12_isNamed_9 : decode cX12_isNamed 9 = .ok (.getfield 7, 3) := by decide +kernel
theorem dX12_isNamed_12 : decode cX12_isNamed 12 = .ok (.bipush 60, 2) := by decide +kernel
theorem dX12_isNamed_14 : decode cX12_isNamed 14 = .ok (.iload_n 1, 1) := by decide +kernel
theorem dX12_isNamed_15 : decode cX12_isNamed 15 = .ok (.iadd, 1) := by decide +kernel
theorem dX12_isNamed_16 : decode cX12_isNamed 16 = .ok (.iaload, 1) := by decide +kernel
theorem dX12_isNamed_17 : decode cX12_isNamed 17 = .ok (.iconst 1, 1) := by decide +kernel
theorem dX12_isNamed_18 : decode cX12_isNamed 18 = .ok (.iadd, 1) := by decide +kernel
theorem dX12_isNamed_19 : decode cX12_isNamed 19 = .ok (.iastore, 1) := by decide +kernel
theorem dX12_isNamed_20 : decode cX12_isNamed 20 = .ok (.aload_n 0, 1) := by decide +kernel
theorem dX12_isNamed_21 : decode cX12_isNamed 21 = .ok (.getfield 7, 3) := by decide +kernel
theorem dX12_isNamed_24 : decode cX12_isNamed 24 = .ok (.bipush 18, 2) := by decide +kernel
theorem dX12_isNamed_26 : decode cX12_isNamed 26 = .ok (.iload_n 1, 1) := by decide +kernel
theorem dX12_isNamed_27 : decode cX12_isNamed 27 = .ok (.iadd, 1) := by decide +kernel
theorem dX12_isNamed_28 : decode cX12_isNamed 28 = .ok (.aload_n 0, 1) := by decide +kernel
theorem dX12_isNamed_29 : decode cX12_isNamed 29 = .ok (.bipush 99, 2) := by decide +kernel
theorem dX12_isNamed_31 : decode cX12_isNamed 31 = .ok (.aload_n 0, 1) := by decide +kernel
theorem dX12_isNamed_32 : decode cX12_isNamed 32 = .ok (.getfield 7, 3) := by decide +kernel
theorem dX12_isNamed_35 : decode cX12_isNamed 35 = .ok (.bipush 18, 2) := by decide +kernel
theorem dX12_isNamed_37 : decode cX12_isNamed 37 = .ok (.iload_n 1, 1) := by decide +kernel
theorem dX12_isNamed_38 : decode cX12_isNamed 38 = .ok (.iadd, 1) := by decide +kernel
theorem dX12_isNamed_39 : decode cX12_isNamed 39 = .ok (.iaload, 1) := by decide +kernel
theorem dX12_isNamed_40 : decode cX12_isNamed 40 = .ok (.aload_n 0, 1) := by decide +kernel
theorem dX12_isNamed_41 : decode cX12_isNamed 41 = .ok (.iload_n 1, 1) := by decide +kernel
theorem dX12_isNamed_42 : decode cX12_isNamed 42 = .ok (.invokevirtual 343, 3) := by decide +kernel
theorem dX12_isNamed_45 : decode cX12_isNamed 45 = .ok (.iadd, 1) := by decide +kernel
theorem dX12_isNamed_46 : decode cX12_isNamed 46 = .ok (.invokevirtual 346, 3) := by decide +kernel
theorem dX12_isNamed_49 : decode cX12_isNamed 49 = .ok (.iastore, 1) := by decide +kernel
theorem dX12_isNamed_50 : decode cX12_isNamed 50 = .ok (.aload_n 0, 1) := by decide +kernel
theorem dX12_isNamed_51 : decode cX12_isNamed 51 = .ok (.getfield 7, 3) := by decide +kernel
theorem dX12_isNamed_54 : decode cX12_isNamed 54 = .ok (.bipush 32, 2) := by decide +kernel
theorem dX12_isNamed_56 : decode cX12_isNamed 56 = .ok (.iload_n 1, 1) := by decide +kernel
theorem dX12_isNamed_57 : decode cX12_isNamed 57 = .ok (.iadd, 1) := by decide +kernel
theorem dX12_isNamed_58 : decode cX12_isNamed 58 = .ok (.iload_n 2, 1) := by decide +kernel
theorem dX12_isNamed_59 : decode cX12_isNamed 59 = .ok (.iconst 1, 1) := by decide +kernel
theorem dX12_isNamed_60 : decode cX12_isNamed 60 = .ok (.iadd, 1) := by decide +kernel
theorem dX12_isNamed_61 : decode cX12_isNamed 61 = .ok (.iastore, 1) := by decide +kernel
theorem dX12_isNamed_62 : decode cX12_isNamed 62 = .ok (.aload_n 0, 1) := by decide +kernel
theorem dX12_isNamed_63 : decode cX12_isNamed 63 = .ok (.getfield 7, 3) := by decide +kernel
theorem dX12_isNamed_66 : decode cX12_isNamed 66 = .ok (.bipush 46, 2) := by decide +kernel
theorem dX12_isNamed_68 : decode cX12_isNamed 68 = .ok (.iload_n 1, 1) := by decide +kernel
theorem dX12_isNamed_69 : decode cX12_isNamed 69 = .ok (.iadd, 1) := by decide +kernel
theorem dX12_isNamed_70 : decode cX12_isNamed 70 = .ok (.iconst 0, 1) := by decide +kernel
theorem dX12_isNamed_71 : decode cX12_isNamed 71 = .ok (.iastore, 1) := by decide +kernel
theorem dX12_isNamed_72 : decode cX12_isNamed 72 = .ok (.aload_n 0, 1) := by decide +kernel
theorem dX12_isNamed_73 : decode cX12_isNamed 73 = .ok (.iconst 0, 1) := by decide +kernel
theorem dX12_isNamed_74 : decode cX12_isNamed 74 = .ok (.iload_n 1, 1) := by decide +kernel
theorem dX12_isNamed_75 : decode cX12_isNamed 75 = .ok (.aload_n 0, 1) := by decide +kernel
theorem dX12_isNamed_76 : decode cX12_isNamed 76 = .ok (.getfield 7, 3) := by decide +kernel
theorem dX12_isNamed_79 : decode cX12_isNamed 79 = .ok (.bipush 18, 2) := by decide +kernel
theorem dX12_isNamed_81 : decode cX12_isNamed 81 = .ok (.iload_n 1, 1) := by decide +kernel
theorem dX12_isNamed_82 : decode cX12_isNamed 82 = .ok (.iadd, 1) := by decide +kernel
theorem dX12_isNamed_83 : decode cX12_isNamed 83 = .ok (.iaload, 1) := by decide +kernel
theorem dX12_isNamed_84 : decode cX12_isNamed 84 = .ok (.invokevirtual 349, 3) := by decide +kernel
theorem dX12_isNamed_87 : decode cX12_isNamed 87 = .ok (.return_, 1) := by decide +kernel
set_option maxRecDepth 100000 in
set_option maxHeartbeats 4000000 in
theorem w_X12_isNamed {fr : Nat} (hfr : 5 ≤ fr) (Z : AZ) (X : AX Z cX12_isNamed 3 RX12 none 1 fr) (x1 : Int32) (x2 : Int32) (s : Mem) (r : Mem) (hz : zres Z = (none, r)) (h : f_X12_isNamed x1 x2 s = some r) : AW Z s 0 [some (.ref (zr Z 0)), some (.int x1), some (.int x2)] [] := by
  unfold f_X12_isNamed at h
  refine aw_aload_n X dX12_isNamed_0 rfl ?_
  refine aw_getr X dX12_isNamed_1 fl_RX12_7 iu_RX12 gu_RX12_1 ?_
  refine aw_bipush (v := 60) X dX12_isNamed_4 (by decide) ?_
  refine aw_iload_n X dX12_isNamed_6 rfl ?_
  refine aw_iadd X dX12_isNamed_7 ?_
  refine aw_aload_n X dX12_isNamed_8 rfl ?_
  refine aw_getr X dX12_isNamed_9 fl_RX12_7 iu_RX12 gu_RX12_1 ?_
  refine aw_bipush (v := 60) X dX12_isNamed_12 (by decide) ?_
  refine aw_iload_n X dX12_isNamed_14 rfl ?_
  refine aw_iadd X dX12_isNamed_15 ?_
  obtain ⟨v1, ev1, h⟩ := bnd h
  refine aw_iald X dX12_isNamed_16 iu_RX12_1 ev1 ?_
  refine aw_iconst (v := 1) X dX12_isNamed_17 (by decide) ?_
  refine aw_iadd X dX12_isNamed_18 ?_
  obtain ⟨s2, es2, h⟩ := bnd h
  refine aw_iast X dX12_isNamed_19 iu_RX12_1 es2 ?_
  refine aw_aload_n X dX12_isNamed_20 rfl ?_
  refine aw_getr X dX12_isNamed_21 fl_RX12_7 iu_RX12 gu_RX12_1 ?_
  refine aw_bipush (v := 18) X dX12_isNamed_24 (by decide) ?_
  refine aw_iload_n X dX12_isNamed_26 rfl ?_
  refine aw_iadd X dX12_isNamed_27 ?_
  refine aw_aload_n X dX12_isNamed_28 rfl ?_
  refine aw_bipush (v := 99) X dX12_isNamed_29 (by decide) ?_
  refine aw_aload_n X dX12_isNamed_31 rfl ?_
  refine aw_getr X dX12_isNamed_32 fl_RX12_7 iu_RX12 gu_RX12_1 ?_
  refine aw_bipush (v := 18) X dX12_isNamed_35 (by decide) ?_
  refine aw_iload_n X dX12_isNamed_37 rfl ?_
  refine aw_iadd X dX12_isNamed_38 ?_
  obtain ⟨v3, ev3, h⟩ := bnd h
  refine aw_iald X dX12_isNamed_39 iu_RX12_1 ev3 ?_
  refine aw_aload_n X dX12_isNamed_40 rfl ?_
  refine aw_iload_n X dX12_isNamed_41 rfl ?_
  obtain ⟨r4, er4, h⟩ := bnd h
  refine aw_callV X dX12_isNamed_42 cv_RX12_343 (ok_X12_hicsOf er4 _ _ _ _ _) iu_RX12 rfl (Nat.le_trans (by decide) hfr) (by decide) rfl rfl (Nat.le_of_ble_eq_true rfl) ?_
  refine aw_iadd X dX12_isNamed_45 ?_
  obtain ⟨r5, er5, h⟩ := bnd h
  refine aw_callV X dX12_isNamed_46 cv_RX12_346 (ok_X12_lesser er5 _ _ _ _ _) iu_RX12 rfl (Nat.le_trans (by decide) hfr) (by decide) rfl rfl (Nat.le_of_ble_eq_true rfl) ?_
  obtain ⟨s6, es6, h⟩ := bnd h
  refine aw_iast X dX12_isNamed_49 iu_RX12_1 es6 ?_
  refine aw_aload_n X dX12_isNamed_50 rfl ?_
  refine aw_getr X dX12_isNamed_51 fl_RX12_7 iu_RX12 gu_RX12_1 ?_
  refine aw_bipush (v := 32) X dX12_isNamed_54 (by decide) ?_
  refine aw_iload_n X dX12_isNamed_56 rfl ?_
  refine aw_iadd X dX12_isNamed_57 ?_
  refine aw_iload_n X dX12_isNamed_58 rfl ?_
  refine aw_iconst (v := 1) X dX12_isNamed_59 (by decide) ?_
  refine aw_iadd X dX12_isNamed_60 ?_
  obtain ⟨s7, es7, h⟩ := bnd h
  refine aw_iast X dX12_isNamed_61 iu_RX12_1 es7 ?_
  refine aw_aload_n X dX12_isNamed_62 rfl ?_
  refine aw_getr X dX12_isNamed_63 fl_RX12_7 iu_RX12 gu_RX12_1 ?_
  refine aw_bipush (v := 46) X dX12_isNamed_66 (by decide) ?_
  refine aw_iload_n X dX12_isNamed_68 rfl ?_
  refine aw_iadd X dX12_isNamed_69 ?_
  refine aw_iconst (v := 0) X dX12_isNamed_70 (by decide) ?_
  obtain ⟨s8, es8, h⟩ := bnd h
  refine aw_iast X dX12_isNamed_71 iu_RX12_1 es8 ?_
  refine aw_aload_n X dX12_isNamed_72 rfl ?_
  refine aw_iconst (v := 0) X dX12_isNamed_73 (by decide) ?_
  refine aw_iload_n X dX12_isNamed_74 rfl ?_
  refine aw_aload_n X dX12_isNamed_75 rfl ?_
  refine aw_getr X dX12_isNamed_76 fl_RX12_7 iu_RX12 gu_RX12_1 ?_
  refine aw_bipush (v := 18) X dX12_isNamed_79 (by decide) ?_
  refine aw_iload_n X dX12_isNamed_81 rfl ?_
  refine aw_iadd X dX12_isNamed_82 ?_
  obtain ⟨v9, ev9, h⟩ := bnd h
  refine aw_iald X dX12_isNamed_83 iu_RX12_1 ev9 ?_
  obtain ⟨r10, er10, h⟩ := bnd h
  refine aw_callV X dX12_isNamed_84 cv_RX12_349 (ok_X12_notes er10 _ _ _ _ _) iu_RX12 rfl (Nat.le_trans (by decide) hfr) (by decide) rfl rfl (Nat.le_of_ble_eq_true rfl) ?_
  cases h
  exact aw_vret X dX12_isNamed_87 rfl hz.symm
set_option maxRecDepth 100000 in
set_option maxHeartbeats 4000000 in
theorem ok_X12_isNamed {x1 x2 : Int32} {s : Mem} {r : Mem} (h : f_X12_isNamed x1 x2 s = some r) (l : Launch) (D : va_G) (ρ : Nat → Nat) (cA : ClassId × ClassId × ClassId) (τ : AT) : AM l D ρ cA 1 τ yX12_isNamed cX12_isNamed 3 none 5 [.ref (ρ 0), .int x1, .int x2] none s r := by
  refine AM_of (L := [some (.ref (ρ 0)), some (.int x1), some (.int x2)]) (by decide) (by simp [Value.category]) (Nat.le_of_ble_eq_true rfl) (fun j v q => ?_) (fun Z X hρ hz hτ => ?_)
  · exact aL_ok (n := 0) [.ref (ρ 0), .int x1, .int x2] j v q
  · subst hρ
    subst hτ
    exact w_X12_isNamed (Nat.le_refl _) Z X x1 x2 s r hz h

theorem dX12_isFrightened_0 : decode cX12_isFrightened 0 = .ok (.aload_n 0, 1) := by decide +kernel
theorem dX12_isFrightened_1 : decode cX12_isFrightened 1 = .ok (.iload_n 1, 1) := by decide +kernel
theorem dX12_isFrightened_2 : decode cX12_isFrightened 2 = .ok (.aload_n 0, 1) := by decide +kernel
theorem dX12_isFrightened_3 : decode cX12_isFrightened 3 = .ok (.getfield 7, 3) := by decide +kernel
theorem dX12_isFrightened_6 : decode cX12_isFrightened 6 = .ok (.bipush 18, 2) := by decide +kernel
theorem dX12_isFrightened_8 : decode cX12_isFrightened 8 = .ok (.iload_n 1, 1) := by decide +kernel
theorem dX12_isFrightened_9 : decode cX12_isFrightened 9 = .ok (.iadd, 1) := by decide +kernel
theorem dX12_isFrightened_10 : decode cX12_isFrightened 10 = .ok (.iaload, 1) := by decide +kernel
theorem dX12_isFrightened_11 : decode cX12_isFrightened 11 = .ok (.iconst 2, 1) := by decide +kernel
theorem dX12_isFrightened_12 : decode cX12_isFrightened 12 = .ok (.idiv, 1) := by decide +kernel
theorem dX12_isFrightened_13 : decode cX12_isFrightened 13 = .ok (.invokevirtual 145, 3) := by decide +kernel
theorem dX12_isFrightened_16 : decode cX12_isFrightened 16 = .ok (.aload_n 0, 1) := by decide +kernel
theorem dX12_isFrightened_17 : decode cX12_isFrightened 17 = .ok (.getfield 7, 3) := by decide +kernel
theorem dX12_isFrightened_20 : decode cX12_isFrightened 20 = .ok (.bipush 88, 2) := by decide +kernel
theorem dX12_isFrightened_22 : decode cX12_isFrightened 22 = .ok (.iload_n 1, 1) := by decide +kernel
theorem dX12_isFrightened_23 : decode cX12_isFrightened 23 = .ok (.iadd, 1) := by decide +kernel
theorem dX12_isFrightened_24 : decode cX12_isFrightened 24 = .ok (.aload_n 0, 1) := by decide +kernel
theorem dX12_isFrightened_25 : decode cX12_isFrightened 25 = .ok (.getfield 7, 3) := by decide +kernel
theorem dX12_isFrightened_28 : decode cX12_isFrightened 28 = .ok (.bipush 88, 2) := by decide +kernel
theorem dX12_isFrightened_30 : decode cX12_isFrightened 30 = .ok (.iload_n 1, 1) := by decide +kernel
theorem dX12_isFrightened_31 : decode cX12_isFrightened 31 = .ok (.iadd, 1) := by decide +kernel
theorem dX12_isFrightened_32 : decode cX12_isFrightened 32 = .ok (.iaload, 1) := by decide +kernel
theorem dX12_isFrightened_33 : decode cX12_isFrightened 33 = .ok (.iconst 1, 1) := by decide +kernel
theorem dX12_isFrightened_34 : decode cX12_isFrightened 34 = .ok (.iadd, 1) := by decide +kernel
theorem dX12_isFrightened_35 : decode cX12_isFrightened 35 = .ok (.iastore, 1) := by decide +kernel
theorem dX12_isFrightened_36 : decode cX12_isFrightened 36 = .ok (.aload_n 0, 1) := by decide +kernel
theorem dX12_isFrightened_37 : decode cX12_isFrightened 37 = .ok (.iconst 5, 1) := by decide +kernel
theorem dX12_isFrightened_38 : decode cX12_isFrightened 38 = .ok (.iload_n 1, 1) := by decide +kernel
theorem dX12_isFrightened_39 : decode cX12_isFrightened 39 = .ok (.aload_n 0, 1) := by decide +kernel
theorem dX12_isFrightened_40 : decode cX12_isFrightened 40 = .ok (.getfield 7, 3) := by decide +kernel
theorem dX12_isFrightened_43 : decode cX12_isFrightened 43 = .ok (.bipush 18, 2) := by decide +kernel
theorem dX12_isFrightened_45 : decode cX12_isFrightened 45 = .ok (.iload_n 1, 1) := by decide +kernel
theorem dX12_isFrightened_46 : decode cX12_isFrightened 46 = .ok (.iadd, 1) := by decide +kernel
theorem dX12_isFrightened_47 : decode cX12_isFrightened 47 = .ok (.iaload, 1) := by decide +kernel
theorem dX12_isFrightened_48 : decode cX12_isFrightened 48 = .ok (.invokevirtual 349, 3) := by decide +kernel
theorem dX12_isFrightened_51 : decode cX12_isFrightened 51 = .ok (.return_, 1) := by decide +kernel
set_option maxRecDepth 100000 in
set_option maxHeartbeats 4000000 in
theorem w_X12_isFrightened {fr : Nat} (hfr : 1 ≤ fr) (Z : AZ) (X : AX Z cX12_isFrightened 2 RX12 none 1 fr) (x1 : Int32) (s : Mem) (r : Mem) (hz : zres Z = (none, r)) (h : f_X12_isFrightened x1 s = some r) : AW Z s 0 [some (.ref (zr Z 0)), some (.int x1)] [] := by
  unfold f_X12_isFrightened at h
  refine aw_aload_n X dX12_isFrightened_0 rfl ?_
  refine aw_iload_n X dX12_isFrightened_1 rfl ?_
  refine aw_aload_n X dX12_isFrightened_2 rfl ?_
  refine aw_getr X dX12_isFrightened_3 fl_RX12_7 iu_RX12 gu_RX12_1 ?_
  refine aw_bipush (v := 18) X dX12_isFrightened_6 (by decide) ?_
  refine aw_iload_n X dX12_isFrightened_8 rfl ?_
  refine aw_iadd X dX12_isFrightened_9 ?_
  obtain ⟨v1, ev1, h⟩ := bnd h
  refine aw_iald X dX12_isFrightened_10 iu_RX12_1 ev1 ?_
  refine aw_iconst (v := 2) X dX12_isFrightened_11 (by decide) ?_
  refine aw_idiv X dX12_isFrightened_12 (by decide) ?_
  obtain ⟨r2, er2, h⟩ := bnd h
  refine aw_callV X dX12_isFrightened_13 cv_RX12_145 (ok_X12_hasThen er2 _ _ _ _ _) iu_RX12 rfl (Nat.le_trans (by decide) hfr) (by decide) rfl rfl (Nat.le_of_ble_eq_true rfl) ?_
  refine aw_aload_n X dX12_isFrightened_16 rfl ?_
  refine aw_getr X dX12_isFrightened_17 fl_RX12_7 iu_RX12 gu_RX12_1 ?_
  refine aw_bipush (v := 88) X dX12_isFrightened_20 (by decide) ?_
  refine aw_iload_n X dX12_isFrightened_22 rfl ?_
  refine aw_iadd X dX12_isFrightened_23 ?_
  refine aw_aload_n X dX12_isFrightened_24 rfl ?_
  refine aw_getr X dX12_isFrightened_25 fl_RX12_7 iu_RX12 gu_RX12_1 ?_
  refine aw_bipush (v := 88) X dX12_isFrightened_28 (by decide) ?_
  refine aw_iload_n X dX12_isFrightened_30 rfl ?_
  refine aw_iadd X dX12_isFrightened_31 ?_
  obtain ⟨v3, ev3, h⟩ := bnd h
  refine aw_iald X dX12_isFrightened_32 iu_RX12_1 ev3 ?_
  refine aw_iconst (v := 1) X dX12_isFrightened_33 (by decide) ?_
  refine aw_iadd X dX12_isFrightened_34 ?_
  obtain ⟨s4, es4, h⟩ := bnd h
  refine aw_iast X dX12_isFrightened_35 iu_RX12_1 es4 ?_
  refine aw_aload_n X dX12_isFrightened_36 rfl ?_
  refine aw_iconst (v := 5) X dX12_isFrightened_37 (by decide) ?_
  refine aw_iload_n X dX12_isFrightened_38 rfl ?_
  refine aw_aload_n X dX12_isFrightened_39 rfl ?_
  refine aw_getr X dX12_isFrightened_40 fl_RX12_7 iu_RX12 gu_RX12_1 ?_
  refine aw_bipush (v := 18) X dX12_isFrightened_43 (by decide) ?_
  refine aw_iload_n X dX12_isFrightened_45 rfl ?_
  refine aw_iadd X dX12_isFrightened_46 ?_
  obtain ⟨v5, ev5, h⟩ := bnd h
  refine aw_iald X dX12_isFrightened_47 iu_RX12_1 ev5 ?_
  obtain ⟨r6, er6, h⟩ := bnd h
  refine aw_callV X dX12_isFrightened_48 cv_RX12_349 (ok_X12_notes er6 _ _ _ _ _) iu_RX12 rfl (Nat.le_trans (by decide) hfr) (by decide) rfl rfl (Nat.le_of_ble_eq_true rfl) ?_
  cases h
  exact aw_vret X dX12_isFrightened_51 rfl hz.symm
set_option maxRecDepth 100000 in
set_option maxHeartbeats 4000000 in
theorem ok_X12_isFrightened {x1 : Int32} {s : Mem} {r : Mem} (h : f_X12_isFrightened x1 s = some r) (l : Launch) (D : va_G) (ρ : Nat → Nat) (cA : ClassId × ClassId × ClassId) (τ : AT) : AM l D ρ cA 1 τ yX12_isFrightened cX12_isFrightened 2 none 1 [.ref (ρ 0), .int x1] none s r := by
  refine AM_of (L := [some (.ref (ρ 0)), some (.int x1)]) (by decide) (by simp [Value.category]) (Nat.le_of_ble_eq_true rfl) (fun j v q => ?_) (fun Z X hρ hz hτ => ?_)
  · exact aL_ok (n := 0) [.ref (ρ 0), .int x1] j v q
  · subst hρ
    subst hτ
    exact w_X12_isFrightened (Nat.le_refl _) Z X x1 s r hz h

theorem dX12_getsFrom_0 : decode cX12_getsFrom 0 = .ok (.aload_n 0, 1) := by decide +kernel
theorem dX12_getsFrom_1 : decode cX12_getsFrom 1 = .ok (.getfield 7, 3) := by decide +kernel
theorem dX12_getsFrom_4 : decode cX12_getsFrom 4 = .ok (.bipush 18, 2) := by decide +kernel
theorem dX12_getsFrom_6 : decode cX12_getsFrom 6 = .ok (.iload_n 1, 1) := by decide +kernel
theorem dX12_getsFrom_7 : decode cX12_getsFrom 7 = .ok (.iadd, 1) := by decide +kernel
theorem dX12_getsFrom_8 : decode cX12_getsFrom 8 = .ok (.aload_n 0, 1) := by decide +kernel
theorem dX12_getsFrom_9 : decode cX12_getsFrom 9 = .ok (.bipush 99, 2) := by decide +kernel
theorem dX12_getsFrom_11 : decode cX12_getsFrom 11 = .ok (.aload_n 0, 1) := by decide +kernel
theorem dX12_getsFrom_12 : decode cX12_getsFrom 12 = .ok (.getfield 7, 3) := by decide +kernel
theorem dX12_getsFrom_15 : decode cX12_getsFrom 15 = .ok (.bipush 18, 2) := by decide +kernel
theorem dX12_getsFrom_17 : decode cX12_getsFrom 17 = .ok (.iload_n 1, 1) := by decide +kernel
theorem dX12_getsFrom_18 : decode cX12_getsFrom 18 = .ok (.iadd, 1) := by decide +kernel
theorem dX12_getsFrom_19 : decode cX12_getsFrom 19 = .ok (.iaload, 1) := by decide +kernel
theorem dX12_getsFrom_20 : decode cX12_getsFrom 20 = .ok (.iload_n 2, 1) := by decide +kernel
theorem dX12_getsFrom_21 : decode cX12_getsFrom 21 = .ok (.iadd, 1) := by decide +kernel
theorem dX12_getsFrom_22 : decode cX12_getsFrom 22 = .ok (.invokevirtual 346, 3) := by decide +kernel
theorem dX12_getsFrom_25 : decode cX12_getsFrom 25 = .ok (.iastore, 1) := by decide +kernel
theorem dX12_getsFrom_26 : decode cX12_getsFrom 26 = .ok (.iload_n 2, 1) := by decide +kernel
theorem dX12_getsFrom_27 : decode cX12_getsFrom 27 = .ok (.ifCond .ne 4, 3) := by decide +kernel
theorem dX12_getsFrom_30 : decode cX12_getsFrom 30 = .ok (.return_, 1) := by decide +kernel
theorem dX12_getsFrom_31 : decode cX12_getsFrom 31 = .ok (.aload_n 0, 1) := by decide +kernel
theorem dX12_getsFrom_32 : decode cX12_getsFrom 32 = .ok (.getfield 7, 3) := by decide +kernel
theorem dX12_getsFrom_35 : decode cX12_getsFrom 35 = .ok (.bipush 32, 2) := by decide +kernel
theorem dX12_getsFrom_37 : decode cX12_getsFrom 37 = .ok (.iload_n 1, 1) := by decide +kernel
theorem dX12_getsFrom_38 : decode cX12_getsFrom 38 = .ok (.iadd, 1) := by decide +kernel
theorem dX12_getsFrom_39 : decode cX12_getsFrom 39 = .ok (.iload_n 3, 1) := by decide +kernel
theorem dX12_getsFrom_40 : decode cX12_getsFrom 40 = .ok (.iconst 1, 1) := by decide +kernel
theorem dX12_getsFrom_41 : decode cX12_getsFrom 41 = .ok (.iadd, 1) := by decide +kernel
theorem dX12_getsFrom_42 : decode cX12_getsFrom 42 = .ok (.iastore, 1) := by decide +kernel
theorem dX12_getsFrom_43 : decode cX12_getsFrom 43 = .ok (.aload_n 0, 1) := by decide +kernel
theorem dX12_getsFrom_44 : decode cX12_getsFrom 44 = .ok (.getfield 7, 3) := by decide +kernel
theorem dX12_getsFrom_47 : decode cX12_getsFrom 47 = .ok (.bipush 46, 2) := by decide +kernel
theorem dX12_getsFrom_49 : decode cX12_getsFrom 49 = .ok (.iload_n 1, 1) := by decide +kernel
theorem dX12_getsFrom_50 : decode cX12_getsFrom 50 = .ok (.iadd, 1) := by decide +kernel
theorem dX12_getsFrom_51 : decode cX12_getsFrom 51 = .ok (.iconst 0, 1) := by decide +kernel
theorem dX12_getsFrom_52 : decode cX12_getsFrom 52 = .ok (.iastore, 1) := by decide +kernel
theorem dX12_getsFrom_53 : decode cX12_getsFrom 53 = .ok (.return_, 1) := by decide +kernel
set_option maxRecDepth 100000 in
set_option maxHeartbeats 4000000 in
theorem w_X12_getsFrom {fr : Nat} (hfr : 1 ≤ fr) (Z : AZ) (X : AX Z cX12_getsFrom 4 RX12 none 1 fr) (x1 : Int32) (x2 : Int32) (x3 : Int32) (s : Mem) (r : Mem) (hz : zres Z = (none, r)) (h : f_X12_getsFrom x1 x2 x3 s = some r) : AW Z s 0 [some (.ref (zr Z 0)), some (.int x1), some (.int x2), some (.int x3)] [] := by
  unfold f_X12_getsFrom at h
  refine aw_aload_n X dX12_getsFrom_0 rfl ?_
  refine aw_getr X dX12_getsFrom_1 fl_RX12_7 iu_RX12 gu_RX12_1 ?_
  refine aw_bipush (v := 18) X dX12_getsFrom_4 (by decide) ?_
  refine aw_iload_n X dX12_getsFrom_6 rfl ?_
  refine aw_iadd X dX12_getsFrom_7 ?_
  refine aw_aload_n X dX12_getsFrom_8 rfl ?_
  refine aw_bipush (v := 99) X dX12_getsFrom_9 (by decide) ?_
  refine aw_aload_n X dX12_getsFrom_11 rfl ?_
  refine aw_getr X dX12_getsFrom_12 fl_RX12_7 iu_RX12 gu_RX12_1 ?_
  refine aw_bipush (v := 18) X dX12_getsFrom_15 (by decide) ?_
  refine aw_iload_n X dX12_getsFrom_17 rfl ?_
  refine aw_iadd X dX12_getsFrom_18 ?_
  obtain ⟨v1, ev1, h⟩ := bnd h
  refine aw_iald X dX12_getsFrom_19 iu_RX12_1 ev1 ?_
  refine aw_iload_n X dX12_getsFrom_20 rfl ?_
  refine aw_iadd X dX12_getsFrom_21 ?_
  obtain ⟨r2, er2, h⟩ := bnd h
  refine aw_callV X dX12_getsFrom_22 cv_RX12_346 (ok_X12_lesser er2 _ _ _ _ _) iu_RX12 rfl (Nat.le_trans (by decide) hfr) (by decide) rfl rfl (Nat.le_of_ble_eq_true rfl) ?_
  obtain ⟨s3, es3, h⟩ := bnd h
  refine aw_iast X dX12_getsFrom_25 iu_RX12_1 es3 ?_
  refine aw_iload_n X dX12_getsFrom_26 rfl ?_
  refine aw_if_ne (tgt := 31) X dX12_getsFrom_27 (by decide) (fun c4 => ?_) (fun c4 => ?_)
  · rw [if_neg c4] at h
    refine aw_aload_n X dX12_getsFrom_31 rfl ?_
    refine aw_getr X dX12_getsFrom_32 fl_RX12_7 iu_RX12 gu_RX12_1 ?_
    refine aw_bipush (v := 32) X dX12_getsFrom_35 (by decide) ?_
    refine aw_iload_n X dX12_getsFrom_37 rfl ?_
    refine aw_iadd X dX12_getsFrom_38 ?_
    refine aw_iload_n X dX12_getsFrom_39 rfl ?_
    refine aw_iconst (v := 1) X dX12_getsFrom_40 (by decide) ?_
    refine aw_iadd X dX12_getsFrom_41 ?_
    obtain ⟨s5, es5, h⟩ := bnd h
    refine aw_iast X dX12_getsFrom_42 iu_RX12_1 es5 ?_
    refine aw_aload_n X dX12_getsFrom_43 rfl ?_
    refine aw_getr X dX12_getsFrom_44 fl_RX12_7 iu_RX12 gu_RX12_1 ?_
    refine aw_bipush (v := 46) X dX12_getsFrom_47 (by decide) ?_
    refine aw_iload_n X dX12_getsFrom_49 rfl ?_
    refine aw_iadd X dX12_getsFrom_50 ?_
    refine aw_iconst (v := 0) X dX12_getsFrom_51 (by decide) ?_
    obtain ⟨s6, es6, h⟩ := bnd h
    refine aw_iast X dX12_getsFrom_52 iu_RX12_1 es6 ?_
    cases h
    exact aw_vret X dX12_getsFrom_53 rfl hz.symm
  · rw [if_pos c4] at h
    cases h
    exact aw_vret X dX12_getsFrom_30 rfl hz.symm
set_option maxRecDepth 100000 in
set_option maxHeartbeats 4000000 in
theorem ok_X12_getsFrom {x1 x2 x3 : Int32} {s : Mem} {r : Mem} (h : f_X12_getsFrom x1 x2 x3 s = some r) (l : Launch) (D : va_G) (ρ : Nat → Nat) (cA : ClassId × ClassId × ClassId) (τ : AT) : AM l D ρ cA 1 τ yX12_getsFrom cX12_getsFrom 4 none 1 [.ref (ρ 0), .int x1, .int x2, .int x3] none s r := by
  refine AM_of (L := [some (.ref (ρ 0)), some (.int x1), some (.int x2), some (.int x3)]) (by decide) (by simp [Value.category]) (Nat.le_of_ble_eq_true rfl) (fun j v q => ?_) (fun Z X hρ hz hτ => ?_)
  · exact aL_ok (n := 0) [.ref (ρ 0), .int x1, .int x2, .int x3] j v q
  · subst hρ
    subst hτ
    exact w_X12_getsFrom (Nat.le_refl _) Z X x1 x2 x3 s r hz h

theorem dX12_handsOn_0 : decode cX12_handsOn 0 = .ok (.aload_n 0, 1) := by decide +kernel
theorem dX12_handsOn_1 : decode cX12_handsOn 1 = .ok (.iload_n 1, 1) := by decide +kernel
theorem dX12_handsOn_2 : decode cX12_handsOn 2 = .ok (.invokevirtual 353, 3) := by decide +kernel
theorem dX12_handsOn_5 : decode cX12_handsOn 5 = .ok (.ifCond .ne 4, 3) := by decide +kernel
theorem dX12_handsOn_8 : decode cX12_handsOn 8 = .ok (.return_, 1) := by decide +kernel
theorem dX12_handsOn_9 : decode cX12_handsOn 9 = .ok (.aload_n 0, 1) := by decide +kernel
theorem dX12_handsOn_10 : decode cX12_handsOn 10 = .ok (.getfield 7, 3) := by decide +kernel
theorem dX12_handsOn_13 : decode cX12_handsOn 13 = .ok (.bipush 18, 2) := by decide +kernel
theorem dX12_handsOn_15 : decode cX12_handsOn 15 = .ok (.iload_n 1, 1) := by decide +kernel
theorem dX12_handsOn_16 : decode cX12_handsOn 16 = .ok (.iadd, 1) := by decide +kernel
theorem dX12_handsOn_17 : decode cX12_handsOn 17 = .ok (.iaload, 1) := by decide +kernel
theorem dX12_handsOn_18 : decode cX12_handsOn 18 = .ok (.istore_n 3, 1) := by decide +kernel
theorem dX12_handsOn_19 : decode cX12_handsOn 19 = .ok (.aload_n 0, 1) := by decide +kernel
theorem dX12_handsOn_20 : decode cX12_handsOn 20 = .ok (.iload_n 1, 1) := by decide +kernel
theorem dX12_handsOn_21 : decode cX12_handsOn 21 = .ok (.iconst 0, 1) := by decide +kernel
theorem dX12_handsOn_22 : decode cX12_handsOn 22 = .ok (.invokevirtual 145, 3) := by decide +kernel
theorem dX12_handsOn_25 : decode cX12_handsOn 25 = .ok (.aload_n 0, 1) := by decide +kernel
theorem dX12_handsOn_26 : decode cX12_handsOn 26 = .ok (.getfield 7, 3) := by decide +kernel
theorem dX12_handsOn_29 : decode cX12_handsOn 29 = .ok (.bipush 18, 2) := by decide +kernel
theorem dX12_handsOn_31 : decode cX12_handsOn 31 = .ok (.iload_n 2, 1) := by decide +kernel
theorem dX12_handsOn_32 : decode cX12_handsOn 32 = .ok (.iadd, 1) := by decide +kernel
theorem dX12_handsOn_33 : decode cX12_handsOn 33 = .ok (.aload_n 0, 1) := by decide +kernel
theorem dX12_handsOn_34 : decode cX12_handsOn 34 = .ok (.bipush 99, 2) := by decide +kernel
theorem dX12_handsOn_36 : decode cX12_handsOn 36 = .ok (.aload_n 0, 1) := by decide +kernel
theorem dX12_handsOn_37 : decode cX12_handsOn 37 = .ok (.getfield 7, 3) := by decide +kernel
theorem dX12_handsOn_40 : decode cX12_handsOn 40 = .ok (.bipush 18, 2) := by decide +kernel
theorem dX12_handsOn_42 : decode cX12_handsOn 42 = .ok (.iload_n 2, 1) := by decide +kernel
theorem dX12_handsOn_43 : decode cX12_handsOn 43 = .ok (.iadd, 1) := by decide +kernel
theorem dX12_handsOn_44 : decode cX12_handsOn 44 = .ok (.iaload, 1) := by decide +kernel
theorem dX12_handsOn_45 : decode cX12_handsOn 45 = .ok (.iload_n 3, 1) := by decide +kernel
theorem dX12_handsOn_46 : decode cX12_handsOn 46 = .ok (.iadd, 1) := by decide +kernel
theorem dX12_handsOn_47 : decode cX12_handsOn 47 = .ok (.invokevirtual 346, 3) := by decide +kernel
theorem dX12_handsOn_50 : decode cX12_handsOn 50 = .ok (.iastore, 1) := by decide +kernel
theorem dX12_handsOn_51 : decode cX12_handsOn 51 = .ok (.aload_n 0, 1) := by decide +kernel
theorem dX12_handsOn_52 : decode cX12_handsOn 52 = .ok (.getfield 7, 3) := by decide +kernel
theorem dX12_handsOn_55 : decode cX12_handsOn 55 = .ok (.bipush 32, 2) := by decide +kernel
theorem dX12_handsOn_57 : decode cX12_handsOn 57 = .ok (.iload_n 2, 1) := by decide +kernel
theorem dX12_handsOn_58 : decode cX12_handsOn 58 = .ok (.iadd, 1) := by decide +kernel
theorem dX12_handsOn_59 : decode cX12_handsOn 59 = .ok (.iload_n 1, 1) := by decide +kernel
theorem dX12_handsOn_60 : decode cX12_handsOn 60 = .ok (.iconst 1, 1) := by decide +kernel
theorem dX12_handsOn_61 : decode cX12_handsOn 61 = .ok (.iadd, 1) := by decide +kernel
theorem dX12_handsOn_62 : decode cX12_handsOn 62 = .ok (.iastore, 1) := by decide +kernel
theorem dX12_handsOn_63 : decode cX12_handsOn 63 = .ok (.aload_n 0, 1) := by decide +kernel
theorem dX12_handsOn_64 : decode cX12_handsOn 64 = .ok (.getfield 7, 3) := by decide +kernel
theorem dX12_handsOn_67 : decode cX12_handsOn 67 = .ok (.bipush 46, 2) := by decide +kernel
theorem dX12_handsOn_69 : decode cX12_handsOn 69 = .ok (.iload_n 2, 1) := by decide +kernel
theorem dX12_handsOn_70 : decode cX12_handsOn 70 = .ok (.iadd, 1) := by decide +kernel
theorem dX12_handsOn_71 : decode cX12_handsOn 71 = .ok (.iconst 0, 1) := by decide +kernel
theorem dX12_handsOn_72 : decode cX12_handsOn 72 = .ok (.iastore, 1) := by decide +kernel
theorem dX12_handsOn_73 : decode cX12_handsOn 73 = .ok (.aload_n 0, 1) := by decide +kernel
theorem dX12_handsOn_74 : decode cX12_handsOn 74 = .ok (.iconst 4, 1) := by decide +kernel
theorem dX12_handsOn_75 : decode cX12_handsOn 75 = .ok (.iload_n 1, 1) := by decide +kernel
theorem dX12_handsOn_76 : decode cX12_handsOn 76 = .ok (.iload_n 2, 1) := by decide +kernel
theorem dX12_handsOn_77 : decode cX12_handsOn 77 = .ok (.invokevirtual 349, 3) := by decide +kernel
theorem dX12_handsOn_80 : decode cX12_handsOn 80 = .ok (.return_, 1) := by decide +kernel
set_option maxRecDepth 100000 in
set_option maxHeartbeats 4000000 in
theorem w_X12_handsOn {fr : Nat} (hfr : 1 ≤ fr) (Z : AZ) (X : AX Z cX12_handsOn 4 RX12 none 1 fr) (x1 : Int32) (x2 : Int32) (s : Mem) (r : Mem) (hz : zres Z = (none, r)) (h : f_X12_handsOn x1 x2 s = some r) : AW Z s 0 [some (.ref (zr Z 0)), some (.int x1), some (.int x2), none] [] := by
  unfold f_X12_handsOn at h
  refine aw_aload_n X dX12_handsOn_0 rfl ?_
  refine aw_iload_n X dX12_handsOn_1 rfl ?_
  obtain ⟨r1, er1, h⟩ := bnd h
  refine aw_callV X dX12_handsOn_2 cv_RX12_353 (ok_X12_hasAny er1 _ _ _ _ _) iu_RX12 rfl (Nat.le_trans (by decide) hfr) (by decide) rfl rfl (Nat.le_of_ble_eq_true rfl) ?_
  refine aw_if_ne (tgt := 9) X dX12_handsOn_5 (by decide) (fun c2 => ?_) (fun c2 => ?_)
  · rw [if_neg c2] at h
    refine aw_aload_n X dX12_handsOn_9 rfl ?_
    refine aw_getr X dX12_handsOn_10 fl_RX12_7 iu_RX12 gu_RX12_1 ?_
    refine aw_bipush (v := 18) X dX12_handsOn_13 (by decide) ?_
    refine aw_iload_n X dX12_handsOn_15 rfl ?_
    refine aw_iadd X dX12_handsOn_16 ?_
    obtain ⟨v3, ev3, h⟩ := bnd h
    refine aw_iald X dX12_handsOn_17 iu_RX12_1 ev3 ?_
    refine aw_istore_n (L' := [some (.ref (zr Z 0)), some (.int x1), some (.int x2), some (.int v3)]) X dX12_handsOn_18 (by decide) rfl ?_
    refine aw_aload_n X dX12_handsOn_19 rfl ?_
    refine aw_iload_n X dX12_handsOn_20 rfl ?_
    refine aw_iconst (v := 0) X dX12_handsOn_21 (by decide) ?_
    obtain ⟨r4, er4, h⟩ := bnd h
    refine aw_callV X dX12_handsOn_22 cv_RX12_145 (ok_X12_hasThen er4 _ _ _ _ _) iu_RX12 rfl (Nat.le_trans (by decide) hfr) (by decide) rfl rfl (Nat.le_of_ble_eq_true rfl) ?_
    refine aw_aload_n X dX12_handsOn_25 rfl ?_
    refine aw_getr X dX12_handsOn_26 fl_RX12_7 iu_RX12 gu_RX12_1 ?_
    refine aw_bipush (v := 18) X dX12_handsOn_29 (by decide) ?_
    refine aw_iload_n X dX12_handsOn_31 rfl ?_
    refine aw_iadd X dX12_handsOn_32 ?_
    refine aw_aload_n X dX12_handsOn_33 rfl ?_
    refine aw_bipush (v := 99) X dX12_handsOn_34 (by decide) ?_
    refine aw_aload_n X dX12_handsOn_36 rfl ?_
    refine aw_getr X dX12_handsOn_37 fl_RX12_7 iu_RX12 gu_RX12_1 ?_
    refine aw_bipush (v := 18) X dX12_handsOn_40 (by decide) ?_
    refine aw_iload_n X dX12_handsOn_42 rfl ?_
    refine aw_iadd X dX12_handsOn_43 ?_
    obtain ⟨v5, ev5, h⟩ := bnd h
    refine aw_iald X dX12_handsOn_44 iu_RX12_1 ev5 ?_
    refine aw_iload_n X dX12_handsOn_45 rfl ?_
    refine aw_iadd X dX12_handsOn_46 ?_
    obtain ⟨r6, er6, h⟩ := bnd h
    refine aw_callV X dX12_handsOn_47 cv_RX12_346 (ok_X12_lesser er6 _ _ _ _ _) iu_RX12 rfl (Nat.le_trans (by decide) hfr) (by decide) rfl rfl (Nat.le_of_ble_eq_true rfl) ?_
    obtain ⟨s7, es7, h⟩ := bnd h
    refine aw_iast X dX12_handsOn_50 iu_RX12_1 es7 ?_
    refine aw_aload_n X dX12_handsOn_51 rfl ?_
    refine aw_getr X dX12_handsOn_52 fl_RX12_7 iu_RX12 gu_RX12_1 ?_
    refine aw_bipush (v := 32) X dX12_handsOn_55 (by decide) ?_
    refine aw_iload_n X dX12_handsOn_57 rfl ?_
    refine aw_iadd X dX12_handsOn_58 ?_
    refine aw_iload_n X dX12_handsOn_59 rfl ?_
    refine aw_iconst (v := 1) X dX12_handsOn_60 (by decide) ?_
    refine aw_iadd X dX12_handsOn_61 ?_
    obtain ⟨s8, es8, h⟩ := bnd h
    refine aw_iast X dX12_handsOn_62 iu_RX12_1 es8 ?_
    refine aw_aload_n X dX12_handsOn_63 rfl ?_
    refine aw_getr X dX12_handsOn_64 fl_RX12_7 iu_RX12 gu_RX12_1 ?_
    refine aw_bipush (v := 46) X dX12_handsOn_67 (by decide) ?_
    refine aw_iload_n X dX12_handsOn_69 rfl ?_
    refine aw_iadd X dX12_handsOn_70 ?_
    refine aw_iconst (v := 0) X dX12_handsOn_71 (by decide) ?_
    obtain ⟨s9, es9, h⟩ := bnd h
    refine aw_iast X dX12_handsOn_72 iu_RX12_1 es9 ?_
    refine aw_aload_n X dX12_handsOn_73 rfl ?_
    refine aw_iconst (v := 4) X dX12_handsOn_74 (by decide) ?_
    refine aw_iload_n X dX12_handsOn_75 rfl ?_
    refine aw_iload_n X dX12_handsOn_76 rfl ?_
    obtain ⟨r10, er10, h⟩ := bnd h
    refine aw_callV X dX12_handsOn_77 cv_RX12_349 (ok_X12_notes er10 _ _ _ _ _) iu_RX12 rfl (Nat.le_trans (by decide) hfr) (by decide) rfl rfl (Nat.le_of_ble_eq_true rfl) ?_
    cases h
    exact aw_vret X dX12_handsOn_80 rfl hz.symm
  · rw [if_pos c2] at h
    cases h
    exact aw_vret X dX12_handsOn_8 rfl hz.symm
set_option maxRecDepth 100000 in
set_option maxHeartbeats 4000000 in
theorem ok_X12_handsOn {x1 x2 : Int32} {s : Mem} {r : Mem} (h : f_X12_handsOn x1 x2 s = some r) (l : Launch) (D : va_G) (ρ : Nat → Nat) (cA : ClassId × ClassId × ClassId) (τ : AT) : AM l D ρ cA 1 τ yX12_handsOn cX12_handsOn 4 none 1 [.ref (ρ 0), .int x1, .int x2] none s r := by
  refine AM_of (L := [some (.ref (ρ 0)), some (.int x1), some (.int x2), none]) (by decide) (by simp [Value.category]) (Nat.le_of_ble_eq_true rfl) (fun j v q => ?_) (fun Z X hρ hz hτ => ?_)
  · exact aL_ok (n := 1) [.ref (ρ 0), .int x1, .int x2] j v q
  · subst hρ
    subst hτ
    exact w_X12_handsOn (Nat.le_refl _) Z X x1 x2 s r hz h

theorem dX12_says_0 : decode cX12_says 0 = .ok (.aload_n 0, 1) := by decide +kernel
theorem dX12_says_1 : decode cX12_says 1 = .ok (.iload_n 1, 1) := by decide +kernel
theorem dX12_says_2 : decode cX12_says 2 = .ok (.invokevirtual 356, 3) := by decide +kernel
theorem dX12_says_5 : decode cX12_says 5 = .ok (.istore_n 2, 1) := by decide +kernel
theorem dX12_says_6 : decode cX12_says 6 = .ok (.iload_n 2, 1) := by decide +kernel
theorem dX12_says_7 : decode cX12_says 7 = .ok (.iconst (-1), 1) := by decide +kernel
theorem dX12_says_8 : decode cX12_says 8 = .ok (.if_icmp .ne 37, 3) := by decide +kernel
theorem dX12_says_11 : decode cX12_says 11 = .ok (.aload_n 0, 1) := by decide +kernel
theorem dX12_says_12 : decode cX12_says 12 = .ok (.iload_n 1, 1) := by decide +kernel
theorem dX12_says_13 : decode cX12_says 13 = .ok (.aload_n 0, 1) := by decide +kernel
theorem dX12_says_14 : decode cX12_says 14 = .ok (.getfield 7, 3) := by decide +kernel
theorem dX12_says_17 : decode cX12_says 17 = .ok (.bipush 18, 2) := by decide +kernel
theorem dX12_says_19 : decode cX12_says 19 = .ok (.iload_n 1, 1) := by decide +kernel
theorem dX12_says_20 : decode cX12_says 20 = .ok (.iadd, 1) := by decide +kernel
theorem dX12_says_21 : decode cX12_says 21 = .ok (.iaload, 1) := by decide +kernel
theorem dX12_says_22 : decode cX12_says 22 = .ok (.iconst 1, 1) := by decide +kernel
theorem dX12_says_23 : decode cX12_says 23 = .ok (.isub, 1) := by decide +kernel
theorem dX12_says_24 : decode cX12_says 24 = .ok (.invokevirtual 145, 3) := by decide +kernel
theorem dX12_says_27 : decode cX12_says 27 = .ok (.aload_n 0, 1) := by decide +kernel
theorem dX12_says_28 : decode cX12_says 28 = .ok (.bipush 6, 2) := by decide +kernel
theorem dX12_says_30 : decode cX12_says 30 = .ok (.iload_n 1, 1) := by decide +kernel
theorem dX12_says_31 : decode cX12_says 31 = .ok (.aload_n 0, 1) := by decide +kernel
theorem dX12_says_32 : decode cX12_says 32 = .ok (.getfield 7, 3) := by decide +kernel
theorem dX12_says_35 : decode cX12_says 35 = .ok (.bipush 18, 2) := by decide +kernel
theorem dX12_says_37 : decode cX12_says 37 = .ok (.iload_n 1, 1) := by decide +kernel
theorem dX12_says_38 : decode cX12_says 38 = .ok (.iadd, 1) := by decide +kernel
theorem dX12_says_39 : decode cX12_says 39 = .ok (.iaload, 1) := by decide +kernel
theorem dX12_says_40 : decode cX12_says 40 = .ok (.invokevirtual 349, 3) := by decide +kernel
theorem dX12_says_43 : decode cX12_says 43 = .ok (.iconst 0, 1) := by decide +kernel
theorem dX12_says_44 : decode cX12_says 44 = .ok (.ireturn, 1) := by decide +kernel
theorem dX12_says_45 : decode cX12_says 45 = .ok (.iload_n 2, 1) := by decide +kernel
theorem dX12_says_46 : decode cX12_says 46 = .ok (.aload_n 0, 1) := by decide +kernel
theorem dX12_says_47 : decode cX12_says 47 = .ok (.iload_n 1, 1) := by decide +kernel
theorem dX12_says_48 : decode cX12_says 48 = .ok (.invokevirtual 324, 3) := by decide +kernel
theorem dX12_says_51 : decode cX12_says 51 = .ok (.if_icmp .eq 34, 3) := by decide +kernel
theorem dX12_says_54 : decode cX12_says 54 = .ok (.aload_n 0, 1) := by decide +kernel
theorem dX12_says_55 : decode cX12_says 55 = .ok (.getfield 7, 3) := by decide +kernel
theorem dX12_says_58 : decode cX12_says 58 = .ok (.bipush 46, 2) := by decide +kernel
theorem dX12_says_60 : decode cX12_says 60 = .ok (.iload_n 1, 1) := by decide +kernel
theorem dX12_says_61 : decode cX12_says 61 = .ok (.iadd, 1) := by decide +kernel
theorem dX12_says_62 : decode cX12_says 62 = .ok (.aload_n 0, 1) := by decide +kernel
theorem dX12_says_63 : decode cX12_says 63 = .ok (.getfield 7, 3) := by decide +kernel
theorem dX12_says_66 : decode cX12_says 66 = .ok (.bipush 46, 2) := by decide +kernel
theorem dX12_says_68 : decode cX12_says 68 = .ok (.iload_n 1, 1) := by decide +kernel
theorem dX12_says_69 : decode cX12_says 69 = .ok (.iadd, 1) := by decide +kernel
theorem dX12_says_70 : decode cX12_says 70 = .ok (.iaload, 1) := by decide +kernel
theorem dX12_says_71 : decode cX12_says 71 = .ok (.iconst 1, 1) := by decide +kernel
theorem dX12_says_72 : decode cX12_says 72 = .ok (.iload_n 2, 1) := by decide +kernel
theorem dX12_says_73 : decode cX12_says 73 = .ok (.ishl, 1) := by decide +kernel
theorem dX12_says_74 : decode cX12_says 74 = .ok (.ior, 1) := by decide +kernel
theorem dX12_says_75 : decode cX12_says 75 = .ok (.iastore, 1) := by decide +kernel
theorem dX12_says_76 : decode cX12_says 76 = .ok (.aload_n 0, 1) := by decide +kernel
theorem dX12_says_77 : decode cX12_says 77 = .ok (.iconst 2, 1) := by decide +kernel
theorem dX12_says_78 : decode cX12_says 78 = .ok (.iload_n 1, 1) := by decide +kernel
theorem dX12_says_79 : decode cX12_says 79 = .ok (.iload_n 2, 1) := by decide +kernel
theorem dX12_says_80 : decode cX12_says 80 = .ok (.invokevirtual 349, 3) := by decide +kernel
theorem dX12_says_83 : decode cX12_says 83 = .ok (.iconst 0, 1) := by decide +kernel
theorem dX12_says_84 : decode cX12_says 84 = .ok (.ireturn, 1) := by decide +kernel
theorem dX12_says_85 : decode cX12_says 85 = .ok (.aload_n 0, 1) := by decide +kernel
theorem dX12_says_86 : decode cX12_says 86 = .ok (.getfield 7, 3) := by decide +kernel
theorem dX12_says_89 : decode cX12_says 89 = .ok (.bipush 74, 2) := by decide +kernel
theorem dX12_says_91 : decode cX12_says 91 = .ok (.iload_n 2, 1) := by decide +kernel
theorem dX12_says_92 : decode cX12_says 92 = .ok (.iadd, 1) := by decide +kernel
theorem dX12_says_93 : decode cX12_says 93 = .ok (.aload_n 0, 1) := by decide +kernel
theorem dX12_says_94 : decode cX12_says 94 = .ok (.getfield 7, 3) := by decide +kernel
theorem dX12_says_97 : decode cX12_says 97 = .ok (.bipush 74, 2) := by decide +kernel
theorem dX12_says_99 : decode cX12_says 99 = .ok (.iload_n 2, 1) := by decide +kernel
theorem dX12_says_100 : decode cX12_says 100 = .ok (.iadd, 1) := by decide +kernel
theorem dX12_says_101 : decode cX12_says 101 = .ok (.iaload, 1) := by decide +kernel
theorem dX12_says_102 : decode cX12_says 102 = .ok (.iconst 1, 1) := by decide +kernel
theorem dX12_says_103 : decode cX12_says 103 = .ok (.iadd, 1) := by decide +kernel
theorem dX12_says_104 : decode cX12_says 104 = .ok (.iastore, 1) := by decide +kernel
theorem dX12_says_105 : decode cX12_says 105 = .ok (.aload_n 0, 1) := by decide +kernel
theorem dX12_says_106 : decode cX12_says 106 = .ok (.iload_n 1, 1) := by decide +kernel
theorem dX12_says_107 : decode cX12_says 107 = .ok (.invokevirtual 359, 3) := by decide +kernel
theorem dX12_says_110 : decode cX12_says 110 = .ok (.istore_n 3, 1) := by decide +kernel
theorem dX12_says_111 : decode cX12_says 111 = .ok (.aload_n 0, 1) := by decide +kernel
theorem dX12_says_112 : decode cX12_says 112 = .ok (.iload_n 1, 1) := by decide +kernel
theorem dX12_says_113 : decode cX12_says 113 = .ok (.iconst 0, 1) := by decide +kernel
theorem dX12_says_114 : decode cX12_says 114 = .ok (.invokevirtual 145, 3) := by decide +kernel
theorem dX12_says_117 : decode cX12_says 117 = .ok (.aload_n 0, 1) := by decide +kernel
theorem dX12_says_118 : decode cX12_says 118 = .ok (.iload_n 2, 1) := by decide +kernel
theorem dX12_says_119 : decode cX12_says 119 = .ok (.iload_n 3, 1) := by decide +kernel
theorem dX12_says_120 : decode cX12_says 120 = .ok (.iload_n 1, 1) := by decide +kernel
theorem dX12_says_121 : decode cX12_says 121 = .ok (.invokevirtual 362, 3) := by decide +kernel
theorem dX12_says_124 : decode cX12_says 124 = .ok (.aload_n 0, 1) := by decide +kernel
theorem dX12_says_125 : decode cX12_says 125 = .ok (.iconst 3, 1) := by decide +kernel
theorem dX12_says_126 : decode cX12_says 126 = .ok (.iload_n 1, 1) := by decide +kernel
theorem dX12_says_127 : decode cX12_says 127 = .ok (.iload_n 2, 1) := by decide +kernel
theorem dX12_says_128 : decode cX12_says 128 = .ok (.invokevirtual 349, 3) := by decide +kernel
theorem dX12_says_131 : decode cX12_says 131 = .ok (.iconst 1, 1) := by decide +kernel
theorem dX12_says_132 : decode cX12_says 132 = .ok (.ireturn, 1) := by decide +kernel
set_option maxRecDepth 100000 in
set_option maxHeartbeats 4000000 in
theorem w_X12_says {fr : Nat} (hfr : 5 ≤ fr) (Z : AZ) (X : AX Z cX12_says 4 RX12 (some .boolean) 1 fr) (x1 : Int32) (s : Mem) (r : Int32 × Mem) (hz : zres Z = (some (.int r.1), r.2)) (h : f_X12_says x1 s = some r) : AW Z s 0 [some (.ref (zr Z 0)), some (.int x1), none, none] [] := by
  unfold f_X12_says at h
  refine aw_aload_n X dX12_says_0 rfl ?_
  refine aw_iload_n X dX12_says_1 rfl ?_
  obtain ⟨r1, er1, h⟩ := bnd h
  refine aw_callV X dX12_says_2 cv_RX12_356 (ok_X12_nextName er1 _ _ _ _ _) iu_RX12 rfl (Nat.le_trans (by decide) hfr) (by decide) rfl rfl (Nat.le_of_ble_eq_true rfl) ?_
  refine aw_istore_n (L' := [some (.ref (zr Z 0)), some (.int x1), some (.int r1.1), none]) X dX12_says_5 (by decide) rfl ?_
  refine aw_iload_n X dX12_says_6 rfl ?_
  refine aw_iconst (v := (-1)) X dX12_says_7 (by decide) ?_
  refine aw_icmp_ne (tgt := 45) X dX12_says_8 (by decide) (fun c2 => ?_) (fun c2 => ?_)
  · rw [if_neg c2] at h
    refine aw_iload_n X dX12_says_45 rfl ?_
    refine aw_aload_n X dX12_says_46 rfl ?_
    refine aw_iload_n X dX12_says_47 rfl ?_
    obtain ⟨r3, er3, h⟩ := bnd h
    refine aw_callV X dX12_says_48 cv_RX12_324 (ok_X12_byOf er3 _ _ _ _ _) iu_RX12 rfl (Nat.le_trans (by decide) hfr) (by decide) rfl rfl (Nat.le_of_ble_eq_true rfl) ?_
    refine aw_icmp_eq (tgt := 85) X dX12_says_51 (by decide) (fun c4 => ?_) (fun c4 => ?_)
    · rw [if_pos c4] at h
      refine aw_aload_n X dX12_says_85 rfl ?_
      refine aw_getr X dX12_says_86 fl_RX12_7 iu_RX12 gu_RX12_1 ?_
      refine aw_bipush (v := 74) X dX12_says_89 (by decide) ?_
      refine aw_iload_n X dX12_says_91 rfl ?_
      refine aw_iadd X dX12_says_92 ?_
      refine aw_aload_n X dX12_says_93 rfl ?_
      refine aw_getr X dX12_says_94 fl_RX12_7 iu_RX12 gu_RX12_1 ?_
      refine aw_bipush (v := 74) X dX12_says_97 (by decide) ?_
      refine aw_iload_n X dX12_says_99 rfl ?_
      refine aw_iadd X dX12_says_100 ?_
      obtain ⟨v5, ev5, h⟩ := bnd h
      refine aw_iald X dX12_says_101 iu_RX12_1 ev5 ?_
      refine aw_iconst (v := 1) X dX12_says_102 (by decide) ?_
      refine aw_iadd X dX12_says_103 ?_
      obtain ⟨s6, es6, h⟩ := bnd h
      refine aw_iast X dX12_says_104 iu_RX12_1 es6 ?_
      refine aw_aload_n X dX12_says_105 rfl ?_
      refine aw_iload_n X dX12_says_106 rfl ?_
      obtain ⟨r7, er7, h⟩ := bnd h
      refine aw_callV X dX12_says_107 cv_RX12_359 (ok_X12_passesOf er7 _ _ _ _ _) iu_RX12 rfl (Nat.le_trans (by decide) hfr) (by decide) rfl rfl (Nat.le_of_ble_eq_true rfl) ?_
      refine aw_istore_n (L' := [some (.ref (zr Z 0)), some (.int x1), some (.int r1.1), some (.int r7.1)]) X dX12_says_110 (by decide) rfl ?_
      refine aw_aload_n X dX12_says_111 rfl ?_
      refine aw_iload_n X dX12_says_112 rfl ?_
      refine aw_iconst (v := 0) X dX12_says_113 (by decide) ?_
      obtain ⟨r8, er8, h⟩ := bnd h
      refine aw_callV X dX12_says_114 cv_RX12_145 (ok_X12_hasThen er8 _ _ _ _ _) iu_RX12 rfl (Nat.le_trans (by decide) hfr) (by decide) rfl rfl (Nat.le_of_ble_eq_true rfl) ?_
      refine aw_aload_n X dX12_says_117 rfl ?_
      refine aw_iload_n X dX12_says_118 rfl ?_
      refine aw_iload_n X dX12_says_119 rfl ?_
      refine aw_iload_n X dX12_says_120 rfl ?_
      obtain ⟨r9, er9, h⟩ := bnd h
      refine aw_callV X dX12_says_121 cv_RX12_362 (ok_X12_getsFrom er9 _ _ _ _ _) iu_RX12 rfl (Nat.le_trans (by decide) hfr) (by decide) rfl rfl (Nat.le_of_ble_eq_true rfl) ?_
      refine aw_aload_n X dX12_says_124 rfl ?_
      refine aw_iconst (v := 3) X dX12_says_125 (by decide) ?_
      refine aw_iload_n X dX12_says_126 rfl ?_
      refine aw_iload_n X dX12_says_127 rfl ?_
      obtain ⟨r10, er10, h⟩ := bnd h
      refine aw_callV X dX12_says_128 cv_RX12_349 (ok_X12_notes er10 _ _ _ _ _) iu_RX12 rfl (Nat.le_trans (by decide) hfr) (by decide) rfl rfl (Nat.le_of_ble_eq_true rfl) ?_
      refine aw_iconst (v := 1) X dX12_says_131 (by decide) ?_
      cases h
      exact aw_zret X dX12_says_132 rfl rfl hz.symm
    · rw [if_neg c4] at h
      refine aw_aload_n X dX12_says_54 rfl ?_
      refine aw_getr X dX12_says_55 fl_RX12_7 iu_RX12 gu_RX12_1 ?_
      refine aw_bipush (v := 46) X dX12_says_58 (by decide) ?_
      refine aw_iload_n X dX12_says_60 rfl ?_
      refine aw_iadd X dX12_says_61 ?_
      refine aw_aload_n X dX12_says_62 rfl ?_
      refine aw_getr X dX12_says_63 fl_RX12_7 iu_RX12 gu_RX12_1 ?_
      refine aw_bipush (v := 46) X dX12_says_66 (by decide) ?_
      refine aw_iload_n X dX12_says_68 rfl ?_
      refine aw_iadd X dX12_says_69 ?_
      obtain ⟨v11, ev11, h⟩ := bnd h
      refine aw_iald X dX12_says_70 iu_RX12_1 ev11 ?_
      refine aw_iconst (v := 1) X dX12_says_71 (by decide) ?_
      refine aw_iload_n X dX12_says_72 rfl ?_
      refine aw_ishl X dX12_says_73 ?_
      refine aw_ior X dX12_says_74 ?_
      obtain ⟨s12, es12, h⟩ := bnd h
      refine aw_iast X dX12_says_75 iu_RX12_1 es12 ?_
      refine aw_aload_n X dX12_says_76 rfl ?_
      refine aw_iconst (v := 2) X dX12_says_77 (by decide) ?_
      refine aw_iload_n X dX12_says_78 rfl ?_
      refine aw_iload_n X dX12_says_79 rfl ?_
      obtain ⟨r13, er13, h⟩ := bnd h
      refine aw_callV X dX12_says_80 cv_RX12_349 (ok_X12_notes er13 _ _ _ _ _) iu_RX12 rfl (Nat.le_trans (by decide) hfr) (by decide) rfl rfl (Nat.le_of_ble_eq_true rfl) ?_
      refine aw_iconst (v := 0) X dX12_says_83 (by decide) ?_
      cases h
      exact aw_zret X dX12_says_84 rfl rfl hz.symm
  · rw [if_pos c2] at h
    refine aw_aload_n X dX12_says_11 rfl ?_
    refine aw_iload_n X dX12_says_12 rfl ?_
    refine aw_aload_n X dX12_says_13 rfl ?_
    refine aw_getr X dX12_says_14 fl_RX12_7 iu_RX12 gu_RX12_1 ?_
    refine aw_bipush (v := 18) X dX12_says_17 (by decide) ?_
    refine aw_iload_n X dX12_says_19 rfl ?_
    refine aw_iadd X dX12_says_20 ?_
    obtain ⟨v14, ev14, h⟩ := bnd h
    refine aw_iald X dX12_says_21 iu_RX12_1 ev14 ?_
    refine aw_iconst (v := 1) X dX12_says_22 (by decide) ?_
    refine aw_isub X dX12_says_23 ?_
    obtain ⟨r15, er15, h⟩ := bnd h
    refine aw_callV X dX12_says_24 cv_RX12_145 (ok_X12_hasThen er15 _ _ _ _ _) iu_RX12 rfl (Nat.le_trans (by decide) hfr) (by decide) rfl rfl (Nat.le_of_ble_eq_true rfl) ?_
    refine aw_aload_n X dX12_says_27 rfl ?_
    refine aw_bipush (v := 6) X dX12_says_28 (by decide) ?_
    refine aw_iload_n X dX12_says_30 rfl ?_
    refine aw_aload_n X dX12_says_31 rfl ?_
    refine aw_getr X dX12_says_32 fl_RX12_7 iu_RX12 gu_RX12_1 ?_
    refine aw_bipush (v := 18) X dX12_says_35 (by decide) ?_
    refine aw_iload_n X dX12_says_37 rfl ?_
    refine aw_iadd X dX12_says_38 ?_
    obtain ⟨v16, ev16, h⟩ := bnd h
    refine aw_iald X dX12_says_39 iu_RX12_1 ev16 ?_
    obtain ⟨r17, er17, h⟩ := bnd h
    refine aw_callV X dX12_says_40 cv_RX12_349 (ok_X12_notes er17 _ _ _ _ _) iu_RX12 rfl (Nat.le_trans (by decide) hfr) (by decide) rfl rfl (Nat.le_of_ble_eq_true rfl) ?_
    refine aw_iconst (v := 0) X dX12_says_43 (by decide) ?_
    cases h
    exact aw_zret X dX12_says_44 rfl rfl hz.symm
set_option maxRecDepth 100000 in
set_option maxHeartbeats 4000000 in
theorem ok_X12_says {x1 : Int32} {s : Mem} {r : Int32 × Mem} (h : f_X12_says x1 s = some r) (l : Launch) (D : va_G) (ρ : Nat → Nat) (cA : ClassId × ClassId × ClassId) (τ : AT) : AM l D ρ cA 1 τ yX12_says cX12_says 4 (some .boolean) 5 [.ref (ρ 0), .int x1] (some (.int r.1)) s r.2 := by
  refine AM_of (L := [some (.ref (ρ 0)), some (.int x1), none, none]) (by decide) (by simp [Value.category]) (Nat.le_of_ble_eq_true rfl) (fun j v q => ?_) (fun Z X hρ hz hτ => ?_)
  · exact aL_ok (n := 2) [.ref (ρ 0), .int x1] j v q
  · subst hρ
    subst hτ
    exact w_X12_says (Nat.le_refl _) Z X x1 s r hz h

theorem dX12_canAct_0 : decode cX12_canAct 0 = .ok (.aload_n 0, 1) := by decide +kernel
theorem dX12_canAct_1 : decode cX12_canAct 1 = .ok (.iload_n 2, 1) := by decide +kernel
theorem dX12_canAct_2 : decode cX12_canAct 2 = .ok (.invokevirtual 141, 3) := by decide +kernel
theorem dX12_canAct_5 : decode cX12_canAct 5 = .ok (.ifCond .ne 5, 3) := by decide +kernel
theorem dX12_canAct_8 : decode cX12_canAct 8 = .ok (.iconst 0, 1) := by decide +kernel
theorem dX12_canAct_9 : decode cX12_canAct 9 = .ok (.ireturn, 1) := by decide +kernel
theorem dX12_canAct_10 : decode cX12_canAct 10 = .ok (.iload_n 1, 1) := by decide +kernel
theorem dX12_canAct_11 : decode cX12_canAct 11 = .ok (.ifCond .ne 22, 3) := by decide +kernel
theorem dX12_canAct_14 : decode cX12_canAct 14 = .ok (.aload_n 0, 1) := by decide +kernel
theorem dX12_canAct_15 : decode cX12_canAct 15 = .ok (.iload_n 3, 1) := by decide +kernel
theorem dX12_canAct_16 : decode cX12_canAct 16 = .ok (.invokevirtual 141, 3) := by decide +kernel
theorem dX12_canAct_19 : decode cX12_canAct 19 = .ok (.ifCond .eq 12, 3) := by decide +kernel
theorem dX12_canAct_22 : decode cX12_canAct 22 = .ok (.iload_n 3, 1) := by decide +kernel
theorem dX12_canAct_23 : decode cX12_canAct 23 = .ok (.iload_n 2, 1) := by decide +kernel
theorem dX12_canAct_24 : decode cX12_canAct 24 = .ok (.if_icmp .eq 7, 3) := by decide +kernel
theorem dX12_canAct_27 : decode cX12_canAct 27 = .ok (.iconst 1, 1) := by decide +kernel
theorem dX12_canAct_28 : decode cX12_canAct 28 = .ok (.goto 4, 3) := by decide +kernel
theorem dX12_canAct_31 : decode cX12_canAct 31 = .ok (.iconst 0, 1) := by decide +kernel
theorem dX12_canAct_32 : decode cX12_canAct 32 = .ok (.ireturn, 1) := by decide +kernel
theorem dX12_canAct_33 : decode cX12_canAct 33 = .ok (.iload_n 1, 1) := by decide +kernel
theorem dX12_canAct_34 : decode cX12_canAct 34 = .ok (.iconst 2, 1) := by decide +kernel
theorem dX12_canAct_35 : decode cX12_canAct 35 = .ok (.if_icmp .ne 30, 3) := by decide +kernel
theorem dX12_canAct_38 : decode cX12_canAct 38 = .ok (.aload_n 0, 1) := by decide +kernel
theorem dX12_canAct_39 : decode cX12_canAct 39 = .ok (.iload_n 3, 1) := by decide +kernel
theorem dX12_canAct_40 : decode cX12_canAct 40 = .ok (.invokevirtual 141, 3) := by decide +kernel
theorem dX12_canAct_43 : decode cX12_canAct 43 = .ok (.ifCond .eq 20, 3) := by decide +kernel
theorem dX12_canAct_46 : decode cX12_canAct 46 = .ok (.iload_n 3, 1) := by decide +kernel
theorem dX12_canAct_47 : decode cX12_canAct 47 = .ok (.iload_n 2, 1) := by decide +kernel
theorem dX12_canAct_48 : decode cX12_canAct 48 = .ok (.if_icmp .eq 15, 3) := by decide +kernel
theorem dX12_canAct_51 : decode cX12_canAct 51 = .ok (.aload_n 0, 1) := by decide +kernel
theorem dX12_canAct_52 : decode cX12_canAct 52 = .ok (.iload_n 2, 1) := by decide +kernel
theorem dX12_canAct_53 : decode cX12_canAct 53 = .ok (.invokevirtual 353, 3) := by decide +kernel
theorem dX12_canAct_56 : decode cX12_canAct 56 = .ok (.ifCond .eq 7, 3) := by decide +kernel
theorem dX12_canAct_59 : decode cX12_canAct 59 = .ok (.iconst 1, 1) := by decide +kernel
theorem dX12_canAct_60 : decode cX12_canAct 60 = .ok (.goto 4, 3) := by decide +kernel
theorem dX12_canAct_63 : decode cX12_canAct 63 = .ok (.iconst 0, 1) := by decide +kernel
theorem dX12_canAct_64 : decode cX12_canAct 64 = .ok (.ireturn, 1) := by decide +kernel
theorem dX12_canAct_65 : decode cX12_canAct 65 = .ok (.iload_n 1, 1) := by decide +kernel
theorem dX12_canAct_66 : decode cX12_canAct 66 = .ok (.iconst 1, 1) := by decide +kernel
theorem dX12_canAct_67 : decode cX12_canAct 67 = .ok (.if_icmp .eq 8, 3) := by decide +kernel
theorem dX12_canAct_70 : decode cX12_canAct 70 = .ok (.iload_n 1, 1) := by decide +kernel
theorem dX12_canAct_71 : decode cX12_canAct 71 = .ok (.iconst 3, 1) := by decide +kernel
theorem dX12_canAct_72 : decode cX12_canAct 72 = .ok (.if_icmp .ne 15, 3) := by decide +kernel
theorem dX12_canAct_75 : decode cX12_canAct 75 = .ok (.aload_n 0, 1) := by decide +kernel
theorem dX12_canAct_76 : decode cX12_canAct 76 = .ok (.iload_n 2, 1) := by decide +kernel
theorem dX12_canAct_77 : decode cX12_canAct 77 = .ok (.invokevirtual 353, 3) := by decide +kernel
theorem dX12_canAct_80 : decode cX12_canAct 80 = .ok (.ifCond .eq 7, 3) := by decide +kernel
theorem dX12_canAct_83 : decode cX12_canAct 83 = .ok (.iconst 1, 1) := by decide +kernel
theorem dX12_canAct_84 : decode cX12_canAct 84 = .ok (.goto 4, 3) := by decide +kernel
theorem dX12_canAct_87 : decode cX12_canAct 87 = .ok (.iconst 0, 1) := by decide +kernel
theorem dX12_canAct_88 : decode cX12_canAct 88 = .ok (.ireturn, 1) := by decide +kernel
set_option maxRecDepth 100000 in
set_option maxHeartbeats 4000000 in
theorem jo_X12_canAct_75 {fr : Nat} (hfr : 1 ≤ fr) (Z : AZ) (X : AX Z cX12_canAct 4 RX12 (some .boolean) 1 fr) (x2 : Int32) (s : Mem) (r : Int32 × Mem) (hz : zres Z = (some (.int r.1), r.2)) (h : jn_X12_canAct_75 x2 s = some r) : AW Z s 75 [some (.ref (zr Z 0)), none, some (.int x2), none] [] := by
  unfold jn_X12_canAct_75 at h
  refine aw_aload_n X dX12_canAct_75 rfl ?_
  refine aw_iload_n X dX12_canAct_76 rfl ?_
  obtain ⟨r6, er6, h⟩ := bnd h
  refine aw_callV X dX12_canAct_77 cv_RX12_353 (ok_X12_hasAny er6 _ _ _ _ _) iu_RX12 rfl (Nat.le_trans (by decide) hfr) (by decide) rfl rfl (Nat.le_of_ble_eq_true rfl) ?_
  refine aw_if_eq (tgt := 87) X dX12_canAct_80 (by decide) (fun c7 => ?_) (fun c7 => ?_)
  · rw [if_pos c7] at h
    refine aw_iconst (v := 0) X dX12_canAct_87 (by decide) ?_
    cases h
    exact aw_zret X dX12_canAct_88 rfl rfl hz.symm
  · rw [if_neg c7] at h
    refine aw_iconst (v := 1) X dX12_canAct_83 (by decide) ?_
    refine aw_goto (tgt := 88) X dX12_canAct_84 (by decide) ?_
    cases h
    exact aw_zret X dX12_canAct_88 rfl rfl hz.symm
set_option maxRecDepth 100000 in
set_option maxHeartbeats 4000000 in
theorem w_X12_canAct {fr : Nat} (hfr : 1 ≤ fr) (Z : AZ) (X : AX Z cX12_canAct 4 RX12 (some .boolean) 1 fr) (x1 : Int32) (x2 : Int32) (x3 : Int32) (s : Mem) (r : Int32 × Mem) (hz : zres Z = (some (.int r.1), r.2)) (h : f_X12_canAct x1 x2 x3 s = some r) : AW Z s 0 [some (.ref (zr Z 0)), some (.int x1), some (.int x2), some (.int x3)] [] := by
  unfold f_X12_canAct at h
  refine aw_aload_n X dX12_canAct_0 rfl ?_
  refine aw_iload_n X dX12_canAct_1 rfl ?_
  obtain ⟨r1, er1, h⟩ := bnd h
  refine aw_callV X dX12_canAct_2 cv_RX12_141 (ok_X12_isPerson er1 _ _ _ _ _) iu_RX12 rfl (Nat.le_trans (by decide) hfr) (by decide) rfl rfl (Nat.le_of_ble_eq_true rfl) ?_
  refine aw_if_ne (tgt := 10) X dX12_canAct_5 (by decide) (fun c2 => ?_) (fun c2 => ?_)
  · rw [if_neg c2] at h
    refine aw_iload_n X dX12_canAct_10 rfl ?_
    refine aw_if_ne (tgt := 33) X dX12_canAct_11 (by decide) (fun c3 => ?_) (fun c3 => ?_)
    · rw [if_neg c3] at h
      refine aw_iload_n X dX12_canAct_33 rfl ?_
      refine aw_iconst (v := 2) X dX12_canAct_34 (by decide) ?_
      refine aw_icmp_ne (tgt := 65) X dX12_canAct_35 (by decide) (fun c4 => ?_) (fun c4 => ?_)
      · rw [if_neg c4] at h
        refine aw_iload_n X dX12_canAct_65 rfl ?_
        refine aw_iconst (v := 1) X dX12_canAct_66 (by decide) ?_
        refine aw_icmp_eq (tgt := 75) X dX12_canAct_67 (by decide) (fun c5 => ?_) (fun c5 => ?_)
        · rw [if_pos c5] at h
          refine aw_msk [true, false, true, false] ?_
          exact jo_X12_canAct_75 hfr Z X _ _ _ hz h
        · rw [if_neg c5] at h
          refine aw_iload_n X dX12_canAct_70 rfl ?_
          refine aw_iconst (v := 3) X dX12_canAct_71 (by decide) ?_
          refine aw_icmp_ne (tgt := 87) X dX12_canAct_72 (by decide) (fun c8 => ?_) (fun c8 => ?_)
          · rw [if_neg c8] at h
            refine aw_iconst (v := 0) X dX12_canAct_87 (by decide) ?_
            cases h
            exact aw_zret X dX12_canAct_88 rfl rfl hz.symm
          · rw [if_pos c8] at h
            refine aw_msk [true, false, true, false] ?_
            exact jo_X12_canAct_75 hfr Z X _ _ _ hz h
      · rw [if_pos c4] at h
        refine aw_aload_n X dX12_canAct_38 rfl ?_
        refine aw_iload_n X dX12_canAct_39 rfl ?_
        obtain ⟨r9, er9, h⟩ := bnd h
        refine aw_callV X dX12_canAct_40 cv_RX12_141 (ok_X12_isPerson er9 _ _ _ _ _) iu_RX12 rfl (Nat.le_trans (by decide) hfr) (by decide) rfl rfl (Nat.le_of_ble_eq_true rfl) ?_
        refine aw_if_eq (tgt := 63) X dX12_canAct_43 (by decide) (fun c10 => ?_) (fun c10 => ?_)
        · rw [if_pos c10] at h
          refine aw_iconst (v := 0) X dX12_canAct_63 (by decide) ?_
          cases h
          exact aw_zret X dX12_canAct_64 rfl rfl hz.symm
        · rw [if_neg c10] at h
          refine aw_iload_n X dX12_canAct_46 rfl ?_
          refine aw_iload_n X dX12_canAct_47 rfl ?_
          refine aw_icmp_eq (tgt := 63) X dX12_canAct_48 (by decide) (fun c11 => ?_) (fun c11 => ?_)
          · rw [if_pos c11] at h
            refine aw_iconst (v := 0) X dX12_canAct_63 (by decide) ?_
            cases h
            exact aw_zret X dX12_canAct_64 rfl rfl hz.symm
          · rw [if_neg c11] at h
            refine aw_aload_n X dX12_canAct_51 rfl ?_
            refine aw_iload_n X dX12_canAct_52 rfl ?_
            obtain ⟨r12, er12, h⟩ := bnd h
            refine aw_callV X dX12_canAct_53 cv_RX12_353 (ok_X12_hasAny er12 _ _ _ _ _) iu_RX12 rfl (Nat.le_trans (by decide) hfr) (by decide) rfl rfl (Nat.le_of_ble_eq_true rfl) ?_
            refine aw_if_eq (tgt := 63) X dX12_canAct_56 (by decide) (fun c13 => ?_) (fun c13 => ?_)
            · rw [if_pos c13] at h
              refine aw_iconst (v := 0) X dX12_canAct_63 (by decide) ?_
              cases h
              exact aw_zret X dX12_canAct_64 rfl rfl hz.symm
            · rw [if_neg c13] at h
              refine aw_iconst (v := 1) X dX12_canAct_59 (by decide) ?_
              refine aw_goto (tgt := 64) X dX12_canAct_60 (by decide) ?_
              cases h
              exact aw_zret X dX12_canAct_64 rfl rfl hz.symm
    · rw [if_pos c3] at h
      refine aw_aload_n X dX12_canAct_14 rfl ?_
      refine aw_iload_n X dX12_canAct_15 rfl ?_
      obtain ⟨r14, er14, h⟩ := bnd h
      refine aw_callV X dX12_canAct_16 cv_RX12_141 (ok_X12_isPerson er14 _ _ _ _ _) iu_RX12 rfl (Nat.le_trans (by decide) hfr) (by decide) rfl rfl (Nat.le_of_ble_eq_true rfl) ?_
      refine aw_if_eq (tgt := 31) X dX12_canAct_19 (by decide) (fun c15 => ?_) (fun c15 => ?_)
      · rw [if_pos c15] at h
        refine aw_iconst (v := 0) X dX12_canAct_31 (by decide) ?_
        cases h
        exact aw_zret X dX12_canAct_32 rfl rfl hz.symm
      · rw [if_neg c15] at h
        refine aw_iload_n X dX12_canAct_22 rfl ?_
        refine aw_iload_n X dX12_canAct_23 rfl ?_
        refine aw_icmp_eq (tgt := 31) X dX12_canAct_24 (by decide) (fun c16 => ?_) (fun c16 => ?_)
        · rw [if_pos c16] at h
          refine aw_iconst (v := 0) X dX12_canAct_31 (by decide) ?_
          cases h
          exact aw_zret X dX12_canAct_32 rfl rfl hz.symm
        · rw [if_neg c16] at h
          refine aw_iconst (v := 1) X dX12_canAct_27 (by decide) ?_
          refine aw_goto (tgt := 32) X dX12_canAct_28 (by decide) ?_
          cases h
          exact aw_zret X dX12_canAct_32 rfl rfl hz.symm
  · rw [if_pos c2] at h
    refine aw_iconst (v := 0) X dX12_canAct_8 (by decide) ?_
    cases h
    exact aw_zret X dX12_canAct_9 rfl rfl hz.symm
set_option maxRecDepth 100000 in
set_option maxHeartbeats 4000000 in
theorem ok_X12_canAct {x1 x2 x3 : Int32} {s : Mem} {r : Int32 × Mem} (h : f_X12_canAct x1 x2 x3 s = some r) (l : Launch) (D : va_G) (ρ : Nat → Nat) (cA : ClassId × ClassId × ClassId) (τ : AT) : AM l D ρ cA 1 τ yX12_canAct cX12_canAct 4 (some .boolean) 1 [.ref (ρ 0), .int x1, .int x2, .int x3] (some (.int r.1)) s r.2 := by
  refine AM_of (L := [some (.ref (ρ 0)), some (.int x1), some (.int x2), some (.int x3)]) (by decide) (by simp [Value.category]) (Nat.le_of_ble_eq_true rfl) (fun j v q => ?_) (fun Z X hρ hz hτ => ?_)
  · exact aL_ok (n := 0) [.ref (ρ 0), .int x1, .int x2, .int x3] j v q
  · subst hρ
    subst hτ
    exact w_X12_canAct (Nat.le_refl _) Z X x1 x2 x3 s r hz h

theorem dX12_act_0 : decode cX12_act 0 = .ok (.aload_n 0, 1) := by decide +kernel
theorem dX12_act_1 : decode cX12_act 1 = .ok (.iconst 0, 1) := by decide +kernel
theorem dX12_act_2 : decode cX12_act 2 = .ok (.putfield 122, 3) := by decide +kernel
theorem dX12_act_5 : decode cX12_act 5 = .ok (.aload_n 0, 1) := by decide +kernel
theorem dX12_act_6 : decode cX12_act 6 = .ok (.iload_n 1, 1) := by decide +kernel
theorem dX12_act_7 : decode cX12_act 7 = .ok (.iload_n 2, 1) := by decide +kernel
theorem dX12_act_8 : decode cX12_act 8 = .ok (.iload_n 3, 1) := by decide +kernel
theorem dX12_act_9 : decode cX12_act 9 = .ok (.invokevirtual 365, 3) := by decide +kernel
theorem dX12_act_12 : decode cX12_act 12 = .ok (.ifCond .ne 5, 3) := by decide +kernel
theorem dX12_act_15 : decode cX12_act 15 = .ok (.iconst 0, 1) := by decide +kernel
theorem dX12_act_16 : decode cX12_act 16 = .ok (.ireturn, 1) := by decide +kernel
theorem dX12_act_17 : decode cX12_act 17 = .ok (.aload_n 0, 1) := by decide +kernel
theorem dX12_act_18 : decode cX12_act 18 = .ok (.invokevirtual 368, 3) := by decide +kernel
theorem dX12_act_21 : decode cX12_act 21 = .ok (.iload_n 1, 1) := by decide +kernel
theorem dX12_act_22 : decode cX12_act 22 = .ok (.ifCond .ne 9, 3) := by decide +kernel
theorem dX12_act_25 : decode cX12_act 25 = .ok (.aload_n 0, 1) := by decide +kernel
theorem dX12_act_26 : decode cX12_act 26 = .ok (.iload_n 3, 1) := by decide +kernel
theorem dX12_act_27 : decode cX12_act 27 = .ok (.iload_n 2, 1) := by decide +kernel
theorem dX12_act_28 : decode cX12_act 28 = .ok (.invokevirtual 371, 3) := by decide +kernel
theorem dX12_act_31 : decode cX12_act 31 = .ok (.iload_n 1, 1) := by decide +kernel
theorem dX12_act_32 : decode cX12_act 32 = .ok (.iconst 1, 1) := by decide +kernel
theorem dX12_act_33 : decode cX12_act 33 = .ok (.if_icmp .ne 8, 3) := by decide +kernel
theorem dX12_act_36 : decode cX12_act 36 = .ok (.aload_n 0, 1) := by decide +kernel
theorem dX12_act_37 : decode cX12_act 37 = .ok (.iload_n 2, 1) := by decide +kernel
theorem dX12_act_38 : decode cX12_act 38 = .ok (.invokevirtual 374, 3) := by decide +kernel
theorem dX12_act_41 : decode cX12_act 41 = .ok (.iload_n 1, 1) := by decide +kernel
theorem dX12_act_42 : decode cX12_act 42 = .ok (.iconst 2, 1) := by decide +kernel
theorem dX12_act_43 : decode cX12_act 43 = .ok (.if_icmp .ne 9, 3) := by decide +kernel
theorem dX12_act_46 : decode cX12_act 46 = .ok (.aload_n 0, 1) := by decide +kernel
theorem dX12_act_47 : decode cX12_act 47 = .ok (.iload_n 2, 1) := by decide +kernel
theorem dX12_act_48 : decode cX12_act 48 = .ok (.iload_n 3, 1) := by decide +kernel
theorem dX12_act_49 : decode cX12_act 49 = .ok (.invokevirtual 377, 3) := by decide +kernel
theorem dX12_act_52 : decode cX12_act 52 = .ok (.iload_n 1, 1) := by decide +kernel
theorem dX12_act_53 : decode cX12_act 53 = .ok (.iconst 3, 1) := by decide +kernel
theorem dX12_act_54 : decode cX12_act 54 = .ok (.if_icmp .ne 9, 3) := by decide +kernel
theorem dX12_act_57 : decode cX12_act 57 = .ok (.aload_n 0, 1) := by decide +kernel
theorem dX12_act_58 : decode cX12_act 58 = .ok (.iload_n 2, 1) := by decide +kernel
theorem dX12_act_59 : decode cX12_act 59 = .ok (.invokevirtual 380, 3) := by decide +kernel
theorem dX12_act_62 : decode cX12_act 62 = .ok (.pop, 1) := by decide +kernel
theorem dX12_act_63 : decode cX12_act 63 = .ok (.iconst 1, 1) := by decide +kernel
theorem dX12_act_64 : decode cX12_act 64 = .ok (.ireturn, 1) := by decide +kernel
set_option maxRecDepth 100000 in
set_option maxHeartbeats 4000000 in
theorem jo_X12_act_52 {fr : Nat} (hfr : 6 ≤ fr) (Z : AZ) (X : AX Z cX12_act 4 RX12 (some .boolean) 1 fr) (x1 : Int32) (x2 : Int32) (s : Mem) (r : Int32 × Mem) (hz : zres Z = (some (.int r.1), r.2)) (h : jn_X12_act_52 x1 x2 s = some r) : AW Z s 52 [some (.ref (zr Z 0)), some (.int x1), some (.int x2), none] [] := by
  unfold jn_X12_act_52 at h
  refine aw_iload_n X dX12_act_52 rfl ?_
  refine aw_iconst (v := 3) X dX12_act_53 (by decide) ?_
  refine aw_icmp_ne (tgt := 63) X dX12_act_54 (by decide) (fun c7 => ?_) (fun c7 => ?_)
  · rw [if_neg c7] at h
    refine aw_iconst (v := 1) X dX12_act_63 (by decide) ?_
    cases h
    exact aw_zret X dX12_act_64 rfl rfl hz.symm
  · rw [if_pos c7] at h
    refine aw_aload_n X dX12_act_57 rfl ?_
    refine aw_iload_n X dX12_act_58 rfl ?_
    obtain ⟨r8, er8, h⟩ := bnd h
    refine aw_callV X dX12_act_59 cv_RX12_380 (ok_X12_says er8 _ _ _ _ _) iu_RX12 rfl (Nat.le_trans (by decide) hfr) (by decide) rfl rfl (Nat.le_of_ble_eq_true rfl) ?_
    refine aw_pop X dX12_act_62 rfl ?_
    refine aw_iconst (v := 1) X dX12_act_63 (by decide) ?_
    cases h
    exact aw_zret X dX12_act_64 rfl rfl hz.symm
set_option maxRecDepth 100000 in
set_option maxHeartbeats 4000000 in
theorem jo_X12_act_41 {fr : Nat} (hfr : 6 ≤ fr) (Z : AZ) (X : AX Z cX12_act 4 RX12 (some .boolean) 1 fr) (x1 : Int32) (x2 : Int32) (x3 : Int32) (s : Mem) (r : Int32 × Mem) (hz : zres Z = (some (.int r.1), r.2)) (h : jn_X12_act_41 x1 x2 x3 s = some r) : AW Z s 41 [some (.ref (zr Z 0)), some (.int x1), some (.int x2), some (.int x3)] [] := by
  unfold jn_X12_act_41 at h
  refine aw_iload_n X dX12_act_41 rfl ?_
  refine aw_iconst (v := 2) X dX12_act_42 (by decide) ?_
  refine aw_icmp_ne (tgt := 52) X dX12_act_43 (by decide) (fun c6 => ?_) (fun c6 => ?_)
  · rw [if_neg c6] at h
    refine aw_msk [true, true, true, false] ?_
    exact jo_X12_act_52 hfr Z X _ _ _ _ hz h
  · rw [if_pos c6] at h
    refine aw_aload_n X dX12_act_46 rfl ?_
    refine aw_iload_n X dX12_act_47 rfl ?_
    refine aw_iload_n X dX12_act_48 rfl ?_
    obtain ⟨r9, er9, h⟩ := bnd h
    refine aw_callV X dX12_act_49 cv_RX12_377 (ok_X12_handsOn er9 _ _ _ _ _) iu_RX12 rfl (Nat.le_trans (by decide) hfr) (by decide) rfl rfl (Nat.le_of_ble_eq_true rfl) ?_
    refine aw_msk [true, true, true, false] ?_
    exact jo_X12_act_52 hfr Z X _ _ _ _ hz h
set_option maxRecDepth 100000 in
set_option maxHeartbeats 4000000 in
theorem jo_X12_act_31 {fr : Nat} (hfr : 6 ≤ fr) (Z : AZ) (X : AX Z cX12_act 4 RX12 (some .boolean) 1 fr) (x1 : Int32) (x2 : Int32) (x3 : Int32) (s : Mem) (r : Int32 × Mem) (hz : zres Z = (some (.int r.1), r.2)) (h : jn_X12_act_31 x1 x2 x3 s = some r) : AW Z s 31 [some (.ref (zr Z 0)), some (.int x1), some (.int x2), some (.int x3)] [] := by
  unfold jn_X12_act_31 at h
  refine aw_iload_n X dX12_act_31 rfl ?_
  refine aw_iconst (v := 1) X dX12_act_32 (by decide) ?_
  refine aw_icmp_ne (tgt := 41) X dX12_act_33 (by decide) (fun c5 => ?_) (fun c5 => ?_)
  · rw [if_neg c5] at h
    refine aw_msk [true, true, true, true] ?_
    exact jo_X12_act_41 hfr Z X _ _ _ _ _ hz h
  · rw [if_pos c5] at h
    refine aw_aload_n X dX12_act_36 rfl ?_
    refine aw_iload_n X dX12_act_37 rfl ?_
    obtain ⟨r10, er10, h⟩ := bnd h
    refine aw_callV X dX12_act_38 cv_RX12_374 (ok_X12_isFrightened er10 _ _ _ _ _) iu_RX12 rfl (Nat.le_trans (by decide) hfr) (by decide) rfl rfl (Nat.le_of_ble_eq_true rfl) ?_
    refine aw_msk [true, true, true, true] ?_
    exact jo_X12_act_41 hfr Z X _ _ _ _ _ hz h
set_option maxRecDepth 100000 in
set_option maxHeartbeats 4000000 in
theorem w_X12_act {fr : Nat} (hfr : 6 ≤ fr) (Z : AZ) (X : AX Z cX12_act 4 RX12 (some .boolean) 1 fr) (x1 : Int32) (x2 : Int32) (x3 : Int32) (s : Mem) (r : Int32 × Mem) (hz : zres Z = (some (.int r.1), r.2)) (h : f_X12_act x1 x2 x3 s = some r) : AW Z s 0 [some (.ref (zr Z 0)), some (.int x1), some (.int x2), some (.int x3)] [] := by
  unfold f_X12_act at h
  refine aw_aload_n X dX12_act_0 rfl ?_
  refine aw_iconst (v := 0) X dX12_act_1 (by decide) ?_
  refine aw_put X dX12_act_2 fp_RX12_122 iu_RX12 gu_RX12_0 rfl rfl ?_
  refine aw_aload_n X dX12_act_5 rfl ?_
  refine aw_iload_n X dX12_act_6 rfl ?_
  refine aw_iload_n X dX12_act_7 rfl ?_
  refine aw_iload_n X dX12_act_8 rfl ?_
  obtain ⟨r1, er1, h⟩ := bnd h
  refine aw_callV X dX12_act_9 cv_RX12_365 (ok_X12_canAct er1 _ _ _ _ _) iu_RX12 rfl (Nat.le_trans (by decide) hfr) (by decide) rfl rfl (Nat.le_of_ble_eq_true rfl) ?_
  refine aw_if_ne (tgt := 17) X dX12_act_12 (by decide) (fun c2 => ?_) (fun c2 => ?_)
  · rw [if_neg c2] at h
    refine aw_aload_n X dX12_act_17 rfl ?_
    obtain ⟨r3, er3, h⟩ := bnd h
    refine aw_callV X dX12_act_18 cv_RX12_368 (ok_X12_keepsAhead er3 _ _ _ _ _) iu_RX12 rfl (Nat.le_trans (by decide) hfr) (by decide) rfl rfl (Nat.le_of_ble_eq_true rfl) ?_
    refine aw_iload_n X dX12_act_21 rfl ?_
    refine aw_if_ne (tgt := 31) X dX12_act_22 (by decide) (fun c4 => ?_) (fun c4 => ?_)
    · rw [if_neg c4] at h
      refine aw_msk [true, true, true, true] ?_
      exact jo_X12_act_31 hfr Z X _ _ _ _ _ hz h
    · rw [if_pos c4] at h
      refine aw_aload_n X dX12_act_25 rfl ?_
      refine aw_iload_n X dX12_act_26 rfl ?_
      refine aw_iload_n X dX12_act_27 rfl ?_
      obtain ⟨r11, er11, h⟩ := bnd h
      refine aw_callV X dX12_act_28 cv_RX12_371 (ok_X12_isNamed er11 _ _ _ _ _) iu_RX12 rfl (Nat.le_trans (by decide) hfr) (by decide) rfl rfl (Nat.le_of_ble_eq_true rfl) ?_
      refine aw_msk [true, true, true, true] ?_
      exact jo_X12_act_31 hfr Z X _ _ _ _ _ hz h
  · rw [if_pos c2] at h
    refine aw_iconst (v := 0) X dX12_act_15 (by decide) ?_
    cases h
    exact aw_zret X dX12_act_16 rfl rfl hz.symm
set_option maxRecDepth 100000 in
set_option maxHeartbeats 4000000 in
theorem ok_X12_act {x1 x2 x3 : Int32} {s : Mem} {r : Int32 × Mem} (h : f_X12_act x1 x2 x3 s = some r) (l : Launch) (D : va_G) (ρ : Nat → Nat) (cA : ClassId × ClassId × ClassId) (τ : AT) : AM l D ρ cA 1 τ yX12_act cX12_act 4 (some .boolean) 6 [.ref (ρ 0), .int x1, .int x2, .int x3] (some (.int r.1)) s r.2 := by
  refine AM_of (L := [some (.ref (ρ 0)), some (.int x1), some (.int x2), some (.int x3)]) (by decide) (by simp [Value.category]) (Nat.le_of_ble_eq_true rfl) (fun j v q => ?_) (fun Z X hρ hz hτ => ?_)
  · exact aL_ok (n := 0) [.ref (ρ 0), .int x1, .int x2, .int x3] j v q
  · subst hρ
    subst hτ
    exact w_X12_act (Nat.le_refl _) Z X x1 x2 x3 s r hz h

theorem dX12_happens_0 : decode cX12_happens 0 = .ok (.aload_n 0, 1) := by decide +kernel
theorem dX12_happens_1 : decode cX12_happens 1 = .ok (.getfield 128, 3) := by decide +kernel
theorem dX12_happens_4 : decode cX12_happens 4 = .ok (.ifCond .eq 20, 3) := by decide +kernel
theorem dX12_happens_7 : decode cX12_happens 7 = .ok (.iconst 2, 1) := by decide +kernel
theorem dX12_happens_8 : decode cX12_happens 8 = .ok (.iload_n 1, 1) := by decide +kernel
theorem dX12_happens_9 : decode cX12_happens 9 = .ok (.imul, 1) := by decide +kernel
theorem dX12_happens_10 : decode cX12_happens 10 = .ok (.sipush 1000, 3) := by decide +kernel
theorem dX12_happens_13 : decode cX12_happens 13 = .ok (.if_icmp .lt 7, 3) := by decide +kernel
theorem dX12_happens_16 : decode cX12_happens 16 = .ok (.iconst 1, 1) := by decide +kernel
theorem dX12_happens_17 : decode cX12_happens 17 = .ok (.goto 27, 3) := by decide +kernel
theorem dX12_happens_20 : decode cX12_happens 20 = .ok (.iconst 0, 1) := by decide +kernel
theorem dX12_happens_21 : decode cX12_happens 21 = .ok (.goto 23, 3) := by decide +kernel
theorem dX12_happens_24 : decode cX12_happens 24 = .ok (.iload_n 1, 1) := by decide +kernel
theorem dX12_happens_25 : decode cX12_happens 25 = .ok (.ifCond .le 18, 3) := by decide +kernel
theorem dX12_happens_28 : decode cX12_happens 28 = .ok (.aload_n 0, 1) := by decide +kernel
theorem dX12_happens_29 : decode cX12_happens 29 = .ok (.sipush 1000, 3) := by decide +kernel
theorem dX12_happens_32 : decode cX12_happens 32 = .ok (.invokevirtual 383, 3) := by decide +kernel
theorem dX12_happens_35 : decode cX12_happens 35 = .ok (.iload_n 1, 1) := by decide +kernel
theorem dX12_happens_36 : decode cX12_happens 36 = .ok (.if_icmp .ge 7, 3) := by decide +kernel
theorem dX12_happens_39 : decode cX12_happens 39 = .ok (.iconst 1, 1) := by decide +kernel
theorem dX12_happens_40 : decode cX12_happens 40 = .ok (.goto 4, 3) := by decide +kernel
theorem dX12_happens_43 : decode cX12_happens 43 = .ok (.iconst 0, 1) := by decide +kernel
theorem dX12_happens_44 : decode cX12_happens 44 = .ok (.ireturn, 1) := by decide +kernel
set_option maxRecDepth 100000 in
set_option maxHeartbeats 4000000 in
theorem w_X12_happens {fr : Nat} (hfr : 1 ≤ fr) (Z : AZ) (X : AX Z cX12_happens 2 RX12 (some .boolean) 1 fr) (x1 : Int32) (s : Mem) (r : Int32 × Mem) (hz : zres Z = (some (.int r.1), r.2)) (h : f_X12_happens x1 s = some r) : AW Z s 0 [some (.ref (zr Z 0)), some (.int x1)] [] := by
  unfold f_X12_happens at h
  refine aw_aload_n X dX12_happens_0 rfl ?_
  refine aw_geti X dX12_happens_1 fl_RX12_128 iu_RX12 gu_RX12_5 ?_
  refine aw_if_eq (tgt := 24) X dX12_happens_4 (by decide) (fun c1 => ?_) (fun c1 => ?_)
  · rw [if_pos c1] at h
    refine aw_iload_n X dX12_happens_24 rfl ?_
    refine aw_if_le (tgt := 43) X dX12_happens_25 (by decide) (fun c2 => ?_) (fun c2 => ?_)
    · rw [if_pos c2] at h
      refine aw_iconst (v := 0) X dX12_happens_43 (by decide) ?_
      cases h
      exact aw_zret X dX12_happens_44 rfl rfl hz.symm
    · rw [if_neg c2] at h
      refine aw_aload_n X dX12_happens_28 rfl ?_
      refine aw_sipush (v := 1000) X dX12_happens_29 (by decide) ?_
      obtain ⟨r3, er3, h⟩ := bnd h
      refine aw_callV X dX12_happens_32 cv_RX12_383 (ok_X12_draw er3 _ _ _ _ _) iu_RX12 rfl (Nat.le_trans (by decide) hfr) (by decide) rfl rfl (Nat.le_of_ble_eq_true rfl) ?_
      refine aw_iload_n X dX12_happens_35 rfl ?_
      refine aw_icmp_ge (tgt := 43) X dX12_happens_36 (by decide) (fun c4 => ?_) (fun c4 => ?_)
      · rw [if_pos c4] at h
        refine aw_iconst (v := 0) X dX12_happens_43 (by decide) ?_
        cases h
        exact aw_zret X dX12_happens_44 rfl rfl hz.symm
      · rw [if_neg c4] at h
        refine aw_iconst (v := 1) X dX12_happens_39 (by decide) ?_
        refine aw_goto (tgt := 44) X dX12_happens_40 (by decide) ?_
        cases h
        exact aw_zret X dX12_happens_44 rfl rfl hz.symm
  · rw [if_neg c1] at h
    refine aw_iconst (v := 2) X dX12_happens_7 (by decide) ?_
    refine aw_iload_n X dX12_happens_8 rfl ?_
    refine aw_imul X dX12_happens_9 ?_
    refine aw_sipush (v := 1000) X dX12_happens_10 (by decide) ?_
    refine aw_icmp_lt (tgt := 20) X dX12_happens_13 (by decide) (fun c5 => ?_) (fun c5 => ?_)
    · rw [if_pos c5] at h
      refine aw_iconst (v := 0) X dX12_happens_20 (by decide) ?_
      refine aw_goto (tgt := 44) X dX12_happens_21 (by decide) ?_
      cases h
      exact aw_zret X dX12_happens_44 rfl rfl hz.symm
    · rw [if_neg c5] at h
      refine aw_iconst (v := 1) X dX12_happens_16 (by decide) ?_
      refine aw_goto (tgt := 44) X dX12_happens_17 (by decide) ?_
      cases h
      exact aw_zret X dX12_happens_44 rfl rfl hz.symm
set_option maxRecDepth 100000 in
set_option maxHeartbeats 4000000 in
theorem ok_X12_happens {x1 : Int32} {s : Mem} {r : Int32 × Mem} (h : f_X12_happens x1 s = some r) (l : Launch) (D : va_G) (ρ : Nat → Nat) (cA : ClassId × ClassId × ClassId) (τ : AT) : AM l D ρ cA 1 τ yX12_happens cX12_happens 2 (some .boolean) 1 [.ref (ρ 0), .int x1] (some (.int r.1)) s r.2 := by
  refine AM_of (L := [some (.ref (ρ 0)), some (.int x1)]) (by decide) (by simp [Value.category]) (Nat.le_of_ble_eq_true rfl) (fun j v q => ?_) (fun Z X hρ hz hτ => ?_)
  · exact aL_ok (n := 0) [.ref (ρ 0), .int x1] j v q
  · subst hρ
    subst hτ
    exact w_X12_happens (Nat.le_refl _) Z X x1 s r hz h

theorem dX12_takesCure_0 : decode cX12_takesCure 0 = .ok (.aload_n 0, 1) := by decide +kernel
theorem dX12_takesCure_1 : decode cX12_takesCure 1 = .ok (.getfield 59, 3) := by decide +kernel
theorem dX12_takesCure_4 : decode cX12_takesCure 4 = .ok (.iload_n 1, 1) := by decide +kernel
theorem dX12_takesCure_5 : decode cX12_takesCure 5 = .ok (.iconst 1, 1) := by decide +kernel
theorem dX12_takesCure_6 : decode cX12_takesCure 6 = .ok (.iadd, 1) := by decide +kernel
theorem dX12_takesCure_7 : decode cX12_takesCure 7 = .ok (.iaload, 1) := by decide +kernel
theorem dX12_takesCure_8 : decode cX12_takesCure 8 = .ok (.istore_n 2, 1) := by decide +kernel
theorem dX12_takesCure_9 : decode cX12_takesCure 9 = .ok (.aload_n 0, 1) := by decide +kernel
theorem dX12_takesCure_10 : decode cX12_takesCure 10 = .ok (.getfield 59, 3) := by decide +kernel
theorem dX12_takesCure_13 : decode cX12_takesCure 13 = .ok (.iload_n 1, 1) := by decide +kernel
theorem dX12_takesCure_14 : decode cX12_takesCure 14 = .ok (.iconst 2, 1) := by decide +kernel
theorem dX12_takesCure_15 : decode cX12_takesCure 15 = .ok (.iadd, 1) := by decide +kernel
theorem dX12_takesCure_16 : decode cX12_takesCure 16 = .ok (.iaload, 1) := by decide +kernel
theorem dX12_takesCure_17 : decode cX12_takesCure 17 = .ok (.istore_n 3, 1) := by decide +kernel
theorem dX12_takesCure_18 : decode cX12_takesCure 18 = .ok (.iload_n 2, 1) := by decide +kernel
theorem dX12_takesCure_19 : decode cX12_takesCure 19 = .ok (.ifCond .ne 8, 3) := by decide +kernel
theorem dX12_takesCure_22 : decode cX12_takesCure 22 = .ok (.aload_n 0, 1) := by decide +kernel
theorem dX12_takesCure_23 : decode cX12_takesCure 23 = .ok (.iload_n 3, 1) := by decide +kernel
theorem dX12_takesCure_24 : decode cX12_takesCure 24 = .ok (.invokevirtual 374, 3) := by decide +kernel
theorem dX12_takesCure_27 : decode cX12_takesCure 27 = .ok (.iload_n 2, 1) := by decide +kernel
theorem dX12_takesCure_28 : decode cX12_takesCure 28 = .ok (.iconst 1, 1) := by decide +kernel
theorem dX12_takesCure_29 : decode cX12_takesCure 29 = .ok (.if_icmp .ne 31, 3) := by decide +kernel
theorem dX12_takesCure_32 : decode cX12_takesCure 32 = .ok (.aload_n 0, 1) := by decide +kernel
theorem dX12_takesCure_33 : decode cX12_takesCure 33 = .ok (.iload_n 3, 1) := by decide +kernel
theorem dX12_takesCure_34 : decode cX12_takesCure 34 = .ok (.aload_n 0, 1) := by decide +kernel
theorem dX12_takesCure_35 : decode cX12_takesCure 35 = .ok (.iconst 0, 1) := by decide +kernel
theorem dX12_takesCure_36 : decode cX12_takesCure 36 = .ok (.aload_n 0, 1) := by decide +kernel
theorem dX12_takesCure_37 : decode cX12_takesCure 37 = .ok (.getfield 7, 3) := by decide +kernel
theorem dX12_takesCure_40 : decode cX12_takesCure 40 = .ok (.bipush 18, 2) := by decide +kernel
theorem dX12_takesCure_42 : decode cX12_takesCure 42 = .ok (.iload_n 3, 1) := by decide +kernel
theorem dX12_takesCure_43 : decode cX12_takesCure 43 = .ok (.iadd, 1) := by decide +kernel
theorem dX12_takesCure_44 : decode cX12_takesCure 44 = .ok (.iaload, 1) := by decide +kernel
theorem dX12_takesCure_45 : decode cX12_takesCure 45 = .ok (.aload_n 0, 1) := by decide +kernel
theorem dX12_takesCure_46 : decode cX12_takesCure 46 = .ok (.getfield 59, 3) := by decide +kernel
theorem dX12_takesCure_49 : decode cX12_takesCure 49 = .ok (.iload_n 1, 1) := by decide +kernel
theorem dX12_takesCure_50 : decode cX12_takesCure 50 = .ok (.iconst 3, 1) := by decide +kernel
theorem dX12_takesCure_51 : decode cX12_takesCure 51 = .ok (.iadd, 1) := by decide +kernel
theorem dX12_takesCure_52 : decode cX12_takesCure 52 = .ok (.iaload, 1) := by decide +kernel
theorem dX12_takesCure_53 : decode cX12_takesCure 53 = .ok (.isub, 1) := by decide +kernel
theorem dX12_takesCure_54 : decode cX12_takesCure 54 = .ok (.invokevirtual 386, 3) := by decide +kernel
theorem dX12_takesCure_57 : decode cX12_takesCure 57 = .ok (.invokevirtual 145, 3) := by decide +kernel
theorem dX12_takesCure_60 : decode cX12_takesCure 60 = .ok (.iload_n 2, 1) := by decide +kernel
theorem dX12_takesCure_61 : decode cX12_takesCure 61 = .ok (.iconst 2, 1) := by decide +kernel
theorem dX12_takesCure_62 : decode cX12_takesCure 62 = .ok (.if_icmp .ne 16, 3) := by decide +kernel
theorem dX12_takesCure_65 : decode cX12_takesCure 65 = .ok (.aload_n 0, 1) := by decide +kernel
theorem dX12_takesCure_66 : decode cX12_takesCure 66 = .ok (.iload_n 3, 1) := by decide +kernel
theorem dX12_takesCure_67 : decode cX12_takesCure 67 = .ok (.aload_n 0, 1) := by decide +kernel
theorem dX12_takesCure_68 : decode cX12_takesCure 68 = .ok (.getfield 59, 3) := by decide +kernel
theorem dX12_takesCure_71 : decode cX12_takesCure 71 = .ok (.iload_n 1, 1) := by decide +kernel
theorem dX12_takesCure_72 : decode cX12_takesCure 72 = .ok (.iconst 3, 1) := by decide +kernel
theorem dX12_takesCure_73 : decode cX12_takesCure 73 = .ok (.iadd, 1) := by decide +kernel
theorem dX12_takesCure_74 : decode cX12_takesCure 74 = .ok (.iaload, 1) := by decide +kernel
theorem dX12_takesCure_75 : decode cX12_takesCure 75 = .ok (.invokevirtual 377, 3) := by decide +kernel
theorem dX12_takesCure_78 : decode cX12_takesCure 78 = .ok (.iload_n 2, 1) := by decide +kernel
theorem dX12_takesCure_79 : decode cX12_takesCure 79 = .ok (.iconst 2, 1) := by decide +kernel
theorem dX12_takesCure_80 : decode cX12_takesCure 80 = .ok (.if_icmp .le 27, 3) := by decide +kernel
theorem dX12_takesCure_83 : decode cX12_takesCure 83 = .ok (.aload_n 0, 1) := by decide +kernel
theorem dX12_takesCure_84 : decode cX12_takesCure 84 = .ok (.getfield 7, 3) := by decide +kernel
theorem dX12_takesCure_87 : decode cX12_takesCure 87 = .ok (.iconst 4, 1) := by decide +kernel
theorem dX12_takesCure_88 : decode cX12_takesCure 88 = .ok (.iload_n 3, 1) := by decide +kernel
theorem dX12_takesCure_89 : decode cX12_takesCure 89 = .ok (.iadd, 1) := by decide +kernel
theorem dX12_takesCure_90 : decode cX12_takesCure 90 = .ok (.aload_n 0, 1) := by decide +kernel
theorem dX12_takesCure_91 : decode cX12_takesCure 91 = .ok (.bipush 9, 2) := by decide +kernel
theorem dX12_takesCure_93 : decode cX12_takesCure 93 = .ok (.aload_n 0, 1) := by decide +kernel
theorem dX12_takesCure_94 : decode cX12_takesCure 94 = .ok (.getfield 7, 3) := by decide +kernel
theorem dX12_takesCure_97 : decode cX12_takesCure 97 = .ok (.iconst 4, 1) := by decide +kernel
theorem dX12_takesCure_98 : decode cX12_takesCure 98 = .ok (.iload_n 3, 1) := by decide +kernel
theorem dX12_takesCure_99 : decode cX12_takesCure 99 = .ok (.iadd, 1) := by decide +kernel
theorem dX12_takesCure_100 : decode cX12_takesCure 100 = .ok (.iaload, 1) := by decide +kernel
theorem dX12_takesCure_101 : decode cX12_takesCure 101 = .ok (.iconst 1, 1) := by decide +kernel
theorem dX12_takesCure_102 : decode cX12_takesCure 102 = .ok (.iadd, 1) := by decide +kernel
theorem dX12_takesCure_103 : decode cX12_takesCure 103 = .ok (.invokevirtual 346, 3) := by decide +kernel
theorem dX12_takesCure_106 : decode cX12_takesCure 106 = .ok (.iastore, 1) := by decide +kernel
theorem dX12_takesCure_107 : decode cX12_takesCure 107 = .ok (.return_, 1) := by decide +kernel
set_option maxRecDepth 100000 in
set_option maxHeartbeats 4000000 in
theorem jo_X12_takesCure_78 {fr : Nat} (hfr : 2 ≤ fr) (Z : AZ) (X : AX Z cX12_takesCure 4 RX12 none 1 fr) (x2 : Int32) (x3 : Int32) (s : Mem) (r : Mem) (hz : zres Z = (none, r)) (h : jn_X12_takesCure_78 x2 x3 s = some r) : AW Z s 78 [some (.ref (zr Z 0)), none, some (.int x2), some (.int x3)] [] := by
  unfold jn_X12_takesCure_78 at h
  refine aw_iload_n X dX12_takesCure_78 rfl ?_
  refine aw_iconst (v := 2) X dX12_takesCure_79 (by decide) ?_
  refine aw_icmp_le (tgt := 107) X dX12_takesCure_80 (by decide) (fun c6 => ?_) (fun c6 => ?_)
  · rw [if_pos c6] at h
    cases h
    exact aw_vret X dX12_takesCure_107 rfl hz.symm
  · rw [if_neg c6] at h
    refine aw_aload_n X dX12_takesCure_83 rfl ?_
    refine aw_getr X dX12_takesCure_84 fl_RX12_7 iu_RX12 gu_RX12_1 ?_
    refine aw_iconst (v := 4) X dX12_takesCure_87 (by decide) ?_
    refine aw_iload_n X dX12_takesCure_88 rfl ?_
    refine aw_iadd X dX12_takesCure_89 ?_
    refine aw_aload_n X dX12_takesCure_90 rfl ?_
    refine aw_bipush (v := 9) X dX12_takesCure_91 (by decide) ?_
    refine aw_aload_n X dX12_takesCure_93 rfl ?_
    refine aw_getr X dX12_takesCure_94 fl_RX12_7 iu_RX12 gu_RX12_1 ?_
    refine aw_iconst (v := 4) X dX12_takesCure_97 (by decide) ?_
    refine aw_iload_n X dX12_takesCure_98 rfl ?_
    refine aw_iadd X dX12_takesCure_99 ?_
    obtain ⟨v7, ev7, h⟩ := bnd h
    refine aw_iald X dX12_takesCure_100 iu_RX12_1 ev7 ?_
    refine aw_iconst (v := 1) X dX12_takesCure_101 (by decide) ?_
    refine aw_iadd X dX12_takesCure_102 ?_
    obtain ⟨r8, er8, h⟩ := bnd h
    refine aw_callV X dX12_takesCure_103 cv_RX12_346 (ok_X12_lesser er8 _ _ _ _ _) iu_RX12 rfl (Nat.le_trans (by decide) hfr) (by decide) rfl rfl (Nat.le_of_ble_eq_true rfl) ?_
    obtain ⟨s9, es9, h⟩ := bnd h
    refine aw_iast X dX12_takesCure_106 iu_RX12_1 es9 ?_
    cases h
    exact aw_vret X dX12_takesCure_107 rfl hz.symm
set_option maxRecDepth 100000 in
set_option maxHeartbeats 4000000 in
theorem jo_X12_takesCure_60 {fr : Nat} (hfr : 2 ≤ fr) (Z : AZ) (X : AX Z cX12_takesCure 4 RX12 none 1 fr) (x1 : Int32) (x2 : Int32) (x3 : Int32) (s : Mem) (r : Mem) (hz : zres Z = (none, r)) (h : jn_X12_takesCure_60 x1 x2 x3 s = some r) : AW Z s 60 [some (.ref (zr Z 0)), some (.int x1), some (.int x2), some (.int x3)] [] := by
  unfold jn_X12_takesCure_60 at h
  refine aw_iload_n X dX12_takesCure_60 rfl ?_
  refine aw_iconst (v := 2) X dX12_takesCure_61 (by decide) ?_
  refine aw_icmp_ne (tgt := 78) X dX12_takesCure_62 (by decide) (fun c5 => ?_) (fun c5 => ?_)
  · rw [if_neg c5] at h
    refine aw_msk [true, false, true, true] ?_
    exact jo_X12_takesCure_78 hfr Z X _ _ _ _ hz h
  · rw [if_pos c5] at h
    refine aw_aload_n X dX12_takesCure_65 rfl ?_
    refine aw_iload_n X dX12_takesCure_66 rfl ?_
    refine aw_aload_n X dX12_takesCure_67 rfl ?_
    refine aw_getr X dX12_takesCure_68 fl_RX12_59 iu_RX12 gu_RX12_34 ?_
    refine aw_iload_n X dX12_takesCure_71 rfl ?_
    refine aw_iconst (v := 3) X dX12_takesCure_72 (by decide) ?_
    refine aw_iadd X dX12_takesCure_73 ?_
    obtain ⟨v10, ev10, h⟩ := bnd h
    refine aw_iald X dX12_takesCure_74 iu_RX12_34 ev10 ?_
    obtain ⟨r11, er11, h⟩ := bnd h
    refine aw_callV X dX12_takesCure_75 cv_RX12_377 (ok_X12_handsOn er11 _ _ _ _ _) iu_RX12 rfl (Nat.le_trans (by decide) hfr) (by decide) rfl rfl (Nat.le_of_ble_eq_true rfl) ?_
    refine aw_msk [true, false, true, true] ?_
    exact jo_X12_takesCure_78 hfr Z X _ _ _ _ hz h
set_option maxRecDepth 100000 in
set_option maxHeartbeats 4000000 in
theorem jo_X12_takesCure_27 {fr : Nat} (hfr : 2 ≤ fr) (Z : AZ) (X : AX Z cX12_takesCure 4 RX12 none 1 fr) (x1 : Int32) (x2 : Int32) (x3 : Int32) (s : Mem) (r : Mem) (hz : zres Z = (none, r)) (h : jn_X12_takesCure_27 x1 x2 x3 s = some r) : AW Z s 27 [some (.ref (zr Z 0)), some (.int x1), some (.int x2), some (.int x3)] [] := by
  unfold jn_X12_takesCure_27 at h
  refine aw_iload_n X dX12_takesCure_27 rfl ?_
  refine aw_iconst (v := 1) X dX12_takesCure_28 (by decide) ?_
  refine aw_icmp_ne (tgt := 60) X dX12_takesCure_29 (by decide) (fun c4 => ?_) (fun c4 => ?_)
  · rw [if_neg c4] at h
    refine aw_msk [true, true, true, true] ?_
    exact jo_X12_takesCure_60 hfr Z X _ _ _ _ _ hz h
  · rw [if_pos c4] at h
    refine aw_aload_n X dX12_takesCure_32 rfl ?_
    refine aw_iload_n X dX12_takesCure_33 rfl ?_
    refine aw_aload_n X dX12_takesCure_34 rfl ?_
    refine aw_iconst (v := 0) X dX12_takesCure_35 (by decide) ?_
    refine aw_aload_n X dX12_takesCure_36 rfl ?_
    refine aw_getr X dX12_takesCure_37 fl_RX12_7 iu_RX12 gu_RX12_1 ?_
    refine aw_bipush (v := 18) X dX12_takesCure_40 (by decide) ?_
    refine aw_iload_n X dX12_takesCure_42 rfl ?_
    refine aw_iadd X dX12_takesCure_43 ?_
    obtain ⟨v12, ev12, h⟩ := bnd h
    refine aw_iald X dX12_takesCure_44 iu_RX12_1 ev12 ?_
    refine aw_aload_n X dX12_takesCure_45 rfl ?_
    refine aw_getr X dX12_takesCure_46 fl_RX12_59 iu_RX12 gu_RX12_34 ?_
    refine aw_iload_n X dX12_takesCure_49 rfl ?_
    refine aw_iconst (v := 3) X dX12_takesCure_50 (by decide) ?_
    refine aw_iadd X dX12_takesCure_51 ?_
    obtain ⟨v13, ev13, h⟩ := bnd h
    refine aw_iald X dX12_takesCure_52 iu_RX12_34 ev13 ?_
    refine aw_isub X dX12_takesCure_53 ?_
    obtain ⟨r14, er14, h⟩ := bnd h
    refine aw_callV X dX12_takesCure_54 cv_RX12_386 (ok_X12_greater er14 _ _ _ _ _) iu_RX12 rfl (Nat.le_trans (by decide) hfr) (by decide) rfl rfl (Nat.le_of_ble_eq_true rfl) ?_
    obtain ⟨r15, er15, h⟩ := bnd h
    refine aw_callV X dX12_takesCure_57 cv_RX12_145 (ok_X12_hasThen er15 _ _ _ _ _) iu_RX12 rfl (Nat.le_trans (by decide) hfr) (by decide) rfl rfl (Nat.le_of_ble_eq_true rfl) ?_
    refine aw_msk [true, true, true, true] ?_
    exact jo_X12_takesCure_60 hfr Z X _ _ _ _ _ hz h
set_option maxRecDepth 100000 in
set_option maxHeartbeats 4000000 in
theorem w_X12_takesCure {fr : Nat} (hfr : 2 ≤ fr) (Z : AZ) (X : AX Z cX12_takesCure 4 RX12 none 1 fr) (x1 : Int32) (s : Mem) (r : Mem) (hz : zres Z = (none, r)) (h : f_X12_takesCure x1 s = some r) : AW Z s 0 [some (.ref (zr Z 0)), some (.int x1), none, none] [] := by
  unfold f_X12_takesCure at h
  refine aw_aload_n X dX12_takesCure_0 rfl ?_
  refine aw_getr X dX12_takesCure_1 fl_RX12_59 iu_RX12 gu_RX12_34 ?_
  refine aw_iload_n X dX12_takesCure_4 rfl ?_
  refine aw_iconst (v := 1) X dX12_takesCure_5 (by decide) ?_
  refine aw_iadd X dX12_takesCure_6 ?_
  obtain ⟨v1, ev1, h⟩ := bnd h
  refine aw_iald X dX12_takesCure_7 iu_RX12_34 ev1 ?_
  refine aw_istore_n (L' := [some (.ref (zr Z 0)), some (.int x1), some (.int v1), none]) X dX12_takesCure_8 (by decide) rfl ?_
  refine aw_aload_n X dX12_takesCure_9 rfl ?_
  refine aw_getr X dX12_takesCure_10 fl_RX12_59 iu_RX12 gu_RX12_34 ?_
  refine aw_iload_n X dX12_takesCure_13 rfl ?_
  refine aw_iconst (v := 2) X dX12_takesCure_14 (by decide) ?_
  refine aw_iadd X dX12_takesCure_15 ?_
  obtain ⟨v2, ev2, h⟩ := bnd h
  refine aw_iald X dX12_takesCure_16 iu_RX12_34 ev2 ?_
  refine aw_istore_n (L' := [some (.ref (zr Z 0)), some (.int x1), some (.int v1), some (.int v2)]) X dX12_takesCure_17 (by decide) rfl ?_
  refine aw_iload_n X dX12_takesCure_18 rfl ?_
  refine aw_if_ne (tgt := 27) X dX12_takesCure_19 (by decide) (fun c3 => ?_) (fun c3 => ?_)
  · rw [if_neg c3] at h
    refine aw_msk [true, true, true, true] ?_
    exact jo_X12_takesCure_27 hfr Z X _ _ _ _ _ hz h
  · rw [if_pos c3] at h
    refine aw_aload_n X dX12_takesCure_22 rfl ?_
    refine aw_iload_n X dX12_takesCure_23 rfl ?_
    obtain ⟨r16, er16, h⟩ := bnd h
    refine aw_callV X dX12_takesCure_24 cv_RX12_374 (ok_X12_isFrightened er16 _ _ _ _ _) iu_RX12 rfl (Nat.le_trans (by decide) hfr) (by decide) rfl rfl (Nat.le_of_ble_eq_true rfl) ?_
    refine aw_msk [true, true, true, true] ?_
    exact jo_X12_takesCure_27 hfr Z X _ _ _ _ _ hz h
set_option maxRecDepth 100000 in
set_option maxHeartbeats 4000000 in
theorem ok_X12_takesCure {x1 : Int32} {s : Mem} {r : Mem} (h : f_X12_takesCure x1 s = some r) (l : Launch) (D : va_G) (ρ : Nat → Nat) (cA : ClassId × ClassId × ClassId) (τ : AT) : AM l D ρ cA 1 τ yX12_takesCure cX12_takesCure 4 none 2 [.ref (ρ 0), .int x1] none s r := by
  refine AM_of (L := [some (.ref (ρ 0)), some (.int x1), none, none]) (by decide) (by simp [Value.category]) (Nat.le_of_ble_eq_true rfl) (fun j v q => ?_) (fun Z X hρ hz hτ => ?_)
  · exact aL_ok (n := 2) [.ref (ρ 0), .int x1] j v q
  · subst hρ
    subst hτ
    exact w_X12_takesCure (Nat.le_refl _) Z X x1 s r hz h

theorem dX12_hicsNow_0 : decode cX12_hicsNow 0 = .ok (.aload_n 0, 1) := by decide +kernel
theorem dX12_hicsNow_1 : decode cX12_hicsNow 1 = .ok (.aload_n 0, 1) := by decide +kernel
theorem dX12_hicsNow_2 : decode cX12_hicsNow 2 = .ok (.iload_n 1, 1) := by decide +kernel
theorem dX12_hicsNow_3 : decode cX12_hicsNow 3 = .ok (.invokevirtual 389, 3) := by decide +kernel
theorem dX12_hicsNow_6 : decode cX12_hicsNow 6 = .ok (.invokevirtual 392, 3) := by decide +kernel
theorem dX12_hicsNow_9 : decode cX12_hicsNow 9 = .ok (.ifCond .ne 9, 3) := by decide +kernel
theorem dX12_hicsNow_12 : decode cX12_hicsNow 12 = .ok (.aload_n 0, 1) := by decide +kernel
theorem dX12_hicsNow_13 : decode cX12_hicsNow 13 = .ok (.iload_n 1, 1) := by decide +kernel
theorem dX12_hicsNow_14 : decode cX12_hicsNow 14 = .ok (.invokevirtual 380, 3) := by decide +kernel
theorem dX12_hicsNow_17 : decode cX12_hicsNow 17 = .ok (.ireturn, 1) := by decide +kernel
theorem dX12_hicsNow_18 : decode cX12_hicsNow 18 = .ok (.aload_n 0, 1) := by decide +kernel
theorem dX12_hicsNow_19 : decode cX12_hicsNow 19 = .ok (.iconst 1, 1) := by decide +kernel
theorem dX12_hicsNow_20 : decode cX12_hicsNow 20 = .ok (.iload_n 1, 1) := by decide +kernel
theorem dX12_hicsNow_21 : decode cX12_hicsNow 21 = .ok (.aload_n 0, 1) := by decide +kernel
theorem dX12_hicsNow_22 : decode cX12_hicsNow 22 = .ok (.getfield 7, 3) := by decide +kernel
theorem dX12_hicsNow_25 : decode cX12_hicsNow 25 = .ok (.bipush 18, 2) := by decide +kernel
theorem dX12_hicsNow_27 : decode cX12_hicsNow 27 = .ok (.iload_n 1, 1) := by decide +kernel
theorem dX12_hicsNow_28 : decode cX12_hicsNow 28 = .ok (.iadd, 1) := by decide +kernel
theorem dX12_hicsNow_29 : decode cX12_hicsNow 29 = .ok (.iaload, 1) := by decide +kernel
theorem dX12_hicsNow_30 : decode cX12_hicsNow 30 = .ok (.invokevirtual 349, 3) := by decide +kernel
theorem dX12_hicsNow_33 : decode cX12_hicsNow 33 = .ok (.aload_n 0, 1) := by decide +kernel
theorem dX12_hicsNow_34 : decode cX12_hicsNow 34 = .ok (.iload_n 1, 1) := by decide +kernel
theorem dX12_hicsNow_35 : decode cX12_hicsNow 35 = .ok (.iconst 0, 1) := by decide +kernel
theorem dX12_hicsNow_36 : decode cX12_hicsNow 36 = .ok (.invokevirtual 145, 3) := by decide +kernel
theorem dX12_hicsNow_39 : decode cX12_hicsNow 39 = .ok (.iconst 0, 1) := by decide +kernel
theorem dX12_hicsNow_40 : decode cX12_hicsNow 40 = .ok (.ireturn, 1) := by decide +kernel
set_option maxRecDepth 100000 in
set_option maxHeartbeats 4000000 in
theorem w_X12_hicsNow {fr : Nat} (hfr : 6 ≤ fr) (Z : AZ) (X : AX Z cX12_hicsNow 2 RX12 (some .boolean) 1 fr) (x1 : Int32) (s : Mem) (r : Int32 × Mem) (hz : zres Z = (some (.int r.1), r.2)) (h : f_X12_hicsNow x1 s = some r) : AW Z s 0 [some (.ref (zr Z 0)), some (.int x1)] [] := by
  unfold f_X12_hicsNow at h
  refine aw_aload_n X dX12_hicsNow_0 rfl ?_
  refine aw_aload_n X dX12_hicsNow_1 rfl ?_
  refine aw_iload_n X dX12_hicsNow_2 rfl ?_
  obtain ⟨r1, er1, h⟩ := bnd h
  refine aw_callV X dX12_hicsNow_3 cv_RX12_389 (ok_X12_stopsOf er1 _ _ _ _ _) iu_RX12 rfl (Nat.le_trans (by decide) hfr) (by decide) rfl rfl (Nat.le_of_ble_eq_true rfl) ?_
  obtain ⟨r2, er2, h⟩ := bnd h
  refine aw_callV X dX12_hicsNow_6 cv_RX12_392 (ok_X12_happens er2 _ _ _ _ _) iu_RX12 rfl (Nat.le_trans (by decide) hfr) (by decide) rfl rfl (Nat.le_of_ble_eq_true rfl) ?_
  refine aw_if_ne (tgt := 18) X dX12_hicsNow_9 (by decide) (fun c3 => ?_) (fun c3 => ?_)
  · rw [if_neg c3] at h
    refine aw_aload_n X dX12_hicsNow_18 rfl ?_
    refine aw_iconst (v := 1) X dX12_hicsNow_19 (by decide) ?_
    refine aw_iload_n X dX12_hicsNow_20 rfl ?_
    refine aw_aload_n X dX12_hicsNow_21 rfl ?_
    refine aw_getr X dX12_hicsNow_22 fl_RX12_7 iu_RX12 gu_RX12_1 ?_
    refine aw_bipush (v := 18) X dX12_hicsNow_25 (by decide) ?_
    refine aw_iload_n X dX12_hicsNow_27 rfl ?_
    refine aw_iadd X dX12_hicsNow_28 ?_
    obtain ⟨v4, ev4, h⟩ := bnd h
    refine aw_iald X dX12_hicsNow_29 iu_RX12_1 ev4 ?_
    obtain ⟨r5, er5, h⟩ := bnd h
    refine aw_callV X dX12_hicsNow_30 cv_RX12_349 (ok_X12_notes er5 _ _ _ _ _) iu_RX12 rfl (Nat.le_trans (by decide) hfr) (by decide) rfl rfl (Nat.le_of_ble_eq_true rfl) ?_
    refine aw_aload_n X dX12_hicsNow_33 rfl ?_
    refine aw_iload_n X dX12_hicsNow_34 rfl ?_
    refine aw_iconst (v := 0) X dX12_hicsNow_35 (by decide) ?_
    obtain ⟨r6, er6, h⟩ := bnd h
    refine aw_callV X dX12_hicsNow_36 cv_RX12_145 (ok_X12_hasThen er6 _ _ _ _ _) iu_RX12 rfl (Nat.le_trans (by decide) hfr) (by decide) rfl rfl (Nat.le_of_ble_eq_true rfl) ?_
    refine aw_iconst (v := 0) X dX12_hicsNow_39 (by decide) ?_
    cases h
    exact aw_zret X dX12_hicsNow_40 rfl rfl hz.symm
  · rw [if_pos c3] at h
    refine aw_aload_n X dX12_hicsNow_12 rfl ?_
    refine aw_iload_n X dX12_hicsNow_13 rfl ?_
    obtain ⟨r7, er7, h⟩ := bnd h
    refine aw_callV X dX12_hicsNow_14 cv_RX12_380 (ok_X12_says er7 _ _ _ _ _) iu_RX12 rfl (Nat.le_trans (by decide) hfr) (by decide) rfl rfl (Nat.le_of_ble_eq_true rfl) ?_
    by_cases c8 : ¬ (r7.1 = 0 ∨ r7.1 = 1)
    · rw [if_pos c8] at h
      cases h
    rw [if_neg c8] at h
    cases h
    exact aw_zret X dX12_hicsNow_17 rfl (bz_n (Decidable.of_not_not c8)) hz.symm
set_option maxRecDepth 100000 in
set_option maxHeartbeats 4000000 in
theorem ok_X12_hicsNow {x1 : Int32} {s : Mem} {r : Int32 × Mem} (h : f_X12_hicsNow x1 s = some r) (l : Launch) (D : va_G) (ρ : Nat → Nat) (cA : ClassId × ClassId × ClassId) (τ : AT) : AM l D ρ cA 1 τ yX12_hicsNow cX12_hicsNow 2 (some .boolean) 6 [.ref (ρ 0), .int x1] (some (.int r.1)) s r.2 := by
  refine AM_of (L := [some (.ref (ρ 0)), some (.int x1)]) (by decide) (by simp [Value.category]) (Nat.le_of_ble_eq_true rfl) (fun j v q => ?_) (fun Z X hρ hz hτ => ?_)
  · exact aL_ok (n := 0) [.ref (ρ 0), .int x1] j v q
  · subst hρ
    subst hτ
    exact w_X12_hicsNow (Nat.le_refl _) Z X x1 s r hz h

theorem dX12_whoHas_0 : decode cX12_whoHas 0 = .ok (.iconst 0, 1) := by decide +kernel
theorem dX12_whoHas_1 : decode cX12_whoHas 1 = .ok (.istore_n 1, 1) := by decide +kernel
theorem dX12_whoHas_2 : decode cX12_whoHas 2 = .ok (.iconst 0, 1) := by decide +kernel
theorem dX12_whoHas_3 : decode cX12_whoHas 3 = .ok (.istore_n 2, 1) := by decide +kernel
theorem dX12_whoHas_4 : decode cX12_whoHas 4 = .ok (.iload_n 2, 1) := by decide +kernel
theorem dX12_whoHas_5 : decode cX12_whoHas 5 = .ok (.aload_n 0, 1) := by decide +kernel
theorem dX12_whoHas_6 : decode cX12_whoHas 6 = .ok (.getfield 134, 3) := by decide +kernel
theorem dX12_whoHas_9 : decode cX12_whoHas 9 = .ok (.if_icmp .ge 23, 3) := by decide +kernel
theorem dX12_whoHas_12 : decode cX12_whoHas 12 = .ok (.aload_n 0, 1) := by decide +kernel
theorem dX12_whoHas_13 : decode cX12_whoHas 13 = .ok (.iload_n 2, 1) := by decide +kernel
theorem dX12_whoHas_14 : decode cX12_whoHas 14 = .ok (.invokevirtual 353, 3) := by decide +kernel
theorem dX12_whoHas_17 : decode cX12_whoHas 17 = .ok (.ifCond .eq 9, 3) := by decide +kernel
theorem dX12_whoHas_20 : decode cX12_whoHas 20 = .ok (.iload_n 1, 1) := by decide +kernel
theorem dX12_whoHas_21 : decode cX12_whoHas 21 = .ok (.iconst 1, 1) := by decide +kernel
theorem dX12_whoHas_22 : decode cX12_whoHas 22 = .ok (.iload_n 2, 1) := by decide +kernel
theorem dX12_whoHas_23 : decode cX12_whoHas 23 = .ok (.ishl, 1) := by decide +kernel
theorem dX12_whoHas_24 : decode cX12_whoHas 24 = .ok (.ior, 1) := by decide +kernel
theorem dX12_whoHas_25 : decode cX12_whoHas 25 = .ok (.istore_n 1, 1) := by decide +kernel
theorem dX12_whoHas_26 : decode cX12_whoHas 26 = .ok (.iinc 2 1, 3) := by decide +kernel
theorem dX12_whoHas_29 : decode cX12_whoHas 29 = .ok (.goto (-25), 3) := by decide +kernel
theorem dX12_whoHas_32 : decode cX12_whoHas 32 = .ok (.iload_n 1, 1) := by decide +kernel
theorem dX12_whoHas_33 : decode cX12_whoHas 33 = .ok (.ireturn, 1) := by decide +kernel
set_option maxRecDepth 100000 in
set_option maxHeartbeats 4000000 in
theorem so_X12_whoHas_4 {fr : Nat} (hfr : 1 ≤ fr) (Z : AZ) (X : AX Z cX12_whoHas 3 RX12 (some .int) 1 fr) (x1 : Int32) (x2 : Int32) (s : Mem) (q : (Int32 × Int32 × Mem) ⊕ (Int32 × Mem)) (h : st_X12_whoHas_4 x1 x2 s = some q) (hi : ∀ y : Int32 × Int32 × Mem, q = .inl y → AW Z y.2.2 4 [some (.ref (zr Z 0)), some (.int y.1), some (.int y.2.1)] []) (he : ∀ b : Int32 × Mem, q = .inr b → AW Z b.2 32 [none, some (.int b.1), none] []) : AW Z s 4 [some (.ref (zr Z 0)), some (.int x1), some (.int x2)] [] := by
  unfold st_X12_whoHas_4 at h
  refine aw_iload_n X dX12_whoHas_4 rfl ?_
  refine aw_aload_n X dX12_whoHas_5 rfl ?_
  refine aw_geti X dX12_whoHas_6 fl_RX12_134 iu_RX12 gu_RX12_6 ?_
  refine aw_icmp_ge (tgt := 32) X dX12_whoHas_9 (by decide) (fun c1 => ?_) (fun c1 => ?_)
  · rw [if_pos c1] at h
    cases h
    refine aw_msk [false, true, false] ?_
    exact he _ rfl
  · rw [if_neg c1] at h
    refine aw_aload_n X dX12_whoHas_12 rfl ?_
    refine aw_iload_n X dX12_whoHas_13 rfl ?_
    obtain ⟨r2, er2, h⟩ := bnd h
    refine aw_callV X dX12_whoHas_14 cv_RX12_353 (ok_X12_hasAny er2 _ _ _ _ _) iu_RX12 rfl (Nat.le_trans (by decide) hfr) (by decide) rfl rfl (Nat.le_of_ble_eq_true rfl) ?_
    refine aw_if_eq (tgt := 26) X dX12_whoHas_17 (by decide) (fun c3 => ?_) (fun c3 => ?_)
    · rw [if_pos c3] at h
      refine aw_iinc (v := (x2 + 1)) (L' := [some (.ref (zr Z 0)), some (.int x1), some (.int (x2 + 1))]) X dX12_whoHas_26 rfl rfl (by decide) rfl ?_
      refine aw_goto (tgt := 4) X dX12_whoHas_29 (by decide) ?_
      cases h
      refine aw_msk [true, true, true] ?_
      exact hi _ rfl
    · rw [if_neg c3] at h
      refine aw_iload_n X dX12_whoHas_20 rfl ?_
      refine aw_iconst (v := 1) X dX12_whoHas_21 (by decide) ?_
      refine aw_iload_n X dX12_whoHas_22 rfl ?_
      refine aw_ishl X dX12_whoHas_23 ?_
      refine aw_ior X dX12_whoHas_24 ?_
      refine aw_istore_n (L' := [some (.ref (zr Z 0)), some (.int (x1 ||| (1 <<< (x2 &&& 31)))), some (.int x2)]) X dX12_whoHas_25 (by decide) rfl ?_
      refine aw_iinc (v := (x2 + 1)) (L' := [some (.ref (zr Z 0)), some (.int (x1 ||| (1 <<< (x2 &&& 31)))), some (.int (x2 + 1))]) X dX12_whoHas_26 rfl rfl (by decide) rfl ?_
      refine aw_goto (tgt := 4) X dX12_whoHas_29 (by decide) ?_
      cases h
      refine aw_msk [true, true, true] ?_
      exact hi _ rfl
set_option maxRecDepth 100000 in
set_option maxHeartbeats 4000000 in
theorem w_X12_whoHas {fr : Nat} (hfr : 1 ≤ fr) (Z : AZ) (X : AX Z cX12_whoHas 3 RX12 (some .int) 1 fr) (s : Mem) (r : Int32 × Mem) (hz : zres Z = (some (.int r.1), r.2)) (h : f_X12_whoHas s = some r) : AW Z s 0 [some (.ref (zr Z 0)), none, none] [] := by
  unfold f_X12_whoHas at h
  refine aw_iconst (v := 0) X dX12_whoHas_0 (by decide) ?_
  refine aw_istore_n (L' := [some (.ref (zr Z 0)), some (.int 0), none]) X dX12_whoHas_1 (by decide) rfl ?_
  refine aw_iconst (v := 0) X dX12_whoHas_2 (by decide) ?_
  refine aw_istore_n (L' := [some (.ref (zr Z 0)), some (.int 0), some (.int 0)]) X dX12_whoHas_3 (by decide) rfl ?_
  obtain ⟨r4, er4, h⟩ := bnd h
  refine aw_msk [true, true, true] ?_
  refine it_ok (P := fun y : Int32 × Int32 × Mem => AW Z y.2.2 4 [some (.ref (zr Z 0)), some (.int y.1), some (.int y.2.1)] []) (Q := fun b : Int32 × Mem => AW Z b.2 32 [none, some (.int b.1), none] []) (fun y q hq hi he => so_X12_whoHas_4 hfr Z X y.1 y.2.1 y.2.2 q hq hi he) FUEL _ _ er4 ?_
  refine aw_iload_n X dX12_whoHas_32 rfl ?_
  cases h
  exact aw_iret X dX12_whoHas_33 rfl hz.symm
set_option maxRecDepth 100000 in
set_option maxHeartbeats 4000000 in
theorem ok_X12_whoHas {s : Mem} {r : Int32 × Mem} (h : f_X12_whoHas s = some r) (l : Launch) (D : va_G) (ρ : Nat → Nat) (cA : ClassId × ClassId × ClassId) (τ : AT) : AM l D ρ cA 1 τ yX12_whoHas cX12_whoHas 3 (some .int) 1 [.ref (ρ 0)] (some (.int r.1)) s r.2 := by
  refine AM_of (L := [some (.ref (ρ 0)), none, none]) (by decide) (by simp [Value.category]) (Nat.le_of_ble_eq_true rfl) (fun j v q => ?_) (fun Z X hρ hz hτ => ?_)
  · exact aL_ok (n := 2) [.ref (ρ 0)] j v q
  · subst hρ
    subst hτ
    exact w_X12_whoHas (Nat.le_refl _) Z X s r hz h

theorem dX12_goesBy_0 : decode cX12_goesBy 0 = .ok (.iconst 0, 1) := by decide +kernel
theorem dX12_goesBy_1 : decode cX12_goesBy 1 = .ok (.istore_n 1, 1) := by decide +kernel
theorem dX12_goesBy_2 : decode cX12_goesBy 2 = .ok (.iload_n 1, 1) := by decide +kernel
theorem dX12_goesBy_3 : decode cX12_goesBy 3 = .ok (.iconst 3, 1) := by decide +kernel
theorem dX12_goesBy_4 : decode cX12_goesBy 4 = .ok (.aload_n 0, 1) := by decide +kernel
theorem dX12_goesBy_5 : decode cX12_goesBy 5 = .ok (.getfield 284, 3) := by decide +kernel
theorem dX12_goesBy_8 : decode cX12_goesBy 8 = .ok (.imul, 1) := by decide +kernel
theorem dX12_goesBy_9 : decode cX12_goesBy 9 = .ok (.if_icmp .ge 45, 3) := by decide +kernel
theorem dX12_goesBy_12 : decode cX12_goesBy 12 = .ok (.aload_n 0, 1) := by decide +kernel
theorem dX12_goesBy_13 : decode cX12_goesBy 13 = .ok (.getfield 56, 3) := by decide +kernel
theorem dX12_goesBy_16 : decode cX12_goesBy 16 = .ok (.iload_n 1, 1) := by decide +kernel
theorem dX12_goesBy_17 : decode cX12_goesBy 17 = .ok (.iaload, 1) := by decide +kernel
theorem dX12_goesBy_18 : decode cX12_goesBy 18 = .ok (.aload_n 0, 1) := by decide +kernel
theorem dX12_goesBy_19 : decode cX12_goesBy 19 = .ok (.getfield 7, 3) := by decide +kernel
theorem dX12_goesBy_22 : decode cX12_goesBy 22 = .ok (.iconst 0, 1) := by decide +kernel
theorem dX12_goesBy_23 : decode cX12_goesBy 23 = .ok (.iaload, 1) := by decide +kernel
theorem dX12_goesBy_24 : decode cX12_goesBy 24 = .ok (.if_icmp .ne 23, 3) := by decide +kernel
theorem dX12_goesBy_27 : decode cX12_goesBy 27 = .ok (.aload_n 0, 1) := by decide +kernel
theorem dX12_goesBy_28 : decode cX12_goesBy 28 = .ok (.aload_n 0, 1) := by decide +kernel
theorem dX12_goesBy_29 : decode cX12_goesBy 29 = .ok (.getfield 56, 3) := by decide +kernel
theorem dX12_goesBy_32 : decode cX12_goesBy 32 = .ok (.iload_n 1, 1) := by decide +kernel
theorem dX12_goesBy_33 : decode cX12_goesBy 33 = .ok (.iconst 2, 1) := by decide +kernel
theorem dX12_goesBy_34 : decode cX12_goesBy 34 = .ok (.iadd, 1) := by decide +kernel
theorem dX12_goesBy_35 : decode cX12_goesBy 35 = .ok (.iaload, 1) := by decide +kernel
theorem dX12_goesBy_36 : decode cX12_goesBy 36 = .ok (.aload_n 0, 1) := by decide +kernel
theorem dX12_goesBy_37 : decode cX12_goesBy 37 = .ok (.getfield 56, 3) := by decide +kernel
theorem dX12_goesBy_40 : decode cX12_goesBy 40 = .ok (.iload_n 1, 1) := by decide +kernel
theorem dX12_goesBy_41 : decode cX12_goesBy 41 = .ok (.iconst 1, 1) := by decide +kernel
theorem dX12_goesBy_42 : decode cX12_goesBy 42 = .ok (.iadd, 1) := by decide +kernel
theorem dX12_goesBy_43 : decode cX12_goesBy 43 = .ok (.iaload, 1) := by decide +kernel
theorem dX12_goesBy_44 : decode cX12_goesBy 44 = .ok (.invokevirtual 371, 3) := by decide +kernel
theorem dX12_goesBy_47 : decode cX12_goesBy 47 = .ok (.iload_n 1, 1) := by decide +kernel
theorem dX12_goesBy_48 : decode cX12_goesBy 48 = .ok (.iconst 3, 1) := by decide +kernel
theorem dX12_goesBy_49 : decode cX12_goesBy 49 = .ok (.iadd, 1) := by decide +kernel
theorem dX12_goesBy_50 : decode cX12_goesBy 50 = .ok (.istore_n 1, 1) := by decide +kernel
theorem dX12_goesBy_51 : decode cX12_goesBy 51 = .ok (.goto (-49), 3) := by decide +kernel
theorem dX12_goesBy_54 : decode cX12_goesBy 54 = .ok (.iconst 0, 1) := by decide +kernel
theorem dX12_goesBy_55 : decode cX12_goesBy 55 = .ok (.istore_n 1, 1) := by decide +kernel
theorem dX12_goesBy_56 : decode cX12_goesBy 56 = .ok (.iload_n 1, 1) := by decide +kernel
theorem dX12_goesBy_57 : decode cX12_goesBy 57 = .ok (.iconst 4, 1) := by decide +kernel
theorem dX12_goesBy_58 : decode cX12_goesBy 58 = .ok (.aload_n 0, 1) := by decide +kernel
theorem dX12_goesBy_59 : decode cX12_goesBy 59 = .ok (.getfield 287, 3) := by decide +kernel
theorem dX12_goesBy_62 : decode cX12_goesBy 62 = .ok (.imul, 1) := by decide +kernel
theorem dX12_goesBy_63 : decode cX12_goesBy 63 = .ok (.if_icmp .ge 30, 3) := by decide +kernel
theorem dX12_goesBy_66 : decode cX12_goesBy 66 = .ok (.aload_n 0, 1) := by decide +kernel
theorem dX12_goesBy_67 : decode cX12_goesBy 67 = .ok (.getfield 59, 3) := by decide +kernel
theorem dX12_goesBy_70 : decode cX12_goesBy 70 = .ok (.iload_n 1, 1) := by decide +kernel
theorem dX12_goesBy_71 : decode cX12_goesBy 71 = .ok (.iaload, 1) := by decide +kernel
theorem dX12_goesBy_72 : decode cX12_goesBy 72 = .ok (.aload_n 0, 1) := by decide +kernel
theorem dX12_goesBy_73 : decode cX12_goesBy 73 = .ok (.getfield 7, 3) := by decide +kernel
theorem dX12_goesBy_76 : decode cX12_goesBy 76 = .ok (.iconst 0, 1) := by decide +kernel
theorem dX12_goesBy_77 : decode cX12_goesBy 77 = .ok (.iaload, 1) := by decide +kernel
theorem dX12_goesBy_78 : decode cX12_goesBy 78 = .ok (.if_icmp .ne 8, 3) := by decide +kernel
theorem dX12_goesBy_81 : decode cX12_goesBy 81 = .ok (.aload_n 0, 1) := by decide +kernel
theorem dX12_goesBy_82 : decode cX12_goesBy 82 = .ok (.iload_n 1, 1) := by decide +kernel
theorem dX12_goesBy_83 : decode cX12_goesBy 83 = .ok (.invokevirtual 395, 3) := by decide +kernel
theorem dX12_goesBy_86 : decode cX12_goesBy 86 = .ok (.iload_n 1, 1) := by decide +kernel
theorem dX12_goesBy_87 : decode cX12_goesBy 87 = .ok (.iconst 4, 1) := by decide +kernel
theorem dX12_goesBy_88 : decode cX12_goesBy 88 = .ok (.iadd, 1) := by decide +kernel
theorem dX12_goesBy_89 : decode cX12_goesBy 89 = .ok (.istore_n 1, 1) := by decide +kernel
theorem dX12_goesBy_90 : decode cX12_goesBy 90 = .ok (.goto (-34), 3) := by decide +kernel
theorem dX12_goesBy_93 : decode cX12_goesBy 93 = .ok (.iconst 0, 1) := by decide +kernel
theorem dX12_goesBy_94 : decode cX12_goesBy 94 = .ok (.istore_n 1, 1) := by decide +kernel
theorem dX12_goesBy_95 : decode cX12_goesBy 95 = .ok (.iconst 0, 1) := by decide +kernel
theorem dX12_goesBy_96 : decode cX12_goesBy 96 = .ok (.istore_n 2, 1) := by decide +kernel
theorem dX12_goesBy_97 : decode cX12_goesBy 97 = .ok (.iload_n 2, 1) := by decide +kernel
theorem dX12_goesBy_98 : decode cX12_goesBy 98 = .ok (.aload_n 0, 1) := by decide +kernel
theorem dX12_goesBy_99 : decode cX12_goesBy 99 = .ok (.getfield 134, 3) := by decide +kernel
theorem dX12_goesBy_102 : decode cX12_goesBy 102 = .ok (.if_icmp .ge 29, 3) := by decide +kernel
theorem dX12_goesBy_105 : decode cX12_goesBy 105 = .ok (.aload_n 0, 1) := by decide +kernel
theorem dX12_goesBy_106 : decode cX12_goesBy 106 = .ok (.iload_n 2, 1) := by decide +kernel
theorem dX12_goesBy_107 : decode cX12_goesBy 107 = .ok (.invokevirtual 353, 3) := by decide +kernel
theorem dX12_goesBy_110 : decode cX12_goesBy 110 = .ok (.ifCond .eq 15, 3) := by decide +kernel
theorem dX12_goesBy_113 : decode cX12_goesBy 113 = .ok (.aload_n 0, 1) := by decide +kernel
theorem dX12_goesBy_114 : decode cX12_goesBy 114 = .ok (.iload_n 2, 1) := by decide +kernel
theorem dX12_goesBy_115 : decode cX12_goesBy 115 = .ok (.invokevirtual 398, 3) := by decide +kernel
theorem dX12_goesBy_118 : decode cX12_goesBy 118 = .ok (.ifCond .eq 7, 3) := by decide +kernel
theorem dX12_goesBy_121 : decode cX12_goesBy 121 = .ok (.iload_n 1, 1) := by decide +kernel
theorem dX12_goesBy_122 : decode cX12_goesBy 122 = .ok (.iconst 1, 1) := by decide +kernel
theorem dX12_goesBy_123 : decode cX12_goesBy 123 = .ok (.iadd, 1) := by decide +kernel
theorem dX12_goesBy_124 : decode cX12_goesBy 124 = .ok (.istore_n 1, 1) := by decide +kernel
theorem dX12_goesBy_125 : decode cX12_goesBy 125 = .ok (.iinc 2 1, 3) := by decide +kernel
theorem dX12_goesBy_128 : decode cX12_goesBy 128 = .ok (.goto (-31), 3) := by decide +kernel
theorem dX12_goesBy_131 : decode cX12_goesBy 131 = .ok (.aload_n 0, 1) := by decide +kernel
theorem dX12_goesBy_132 : decode cX12_goesBy 132 = .ok (.invokevirtual 401, 3) := by decide +kernel
theorem dX12_goesBy_135 : decode cX12_goesBy 135 = .ok (.ifCond .ne 17, 3) := by decide +kernel
theorem dX12_goesBy_138 : decode cX12_goesBy 138 = .ok (.aload_n 0, 1) := by decide +kernel
theorem dX12_goesBy_139 : decode cX12_goesBy 139 = .ok (.getfield 7, 3) := by decide +kernel
theorem dX12_goesBy_142 : decode cX12_goesBy 142 = .ok (.iconst 3, 1) := by decide +kernel
theorem dX12_goesBy_143 : decode cX12_goesBy 143 = .ok (.aload_n 0, 1) := by decide +kernel
theorem dX12_goesBy_144 : decode cX12_goesBy 144 = .ok (.getfield 7, 3) := by decide +kernel
theorem dX12_goesBy_147 : decode cX12_goesBy 147 = .ok (.iconst 3, 1) := by decide +kernel
theorem dX12_goesBy_148 : decode cX12_goesBy 148 = .ok (.iaload, 1) := by decide +kernel
theorem dX12_goesBy_149 : decode cX12_goesBy 149 = .ok (.iconst 1, 1) := by decide +kernel
theorem dX12_goesBy_150 : decode cX12_goesBy 150 = .ok (.iadd, 1) := by decide +kernel
theorem dX12_goesBy_151 : decode cX12_goesBy 151 = .ok (.iastore, 1) := by decide +kernel
theorem dX12_goesBy_152 : decode cX12_goesBy 152 = .ok (.aload_n 0, 1) := by decide +kernel
theorem dX12_goesBy_153 : decode cX12_goesBy 153 = .ok (.getfield 7, 3) := by decide +kernel
theorem dX12_goesBy_156 : decode cX12_goesBy 156 = .ok (.iconst 0, 1) := by decide +kernel
theorem dX12_goesBy_157 : decode cX12_goesBy 157 = .ok (.aload_n 0, 1) := by decide +kernel
theorem dX12_goesBy_158 : decode cX12_goesBy 158 = .ok (.getfield 7, 3) := by decide +kernel
theorem dX12_goesBy_161 : decode cX12_goesBy 161 = .ok (.iconst 0, 1) := by decide +kernel
theorem dX12_goesBy_162 : decode cX12_goesBy 162 = .ok (.iaload, 1) := by decide +kernel
theorem dX12_goesBy_163 : decode cX12_goesBy 163 = .ok (.iconst 1, 1) := by decide +kernel
theorem dX12_goesBy_164 : decode cX12_goesBy 164 = .ok (.iadd, 1) := by decide +kernel
theorem dX12_goesBy_165 : decode cX12_goesBy 165 = .ok (.iastore, 1) := by decide +kernel
theorem dX12_goesBy_166 : decode cX12_goesBy 166 = .ok (.iload_n 1, 1) := by decide +kernel
theorem dX12_goesBy_167 : decode cX12_goesBy 167 = .ok (.ireturn, 1) := by decide +kernel
set_option maxRecDepth 100000 in
set_option maxHeartbeats 4000000 in
theorem so_X12_goesBy_2 {fr : Nat} (hfr : 7 ≤ fr) (Z : AZ) (X : AX Z cX12_goesBy 3 RX12 (some .int) 1 fr) (x1 : Int32) (s : Mem) (q : (Int32 × Mem) ⊕ (Mem)) (h : st_X12_goesBy_2 x1 s = some q) (hi : ∀ y : Int32 × Mem, q = .inl y → AW Z y.2 2 [some (.ref (zr Z 0)), some (.int y.1), none] []) (he : ∀ b : Mem, q = .inr b → AW Z b 54 [some (.ref (zr Z 0)), none, none] []) : AW Z s 2 [some (.ref (zr Z 0)), some (.int x1), none] [] := by
  unfold st_X12_goesBy_2 at h
  refine aw_iload_n X dX12_goesBy_2 rfl ?_
  refine aw_iconst (v := 3) X dX12_goesBy_3 (by decide) ?_
  refine aw_aload_n X dX12_goesBy_4 rfl ?_
  refine aw_geti X dX12_goesBy_5 fl_RX12_284 iu_RX12 gu_RX12_31 ?_
  refine aw_imul X dX12_goesBy_8 ?_
  refine aw_icmp_ge (tgt := 54) X dX12_goesBy_9 (by decide) (fun c1 => ?_) (fun c1 => ?_)
  · rw [if_pos c1] at h
    cases h
    refine aw_msk [true, false, false] ?_
    exact he _ rfl
  · rw [if_neg c1] at h
    refine aw_aload_n X dX12_goesBy_12 rfl ?_
    refine aw_getr X dX12_goesBy_13 fl_RX12_56 iu_RX12 gu_RX12_32 ?_
    refine aw_iload_n X dX12_goesBy_16 rfl ?_
    obtain ⟨v2, ev2, h⟩ := bnd h
    refine aw_iald X dX12_goesBy_17 iu_RX12_32 ev2 ?_
    refine aw_aload_n X dX12_goesBy_18 rfl ?_
    refine aw_getr X dX12_goesBy_19 fl_RX12_7 iu_RX12 gu_RX12_1 ?_
    refine aw_iconst (v := 0) X dX12_goesBy_22 (by decide) ?_
    obtain ⟨v3, ev3, h⟩ := bnd h
    refine aw_iald X dX12_goesBy_23 iu_RX12_1 ev3 ?_
    refine aw_icmp_ne (tgt := 47) X dX12_goesBy_24 (by decide) (fun c4 => ?_) (fun c4 => ?_)
    · rw [if_neg c4] at h
      refine aw_iload_n X dX12_goesBy_47 rfl ?_
      refine aw_iconst (v := 3) X dX12_goesBy_48 (by decide) ?_
      refine aw_iadd X dX12_goesBy_49 ?_
      refine aw_istore_n (L' := [some (.ref (zr Z 0)), some (.int (x1 + 3)), none]) X dX12_goesBy_50 (by decide) rfl ?_
      refine aw_goto (tgt := 2) X dX12_goesBy_51 (by decide) ?_
      cases h
      refine aw_msk [true, true, false] ?_
      exact hi _ rfl
    · rw [if_pos c4] at h
      refine aw_aload_n X dX12_goesBy_27 rfl ?_
      refine aw_aload_n X dX12_goesBy_28 rfl ?_
      refine aw_getr X dX12_goesBy_29 fl_RX12_56 iu_RX12 gu_RX12_32 ?_
      refine aw_iload_n X dX12_goesBy_32 rfl ?_
      refine aw_iconst (v := 2) X dX12_goesBy_33 (by decide) ?_
      refine aw_iadd X dX12_goesBy_34 ?_
      obtain ⟨v5, ev5, h⟩ := bnd h
      refine aw_iald X dX12_goesBy_35 iu_RX12_32 ev5 ?_
      refine aw_aload_n X dX12_goesBy_36 rfl ?_
      refine aw_getr X dX12_goesBy_37 fl_RX12_56 iu_RX12 gu_RX12_32 ?_
      refine aw_iload_n X dX12_goesBy_40 rfl ?_
      refine aw_iconst (v := 1) X dX12_goesBy_41 (by decide) ?_
      refine aw_iadd X dX12_goesBy_42 ?_
      obtain ⟨v6, ev6, h⟩ := bnd h
      refine aw_iald X dX12_goesBy_43 iu_RX12_32 ev6 ?_
      obtain ⟨r7, er7, h⟩ := bnd h
      refine aw_callV X dX12_goesBy_44 cv_RX12_371 (ok_X12_isNamed er7 _ _ _ _ _) iu_RX12 rfl (Nat.le_trans (by decide) hfr) (by decide) rfl rfl (Nat.le_of_ble_eq_true rfl) ?_
      refine aw_iload_n X dX12_goesBy_47 rfl ?_
      refine aw_iconst (v := 3) X dX12_goesBy_48 (by decide) ?_
      refine aw_iadd X dX12_goesBy_49 ?_
      refine aw_istore_n (L' := [some (.ref (zr Z 0)), some (.int (x1 + 3)), none]) X dX12_goesBy_50 (by decide) rfl ?_
      refine aw_goto (tgt := 2) X dX12_goesBy_51 (by decide) ?_
      cases h
      refine aw_msk [true, true, false] ?_
      exact hi _ rfl
set_option maxRecDepth 100000 in
set_option maxHeartbeats 4000000 in
theorem so_X12_goesBy_56 {fr : Nat} (hfr : 7 ≤ fr) (Z : AZ) (X : AX Z cX12_goesBy 3 RX12 (some .int) 1 fr) (x1 : Int32) (s : Mem) (q : (Int32 × Mem) ⊕ (Mem)) (h : st_X12_goesBy_56 x1 s = some q) (hi : ∀ y : Int32 × Mem, q = .inl y → AW Z y.2 56 [some (.ref (zr Z 0)), some (.int y.1), none] []) (he : ∀ b : Mem, q = .inr b → AW Z b 93 [some (.ref (zr Z 0)), none, none] []) : AW Z s 56 [some (.ref (zr Z 0)), some (.int x1), none] [] := by
  unfold st_X12_goesBy_56 at h
  refine aw_iload_n X dX12_goesBy_56 rfl ?_
  refine aw_iconst (v := 4) X dX12_goesBy_57 (by decide) ?_
  refine aw_aload_n X dX12_goesBy_58 rfl ?_
  refine aw_geti X dX12_goesBy_59 fl_RX12_287 iu_RX12 gu_RX12_33 ?_
  refine aw_imul X dX12_goesBy_62 ?_
  refine aw_icmp_ge (tgt := 93) X dX12_goesBy_63 (by decide) (fun c9 => ?_) (fun c9 => ?_)
  · rw [if_pos c9] at h
    cases h
    refine aw_msk [true, false, false] ?_
    exact he _ rfl
  · rw [if_neg c9] at h
    refine aw_aload_n X dX12_goesBy_66 rfl ?_
    refine aw_getr X dX12_goesBy_67 fl_RX12_59 iu_RX12 gu_RX12_34 ?_
    refine aw_iload_n X dX12_goesBy_70 rfl ?_
    obtain ⟨v10, ev10, h⟩ := bnd h
    refine aw_iald X dX12_goesBy_71 iu_RX12_34 ev10 ?_
    refine aw_aload_n X dX12_goesBy_72 rfl ?_
    refine aw_getr X dX12_goesBy_73 fl_RX12_7 iu_RX12 gu_RX12_1 ?_
    refine aw_iconst (v := 0) X dX12_goesBy_76 (by decide) ?_
    obtain ⟨v11, ev11, h⟩ := bnd h
    refine aw_iald X dX12_goesBy_77 iu_RX12_1 ev11 ?_
    refine aw_icmp_ne (tgt := 86) X dX12_goesBy_78 (by decide) (fun c12 => ?_) (fun c12 => ?_)
    · rw [if_neg c12] at h
      refine aw_iload_n X dX12_goesBy_86 rfl ?_
      refine aw_iconst (v := 4) X dX12_goesBy_87 (by decide) ?_
      refine aw_iadd X dX12_goesBy_88 ?_
      refine aw_istore_n (L' := [some (.ref (zr Z 0)), some (.int (x1 + 4)), none]) X dX12_goesBy_89 (by decide) rfl ?_
      refine aw_goto (tgt := 56) X dX12_goesBy_90 (by decide) ?_
      cases h
      refine aw_msk [true, true, false] ?_
      exact hi _ rfl
    · rw [if_pos c12] at h
      refine aw_aload_n X dX12_goesBy_81 rfl ?_
      refine aw_iload_n X dX12_goesBy_82 rfl ?_
      obtain ⟨r13, er13, h⟩ := bnd h
      refine aw_callV X dX12_goesBy_83 cv_RX12_395 (ok_X12_takesCure er13 _ _ _ _ _) iu_RX12 rfl (Nat.le_trans (by decide) hfr) (by decide) rfl rfl (Nat.le_of_ble_eq_true rfl) ?_
      refine aw_iload_n X dX12_goesBy_86 rfl ?_
      refine aw_iconst (v := 4) X dX12_goesBy_87 (by decide) ?_
      refine aw_iadd X dX12_goesBy_88 ?_
      refine aw_istore_n (L' := [some (.ref (zr Z 0)), some (.int (x1 + 4)), none]) X dX12_goesBy_89 (by decide) rfl ?_
      refine aw_goto (tgt := 56) X dX12_goesBy_90 (by decide) ?_
      cases h
      refine aw_msk [true, true, false] ?_
      exact hi _ rfl
set_option maxRecDepth 100000 in
set_option maxHeartbeats 4000000 in
theorem so_X12_goesBy_97 {fr : Nat} (hfr : 7 ≤ fr) (Z : AZ) (X : AX Z cX12_goesBy 3 RX12 (some .int) 1 fr) (x1 : Int32) (x2 : Int32) (s : Mem) (q : (Int32 × Int32 × Mem) ⊕ (Int32 × Mem)) (h : st_X12_goesBy_97 x1 x2 s = some q) (hi : ∀ y : Int32 × Int32 × Mem, q = .inl y → AW Z y.2.2 97 [some (.ref (zr Z 0)), some (.int y.1), some (.int y.2.1)] []) (he : ∀ b : Int32 × Mem, q = .inr b → AW Z b.2 131 [some (.ref (zr Z 0)), some (.int b.1), none] []) : AW Z s 97 [some (.ref (zr Z 0)), some (.int x1), some (.int x2)] [] := by
  unfold st_X12_goesBy_97 at h
  refine aw_iload_n X dX12_goesBy_97 rfl ?_
  refine aw_aload_n X dX12_goesBy_98 rfl ?_
  refine aw_geti X dX12_goesBy_99 fl_RX12_134 iu_RX12 gu_RX12_6 ?_
  refine aw_icmp_ge (tgt := 131) X dX12_goesBy_102 (by decide) (fun c15 => ?_) (fun c15 => ?_)
  · rw [if_pos c15] at h
    cases h
    refine aw_msk [true, true, false] ?_
    exact he _ rfl
  · rw [if_neg c15] at h
    refine aw_aload_n X dX12_goesBy_105 rfl ?_
    refine aw_iload_n X dX12_goesBy_106 rfl ?_
    obtain ⟨r16, er16, h⟩ := bnd h
    refine aw_callV X dX12_goesBy_107 cv_RX12_353 (ok_X12_hasAny er16 _ _ _ _ _) iu_RX12 rfl (Nat.le_trans (by decide) hfr) (by decide) rfl rfl (Nat.le_of_ble_eq_true rfl) ?_
    refine aw_if_eq (tgt := 125) X dX12_goesBy_110 (by decide) (fun c17 => ?_) (fun c17 => ?_)
    · rw [if_pos c17] at h
      refine aw_iinc (v := (x2 + 1)) (L' := [some (.ref (zr Z 0)), some (.int x1), some (.int (x2 + 1))]) X dX12_goesBy_125 rfl rfl (by decide) rfl ?_
      refine aw_goto (tgt := 97) X dX12_goesBy_128 (by decide) ?_
      cases h
      refine aw_msk [true, true, true] ?_
      exact hi _ rfl
    · rw [if_neg c17] at h
      refine aw_aload_n X dX12_goesBy_113 rfl ?_
      refine aw_iload_n X dX12_goesBy_114 rfl ?_
      obtain ⟨r18, er18, h⟩ := bnd h
      refine aw_callV X dX12_goesBy_115 cv_RX12_398 (ok_X12_hicsNow er18 _ _ _ _ _) iu_RX12 rfl (Nat.le_trans (by decide) hfr) (by decide) rfl rfl (Nat.le_of_ble_eq_true rfl) ?_
      refine aw_if_eq (tgt := 125) X dX12_goesBy_118 (by decide) (fun c19 => ?_) (fun c19 => ?_)
      · rw [if_pos c19] at h
        refine aw_iinc (v := (x2 + 1)) (L' := [some (.ref (zr Z 0)), some (.int x1), some (.int (x2 + 1))]) X dX12_goesBy_125 rfl rfl (by decide) rfl ?_
        refine aw_goto (tgt := 97) X dX12_goesBy_128 (by decide) ?_
        cases h
        refine aw_msk [true, true, true] ?_
        exact hi _ rfl
      · rw [if_neg c19] at h
        refine aw_iload_n X dX12_goesBy_121 rfl ?_
        refine aw_iconst (v := 1) X dX12_goesBy_122 (by decide) ?_
        refine aw_iadd X dX12_goesBy_123 ?_
        refine aw_istore_n (L' := [some (.ref (zr Z 0)), some (.int (x1 + 1)), some (.int x2)]) X dX12_goesBy_124 (by decide) rfl ?_
        refine aw_iinc (v := (x2 + 1)) (L' := [some (.ref (zr Z 0)), some (.int (x1 + 1)), some (.int (x2 + 1))]) X dX12_goesBy_125 rfl rfl (by decide) rfl ?_
        refine aw_goto (tgt := 97) X dX12_goesBy_128 (by decide) ?_
        cases h
        refine aw_msk [true, true, true] ?_
        exact hi _ rfl
set_option maxRecDepth 100000 in
set_option maxHeartbeats 4000000 in
theorem jo_X12_goesBy_152 {fr : Nat} (hfr : 7 ≤ fr) (Z : AZ) (X : AX Z cX12_goesBy 3 RX12 (some .int) 1 fr) (x1 : Int32) (s : Mem) (r : Int32 × Mem) (hz : zres Z = (some (.int r.1), r.2)) (h : jn_X12_goesBy_152 x1 s = some r) : AW Z s 152 [some (.ref (zr Z 0)), some (.int x1), none] [] := by
  unfold jn_X12_goesBy_152 at h
  refine aw_aload_n X dX12_goesBy_152 rfl ?_
  refine aw_getr X dX12_goesBy_153 fl_RX12_7 iu_RX12 gu_RX12_1 ?_
  refine aw_iconst (v := 0) X dX12_goesBy_156 (by decide) ?_
  refine aw_aload_n X dX12_goesBy_157 rfl ?_
  refine aw_getr X dX12_goesBy_158 fl_RX12_7 iu_RX12 gu_RX12_1 ?_
  refine aw_iconst (v := 0) X dX12_goesBy_161 (by decide) ?_
  obtain ⟨v23, ev23, h⟩ := bnd h
  refine aw_iald X dX12_goesBy_162 iu_RX12_1 ev23 ?_
  refine aw_iconst (v := 1) X dX12_goesBy_163 (by decide) ?_
  refine aw_iadd X dX12_goesBy_164 ?_
  obtain ⟨s24, es24, h⟩ := bnd h
  refine aw_iast X dX12_goesBy_165 iu_RX12_1 es24 ?_
  refine aw_iload_n X dX12_goesBy_166 rfl ?_
  cases h
  exact aw_iret X dX12_goesBy_167 rfl hz.symm
set_option maxRecDepth 100000 in
set_option maxHeartbeats 4000000 in
theorem w_X12_goesBy {fr : Nat} (hfr : 7 ≤ fr) (Z : AZ) (X : AX Z cX12_goesBy 3 RX12 (some .int) 1 fr) (s : Mem) (r : Int32 × Mem) (hz : zres Z = (some (.int r.1), r.2)) (h : f_X12_goesBy s = some r) : AW Z s 0 [some (.ref (zr Z 0)), none, none] [] := by
  unfold f_X12_goesBy at h
  refine aw_iconst (v := 0) X dX12_goesBy_0 (by decide) ?_
  refine aw_istore_n (L' := [some (.ref (zr Z 0)), some (.int 0), none]) X dX12_goesBy_1 (by decide) rfl ?_
  obtain ⟨r8, er8, h⟩ := bnd h
  refine aw_msk [true, true, false] ?_
  refine it_ok (P := fun y : Int32 × Mem => AW Z y.2 2 [some (.ref (zr Z 0)), some (.int y.1), none] []) (Q := fun b : Mem => AW Z b 54 [some (.ref (zr Z 0)), none, none] []) (fun y q hq hi he => so_X12_goesBy_2 hfr Z X y.1 y.2 q hq hi he) FUEL _ _ er8 ?_
  refine aw_iconst (v := 0) X dX12_goesBy_54 (by decide) ?_
  refine aw_istore_n (L' := [some (.ref (zr Z 0)), some (.int 0), none]) X dX12_goesBy_55 (by decide) rfl ?_
  obtain ⟨r14, er14, h⟩ := bnd h
  refine aw_msk [true, true, false] ?_
  refine it_ok (P := fun y : Int32 × Mem => AW Z y.2 56 [some (.ref (zr Z 0)), some (.int y.1), none] []) (Q := fun b : Mem => AW Z b 93 [some (.ref (zr Z 0)), none, none] []) (fun y q hq hi he => so_X12_goesBy_56 hfr Z X y.1 y.2 q hq hi he) FUEL _ _ er14 ?_
  refine aw_iconst (v := 0) X dX12_goesBy_93 (by decide) ?_
  refine aw_istore_n (L' := [some (.ref (zr Z 0)), some (.int 0), none]) X dX12_goesBy_94 (by decide) rfl ?_
  refine aw_iconst (v := 0) X dX12_goesBy_95 (by decide) ?_
  refine aw_istore_n (L' := [some (.ref (zr Z 0)), some (.int 0), some (.int 0)]) X dX12_goesBy_96 (by decide) rfl ?_
  obtain ⟨r20, er20, h⟩ := bnd h
  refine aw_msk [true, true, true] ?_
  refine it_ok (P := fun y : Int32 × Int32 × Mem => AW Z y.2.2 97 [some (.ref (zr Z 0)), some (.int y.1), some (.int y.2.1)] []) (Q := fun b : Int32 × Mem => AW Z b.2 131 [some (.ref (zr Z 0)), some (.int b.1), none] []) (fun y q hq hi he => so_X12_goesBy_97 hfr Z X y.1 y.2.1 y.2.2 q hq hi he) FUEL _ _ er20 ?_
  refine aw_aload_n X dX12_goesBy_131 rfl ?_
  obtain ⟨r21, er21, h⟩ := bnd h
  refine aw_callV X dX12_goesBy_132 cv_RX12_401 (ok_X12_whoHas er21 _ _ _ _ _) iu_RX12 rfl (Nat.le_trans (by decide) hfr) (by decide) rfl rfl (Nat.le_of_ble_eq_true rfl) ?_
  refine aw_if_ne (tgt := 152) X dX12_goesBy_135 (by decide) (fun c22 => ?_) (fun c22 => ?_)
  · rw [if_neg c22] at h
    refine aw_msk [true, true, false] ?_
    exact jo_X12_goesBy_152 hfr Z X _ _ _ hz h
  · rw [if_pos c22] at h
    refine aw_aload_n X dX12_goesBy_138 rfl ?_
    refine aw_getr X dX12_goesBy_139 fl_RX12_7 iu_RX12 gu_RX12_1 ?_
    refine aw_iconst (v := 3) X dX12_goesBy_142 (by decide) ?_
    refine aw_aload_n X dX12_goesBy_143 rfl ?_
    refine aw_getr X dX12_goesBy_144 fl_RX12_7 iu_RX12 gu_RX12_1 ?_
    refine aw_iconst (v := 3) X dX12_goesBy_147 (by decide) ?_
    obtain ⟨v25, ev25, h⟩ := bnd h
    refine aw_iald X dX12_goesBy_148 iu_RX12_1 ev25 ?_
    refine aw_iconst (v := 1) X dX12_goesBy_149 (by decide) ?_
    refine aw_iadd X dX12_goesBy_150 ?_
    obtain ⟨s26, es26, h⟩ := bnd h
    refine aw_iast X dX12_goesBy_151 iu_RX12_1 es26 ?_
    refine aw_msk [true, true, false] ?_
    exact jo_X12_goesBy_152 hfr Z X _ _ _ hz h
set_option maxRecDepth 100000 in
set_option maxHeartbeats 4000000 in
theorem ok_X12_goesBy {s : Mem} {r : Int32 × Mem} (h : f_X12_goesBy s = some r) (l : Launch) (D : va_G) (ρ : Nat → Nat) (cA : ClassId × ClassId × ClassId) (τ : AT) : AM l D ρ cA 1 τ yX12_goesBy cX12_goesBy 3 (some .int) 7 [.ref (ρ 0)] (some (.int r.1)) s r.2 := by
  refine AM_of (L := [some (.ref (ρ 0)), none, none]) (by decide) (by simp [Value.category]) (Nat.le_of_ble_eq_true rfl) (fun j v q => ?_) (fun Z X hρ hz hτ => ?_)
  · exact aL_ok (n := 2) [.ref (ρ 0)] j v q
  · subst hρ
    subst hτ
    exact w_X12_goesBy (Nat.le_refl _) Z X s r hz h

theorem dX12_minutes_0 : decode cX12_minutes 0 = .ok (.aload_n 0, 1) := by decide +kernel
theorem dX12_minutes_1 : decode cX12_minutes 1 = .ok (.iconst 0, 1) := by decide +kernel
theorem dX12_minutes_2 : decode cX12_minutes 2 = .ok (.putfield 122, 3) := by decide +kernel
theorem dX12_minutes_5 : decode cX12_minutes 5 = .ok (.aload_n 0, 1) := by decide +kernel
theorem dX12_minutes_6 : decode cX12_minutes 6 = .ok (.iload_n 1, 1) := by decide +kernel
theorem dX12_minutes_7 : decode cX12_minutes 7 = .ok (.iconst 1, 1) := by decide +kernel
theorem dX12_minutes_8 : decode cX12_minutes 8 = .ok (.bipush 60, 2) := by decide +kernel
theorem dX12_minutes_10 : decode cX12_minutes 10 = .ok (.invokevirtual 137, 3) := by decide +kernel
theorem dX12_minutes_13 : decode cX12_minutes 13 = .ok (.ifCond .eq 17, 3) := by decide +kernel
theorem dX12_minutes_16 : decode cX12_minutes 16 = .ok (.aload_n 0, 1) := by decide +kernel
theorem dX12_minutes_17 : decode cX12_minutes 17 = .ok (.getfield 7, 3) := by decide +kernel
theorem dX12_minutes_20 : decode cX12_minutes 20 = .ok (.iconst 0, 1) := by decide +kernel
theorem dX12_minutes_21 : decode cX12_minutes 21 = .ok (.iaload, 1) := by decide +kernel
theorem dX12_minutes_22 : decode cX12_minutes 22 = .ok (.iload_n 1, 1) := by decide +kernel
theorem dX12_minutes_23 : decode cX12_minutes 23 = .ok (.iadd, 1) := by decide +kernel
theorem dX12_minutes_24 : decode cX12_minutes 24 = .ok (.sipush 9999, 3) := by decide +kernel
theorem dX12_minutes_27 : decode cX12_minutes 27 = .ok (.if_icmp .le 5, 3) := by decide +kernel
theorem dX12_minutes_30 : decode cX12_minutes 30 = .ok (.iconst (-1), 1) := by decide +kernel
theorem dX12_minutes_31 : decode cX12_minutes 31 = .ok (.ireturn, 1) := by decide +kernel
theorem dX12_minutes_32 : decode cX12_minutes 32 = .ok (.iconst 0, 1) := by decide +kernel
theorem dX12_minutes_33 : decode cX12_minutes 33 = .ok (.istore_n 2, 1) := by decide +kernel
theorem dX12_minutes_34 : decode cX12_minutes 34 = .ok (.iconst 0, 1) := by decide +kernel
theorem dX12_minutes_35 : decode cX12_minutes 35 = .ok (.istore_n 3, 1) := by decide +kernel
theorem dX12_minutes_36 : decode cX12_minutes 36 = .ok (.iload_n 3, 1) := by decide +kernel
theorem dX12_minutes_37 : decode cX12_minutes 37 = .ok (.iload_n 1, 1) := by decide +kernel
theorem dX12_minutes_38 : decode cX12_minutes 38 = .ok (.if_icmp .ge 20, 3) := by decide +kernel
theorem dX12_minutes_41 : decode cX12_minutes 41 = .ok (.aload_n 0, 1) := by decide +kernel
theorem dX12_minutes_42 : decode cX12_minutes 42 = .ok (.invokevirtual 368, 3) := by decide +kernel
theorem dX12_minutes_45 : decode cX12_minutes 45 = .ok (.iload_n 2, 1) := by decide +kernel
theorem dX12_minutes_46 : decode cX12_minutes 46 = .ok (.aload_n 0, 1) := by decide +kernel
theorem dX12_minutes_47 : decode cX12_minutes 47 = .ok (.invokevirtual 404, 3) := by decide +kernel
theorem dX12_minutes_50 : decode cX12_minutes 50 = .ok (.iadd, 1) := by decide +kernel
theorem dX12_minutes_51 : decode cX12_minutes 51 = .ok (.istore_n 2, 1) := by decide +kernel
theorem dX12_minutes_52 : decode cX12_minutes 52 = .ok (.iinc 3 1, 3) := by decide +kernel
theorem dX12_minutes_55 : decode cX12_minutes 55 = .ok (.goto (-19), 3) := by decide +kernel
theorem dX12_minutes_58 : decode cX12_minutes 58 = .ok (.iload_n 2, 1) := by decide +kernel
theorem dX12_minutes_59 : decode cX12_minutes 59 = .ok (.ireturn, 1) := by decide +kernel
set_option maxRecDepth 100000 in
set_option maxHeartbeats 4000000 in
theorem so_X12_minutes_36 {fr : Nat} (hfr : 8 ≤ fr) (Z : AZ) (X : AX Z cX12_minutes 4 RX12 (some .int) 1 fr) (x1 : Int32) (x2 : Int32) (x3 : Int32) (s : Mem) (q : (Int32 × Int32 × Mem) ⊕ (Int32 × Mem)) (h : st_X12_minutes_36 x1 x2 x3 s = some q) (hi : ∀ y : Int32 × Int32 × Mem, q = .inl y → AW Z y.2.2 36 [some (.ref (zr Z 0)), some (.int x1), some (.int y.1), some (.int y.2.1)] []) (he : ∀ b : Int32 × Mem, q = .inr b → AW Z b.2 58 [none, none, some (.int b.1), none] []) : AW Z s 36 [some (.ref (zr Z 0)), some (.int x1), some (.int x2), some (.int x3)] [] := by
  unfold st_X12_minutes_36 at h
  refine aw_iload_n X dX12_minutes_36 rfl ?_
  refine aw_iload_n X dX12_minutes_37 rfl ?_
  refine aw_icmp_ge (tgt := 58) X dX12_minutes_38 (by decide) (fun c5 => ?_) (fun c5 => ?_)
  · rw [if_pos c5] at h
    cases h
    refine aw_msk [false, false, true, false] ?_
    exact he _ rfl
  · rw [if_neg c5] at h
    refine aw_aload_n X dX12_minutes_41 rfl ?_
    obtain ⟨r6, er6, h⟩ := bnd h
    refine aw_callV X dX12_minutes_42 cv_RX12_368 (ok_X12_keepsAhead er6 _ _ _ _ _) iu_RX12 rfl (Nat.le_trans (by decide) hfr) (by decide) rfl rfl (Nat.le_of_ble_eq_true rfl) ?_
    refine aw_iload_n X dX12_minutes_45 rfl ?_
    refine aw_aload_n X dX12_minutes_46 rfl ?_
    obtain ⟨r7, er7, h⟩ := bnd h
    refine aw_callV X dX12_minutes_47 cv_RX12_404 (ok_X12_goesBy er7 _ _ _ _ _) iu_RX12 rfl (Nat.le_trans (by decide) hfr) (by decide) rfl rfl (Nat.le_of_ble_eq_true rfl) ?_
    refine aw_iadd X dX12_minutes_50 ?_
    refine aw_istore_n (L' := [some (.ref (zr Z 0)), some (.int x1), some (.int (x2 + r7.1)), some (.int x3)]) X dX12_minutes_51 (by decide) rfl ?_
    refine aw_iinc (v := (x3 + 1)) (L' := [some (.ref (zr Z 0)), some (.int x1), some (.int (x2 + r7.1)), some (.int (x3 + 1))]) X dX12_minutes_52 rfl rfl (by decide) rfl ?_
    refine aw_goto (tgt := 36) X dX12_minutes_55 (by decide) ?_
    cases h
    refine aw_msk [true, true, true, true] ?_
    exact hi _ rfl
set_option maxRecDepth 100000 in
set_option maxHeartbeats 4000000 in
theorem w_X12_minutes {fr : Nat} (hfr : 8 ≤ fr) (Z : AZ) (X : AX Z cX12_minutes 4 RX12 (some .int) 1 fr) (x1 : Int32) (s : Mem) (r : Int32 × Mem) (hz : zres Z = (some (.int r.1), r.2)) (h : f_X12_minutes x1 s = some r) : AW Z s 0 [some (.ref (zr Z 0)), some (.int x1), none, none] [] := by
  unfold f_X12_minutes at h
  refine aw_aload_n X dX12_minutes_0 rfl ?_
  refine aw_iconst (v := 0) X dX12_minutes_1 (by decide) ?_
  refine aw_put X dX12_minutes_2 fp_RX12_122 iu_RX12 gu_RX12_0 rfl rfl ?_
  refine aw_aload_n X dX12_minutes_5 rfl ?_
  refine aw_iload_n X dX12_minutes_6 rfl ?_
  refine aw_iconst (v := 1) X dX12_minutes_7 (by decide) ?_
  refine aw_bipush (v := 60) X dX12_minutes_8 (by decide) ?_
  obtain ⟨r1, er1, h⟩ := bnd h
  refine aw_callV X dX12_minutes_10 cv_RX12_137 (ok_X12_isIn er1 _ _ _ _ _) iu_RX12 rfl (Nat.le_trans (by decide) hfr) (by decide) rfl rfl (Nat.le_of_ble_eq_true rfl) ?_
  refine aw_if_eq (tgt := 30) X dX12_minutes_13 (by decide) (fun c2 => ?_) (fun c2 => ?_)
  · rw [if_pos c2] at h
    refine aw_iconst (v := (-1)) X dX12_minutes_30 (by decide) ?_
    cases h
    exact aw_iret X dX12_minutes_31 rfl hz.symm
  · rw [if_neg c2] at h
    refine aw_aload_n X dX12_minutes_16 rfl ?_
    refine aw_getr X dX12_minutes_17 fl_RX12_7 iu_RX12 gu_RX12_1 ?_
    refine aw_iconst (v := 0) X dX12_minutes_20 (by decide) ?_
    obtain ⟨v3, ev3, h⟩ := bnd h
    refine aw_iald X dX12_minutes_21 iu_RX12_1 ev3 ?_
    refine aw_iload_n X dX12_minutes_22 rfl ?_
    refine aw_iadd X dX12_minutes_23 ?_
    refine aw_sipush (v := 9999) X dX12_minutes_24 (by decide) ?_
    refine aw_icmp_le (tgt := 32) X dX12_minutes_27 (by decide) (fun c4 => ?_) (fun c4 => ?_)
    · rw [if_pos c4] at h
      refine aw_iconst (v := 0) X dX12_minutes_32 (by decide) ?_
      refine aw_istore_n (L' := [some (.ref (zr Z 0)), some (.int x1), some (.int 0), none]) X dX12_minutes_33 (by decide) rfl ?_
      refine aw_iconst (v := 0) X dX12_minutes_34 (by decide) ?_
      refine aw_istore_n (L' := [some (.ref (zr Z 0)), some (.int x1), some (.int 0), some (.int 0)]) X dX12_minutes_35 (by decide) rfl ?_
      obtain ⟨r8, er8, h⟩ := bnd h
      refine aw_msk [true, true, true, true] ?_
      refine it_ok (P := fun y : Int32 × Int32 × Mem => AW Z y.2.2 36 [some (.ref (zr Z 0)), some (.int x1), some (.int y.1), some (.int y.2.1)] []) (Q := fun b : Int32 × Mem => AW Z b.2 58 [none, none, some (.int b.1), none] []) (fun y q hq hi he => so_X12_minutes_36 hfr Z X x1 y.1 y.2.1 y.2.2 q hq hi he) FUEL _ _ er8 ?_
      refine aw_iload_n X dX12_minutes_58 rfl ?_
      cases h
      exact aw_iret X dX12_minutes_59 rfl hz.symm
    · rw [if_neg c4] at h
      refine aw_iconst (v := (-1)) X dX12_minutes_30 (by decide) ?_
      cases h
      exact aw_iret X dX12_minutes_31 rfl hz.symm
set_option maxRecDepth 100000 in
set_option maxHeartbeats 4000000 in
theorem ok_X12_minutes {x1 : Int32} {s : Mem} {r : Int32 × Mem} (h : f_X12_minutes x1 s = some r) (l : Launch) (D : va_G) (ρ : Nat → Nat) (cA : ClassId × ClassId × ClassId) (τ : AT) : AM l D ρ cA 1 τ yX12_minutes cX12_minutes 4 (some .int) 8 [.ref (ρ 0), .int x1] (some (.int r.1)) s r.2 := by
  refine AM_of (L := [some (.ref (ρ 0)), some (.int x1), none, none]) (by decide) (by simp [Value.category]) (Nat.le_of_ble_eq_true rfl) (fun j v q => ?_) (fun Z X hρ hz hτ => ?_)
  · exact aL_ok (n := 2) [.ref (ρ 0), .int x1] j v q
  · subst hρ
    subst hτ
    exact w_X12_minutes (Nat.le_refl _) Z X x1 s r hz h

theorem dX12_of_0 : decode cX12_of 0 = .ok (.aload_n 0, 1) := by decide +kernel
theorem dX12_of_1 : decode cX12_of 1 = .ok (.iconst 0, 1) := by decide +kernel
theorem dX12_of_2 : decode cX12_of 2 = .ok (.putfield 122, 3) := by decide +kernel
theorem dX12_of_5 : decode cX12_of 5 = .ok (.aload_n 0, 1) := by decide +kernel
theorem dX12_of_6 : decode cX12_of 6 = .ok (.iload_n 1, 1) := by decide +kernel
theorem dX12_of_7 : decode cX12_of 7 = .ok (.invokevirtual 141, 3) := by decide +kernel
theorem dX12_of_10 : decode cX12_of 10 = .ok (.ifCond .ne 6, 3) := by decide +kernel
theorem dX12_of_13 : decode cX12_of 13 = .ok (.bipush (-2), 2) := by decide +kernel
theorem dX12_of_15 : decode cX12_of 15 = .ok (.ireturn, 1) := by decide +kernel
theorem dX12_of_16 : decode cX12_of 16 = .ok (.iload_n 2, 1) := by decide +kernel
theorem dX12_of_17 : decode cX12_of 17 = .ok (.iconst 2, 1) := by decide +kernel
theorem dX12_of_18 : decode cX12_of 18 = .ok (.if_icmp .ne 9, 3) := by decide +kernel
theorem dX12_of_21 : decode cX12_of 21 = .ok (.aload_n 0, 1) := by decide +kernel
theorem dX12_of_22 : decode cX12_of 22 = .ok (.iload_n 1, 1) := by decide +kernel
theorem dX12_of_23 : decode cX12_of 23 = .ok (.invokevirtual 324, 3) := by decide +kernel
theorem dX12_of_26 : decode cX12_of 26 = .ok (.ireturn, 1) := by decide +kernel
theorem dX12_of_27 : decode cX12_of 27 = .ok (.aload_n 0, 1) := by decide +kernel
theorem dX12_of_28 : decode cX12_of 28 = .ok (.iload_n 2, 1) := by decide +kernel
theorem dX12_of_29 : decode cX12_of 29 = .ok (.iconst 0, 1) := by decide +kernel
theorem dX12_of_30 : decode cX12_of 30 = .ok (.bipush 6, 2) := by decide +kernel
theorem dX12_of_32 : decode cX12_of 32 = .ok (.invokevirtual 137, 3) := by decide +kernel
theorem dX12_of_35 : decode cX12_of 35 = .ok (.ifCond .eq 17, 3) := by decide +kernel
theorem dX12_of_38 : decode cX12_of 38 = .ok (.aload_n 0, 1) := by decide +kernel
theorem dX12_of_39 : decode cX12_of 39 = .ok (.getfield 7, 3) := by decide +kernel
theorem dX12_of_42 : decode cX12_of 42 = .ok (.iconst 4, 1) := by decide +kernel
theorem dX12_of_43 : decode cX12_of 43 = .ok (.bipush 14, 2) := by decide +kernel
theorem dX12_of_45 : decode cX12_of 45 = .ok (.iload_n 2, 1) := by decide +kernel
theorem dX12_of_46 : decode cX12_of 46 = .ok (.imul, 1) := by decide +kernel
theorem dX12_of_47 : decode cX12_of 47 = .ok (.iadd, 1) := by decide +kernel
theorem dX12_of_48 : decode cX12_of 48 = .ok (.iload_n 1, 1) := by decide +kernel
theorem dX12_of_49 : decode cX12_of 49 = .ok (.iadd, 1) := by decide +kernel
theorem dX12_of_50 : decode cX12_of 50 = .ok (.iaload, 1) := by decide +kernel
theorem dX12_of_51 : decode cX12_of 51 = .ok (.ireturn, 1) := by decide +kernel
theorem dX12_of_52 : decode cX12_of 52 = .ok (.iload_n 2, 1) := by decide +kernel
theorem dX12_of_53 : decode cX12_of 53 = .ok (.bipush 7, 2) := by decide +kernel
theorem dX12_of_55 : decode cX12_of 55 = .ok (.if_icmp .ne 9, 3) := by decide +kernel
theorem dX12_of_58 : decode cX12_of 58 = .ok (.aload_n 0, 1) := by decide +kernel
theorem dX12_of_59 : decode cX12_of 59 = .ok (.iload_n 1, 1) := by decide +kernel
theorem dX12_of_60 : decode cX12_of 60 = .ok (.invokevirtual 343, 3) := by decide +kernel
theorem dX12_of_63 : decode cX12_of 63 = .ok (.ireturn, 1) := by decide +kernel
theorem dX12_of_64 : decode cX12_of 64 = .ok (.iload_n 2, 1) := by decide +kernel
theorem dX12_of_65 : decode cX12_of 65 = .ok (.bipush 8, 2) := by decide +kernel
theorem dX12_of_67 : decode cX12_of 67 = .ok (.if_icmp .ne 9, 3) := by decide +kernel
theorem dX12_of_70 : decode cX12_of 70 = .ok (.aload_n 0, 1) := by decide +kernel
theorem dX12_of_71 : decode cX12_of 71 = .ok (.iload_n 1, 1) := by decide +kernel
theorem dX12_of_72 : decode cX12_of 72 = .ok (.invokevirtual 389, 3) := by decide +kernel
theorem dX12_of_75 : decode cX12_of 75 = .ok (.ireturn, 1) := by decide +kernel
theorem dX12_of_76 : decode cX12_of 76 = .ok (.iload_n 2, 1) := by decide +kernel
theorem dX12_of_77 : decode cX12_of 77 = .ok (.bipush 9, 2) := by decide +kernel
theorem dX12_of_79 : decode cX12_of 79 = .ok (.if_icmp .ne 9, 3) := by decide +kernel
theorem dX12_of_82 : decode cX12_of 82 = .ok (.aload_n 0, 1) := by decide +kernel
theorem dX12_of_83 : decode cX12_of 83 = .ok (.iload_n 1, 1) := by decide +kernel
theorem dX12_of_84 : decode cX12_of 84 = .ok (.invokevirtual 359, 3) := by decide +kernel
theorem dX12_of_87 : decode cX12_of 87 = .ok (.ireturn, 1) := by decide +kernel
theorem dX12_of_88 : decode cX12_of 88 = .ok (.iload_n 2, 1) := by decide +kernel
theorem dX12_of_89 : decode cX12_of 89 = .ok (.bipush 10, 2) := by decide +kernel
theorem dX12_of_91 : decode cX12_of 91 = .ok (.if_icmp .ne 11, 3) := by decide +kernel
theorem dX12_of_94 : decode cX12_of 94 = .ok (.aload_n 0, 1) := by decide +kernel
theorem dX12_of_95 : decode cX12_of 95 = .ok (.iload_n 1, 1) := by decide +kernel
theorem dX12_of_96 : decode cX12_of 96 = .ok (.invokevirtual 356, 3) := by decide +kernel
theorem dX12_of_99 : decode cX12_of 99 = .ok (.goto 30, 3) := by decide +kernel
theorem dX12_of_102 : decode cX12_of 102 = .ok (.aload_n 0, 1) := by decide +kernel
theorem dX12_of_103 : decode cX12_of 103 = .ok (.iload_n 2, 1) := by decide +kernel
theorem dX12_of_104 : decode cX12_of 104 = .ok (.bipush 20, 2) := by decide +kernel
theorem dX12_of_106 : decode cX12_of 106 = .ok (.bipush 33, 2) := by decide +kernel
theorem dX12_of_108 : decode cX12_of 108 = .ok (.invokevirtual 137, 3) := by decide +kernel
theorem dX12_of_111 : decode cX12_of 111 = .ok (.ifCond .eq 16, 3) := by decide +kernel
theorem dX12_of_114 : decode cX12_of 114 = .ok (.aload_n 0, 1) := by decide +kernel
theorem dX12_of_115 : decode cX12_of 115 = .ok (.iload_n 1, 1) := by decide +kernel
theorem dX12_of_116 : decode cX12_of 116 = .ok (.iload_n 2, 1) := by decide +kernel
theorem dX12_of_117 : decode cX12_of 117 = .ok (.bipush 20, 2) := by decide +kernel
theorem dX12_of_119 : decode cX12_of 119 = .ok (.isub, 1) := by decide +kernel
theorem dX12_of_120 : decode cX12_of 120 = .ok (.iconst 0, 1) := by decide +kernel
theorem dX12_of_121 : decode cX12_of 121 = .ok (.invokevirtual 318, 3) := by decide +kernel
theorem dX12_of_124 : decode cX12_of 124 = .ok (.goto 5, 3) := by decide +kernel
theorem dX12_of_127 : decode cX12_of 127 = .ok (.bipush (-2), 2) := by decide +kernel
theorem dX12_of_129 : decode cX12_of 129 = .ok (.ireturn, 1) := by decide +kernel
set_option maxRecDepth 100000 in
set_option maxHeartbeats 4000000 in
theorem w_X12_of {fr : Nat} (hfr : 5 ≤ fr) (Z : AZ) (X : AX Z cX12_of 3 RX12 (some .int) 1 fr) (x1 : Int32) (x2 : Int32) (s : Mem) (r : Int32 × Mem) (hz : zres Z = (some (.int r.1), r.2)) (h : f_X12_of x1 x2 s = some r) : AW Z s 0 [some (.ref (zr Z 0)), some (.int x1), some (.int x2)] [] := by
  unfold f_X12_of at h
  refine aw_aload_n X dX12_of_0 rfl ?_
  refine aw_iconst (v := 0) X dX12_of_1 (by decide) ?_
  refine aw_put X dX12_of_2 fp_RX12_122 iu_RX12 gu_RX12_0 rfl rfl ?_
  refine aw_aload_n X dX12_of_5 rfl ?_
  refine aw_iload_n X dX12_of_6 rfl ?_
  obtain ⟨r1, er1, h⟩ := bnd h
  refine aw_callV X dX12_of_7 cv_RX12_141 (ok_X12_isPerson er1 _ _ _ _ _) iu_RX12 rfl (Nat.le_trans (by decide) hfr) (by decide) rfl rfl (Nat.le_of_ble_eq_true rfl) ?_
  refine aw_if_ne (tgt := 16) X dX12_of_10 (by decide) (fun c2 => ?_) (fun c2 => ?_)
  · rw [if_neg c2] at h
    refine aw_iload_n X dX12_of_16 rfl ?_
    refine aw_iconst (v := 2) X dX12_of_17 (by decide) ?_
    refine aw_icmp_ne (tgt := 27) X dX12_of_18 (by decide) (fun c3 => ?_) (fun c3 => ?_)
    · rw [if_neg c3] at h
      refine aw_aload_n X dX12_of_27 rfl ?_
      refine aw_iload_n X dX12_of_28 rfl ?_
      refine aw_iconst (v := 0) X dX12_of_29 (by decide) ?_
      refine aw_bipush (v := 6) X dX12_of_30 (by decide) ?_
      obtain ⟨r4, er4, h⟩ := bnd h
      refine aw_callV X dX12_of_32 cv_RX12_137 (ok_X12_isIn er4 _ _ _ _ _) iu_RX12 rfl (Nat.le_trans (by decide) hfr) (by decide) rfl rfl (Nat.le_of_ble_eq_true rfl) ?_
      refine aw_if_eq (tgt := 52) X dX12_of_35 (by decide) (fun c5 => ?_) (fun c5 => ?_)
      · rw [if_pos c5] at h
        refine aw_iload_n X dX12_of_52 rfl ?_
        refine aw_bipush (v := 7) X dX12_of_53 (by decide) ?_
        refine aw_icmp_ne (tgt := 64) X dX12_of_55 (by decide) (fun c6 => ?_) (fun c6 => ?_)
        · rw [if_neg c6] at h
          refine aw_iload_n X dX12_of_64 rfl ?_
          refine aw_bipush (v := 8) X dX12_of_65 (by decide) ?_
          refine aw_icmp_ne (tgt := 76) X dX12_of_67 (by decide) (fun c7 => ?_) (fun c7 => ?_)
          · rw [if_neg c7] at h
            refine aw_iload_n X dX12_of_76 rfl ?_
            refine aw_bipush (v := 9) X dX12_of_77 (by decide) ?_
            refine aw_icmp_ne (tgt := 88) X dX12_of_79 (by decide) (fun c8 => ?_) (fun c8 => ?_)
            · rw [if_neg c8] at h
              refine aw_iload_n X dX12_of_88 rfl ?_
              refine aw_bipush (v := 10) X dX12_of_89 (by decide) ?_
              refine aw_icmp_ne (tgt := 102) X dX12_of_91 (by decide) (fun c9 => ?_) (fun c9 => ?_)
              · rw [if_neg c9] at h
                refine aw_aload_n X dX12_of_102 rfl ?_
                refine aw_iload_n X dX12_of_103 rfl ?_
                refine aw_bipush (v := 20) X dX12_of_104 (by decide) ?_
                refine aw_bipush (v := 33) X dX12_of_106 (by decide) ?_
                obtain ⟨r10, er10, h⟩ := bnd h
                refine aw_callV X dX12_of_108 cv_RX12_137 (ok_X12_isIn er10 _ _ _ _ _) iu_RX12 rfl (Nat.le_trans (by decide) hfr) (by decide) rfl rfl (Nat.le_of_ble_eq_true rfl) ?_
                refine aw_if_eq (tgt := 127) X dX12_of_111 (by decide) (fun c11 => ?_) (fun c11 => ?_)
                · rw [if_pos c11] at h
                  refine aw_bipush (v := (-2)) X dX12_of_127 (by decide) ?_
                  cases h
                  exact aw_iret X dX12_of_129 rfl hz.symm
                · rw [if_neg c11] at h
                  refine aw_aload_n X dX12_of_114 rfl ?_
                  refine aw_iload_n X dX12_of_115 rfl ?_
                  refine aw_iload_n X dX12_of_116 rfl ?_
                  refine aw_bipush (v := 20) X dX12_of_117 (by decide) ?_
                  refine aw_isub X dX12_of_119 ?_
                  refine aw_iconst (v := 0) X dX12_of_120 (by decide) ?_
                  obtain ⟨r12, er12, h⟩ := bnd h
                  refine aw_callV X dX12_of_121 cv_RX12_318 (ok_X12_nameBy er12 _ _ _ _ _) iu_RX12 rfl (Nat.le_trans (by decide) hfr) (by decide) rfl rfl (Nat.le_of_ble_eq_true rfl) ?_
                  refine aw_goto (tgt := 129) X dX12_of_124 (by decide) ?_
                  cases h
                  exact aw_iret X dX12_of_129 rfl hz.symm
              · rw [if_pos c9] at h
                refine aw_aload_n X dX12_of_94 rfl ?_
                refine aw_iload_n X dX12_of_95 rfl ?_
                obtain ⟨r13, er13, h⟩ := bnd h
                refine aw_callV X dX12_of_96 cv_RX12_356 (ok_X12_nextName er13 _ _ _ _ _) iu_RX12 rfl (Nat.le_trans (by decide) hfr) (by decide) rfl rfl (Nat.le_of_ble_eq_true rfl) ?_
                refine aw_goto (tgt := 129) X dX12_of_99 (by decide) ?_
                cases h
                exact aw_iret X dX12_of_129 rfl hz.symm
            · rw [if_pos c8] at h
              refine aw_aload_n X dX12_of_82 rfl ?_
              refine aw_iload_n X dX12_of_83 rfl ?_
              obtain ⟨r14, er14, h⟩ := bnd h
              refine aw_callV X dX12_of_84 cv_RX12_359 (ok_X12_passesOf er14 _ _ _ _ _) iu_RX12 rfl (Nat.le_trans (by decide) hfr) (by decide) rfl rfl (Nat.le_of_ble_eq_true rfl) ?_
              cases h
              exact aw_iret X dX12_of_87 rfl hz.symm
          · rw [if_pos c7] at h
            refine aw_aload_n X dX12_of_70 rfl ?_
            refine aw_iload_n X dX12_of_71 rfl ?_
            obtain ⟨r15, er15, h⟩ := bnd h
            refine aw_callV X dX12_of_72 cv_RX12_389 (ok_X12_stopsOf er15 _ _ _ _ _) iu_RX12 rfl (Nat.le_trans (by decide) hfr) (by decide) rfl rfl (Nat.le_of_ble_eq_true rfl) ?_
            cases h
            exact aw_iret X dX12_of_75 rfl hz.symm
        · rw [if_pos c6] at h
          refine aw_aload_n X dX12_of_58 rfl ?_
          refine aw_iload_n X dX12_of_59 rfl ?_
          obtain ⟨r16, er16, h⟩ := bnd h
          refine aw_callV X dX12_of_60 cv_RX12_343 (ok_X12_hicsOf er16 _ _ _ _ _) iu_RX12 rfl (Nat.le_trans (by decide) hfr) (by decide) rfl rfl (Nat.le_of_ble_eq_true rfl) ?_
          cases h
          exact aw_iret X dX12_of_63 rfl hz.symm
      · rw [if_neg c5] at h
        refine aw_aload_n X dX12_of_38 rfl ?_
        refine aw_getr X dX12_of_39 fl_RX12_7 iu_RX12 gu_RX12_1 ?_
        refine aw_iconst (v := 4) X dX12_of_42 (by decide) ?_
        refine aw_bipush (v := 14) X dX12_of_43 (by decide) ?_
        refine aw_iload_n X dX12_of_45 rfl ?_
        refine aw_imul X dX12_of_46 ?_
        refine aw_iadd X dX12_of_47 ?_
        refine aw_iload_n X dX12_of_48 rfl ?_
        refine aw_iadd X dX12_of_49 ?_
        obtain ⟨v17, ev17, h⟩ := bnd h
        refine aw_iald X dX12_of_50 iu_RX12_1 ev17 ?_
        cases h
        exact aw_iret X dX12_of_51 rfl hz.symm
    · rw [if_pos c3] at h
      refine aw_aload_n X dX12_of_21 rfl ?_
      refine aw_iload_n X dX12_of_22 rfl ?_
      obtain ⟨r18, er18, h⟩ := bnd h
      refine aw_callV X dX12_of_23 cv_RX12_324 (ok_X12_byOf er18 _ _ _ _ _) iu_RX12 rfl (Nat.le_trans (by decide) hfr) (by decide) rfl rfl (Nat.le_of_ble_eq_true rfl) ?_
      cases h
      exact aw_iret X dX12_of_26 rfl hz.symm
  · rw [if_pos c2] at h
    refine aw_bipush (v := (-2)) X dX12_of_13 (by decide) ?_
    cases h
    exact aw_iret X dX12_of_15 rfl hz.symm
set_option maxRecDepth 100000 in
set_option maxHeartbeats 4000000 in
theorem ok_X12_of {x1 x2 : Int32} {s : Mem} {r : Int32 × Mem} (h : f_X12_of x1 x2 s = some r) (l : Launch) (D : va_G) (ρ : Nat → Nat) (cA : ClassId × ClassId × ClassId) (τ : AT) : AM l D ρ cA 1 τ yX12_of cX12_of 3 (some .int) 5 [.ref (ρ 0), .int x1, .int x2] (some (.int r.1)) s r.2 := by
  refine AM_of (L := [some (.ref (ρ 0)), some (.int x1), some (.int x2)]) (by decide) (by simp [Value.category]) (Nat.le_of_ble_eq_true rfl) (fun j v q => ?_) (fun Z X hρ hz hτ => ?_)
  · exact aL_ok (n := 0) [.ref (ρ 0), .int x1, .int x2] j v q
  · subst hρ
    subst hτ
    exact w_X12_of (Nat.le_refl _) Z X x1 x2 s r hz h

theorem dX12_book_0 : decode cX12_book 0 = .ok (.aload_n 0, 1) := by decide +kernel
theorem dX12_book_1 : decode cX12_book 1 = .ok (.iconst 0, 1) := by decide +kernel
theorem dX12_book_2 : decode cX12_book 2 = .ok (.putfield 122, 3) := by decide +kernel
theorem dX12_book_5 : decode cX12_book 5 = .ok (.aload_n 0, 1) := by decide +kernel
theorem dX12_book_6 : decode cX12_book 6 = .ok (.iload_n 1, 1) := by decide +kernel
theorem dX12_book_7 : decode cX12_book 7 = .ok (.iconst 0, 1) := by decide +kernel
theorem dX12_book_8 : decode cX12_book 8 = .ok (.aload_n 0, 1) := by decide +kernel
theorem dX12_book_9 : decode cX12_book 9 = .ok (.getfield 7, 3) := by decide +kernel
theorem dX12_book_12 : decode cX12_book 12 = .ok (.iconst 2, 1) := by decide +kernel
theorem dX12_book_13 : decode cX12_book 13 = .ok (.iaload, 1) := by decide +kernel
theorem dX12_book_14 : decode cX12_book 14 = .ok (.iconst 1, 1) := by decide +kernel
theorem dX12_book_15 : decode cX12_book 15 = .ok (.isub, 1) := by decide +kernel
theorem dX12_book_16 : decode cX12_book 16 = .ok (.invokevirtual 137, 3) := by decide +kernel
theorem dX12_book_19 : decode cX12_book 19 = .ok (.ifCond .eq 26, 3) := by decide +kernel
theorem dX12_book_22 : decode cX12_book 22 = .ok (.aload_n 0, 1) := by decide +kernel
theorem dX12_book_23 : decode cX12_book 23 = .ok (.iload_n 2, 1) := by decide +kernel
theorem dX12_book_24 : decode cX12_book 24 = .ok (.iconst 0, 1) := by decide +kernel
theorem dX12_book_25 : decode cX12_book 25 = .ok (.iconst 3, 1) := by decide +kernel
theorem dX12_book_26 : decode cX12_book 26 = .ok (.invokevirtual 137, 3) := by decide +kernel
theorem dX12_book_29 : decode cX12_book 29 = .ok (.ifCond .eq 16, 3) := by decide +kernel
theorem dX12_book_32 : decode cX12_book 32 = .ok (.aload_n 0, 1) := by decide +kernel
theorem dX12_book_33 : decode cX12_book 33 = .ok (.getfield 19, 3) := by decide +kernel
theorem dX12_book_36 : decode cX12_book 36 = .ok (.iconst 4, 1) := by decide +kernel
theorem dX12_book_37 : decode cX12_book 37 = .ok (.iload_n 1, 1) := by decide +kernel
theorem dX12_book_38 : decode cX12_book 38 = .ok (.imul, 1) := by decide +kernel
theorem dX12_book_39 : decode cX12_book 39 = .ok (.iload_n 2, 1) := by decide +kernel
theorem dX12_book_40 : decode cX12_book 40 = .ok (.iadd, 1) := by decide +kernel
theorem dX12_book_41 : decode cX12_book 41 = .ok (.iaload, 1) := by decide +kernel
theorem dX12_book_42 : decode cX12_book 42 = .ok (.goto 4, 3) := by decide +kernel
theorem dX12_book_45 : decode cX12_book 45 = .ok (.iconst (-1), 1) := by decide +kernel
theorem dX12_book_46 : decode cX12_book 46 = .ok (.ireturn, 1) := by decide +kernel
set_option maxRecDepth 100000 in
set_option maxHeartbeats 4000000 in
theorem w_X12_book {fr : Nat} (hfr : 1 ≤ fr) (Z : AZ) (X : AX Z cX12_book 3 RX12 (some .int) 1 fr) (x1 : Int32) (x2 : Int32) (s : Mem) (r : Int32 × Mem) (hz : zres Z = (some (.int r.1), r.2)) (h : f_X12_book x1 x2 s = some r) : AW Z s 0 [some (.ref (zr Z 0)), some (.int x1), some (.int x2)] [] := by
  unfold f_X12_book at h
  refine aw_aload_n X dX12_book_0 rfl ?_
  refine aw_iconst (v := 0) X dX12_book_1 (by decide) ?_
  refine aw_put X dX12_book_2 fp_RX12_122 iu_RX12 gu_RX12_0 rfl rfl ?_
  refine aw_aload_n X dX12_book_5 rfl ?_
  refine aw_iload_n X dX12_book_6 rfl ?_
  refine aw_iconst (v := 0) X dX12_book_7 (by decide) ?_
  refine aw_aload_n X dX12_book_8 rfl ?_
  refine aw_getr X dX12_book_9 fl_RX12_7 iu_RX12 gu_RX12_1 ?_
  refine aw_iconst (v := 2) X dX12_book_12 (by decide) ?_
  obtain ⟨v1, ev1, h⟩ := bnd h
  refine aw_iald X dX12_book_13 iu_RX12_1 ev1 ?_
  refine aw_iconst (v := 1) X dX12_book_14 (by decide) ?_
  refine aw_isub X dX12_book_15 ?_
  obtain ⟨r2, er2, h⟩ := bnd h
  refine aw_callV X dX12_book_16 cv_RX12_137 (ok_X12_isIn er2 _ _ _ _ _) iu_RX12 rfl (Nat.le_trans (by decide) hfr) (by decide) rfl rfl (Nat.le_of_ble_eq_true rfl) ?_
  refine aw_if_eq (tgt := 45) X dX12_book_19 (by decide) (fun c3 => ?_) (fun c3 => ?_)
  · rw [if_pos c3] at h
    refine aw_iconst (v := (-1)) X dX12_book_45 (by decide) ?_
    cases h
    exact aw_iret X dX12_book_46 rfl hz.symm
  · rw [if_neg c3] at h
    refine aw_aload_n X dX12_book_22 rfl ?_
    refine aw_iload_n X dX12_book_23 rfl ?_
    refine aw_iconst (v := 0) X dX12_book_24 (by decide) ?_
    refine aw_iconst (v := 3) X dX12_book_25 (by decide) ?_
    obtain ⟨r4, er4, h⟩ := bnd h
    refine aw_callV X dX12_book_26 cv_RX12_137 (ok_X12_isIn er4 _ _ _ _ _) iu_RX12 rfl (Nat.le_trans (by decide) hfr) (by decide) rfl rfl (Nat.le_of_ble_eq_true rfl) ?_
    refine aw_if_eq (tgt := 45) X dX12_book_29 (by decide) (fun c5 => ?_) (fun c5 => ?_)
    · rw [if_pos c5] at h
      refine aw_iconst (v := (-1)) X dX12_book_45 (by decide) ?_
      cases h
      exact aw_iret X dX12_book_46 rfl hz.symm
    · rw [if_neg c5] at h
      refine aw_aload_n X dX12_book_32 rfl ?_
      refine aw_getr X dX12_book_33 fl_RX12_19 iu_RX12 gu_RX12_7 ?_
      refine aw_iconst (v := 4) X dX12_book_36 (by decide) ?_
      refine aw_iload_n X dX12_book_37 rfl ?_
      refine aw_imul X dX12_book_38 ?_
      refine aw_iload_n X dX12_book_39 rfl ?_
      refine aw_iadd X dX12_book_40 ?_
      obtain ⟨v6, ev6, h⟩ := bnd h
      refine aw_iald X dX12_book_41 iu_RX12_7 ev6 ?_
      refine aw_goto (tgt := 46) X dX12_book_42 (by decide) ?_
      cases h
      exact aw_iret X dX12_book_46 rfl hz.symm
set_option maxRecDepth 100000 in
set_option maxHeartbeats 4000000 in
theorem ok_X12_book {x1 x2 : Int32} {s : Mem} {r : Int32 × Mem} (h : f_X12_book x1 x2 s = some r) (l : Launch) (D : va_G) (ρ : Nat → Nat) (cA : ClassId × ClassId × ClassId) (τ : AT) : AM l D ρ cA 1 τ yX12_book cX12_book 3 (some .int) 1 [.ref (ρ 0), .int x1, .int x2] (some (.int r.1)) s r.2 := by
  refine AM_of (L := [some (.ref (ρ 0)), some (.int x1), some (.int x2)]) (by decide) (by simp [Value.category]) (Nat.le_of_ble_eq_true rfl) (fun j v q => ?_) (fun Z X hρ hz hτ => ?_)
  · exact aL_ok (n := 0) [.ref (ρ 0), .int x1, .int x2] j v q
  · subst hρ
    subst hτ
    exact w_X12_book (Nat.le_refl _) Z X x1 x2 s r hz h

theorem dX12_sumOf_0 : decode cX12_sumOf 0 = .ok (.iconst 0, 1) := by decide +kernel
theorem dX12_sumOf_1 : decode cX12_sumOf 1 = .ok (.istore_n 2, 1) := by decide +kernel
theorem dX12_sumOf_2 : decode cX12_sumOf 2 = .ok (.iconst 0, 1) := by decide +kernel
theorem dX12_sumOf_3 : decode cX12_sumOf 3 = .ok (.istore_n 3, 1) := by decide +kernel
theorem dX12_sumOf_4 : decode cX12_sumOf 4 = .ok (.iload_n 3, 1) := by decide +kernel
theorem dX12_sumOf_5 : decode cX12_sumOf 5 = .ok (.aload_n 0, 1) := by decide +kernel
theorem dX12_sumOf_6 : decode cX12_sumOf 6 = .ok (.getfield 134, 3) := by decide +kernel
theorem dX12_sumOf_9 : decode cX12_sumOf 9 = .ok (.if_icmp .ge 20, 3) := by decide +kernel
theorem dX12_sumOf_12 : decode cX12_sumOf 12 = .ok (.iload_n 2, 1) := by decide +kernel
theorem dX12_sumOf_13 : decode cX12_sumOf 13 = .ok (.aload_n 0, 1) := by decide +kernel
theorem dX12_sumOf_14 : decode cX12_sumOf 14 = .ok (.getfield 7, 3) := by decide +kernel
theorem dX12_sumOf_17 : decode cX12_sumOf 17 = .ok (.iload_n 1, 1) := by decide +kernel
theorem dX12_sumOf_18 : decode cX12_sumOf 18 = .ok (.iload_n 3, 1) := by decide +kernel
theorem dX12_sumOf_19 : decode cX12_sumOf 19 = .ok (.iadd, 1) := by decide +kernel
theorem dX12_sumOf_20 : decode cX12_sumOf 20 = .ok (.iaload, 1) := by decide +kernel
theorem dX12_sumOf_21 : decode cX12_sumOf 21 = .ok (.iadd, 1) := by decide +kernel
theorem dX12_sumOf_22 : decode cX12_sumOf 22 = .ok (.istore_n 2, 1) := by decide +kernel
theorem dX12_sumOf_23 : decode cX12_sumOf 23 = .ok (.iinc 3 1, 3) := by decide +kernel
theorem dX12_sumOf_26 : decode cX12_sumOf 26 = .ok (.goto (-22), 3) := by decide +kernel
theorem dX12_sumOf_29 : decode cX12_sumOf 29 = .ok (.iload_n 2, 1) := by decide +kernel
theorem dX12_sumOf_30 : decode cX12_sumOf 30 = .ok (.ireturn, 1) := by decide +kernel
set_option maxRecDepth 100000 in
set_option maxHeartbeats 4000000 in
theorem so_X12_sumOf_4 {fr : Nat} (hfr : 0 ≤ fr) (Z : AZ) (X : AX Z cX12_sumOf 4 RX12 (some .int) 1 fr) (x1 : Int32) (x2 : Int32) (x3 : Int32) (s : Mem) (q : (Int32 × Int32 × Mem) ⊕ (Int32 × Mem)) (h : st_X12_sumOf_4 x1 x2 x3 s = some q) (hi : ∀ y : Int32 × Int32 × Mem, q = .inl y → AW Z y.2.2 4 [some (.ref (zr Z 0)), some (.int x1), some (.int y.1), some (.int y.2.1)] []) (he : ∀ b : Int32 × Mem, q = .inr b → AW Z b.2 29 [none, none, some (.int b.1), none] []) : AW Z s 4 [some (.ref (zr Z 0)), some (.int x1), some (.int x2), some (.int x3)] [] := by
  unfold st_X12_sumOf_4 at h
  refine aw_iload_n X dX12_sumOf_4 rfl ?_
  refine aw_aload_n X dX12_sumOf_5 rfl ?_
  refine aw_geti X dX12_sumOf_6 fl_RX12_134 iu_RX12 gu_RX12_6 ?_
  refine aw_icmp_ge (tgt := 29) X dX12_sumOf_9 (by decide) (fun c1 => ?_) (fun c1 => ?_)
  · rw [if_pos c1] at h
    cases h
    refine aw_msk [false, false, true, false] ?_
    exact he _ rfl
  · rw [if_neg c1] at h
    refine aw_iload_n X dX12_sumOf_12 rfl ?_
    refine aw_aload_n X dX12_sumOf_13 rfl ?_
    refine aw_getr X dX12_sumOf_14 fl_RX12_7 iu_RX12 gu_RX12_1 ?_
    refine aw_iload_n X dX12_sumOf_17 rfl ?_
    refine aw_iload_n X dX12_sumOf_18 rfl ?_
    refine aw_iadd X dX12_sumOf_19 ?_
    obtain ⟨v2, ev2, h⟩ := bnd h
    refine aw_iald X dX12_sumOf_20 iu_RX12_1 ev2 ?_
    refine aw_iadd X dX12_sumOf_21 ?_
    refine aw_istore_n (L' := [some (.ref (zr Z 0)), some (.int x1), some (.int (x2 + v2)), some (.int x3)]) X dX12_sumOf_22 (by decide) rfl ?_
    refine aw_iinc (v := (x3 + 1)) (L' := [some (.ref (zr Z 0)), some (.int x1), some (.int (x2 + v2)), some (.int (x3 + 1))]) X dX12_sumOf_23 rfl rfl (by decide) rfl ?_
    refine aw_goto (tgt := 4) X dX12_sumOf_26 (by decide) ?_
    cases h
    refine aw_msk [true, true, true, true] ?_
    exact hi _ rfl
set_option maxRecDepth 100000 in
set_option maxHeartbeats 4000000 in
theorem w_X12_sumOf {fr : Nat} (hfr : 0 ≤ fr) (Z : AZ) (X : AX Z cX12_sumOf 4 RX12 (some .int) 1 fr) (x1 : Int32) (s : Mem) (r : Int32 × Mem) (hz : zres Z = (some (.int r.1), r.2)) (h : f_X12_sumOf x1 s = some r) : AW Z s 0 [some (.ref (zr Z 0)), some (.int x1), none, none] [] := by
  unfold f_X12_sumOf at h
  refine aw_iconst (v := 0) X dX12_sumOf_0 (by decide) ?_
  refine aw_istore_n (L' := [some (.ref (zr Z 0)), some (.int x1), some (.int 0), none]) X dX12_sumOf_1 (by decide) rfl ?_
  refine aw_iconst (v := 0) X dX12_sumOf_2 (by decide) ?_
  refine aw_istore_n (L' := [some (.ref (zr Z 0)), some (.int x1), some (.int 0), some (.int 0)]) X dX12_sumOf_3 (by decide) rfl ?_
  obtain ⟨r3, er3, h⟩ := bnd h
  refine aw_msk [true, true, true, true] ?_
  refine it_ok (P := fun y : Int32 × Int32 × Mem => AW Z y.2.2 4 [some (.ref (zr Z 0)), some (.int x1), some (.int y.1), some (.int y.2.1)] []) (Q := fun b : Int32 × Mem => AW Z b.2 29 [none, none, some (.int b.1), none] []) (fun y q hq hi he => so_X12_sumOf_4 hfr Z X x1 y.1 y.2.1 y.2.2 q hq hi he) FUEL _ _ er3 ?_
  refine aw_iload_n X dX12_sumOf_29 rfl ?_
  cases h
  exact aw_iret X dX12_sumOf_30 rfl hz.symm
set_option maxRecDepth 100000 in
set_option maxHeartbeats 4000000 in
theorem ok_X12_sumOf {x1 : Int32} {s : Mem} {r : Int32 × Mem} (h : f_X12_sumOf x1 s = some r) (l : Launch) (D : va_G) (ρ : Nat → Nat) (cA : ClassId × ClassId × ClassId) (τ : AT) : AM l D ρ cA 1 τ yX12_sumOf cX12_sumOf 4 (some .int) 0 [.ref (ρ 0), .int x1] (some (.int r.1)) s r.2 := by
  refine AM_of (L := [some (.ref (ρ 0)), some (.int x1), none, none]) (by decide) (by simp [Value.category]) (Nat.le_of_ble_eq_true rfl) (fun j v q => ?_) (fun Z X hρ hz hτ => ?_)
  · exact aL_ok (n := 2) [.ref (ρ 0), .int x1] j v q
  · subst hρ
    subst hτ
    exact w_X12_sumOf (Nat.le_refl _) Z X x1 s r hz h
