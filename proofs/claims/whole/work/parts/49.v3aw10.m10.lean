/-! ===== walks: X12_goes .. X12_hics ===== -/
theorem dX12_goes_0 : decode cX12_goes 0 = .ok (.aload_n 0, 1) := by decide +kernel
theorem dX12_goes_1 : decode cX12_goes 1 = .ok (.iconst 0, 1) := by decide +kernel
theorem dX12_goes_2 : decode cX12_goes 2 = .ok (.putfield 122, 3) := by decide +kernel
theorem dX12_goes_5 : decode cX12_goes 5 = .ok (.aload_n 0, 1) := by decide +kernel
theorem dX12_goes_6 : decode cX12_goes 6 = .ok (.iload_n 1, 1) := by decide +kernel
theorem dX12_goes_7 : decode cX12_goes 7 = .ok (.iconst 1, 1) := by decide +kernel
theorem dX12_goes_8 : decode cX12_goes 8 = .ok (.bipush 60, 2) := by decide +kernel
theorem dX12_goes_10 : decode cX12_goes 10 = .ok (.invokevirtual 137, 3) := by decide +kernel
theorem dX12_goes_13 : decode cX12_goes 13 = .ok (.ifCond .eq 13, 3) := by decide +kernel
theorem dX12_goes_16 : decode cX12_goes 16 = .ok (.aload_n 0, 1) := by decide +kernel
theorem dX12_goes_17 : decode cX12_goes 17 = .ok (.iload_n 2, 1) := by decide +kernel
theorem dX12_goes_18 : decode cX12_goes 18 = .ok (.iconst 0, 1) := by decide +kernel
theorem dX12_goes_19 : decode cX12_goes 19 = .ok (.iconst 3, 1) := by decide +kernel
theorem dX12_goes_20 : decode cX12_goes 20 = .ok (.invokevirtual 137, 3) := by decide +kernel
theorem dX12_goes_23 : decode cX12_goes 23 = .ok (.ifCond .ne 5, 3) := by decide +kernel
theorem dX12_goes_26 : decode cX12_goes 26 = .ok (.iconst (-1), 1) := by decide +kernel
theorem dX12_goes_27 : decode cX12_goes 27 = .ok (.ireturn, 1) := by decide +kernel
theorem dX12_goes_28 : decode cX12_goes 28 = .ok (.aload_n 0, 1) := by decide +kernel
theorem dX12_goes_29 : decode cX12_goes 29 = .ok (.invokevirtual 407, 3) := by decide +kernel
theorem dX12_goes_32 : decode cX12_goes 32 = .ok (.iconst 0, 1) := by decide +kernel
theorem dX12_goes_33 : decode cX12_goes 33 = .ok (.istore_n 3, 1) := by decide +kernel
theorem dX12_goes_34 : decode cX12_goes 34 = .ok (.iload_n 3, 1) := by decide +kernel
theorem dX12_goes_35 : decode cX12_goes 35 = .ok (.iload_n 1, 1) := by decide +kernel
theorem dX12_goes_36 : decode cX12_goes 36 = .ok (.if_icmp .ge 14, 3) := by decide +kernel
theorem dX12_goes_39 : decode cX12_goes 39 = .ok (.aload_n 0, 1) := by decide +kernel
theorem dX12_goes_40 : decode cX12_goes 40 = .ok (.invokevirtual 404, 3) := by decide +kernel
theorem dX12_goes_43 : decode cX12_goes 43 = .ok (.pop, 1) := by decide +kernel
theorem dX12_goes_44 : decode cX12_goes 44 = .ok (.iinc 3 1, 3) := by decide +kernel
theorem dX12_goes_47 : decode cX12_goes 47 = .ok (.goto (-13), 3) := by decide +kernel
theorem dX12_goes_50 : decode cX12_goes 50 = .ok (.iload_n 2, 1) := by decide +kernel
theorem dX12_goes_51 : decode cX12_goes 51 = .ok (.ifCond .ne 12, 3) := by decide +kernel
theorem dX12_goes_54 : decode cX12_goes 54 = .ok (.aload_n 0, 1) := by decide +kernel
theorem dX12_goes_55 : decode cX12_goes 55 = .ok (.bipush 18, 2) := by decide +kernel
theorem dX12_goes_57 : decode cX12_goes 57 = .ok (.invokevirtual 410, 3) := by decide +kernel
theorem dX12_goes_60 : decode cX12_goes 60 = .ok (.goto 37, 3) := by decide +kernel
theorem dX12_goes_63 : decode cX12_goes 63 = .ok (.iload_n 2, 1) := by decide +kernel
theorem dX12_goes_64 : decode cX12_goes 64 = .ok (.iconst 1, 1) := by decide +kernel
theorem dX12_goes_65 : decode cX12_goes 65 = .ok (.if_icmp .ne 12, 3) := by decide +kernel
theorem dX12_goes_68 : decode cX12_goes 68 = .ok (.aload_n 0, 1) := by decide +kernel
theorem dX12_goes_69 : decode cX12_goes 69 = .ok (.bipush 74, 2) := by decide +kernel
theorem dX12_goes_71 : decode cX12_goes 71 = .ok (.invokevirtual 410, 3) := by decide +kernel
theorem dX12_goes_74 : decode cX12_goes 74 = .ok (.goto 23, 3) := by decide +kernel
theorem dX12_goes_77 : decode cX12_goes 77 = .ok (.iload_n 2, 1) := by decide +kernel
theorem dX12_goes_78 : decode cX12_goes 78 = .ok (.iconst 2, 1) := by decide +kernel
theorem dX12_goes_79 : decode cX12_goes 79 = .ok (.if_icmp .ne 12, 3) := by decide +kernel
theorem dX12_goes_82 : decode cX12_goes 82 = .ok (.aload_n 0, 1) := by decide +kernel
theorem dX12_goes_83 : decode cX12_goes 83 = .ok (.bipush 60, 2) := by decide +kernel
theorem dX12_goes_85 : decode cX12_goes 85 = .ok (.invokevirtual 410, 3) := by decide +kernel
theorem dX12_goes_88 : decode cX12_goes 88 = .ok (.goto 9, 3) := by decide +kernel
theorem dX12_goes_91 : decode cX12_goes 91 = .ok (.aload_n 0, 1) := by decide +kernel
theorem dX12_goes_92 : decode cX12_goes 92 = .ok (.getfield 7, 3) := by decide +kernel
theorem dX12_goes_95 : decode cX12_goes 95 = .ok (.iconst 3, 1) := by decide +kernel
theorem dX12_goes_96 : decode cX12_goes 96 = .ok (.iaload, 1) := by decide +kernel
theorem dX12_goes_97 : decode cX12_goes 97 = .ok (.istore_n 3, 1) := by decide +kernel
theorem dX12_goes_98 : decode cX12_goes 98 = .ok (.aload_n 0, 1) := by decide +kernel
theorem dX12_goes_99 : decode cX12_goes 99 = .ok (.invokevirtual 413, 3) := by decide +kernel
theorem dX12_goes_102 : decode cX12_goes 102 = .ok (.iload_n 3, 1) := by decide +kernel
theorem dX12_goes_103 : decode cX12_goes 103 = .ok (.ireturn, 1) := by decide +kernel
set_option maxRecDepth 100000 in
set_option maxHeartbeats 4000000 in
theorem so_X12_goes_34 {fr : Nat} (hfr : 8 ≤ fr) (Z : AZ) (X : AX Z cX12_goes 4 RX12 (some .int) 1 fr) (x1 : Int32) (x2 : Int32) (x3 : Int32) (s : Mem) (q : (Int32 × Mem) ⊕ (Mem)) (h : st_X12_goes_34 x1 x2 x3 s = some q) (hi : ∀ y : Int32 × Mem, q = .inl y → AW Z y.2 34 [some (.ref (zr Z 0)), some (.int x1), some (.int x2), some (.int y.1)] []) (he : ∀ b : Mem, q = .inr b → AW Z b 50 [some (.ref (zr Z 0)), none, some (.int x2), none] []) : AW Z s 34 [some (.ref (zr Z 0)), some (.int x1), some (.int x2), some (.int x3)] [] := by
  unfold st_X12_goes_34 at h
  refine aw_iload_n X dX12_goes_34 rfl ?_
  refine aw_iload_n X dX12_goes_35 rfl ?_
  refine aw_icmp_ge (tgt := 50) X dX12_goes_36 (by decide) (fun c6 => ?_) (fun c6 => ?_)
  · rw [if_pos c6] at h
    cases h
    refine aw_msk [true, false, true, false] ?_
    exact he _ rfl
  · rw [if_neg c6] at h
    refine aw_aload_n X dX12_goes_39 rfl ?_
    obtain ⟨r7, er7, h⟩ := bnd h
    refine aw_callV X dX12_goes_40 cv_RX12_404 (ok_X12_goesBy er7 _ _ _ _ _) iu_RX12 rfl (Nat.le_trans (by decide) hfr) (by decide) rfl rfl (Nat.le_of_ble_eq_true rfl) ?_
    refine aw_pop X dX12_goes_43 rfl ?_
    refine aw_iinc (v := (x3 + 1)) (L' := [some (.ref (zr Z 0)), some (.int x1), some (.int x2), some (.int (x3 + 1))]) X dX12_goes_44 rfl rfl (by decide) rfl ?_
    refine aw_goto (tgt := 34) X dX12_goes_47 (by decide) ?_
    cases h
    refine aw_msk [true, true, true, true] ?_
    exact hi _ rfl
set_option maxRecDepth 100000 in
set_option maxHeartbeats 4000000 in
theorem jo_X12_goes_97 {fr : Nat} (hfr : 8 ≤ fr) (Z : AZ) (X : AX Z cX12_goes 4 RX12 (some .int) 1 fr) (t0 : Int32) (s : Mem) (r : Int32 × Mem) (hz : zres Z = (some (.int r.1), r.2)) (h : jn_X12_goes_97 t0 s = some r) : AW Z s 97 [some (.ref (zr Z 0)), none, none, none] [.int t0] := by
  unfold jn_X12_goes_97 at h
  refine aw_istore_n (L' := [some (.ref (zr Z 0)), none, none, some (.int t0)]) X dX12_goes_97 (by decide) rfl ?_
  refine aw_aload_n X dX12_goes_98 rfl ?_
  obtain ⟨r13, er13, h⟩ := bnd h
  refine aw_callV X dX12_goes_99 cv_RX12_413 (ok_X12_endsThought er13 _ _ _ _ _) iu_RX12 rfl (Nat.le_trans (by decide) hfr) (by decide) rfl rfl (Nat.le_of_ble_eq_true rfl) ?_
  refine aw_iload_n X dX12_goes_102 rfl ?_
  cases h
  exact aw_iret X dX12_goes_103 rfl hz.symm
set_option maxRecDepth 100000 in
set_option maxHeartbeats 4000000 in
theorem w_X12_goes {fr : Nat} (hfr : 8 ≤ fr) (Z : AZ) (X : AX Z cX12_goes 4 RX12 (some .int) 1 fr) (x1 : Int32) (x2 : Int32) (s : Mem) (r : Int32 × Mem) (hz : zres Z = (some (.int r.1), r.2)) (h : f_X12_goes x1 x2 s = some r) : AW Z s 0 [some (.ref (zr Z 0)), some (.int x1), some (.int x2), none] [] := by
  unfold f_X12_goes at h
  refine aw_aload_n X dX12_goes_0 rfl ?_
  refine aw_iconst (v := 0) X dX12_goes_1 (by decide) ?_
  refine aw_put X dX12_goes_2 fp_RX12_122 iu_RX12 gu_RX12_0 rfl rfl ?_
  refine aw_aload_n X dX12_goes_5 rfl ?_
  refine aw_iload_n X dX12_goes_6 rfl ?_
  refine aw_iconst (v := 1) X dX12_goes_7 (by decide) ?_
  refine aw_bipush (v := 60) X dX12_goes_8 (by decide) ?_
  obtain ⟨r1, er1, h⟩ := bnd h
  refine aw_callV X dX12_goes_10 cv_RX12_137 (ok_X12_isIn er1 _ _ _ _ _) iu_RX12 rfl (Nat.le_trans (by decide) hfr) (by decide) rfl rfl (Nat.le_of_ble_eq_true rfl) ?_
  refine aw_if_eq (tgt := 26) X dX12_goes_13 (by decide) (fun c2 => ?_) (fun c2 => ?_)
  · rw [if_pos c2] at h
    refine aw_iconst (v := (-1)) X dX12_goes_26 (by decide) ?_
    cases h
    exact aw_iret X dX12_goes_27 rfl hz.symm
  · rw [if_neg c2] at h
    refine aw_aload_n X dX12_goes_16 rfl ?_
    refine aw_iload_n X dX12_goes_17 rfl ?_
    refine aw_iconst (v := 0) X dX12_goes_18 (by decide) ?_
    refine aw_iconst (v := 3) X dX12_goes_19 (by decide) ?_
    obtain ⟨r3, er3, h⟩ := bnd h
    refine aw_callV X dX12_goes_20 cv_RX12_137 (ok_X12_isIn er3 _ _ _ _ _) iu_RX12 rfl (Nat.le_trans (by decide) hfr) (by decide) rfl rfl (Nat.le_of_ble_eq_true rfl) ?_
    refine aw_if_ne (tgt := 28) X dX12_goes_23 (by decide) (fun c4 => ?_) (fun c4 => ?_)
    · rw [if_neg c4] at h
      refine aw_aload_n X dX12_goes_28 rfl ?_
      obtain ⟨r5, er5, h⟩ := bnd h
      refine aw_callV X dX12_goes_29 cv_RX12_407 (ok_X12_thinks er5 _ _ _ _ _) iu_RX12 rfl (Nat.le_trans (by decide) hfr) (by decide) rfl rfl (Nat.le_of_ble_eq_true rfl) ?_
      refine aw_iconst (v := 0) X dX12_goes_32 (by decide) ?_
      refine aw_istore_n (L' := [some (.ref (zr Z 0)), some (.int x1), some (.int x2), some (.int 0)]) X dX12_goes_33 (by decide) rfl ?_
      obtain ⟨r8, er8, h⟩ := bnd h
      refine aw_msk [true, true, true, true] ?_
      refine it_ok (P := fun y : Int32 × Mem => AW Z y.2 34 [some (.ref (zr Z 0)), some (.int x1), some (.int x2), some (.int y.1)] []) (Q := fun b : Mem => AW Z b 50 [some (.ref (zr Z 0)), none, some (.int x2), none] []) (fun y q hq hi he => so_X12_goes_34 hfr Z X x1 x2 y.1 y.2 q hq hi he) FUEL _ _ er8 ?_
      refine aw_iload_n X dX12_goes_50 rfl ?_
      refine aw_if_ne (tgt := 63) X dX12_goes_51 (by decide) (fun c9 => ?_) (fun c9 => ?_)
      · rw [if_neg c9] at h
        refine aw_iload_n X dX12_goes_63 rfl ?_
        refine aw_iconst (v := 1) X dX12_goes_64 (by decide) ?_
        refine aw_icmp_ne (tgt := 77) X dX12_goes_65 (by decide) (fun c10 => ?_) (fun c10 => ?_)
        · rw [if_neg c10] at h
          refine aw_iload_n X dX12_goes_77 rfl ?_
          refine aw_iconst (v := 2) X dX12_goes_78 (by decide) ?_
          refine aw_icmp_ne (tgt := 91) X dX12_goes_79 (by decide) (fun c11 => ?_) (fun c11 => ?_)
          · rw [if_neg c11] at h
            refine aw_aload_n X dX12_goes_91 rfl ?_
            refine aw_getr X dX12_goes_92 fl_RX12_7 iu_RX12 gu_RX12_1 ?_
            refine aw_iconst (v := 3) X dX12_goes_95 (by decide) ?_
            obtain ⟨v12, ev12, h⟩ := bnd h
            refine aw_iald X dX12_goes_96 iu_RX12_1 ev12 ?_
            refine aw_msk [true, false, false, false] ?_
            exact jo_X12_goes_97 hfr Z X _ _ _ hz h
          · rw [if_pos c11] at h
            refine aw_aload_n X dX12_goes_82 rfl ?_
            refine aw_bipush (v := 60) X dX12_goes_83 (by decide) ?_
            obtain ⟨r14, er14, h⟩ := bnd h
            refine aw_callV X dX12_goes_85 cv_RX12_410 (ok_X12_sumOf er14 _ _ _ _ _) iu_RX12 rfl (Nat.le_trans (by decide) hfr) (by decide) rfl rfl (Nat.le_of_ble_eq_true rfl) ?_
            refine aw_goto (tgt := 97) X dX12_goes_88 (by decide) ?_
            refine aw_msk [true, false, false, false] ?_
            exact jo_X12_goes_97 hfr Z X _ _ _ hz h
        · rw [if_pos c10] at h
          refine aw_aload_n X dX12_goes_68 rfl ?_
          refine aw_bipush (v := 74) X dX12_goes_69 (by decide) ?_
          obtain ⟨r15, er15, h⟩ := bnd h
          refine aw_callV X dX12_goes_71 cv_RX12_410 (ok_X12_sumOf er15 _ _ _ _ _) iu_RX12 rfl (Nat.le_trans (by decide) hfr) (by decide) rfl rfl (Nat.le_of_ble_eq_true rfl) ?_
          refine aw_goto (tgt := 97) X dX12_goes_74 (by decide) ?_
          refine aw_msk [true, false, false, false] ?_
          exact jo_X12_goes_97 hfr Z X _ _ _ hz h
      · rw [if_pos c9] at h
        refine aw_aload_n X dX12_goes_54 rfl ?_
        refine aw_bipush (v := 18) X dX12_goes_55 (by decide) ?_
        obtain ⟨r16, er16, h⟩ := bnd h
        refine aw_callV X dX12_goes_57 cv_RX12_410 (ok_X12_sumOf er16 _ _ _ _ _) iu_RX12 rfl (Nat.le_trans (by decide) hfr) (by decide) rfl rfl (Nat.le_of_ble_eq_true rfl) ?_
        refine aw_goto (tgt := 97) X dX12_goes_60 (by decide) ?_
        refine aw_msk [true, false, false, false] ?_
        exact jo_X12_goes_97 hfr Z X _ _ _ hz h
    · rw [if_pos c4] at h
      refine aw_iconst (v := (-1)) X dX12_goes_26 (by decide) ?_
      cases h
      exact aw_iret X dX12_goes_27 rfl hz.symm
set_option maxRecDepth 100000 in
set_option maxHeartbeats 4000000 in
theorem ok_X12_goes {x1 x2 : Int32} {s : Mem} {r : Int32 × Mem} (h : f_X12_goes x1 x2 s = some r) (l : Launch) (D : va_G) (ρ : Nat → Nat) (cA : ClassId × ClassId × ClassId) (τ : AT) : AM l D ρ cA 1 τ yX12_goes cX12_goes 4 (some .int) 8 [.ref (ρ 0), .int x1, .int x2] (some (.int r.1)) s r.2 := by
  refine AM_of (L := [some (.ref (ρ 0)), some (.int x1), some (.int x2), none]) (by decide) (by simp [Value.category]) (Nat.le_of_ble_eq_true rfl) (fun j v q => ?_) (fun Z X hρ hz hτ => ?_)
  · exact aL_ok (n := 1) [.ref (ρ 0), .int x1, .int x2] j v q
  · subst hρ
    subst hτ
    exact w_X12_goes (Nat.le_refl _) Z X x1 x2 s r hz h

theorem dX12_peace_0 : decode cX12_peace 0 = .ok (.aload_n 0, 1) := by decide +kernel
theorem dX12_peace_1 : decode cX12_peace 1 = .ok (.iconst 0, 1) := by decide +kernel
theorem dX12_peace_2 : decode cX12_peace 2 = .ok (.putfield 122, 3) := by decide +kernel
theorem dX12_peace_5 : decode cX12_peace 5 = .ok (.aload_n 0, 1) := by decide +kernel
theorem dX12_peace_6 : decode cX12_peace 6 = .ok (.invokevirtual 407, 3) := by decide +kernel
theorem dX12_peace_9 : decode cX12_peace 9 = .ok (.iconst 0, 1) := by decide +kernel
theorem dX12_peace_10 : decode cX12_peace 10 = .ok (.istore_n 1, 1) := by decide +kernel
theorem dX12_peace_11 : decode cX12_peace 11 = .ok (.iload_n 1, 1) := by decide +kernel
theorem dX12_peace_12 : decode cX12_peace 12 = .ok (.bipush 60, 2) := by decide +kernel
theorem dX12_peace_14 : decode cX12_peace 14 = .ok (.if_icmp .gt 22, 3) := by decide +kernel
theorem dX12_peace_17 : decode cX12_peace 17 = .ok (.aload_n 0, 1) := by decide +kernel
theorem dX12_peace_18 : decode cX12_peace 18 = .ok (.invokevirtual 401, 3) := by decide +kernel
theorem dX12_peace_21 : decode cX12_peace 21 = .ok (.ifCond .eq 15, 3) := by decide +kernel
theorem dX12_peace_24 : decode cX12_peace 24 = .ok (.aload_n 0, 1) := by decide +kernel
theorem dX12_peace_25 : decode cX12_peace 25 = .ok (.invokevirtual 404, 3) := by decide +kernel
theorem dX12_peace_28 : decode cX12_peace 28 = .ok (.pop, 1) := by decide +kernel
theorem dX12_peace_29 : decode cX12_peace 29 = .ok (.iload_n 1, 1) := by decide +kernel
theorem dX12_peace_30 : decode cX12_peace 30 = .ok (.iconst 1, 1) := by decide +kernel
theorem dX12_peace_31 : decode cX12_peace 31 = .ok (.iadd, 1) := by decide +kernel
theorem dX12_peace_32 : decode cX12_peace 32 = .ok (.istore_n 1, 1) := by decide +kernel
theorem dX12_peace_33 : decode cX12_peace 33 = .ok (.goto (-22), 3) := by decide +kernel
theorem dX12_peace_36 : decode cX12_peace 36 = .ok (.aload_n 0, 1) := by decide +kernel
theorem dX12_peace_37 : decode cX12_peace 37 = .ok (.invokevirtual 413, 3) := by decide +kernel
theorem dX12_peace_40 : decode cX12_peace 40 = .ok (.iload_n 1, 1) := by decide +kernel
theorem dX12_peace_41 : decode cX12_peace 41 = .ok (.bipush 60, 2) := by decide +kernel
theorem dX12_peace_43 : decode cX12_peace 43 = .ok (.if_icmp .le 7, 3) := by decide +kernel
theorem dX12_peace_46 : decode cX12_peace 46 = .ok (.iconst (-1), 1) := by decide +kernel
theorem dX12_peace_47 : decode cX12_peace 47 = .ok (.goto 4, 3) := by decide +kernel
theorem dX12_peace_50 : decode cX12_peace 50 = .ok (.iload_n 1, 1) := by decide +kernel
theorem dX12_peace_51 : decode cX12_peace 51 = .ok (.ireturn, 1) := by decide +kernel
set_option maxRecDepth 100000 in
set_option maxHeartbeats 4000000 in
theorem so_X12_peace_11 {fr : Nat} (hfr : 8 ≤ fr) (Z : AZ) (X : AX Z cX12_peace 2 RX12 (some .int) 1 fr) (x1 : Int32) (s : Mem) (q : (Int32 × Mem) ⊕ (Int32 × Mem)) (h : st_X12_peace_11 x1 s = some q) (hi : ∀ y : Int32 × Mem, q = .inl y → AW Z y.2 11 [some (.ref (zr Z 0)), some (.int y.1)] []) (he : ∀ b : Int32 × Mem, q = .inr b → AW Z b.2 36 [some (.ref (zr Z 0)), some (.int b.1)] []) : AW Z s 11 [some (.ref (zr Z 0)), some (.int x1)] [] := by
  unfold st_X12_peace_11 at h
  refine aw_iload_n X dX12_peace_11 rfl ?_
  refine aw_bipush (v := 60) X dX12_peace_12 (by decide) ?_
  refine aw_icmp_gt (tgt := 36) X dX12_peace_14 (by decide) (fun c2 => ?_) (fun c2 => ?_)
  · rw [if_pos c2] at h
    cases h
    refine aw_msk [true, true] ?_
    exact he _ rfl
  · rw [if_neg c2] at h
    refine aw_aload_n X dX12_peace_17 rfl ?_
    obtain ⟨r3, er3, h⟩ := bnd h
    refine aw_callV X dX12_peace_18 cv_RX12_401 (ok_X12_whoHas er3 _ _ _ _ _) iu_RX12 rfl (Nat.le_trans (by decide) hfr) (by decide) rfl rfl (Nat.le_of_ble_eq_true rfl) ?_
    refine aw_if_eq (tgt := 36) X dX12_peace_21 (by decide) (fun c4 => ?_) (fun c4 => ?_)
    · rw [if_pos c4] at h
      cases h
      refine aw_msk [true, true] ?_
      exact he _ rfl
    · rw [if_neg c4] at h
      refine aw_aload_n X dX12_peace_24 rfl ?_
      obtain ⟨r5, er5, h⟩ := bnd h
      refine aw_callV X dX12_peace_25 cv_RX12_404 (ok_X12_goesBy er5 _ _ _ _ _) iu_RX12 rfl (Nat.le_trans (by decide) hfr) (by decide) rfl rfl (Nat.le_of_ble_eq_true rfl) ?_
      refine aw_pop X dX12_peace_28 rfl ?_
      refine aw_iload_n X dX12_peace_29 rfl ?_
      refine aw_iconst (v := 1) X dX12_peace_30 (by decide) ?_
      refine aw_iadd X dX12_peace_31 ?_
      refine aw_istore_n (L' := [some (.ref (zr Z 0)), some (.int (x1 + 1))]) X dX12_peace_32 (by decide) rfl ?_
      refine aw_goto (tgt := 11) X dX12_peace_33 (by decide) ?_
      cases h
      refine aw_msk [true, true] ?_
      exact hi _ rfl
set_option maxRecDepth 100000 in
set_option maxHeartbeats 4000000 in
theorem jo_X12_peace_36 {fr : Nat} (hfr : 8 ≤ fr) (Z : AZ) (X : AX Z cX12_peace 2 RX12 (some .int) 1 fr) (x1 : Int32) (s : Mem) (r : Int32 × Mem) (hz : zres Z = (some (.int r.1), r.2)) (h : jn_X12_peace_36 x1 s = some r) : AW Z s 36 [some (.ref (zr Z 0)), some (.int x1)] [] := by
  unfold jn_X12_peace_36 at h
  refine aw_aload_n X dX12_peace_36 rfl ?_
  obtain ⟨r7, er7, h⟩ := bnd h
  refine aw_callV X dX12_peace_37 cv_RX12_413 (ok_X12_endsThought er7 _ _ _ _ _) iu_RX12 rfl (Nat.le_trans (by decide) hfr) (by decide) rfl rfl (Nat.le_of_ble_eq_true rfl) ?_
  refine aw_iload_n X dX12_peace_40 rfl ?_
  refine aw_bipush (v := 60) X dX12_peace_41 (by decide) ?_
  refine aw_icmp_le (tgt := 50) X dX12_peace_43 (by decide) (fun c8 => ?_) (fun c8 => ?_)
  · rw [if_pos c8] at h
    refine aw_iload_n X dX12_peace_50 rfl ?_
    cases h
    exact aw_iret X dX12_peace_51 rfl hz.symm
  · rw [if_neg c8] at h
    refine aw_iconst (v := (-1)) X dX12_peace_46 (by decide) ?_
    refine aw_goto (tgt := 51) X dX12_peace_47 (by decide) ?_
    cases h
    exact aw_iret X dX12_peace_51 rfl hz.symm
set_option maxRecDepth 100000 in
set_option maxHeartbeats 4000000 in
theorem w_X12_peace {fr : Nat} (hfr : 8 ≤ fr) (Z : AZ) (X : AX Z cX12_peace 2 RX12 (some .int) 1 fr) (s : Mem) (r : Int32 × Mem) (hz : zres Z = (some (.int r.1), r.2)) (h : f_X12_peace s = some r) : AW Z s 0 [some (.ref (zr Z 0)), none] [] := by
  unfold f_X12_peace at h
  refine aw_aload_n X dX12_peace_0 rfl ?_
  refine aw_iconst (v := 0) X dX12_peace_1 (by decide) ?_
  refine aw_put X dX12_peace_2 fp_RX12_122 iu_RX12 gu_RX12_0 rfl rfl ?_
  refine aw_aload_n X dX12_peace_5 rfl ?_
  obtain ⟨r1, er1, h⟩ := bnd h
  refine aw_callV X dX12_peace_6 cv_RX12_407 (ok_X12_thinks er1 _ _ _ _ _) iu_RX12 rfl (Nat.le_trans (by decide) hfr) (by decide) rfl rfl (Nat.le_of_ble_eq_true rfl) ?_
  refine aw_iconst (v := 0) X dX12_peace_9 (by decide) ?_
  refine aw_istore_n (L' := [some (.ref (zr Z 0)), some (.int 0)]) X dX12_peace_10 (by decide) rfl ?_
  obtain ⟨r6, er6, h⟩ := bnd h
  refine aw_msk [true, true] ?_
  refine it_ok (P := fun y : Int32 × Mem => AW Z y.2 11 [some (.ref (zr Z 0)), some (.int y.1)] []) (Q := fun b : Int32 × Mem => AW Z b.2 36 [some (.ref (zr Z 0)), some (.int b.1)] []) (fun y q hq hi he => so_X12_peace_11 hfr Z X y.1 y.2 q hq hi he) FUEL _ _ er6 ?_
  refine aw_msk [true, true] ?_
  exact jo_X12_peace_36 hfr Z X _ _ _ hz h
set_option maxRecDepth 100000 in
set_option maxHeartbeats 4000000 in
theorem ok_X12_peace {s : Mem} {r : Int32 × Mem} (h : f_X12_peace s = some r) (l : Launch) (D : va_G) (ρ : Nat → Nat) (cA : ClassId × ClassId × ClassId) (τ : AT) : AM l D ρ cA 1 τ yX12_peace cX12_peace 2 (some .int) 8 [.ref (ρ 0)] (some (.int r.1)) s r.2 := by
  refine AM_of (L := [some (.ref (ρ 0)), none]) (by decide) (by simp [Value.category]) (Nat.le_of_ble_eq_true rfl) (fun j v q => ?_) (fun Z X hρ hz hτ => ?_)
  · exact aL_ok (n := 1) [.ref (ρ 0)] j v q
  · subst hρ
    subst hτ
    exact w_X12_peace (Nat.le_refl _) Z X s r hz h

theorem dX12_back_0 : decode cX12_back 0 = .ok (.aload_n 0, 1) := by decide +kernel
theorem dX12_back_1 : decode cX12_back 1 = .ok (.iconst 0, 1) := by decide +kernel
theorem dX12_back_2 : decode cX12_back 2 = .ok (.putfield 122, 3) := by decide +kernel
theorem dX12_back_5 : decode cX12_back 5 = .ok (.aload_n 0, 1) := by decide +kernel
theorem dX12_back_6 : decode cX12_back 6 = .ok (.iload_n 1, 1) := by decide +kernel
theorem dX12_back_7 : decode cX12_back 7 = .ok (.invokevirtual 141, 3) := by decide +kernel
theorem dX12_back_10 : decode cX12_back 10 = .ok (.ifCond .ne 5, 3) := by decide +kernel
theorem dX12_back_13 : decode cX12_back 13 = .ok (.iconst (-1), 1) := by decide +kernel
theorem dX12_back_14 : decode cX12_back 14 = .ok (.ireturn, 1) := by decide +kernel
theorem dX12_back_15 : decode cX12_back 15 = .ok (.iconst 0, 1) := by decide +kernel
theorem dX12_back_16 : decode cX12_back 16 = .ok (.istore_n 2, 1) := by decide +kernel
theorem dX12_back_17 : decode cX12_back 17 = .ok (.iload_n 1, 1) := by decide +kernel
theorem dX12_back_18 : decode cX12_back 18 = .ok (.istore_n 3, 1) := by decide +kernel
theorem dX12_back_19 : decode cX12_back 19 = .ok (.iconst 0, 1) := by decide +kernel
theorem dX12_back_20 : decode cX12_back 20 = .ok (.istore 4, 2) := by decide +kernel
theorem dX12_back_22 : decode cX12_back 22 = .ok (.aload_n 0, 1) := by decide +kernel
theorem dX12_back_23 : decode cX12_back 23 = .ok (.iload_n 3, 1) := by decide +kernel
theorem dX12_back_24 : decode cX12_back 24 = .ok (.invokevirtual 324, 3) := by decide +kernel
theorem dX12_back_27 : decode cX12_back 27 = .ok (.iconst (-1), 1) := by decide +kernel
theorem dX12_back_28 : decode cX12_back 28 = .ok (.if_icmp .eq 33, 3) := by decide +kernel
theorem dX12_back_31 : decode cX12_back 31 = .ok (.aload_n 0, 1) := by decide +kernel
theorem dX12_back_32 : decode cX12_back 32 = .ok (.iload_n 2, 1) := by decide +kernel
theorem dX12_back_33 : decode cX12_back 33 = .ok (.iload_n 3, 1) := by decide +kernel
theorem dX12_back_34 : decode cX12_back 34 = .ok (.invokevirtual 314, 3) := by decide +kernel
theorem dX12_back_37 : decode cX12_back 37 = .ok (.ifCond .ne 24, 3) := by decide +kernel
theorem dX12_back_40 : decode cX12_back 40 = .ok (.iload_n 2, 1) := by decide +kernel
theorem dX12_back_41 : decode cX12_back 41 = .ok (.iconst 1, 1) := by decide +kernel
theorem dX12_back_42 : decode cX12_back 42 = .ok (.iload_n 3, 1) := by decide +kernel
theorem dX12_back_43 : decode cX12_back 43 = .ok (.ishl, 1) := by decide +kernel
theorem dX12_back_44 : decode cX12_back 44 = .ok (.ior, 1) := by decide +kernel
theorem dX12_back_45 : decode cX12_back 45 = .ok (.istore_n 2, 1) := by decide +kernel
theorem dX12_back_46 : decode cX12_back 46 = .ok (.aload_n 0, 1) := by decide +kernel
theorem dX12_back_47 : decode cX12_back 47 = .ok (.iload_n 3, 1) := by decide +kernel
theorem dX12_back_48 : decode cX12_back 48 = .ok (.invokevirtual 324, 3) := by decide +kernel
theorem dX12_back_51 : decode cX12_back 51 = .ok (.istore_n 3, 1) := by decide +kernel
theorem dX12_back_52 : decode cX12_back 52 = .ok (.iload 4, 2) := by decide +kernel
theorem dX12_back_54 : decode cX12_back 54 = .ok (.iconst 1, 1) := by decide +kernel
theorem dX12_back_55 : decode cX12_back 55 = .ok (.iadd, 1) := by decide +kernel
theorem dX12_back_56 : decode cX12_back 56 = .ok (.istore 4, 2) := by decide +kernel
theorem dX12_back_58 : decode cX12_back 58 = .ok (.goto (-36), 3) := by decide +kernel
theorem dX12_back_61 : decode cX12_back 61 = .ok (.iload 4, 2) := by decide +kernel
theorem dX12_back_63 : decode cX12_back 63 = .ok (.ireturn, 1) := by decide +kernel
set_option maxRecDepth 100000 in
set_option maxHeartbeats 4000000 in
theorem so_X12_back_22 {fr : Nat} (hfr : 1 ≤ fr) (Z : AZ) (X : AX Z cX12_back 5 RX12 (some .int) 1 fr) (x2 : Int32) (x3 : Int32) (x4 : Int32) (s : Mem) (q : (Int32 × Int32 × Int32 × Mem) ⊕ (Int32 × Mem)) (h : st_X12_back_22 x2 x3 x4 s = some q) (hi : ∀ y : Int32 × Int32 × Int32 × Mem, q = .inl y → AW Z y.2.2.2 22 [some (.ref (zr Z 0)), none, some (.int y.1), some (.int y.2.1), some (.int y.2.2.1)] []) (he : ∀ b : Int32 × Mem, q = .inr b → AW Z b.2 61 [none, none, none, none, some (.int b.1)] []) : AW Z s 22 [some (.ref (zr Z 0)), none, some (.int x2), some (.int x3), some (.int x4)] [] := by
  unfold st_X12_back_22 at h
  refine aw_aload_n X dX12_back_22 rfl ?_
  refine aw_iload_n X dX12_back_23 rfl ?_
  obtain ⟨r3, er3, h⟩ := bnd h
  refine aw_callV X dX12_back_24 cv_RX12_324 (ok_X12_byOf er3 _ _ _ _ _) iu_RX12 rfl (Nat.le_trans (by decide) hfr) (by decide) rfl rfl (Nat.le_of_ble_eq_true rfl) ?_
  refine aw_iconst (v := (-1)) X dX12_back_27 (by decide) ?_
  refine aw_icmp_eq (tgt := 61) X dX12_back_28 (by decide) (fun c4 => ?_) (fun c4 => ?_)
  · rw [if_pos c4] at h
    cases h
    refine aw_msk [false, false, false, false, true] ?_
    exact he _ rfl
  · rw [if_neg c4] at h
    refine aw_aload_n X dX12_back_31 rfl ?_
    refine aw_iload_n X dX12_back_32 rfl ?_
    refine aw_iload_n X dX12_back_33 rfl ?_
    obtain ⟨r5, er5, h⟩ := bnd h
    refine aw_callV X dX12_back_34 cv_RX12_314 (ok_X12_has er5 _ _ _ _ _) iu_RX12 rfl (Nat.le_trans (by decide) hfr) (by decide) rfl rfl (Nat.le_of_ble_eq_true rfl) ?_
    refine aw_if_ne (tgt := 61) X dX12_back_37 (by decide) (fun c6 => ?_) (fun c6 => ?_)
    · rw [if_neg c6] at h
      cases h
      refine aw_msk [false, false, false, false, true] ?_
      exact he _ rfl
    · rw [if_pos c6] at h
      refine aw_iload_n X dX12_back_40 rfl ?_
      refine aw_iconst (v := 1) X dX12_back_41 (by decide) ?_
      refine aw_iload_n X dX12_back_42 rfl ?_
      refine aw_ishl X dX12_back_43 ?_
      refine aw_ior X dX12_back_44 ?_
      refine aw_istore_n (L' := [some (.ref (zr Z 0)), none, some (.int (x2 ||| (1 <<< (x3 &&& 31)))), some (.int x3), some (.int x4)]) X dX12_back_45 (by decide) rfl ?_
      refine aw_aload_n X dX12_back_46 rfl ?_
      refine aw_iload_n X dX12_back_47 rfl ?_
      obtain ⟨r7, er7, h⟩ := bnd h
      refine aw_callV X dX12_back_48 cv_RX12_324 (ok_X12_byOf er7 _ _ _ _ _) iu_RX12 rfl (Nat.le_trans (by decide) hfr) (by decide) rfl rfl (Nat.le_of_ble_eq_true rfl) ?_
      refine aw_istore_n (L' := [some (.ref (zr Z 0)), none, some (.int (x2 ||| (1 <<< (x3 &&& 31)))), some (.int r7.1), some (.int x4)]) X dX12_back_51 (by decide) rfl ?_
      refine aw_iload X dX12_back_52 rfl ?_
      refine aw_iconst (v := 1) X dX12_back_54 (by decide) ?_
      refine aw_iadd X dX12_back_55 ?_
      refine aw_istore (L' := [some (.ref (zr Z 0)), none, some (.int (x2 ||| (1 <<< (x3 &&& 31)))), some (.int r7.1), some (.int (x4 + 1))]) X dX12_back_56 (by decide) rfl ?_
      refine aw_goto (tgt := 22) X dX12_back_58 (by decide) ?_
      cases h
      refine aw_msk [true, false, true, true, true] ?_
      exact hi _ rfl
set_option maxRecDepth 100000 in
set_option maxHeartbeats 4000000 in
theorem w_X12_back {fr : Nat} (hfr : 1 ≤ fr) (Z : AZ) (X : AX Z cX12_back 5 RX12 (some .int) 1 fr) (x1 : Int32) (s : Mem) (r : Int32 × Mem) (hz : zres Z = (some (.int r.1), r.2)) (h : f_X12_back x1 s = some r) : AW Z s 0 [some (.ref (zr Z 0)), some (.int x1), none, none, none] [] := by
  unfold f_X12_back at h
  refine aw_aload_n X dX12_back_0 rfl ?_
  refine aw_iconst (v := 0) X dX12_back_1 (by decide) ?_
  refine aw_put X dX12_back_2 fp_RX12_122 iu_RX12 gu_RX12_0 rfl rfl ?_
  refine aw_aload_n X dX12_back_5 rfl ?_
  refine aw_iload_n X dX12_back_6 rfl ?_
  obtain ⟨r1, er1, h⟩ := bnd h
  refine aw_callV X dX12_back_7 cv_RX12_141 (ok_X12_isPerson er1 _ _ _ _ _) iu_RX12 rfl (Nat.le_trans (by decide) hfr) (by decide) rfl rfl (Nat.le_of_ble_eq_true rfl) ?_
  refine aw_if_ne (tgt := 15) X dX12_back_10 (by decide) (fun c2 => ?_) (fun c2 => ?_)
  · rw [if_neg c2] at h
    refine aw_iconst (v := 0) X dX12_back_15 (by decide) ?_
    refine aw_istore_n (L' := [some (.ref (zr Z 0)), some (.int x1), some (.int 0), none, none]) X dX12_back_16 (by decide) rfl ?_
    refine aw_iload_n X dX12_back_17 rfl ?_
    refine aw_istore_n (L' := [some (.ref (zr Z 0)), some (.int x1), some (.int 0), some (.int x1), none]) X dX12_back_18 (by decide) rfl ?_
    refine aw_iconst (v := 0) X dX12_back_19 (by decide) ?_
    refine aw_istore (L' := [some (.ref (zr Z 0)), some (.int x1), some (.int 0), some (.int x1), some (.int 0)]) X dX12_back_20 (by decide) rfl ?_
    obtain ⟨r8, er8, h⟩ := bnd h
    refine aw_msk [true, false, true, true, true] ?_
    refine it_ok (P := fun y : Int32 × Int32 × Int32 × Mem => AW Z y.2.2.2 22 [some (.ref (zr Z 0)), none, some (.int y.1), some (.int y.2.1), some (.int y.2.2.1)] []) (Q := fun b : Int32 × Mem => AW Z b.2 61 [none, none, none, none, some (.int b.1)] []) (fun y q hq hi he => so_X12_back_22 hfr Z X y.1 y.2.1 y.2.2.1 y.2.2.2 q hq hi he) FUEL _ _ er8 ?_
    refine aw_iload X dX12_back_61 rfl ?_
    cases h
    exact aw_iret X dX12_back_63 rfl hz.symm
  · rw [if_pos c2] at h
    refine aw_iconst (v := (-1)) X dX12_back_13 (by decide) ?_
    cases h
    exact aw_iret X dX12_back_14 rfl hz.symm
set_option maxRecDepth 100000 in
set_option maxHeartbeats 4000000 in
theorem ok_X12_back {x1 : Int32} {s : Mem} {r : Int32 × Mem} (h : f_X12_back x1 s = some r) (l : Launch) (D : va_G) (ρ : Nat → Nat) (cA : ClassId × ClassId × ClassId) (τ : AT) : AM l D ρ cA 1 τ yX12_back cX12_back 5 (some .int) 1 [.ref (ρ 0), .int x1] (some (.int r.1)) s r.2 := by
  refine AM_of (L := [some (.ref (ρ 0)), some (.int x1), none, none, none]) (by decide) (by simp [Value.category]) (Nat.le_of_ble_eq_true rfl) (fun j v q => ?_) (fun Z X hρ hz hτ => ?_)
  · exact aL_ok (n := 3) [.ref (ρ 0), .int x1] j v q
  · subst hρ
    subst hτ
    exact w_X12_back (Nat.le_refl _) Z X x1 s r hz h

theorem dX12_breath_0 : decode cX12_breath 0 = .ok (.aload_n 0, 1) := by decide +kernel
theorem dX12_breath_1 : decode cX12_breath 1 = .ok (.iconst 0, 1) := by decide +kernel
theorem dX12_breath_2 : decode cX12_breath 2 = .ok (.putfield 122, 3) := by decide +kernel
theorem dX12_breath_5 : decode cX12_breath 5 = .ok (.iload_n 1, 1) := by decide +kernel
theorem dX12_breath_6 : decode cX12_breath 6 = .ok (.bipush (-100), 2) := by decide +kernel
theorem dX12_breath_8 : decode cX12_breath 8 = .ok (.if_icmp .ne 10, 3) := by decide +kernel
theorem dX12_breath_11 : decode cX12_breath 11 = .ok (.aload_n 0, 1) := by decide +kernel
theorem dX12_breath_12 : decode cX12_breath 12 = .ok (.iconst 0, 1) := by decide +kernel
theorem dX12_breath_13 : decode cX12_breath 13 = .ok (.putfield 416, 3) := by decide +kernel
theorem dX12_breath_16 : decode cX12_breath 16 = .ok (.iconst 0, 1) := by decide +kernel
theorem dX12_breath_17 : decode cX12_breath 17 = .ok (.ireturn, 1) := by decide +kernel
theorem dX12_breath_18 : decode cX12_breath 18 = .ok (.aload_n 0, 1) := by decide +kernel
theorem dX12_breath_19 : decode cX12_breath 19 = .ok (.iload_n 1, 1) := by decide +kernel
theorem dX12_breath_20 : decode cX12_breath 20 = .ok (.bipush (-50), 2) := by decide +kernel
theorem dX12_breath_22 : decode cX12_breath 22 = .ok (.bipush 50, 2) := by decide +kernel
theorem dX12_breath_24 : decode cX12_breath 24 = .ok (.invokevirtual 137, 3) := by decide +kernel
theorem dX12_breath_27 : decode cX12_breath 27 = .ok (.ifCond .eq 12, 3) := by decide +kernel
theorem dX12_breath_30 : decode cX12_breath 30 = .ok (.aload_n 0, 1) := by decide +kernel
theorem dX12_breath_31 : decode cX12_breath 31 = .ok (.getfield 416, 3) := by decide +kernel
theorem dX12_breath_34 : decode cX12_breath 34 = .ok (.bipush 16, 2) := by decide +kernel
theorem dX12_breath_36 : decode cX12_breath 36 = .ok (.if_icmp .ne 6, 3) := by decide +kernel
theorem dX12_breath_39 : decode cX12_breath 39 = .ok (.bipush (-100), 2) := by decide +kernel
theorem dX12_breath_41 : decode cX12_breath 41 = .ok (.ireturn, 1) := by decide +kernel
theorem dX12_breath_42 : decode cX12_breath 42 = .ok (.aload_n 0, 1) := by decide +kernel
theorem dX12_breath_43 : decode cX12_breath 43 = .ok (.getfield 74, 3) := by decide +kernel
theorem dX12_breath_46 : decode cX12_breath 46 = .ok (.aload_n 0, 1) := by decide +kernel
theorem dX12_breath_47 : decode cX12_breath 47 = .ok (.getfield 416, 3) := by decide +kernel
theorem dX12_breath_50 : decode cX12_breath 50 = .ok (.iload_n 1, 1) := by decide +kernel
theorem dX12_breath_51 : decode cX12_breath 51 = .ok (.iastore, 1) := by decide +kernel
theorem dX12_breath_52 : decode cX12_breath 52 = .ok (.aload_n 0, 1) := by decide +kernel
theorem dX12_breath_53 : decode cX12_breath 53 = .ok (.aload_n 0, 1) := by decide +kernel
theorem dX12_breath_54 : decode cX12_breath 54 = .ok (.getfield 416, 3) := by decide +kernel
theorem dX12_breath_57 : decode cX12_breath 57 = .ok (.iconst 1, 1) := by decide +kernel
theorem dX12_breath_58 : decode cX12_breath 58 = .ok (.iadd, 1) := by decide +kernel
theorem dX12_breath_59 : decode cX12_breath 59 = .ok (.putfield 416, 3) := by decide +kernel
theorem dX12_breath_62 : decode cX12_breath 62 = .ok (.aload_n 0, 1) := by decide +kernel
theorem dX12_breath_63 : decode cX12_breath 63 = .ok (.getfield 416, 3) := by decide +kernel
theorem dX12_breath_66 : decode cX12_breath 66 = .ok (.ireturn, 1) := by decide +kernel
set_option maxRecDepth 100000 in
set_option maxHeartbeats 4000000 in
theorem w_X12_breath {fr : Nat} (hfr : 1 ≤ fr) (Z : AZ) (X : AX Z cX12_breath 2 RX12 (some .int) 1 fr) (x1 : Int32) (s : Mem) (r : Int32 × Mem) (hz : zres Z = (some (.int r.1), r.2)) (h : f_X12_breath x1 s = some r) : AW Z s 0 [some (.ref (zr Z 0)), some (.int x1)] [] := by
  unfold f_X12_breath at h
  refine aw_aload_n X dX12_breath_0 rfl ?_
  refine aw_iconst (v := 0) X dX12_breath_1 (by decide) ?_
  refine aw_put X dX12_breath_2 fp_RX12_122 iu_RX12 gu_RX12_0 rfl rfl ?_
  refine aw_iload_n X dX12_breath_5 rfl ?_
  refine aw_bipush (v := (-100)) X dX12_breath_6 (by decide) ?_
  refine aw_icmp_ne (tgt := 18) X dX12_breath_8 (by decide) (fun c1 => ?_) (fun c1 => ?_)
  · rw [if_neg c1] at h
    refine aw_aload_n X dX12_breath_18 rfl ?_
    refine aw_iload_n X dX12_breath_19 rfl ?_
    refine aw_bipush (v := (-50)) X dX12_breath_20 (by decide) ?_
    refine aw_bipush (v := 50) X dX12_breath_22 (by decide) ?_
    obtain ⟨r2, er2, h⟩ := bnd h
    refine aw_callV X dX12_breath_24 cv_RX12_137 (ok_X12_isIn er2 _ _ _ _ _) iu_RX12 rfl (Nat.le_trans (by decide) hfr) (by decide) rfl rfl (Nat.le_of_ble_eq_true rfl) ?_
    refine aw_if_eq (tgt := 39) X dX12_breath_27 (by decide) (fun c3 => ?_) (fun c3 => ?_)
    · rw [if_pos c3] at h
      refine aw_bipush (v := (-100)) X dX12_breath_39 (by decide) ?_
      cases h
      exact aw_iret X dX12_breath_41 rfl hz.symm
    · rw [if_neg c3] at h
      refine aw_aload_n X dX12_breath_30 rfl ?_
      refine aw_geti X dX12_breath_31 fl_RX12_416 iu_RX12 gu_RX12_40 ?_
      refine aw_bipush (v := 16) X dX12_breath_34 (by decide) ?_
      refine aw_icmp_ne (tgt := 42) X dX12_breath_36 (by decide) (fun c4 => ?_) (fun c4 => ?_)
      · rw [if_neg c4] at h
        refine aw_aload_n X dX12_breath_42 rfl ?_
        refine aw_getr X dX12_breath_43 fl_RX12_74 iu_RX12 gu_RX12_41 ?_
        refine aw_aload_n X dX12_breath_46 rfl ?_
        refine aw_geti X dX12_breath_47 fl_RX12_416 iu_RX12 gu_RX12_40 ?_
        refine aw_iload_n X dX12_breath_50 rfl ?_
        obtain ⟨s5, es5, h⟩ := bnd h
        refine aw_iast X dX12_breath_51 iu_RX12_41 es5 ?_
        refine aw_aload_n X dX12_breath_52 rfl ?_
        refine aw_aload_n X dX12_breath_53 rfl ?_
        refine aw_geti X dX12_breath_54 fl_RX12_416 iu_RX12 gu_RX12_40 ?_
        refine aw_iconst (v := 1) X dX12_breath_57 (by decide) ?_
        refine aw_iadd X dX12_breath_58 ?_
        refine aw_put X dX12_breath_59 fp_RX12_416 iu_RX12 gu_RX12_40 rfl rfl ?_
        refine aw_aload_n X dX12_breath_62 rfl ?_
        refine aw_geti X dX12_breath_63 fl_RX12_416 iu_RX12 gu_RX12_40 ?_
        cases h
        exact aw_iret X dX12_breath_66 rfl hz.symm
      · rw [if_pos c4] at h
        refine aw_bipush (v := (-100)) X dX12_breath_39 (by decide) ?_
        cases h
        exact aw_iret X dX12_breath_41 rfl hz.symm
  · rw [if_pos c1] at h
    refine aw_aload_n X dX12_breath_11 rfl ?_
    refine aw_iconst (v := 0) X dX12_breath_12 (by decide) ?_
    refine aw_put X dX12_breath_13 fp_RX12_416 iu_RX12 gu_RX12_40 rfl rfl ?_
    refine aw_iconst (v := 0) X dX12_breath_16 (by decide) ?_
    cases h
    exact aw_iret X dX12_breath_17 rfl hz.symm
set_option maxRecDepth 100000 in
set_option maxHeartbeats 4000000 in
theorem ok_X12_breath {x1 : Int32} {s : Mem} {r : Int32 × Mem} (h : f_X12_breath x1 s = some r) (l : Launch) (D : va_G) (ρ : Nat → Nat) (cA : ClassId × ClassId × ClassId) (τ : AT) : AM l D ρ cA 1 τ yX12_breath cX12_breath 2 (some .int) 1 [.ref (ρ 0), .int x1] (some (.int r.1)) s r.2 := by
  refine AM_of (L := [some (.ref (ρ 0)), some (.int x1)]) (by decide) (by simp [Value.category]) (Nat.le_of_ble_eq_true rfl) (fun j v q => ?_) (fun Z X hρ hz hτ => ?_)
  · exact aL_ok (n := 0) [.ref (ρ 0), .int x1] j v q
  · subst hρ
    subst hτ
    exact w_X12_breath (Nat.le_refl _) Z X x1 s r hz h

theorem dX12_sumFrom_0 : decode cX12_sumFrom 0 = .ok (.iconst 0, 1) := by decide +kernel
theorem dX12_sumFrom_1 : decode cX12_sumFrom 1 = .ok (.istore 4, 2) := by decide +kernel
theorem dX12_sumFrom_3 : decode cX12_sumFrom 3 = .ok (.iload_n 1, 1) := by decide +kernel
theorem dX12_sumFrom_4 : decode cX12_sumFrom 4 = .ok (.istore 5, 2) := by decide +kernel
theorem dX12_sumFrom_6 : decode cX12_sumFrom 6 = .ok (.iload 5, 2) := by decide +kernel
theorem dX12_sumFrom_8 : decode cX12_sumFrom 8 = .ok (.iload_n 2, 1) := by decide +kernel
theorem dX12_sumFrom_9 : decode cX12_sumFrom 9 = .ok (.if_icmp .gt 27, 3) := by decide +kernel
theorem dX12_sumFrom_12 : decode cX12_sumFrom 12 = .ok (.iload 5, 2) := by decide +kernel
theorem dX12_sumFrom_14 : decode cX12_sumFrom 14 = .ok (.iload_n 3, 1) := by decide +kernel
theorem dX12_sumFrom_15 : decode cX12_sumFrom 15 = .ok (.if_icmp .eq 15, 3) := by decide +kernel
theorem dX12_sumFrom_18 : decode cX12_sumFrom 18 = .ok (.iload 4, 2) := by decide +kernel
theorem dX12_sumFrom_20 : decode cX12_sumFrom 20 = .ok (.aload_n 0, 1) := by decide +kernel
theorem dX12_sumFrom_21 : decode cX12_sumFrom 21 = .ok (.getfield 74, 3) := by decide +kernel
theorem dX12_sumFrom_24 : decode cX12_sumFrom 24 = .ok (.iload 5, 2) := by decide +kernel
theorem dX12_sumFrom_26 : decode cX12_sumFrom 26 = .ok (.iaload, 1) := by decide +kernel
theorem dX12_sumFrom_27 : decode cX12_sumFrom 27 = .ok (.iadd, 1) := by decide +kernel
theorem dX12_sumFrom_28 : decode cX12_sumFrom 28 = .ok (.istore 4, 2) := by decide +kernel
theorem dX12_sumFrom_30 : decode cX12_sumFrom 30 = .ok (.iinc 5 1, 3) := by decide +kernel
theorem dX12_sumFrom_33 : decode cX12_sumFrom 33 = .ok (.goto (-27), 3) := by decide +kernel
theorem dX12_sumFrom_36 : decode cX12_sumFrom 36 = .ok (.iload 4, 2) := by decide +kernel
theorem dX12_sumFrom_38 : decode cX12_sumFrom 38 = .ok (.ireturn, 1) := by decide +kernel
set_option maxRecDepth 100000 in
set_option maxHeartbeats 4000000 in
theorem so_X12_sumFrom_6 {fr : Nat} (hfr : 0 ≤ fr) (Z : AZ) (X : AX Z cX12_sumFrom 6 RX12 (some .int) 1 fr) (x2 : Int32) (x3 : Int32) (x4 : Int32) (x5 : Int32) (s : Mem) (q : (Int32 × Int32 × Mem) ⊕ (Int32 × Mem)) (h : st_X12_sumFrom_6 x2 x3 x4 x5 s = some q) (hi : ∀ y : Int32 × Int32 × Mem, q = .inl y → AW Z y.2.2 6 [some (.ref (zr Z 0)), none, some (.int x2), some (.int x3), some (.int y.1), some (.int y.2.1)] []) (he : ∀ b : Int32 × Mem, q = .inr b → AW Z b.2 36 [none, none, none, none, some (.int b.1), none] []) : AW Z s 6 [some (.ref (zr Z 0)), none, some (.int x2), some (.int x3), some (.int x4), some (.int x5)] [] := by
  unfold st_X12_sumFrom_6 at h
  refine aw_iload X dX12_sumFrom_6 rfl ?_
  refine aw_iload_n X dX12_sumFrom_8 rfl ?_
  refine aw_icmp_gt (tgt := 36) X dX12_sumFrom_9 (by decide) (fun c1 => ?_) (fun c1 => ?_)
  · rw [if_pos c1] at h
    cases h
    refine aw_msk [false, false, false, false, true, false] ?_
    exact he _ rfl
  · rw [if_neg c1] at h
    refine aw_iload X dX12_sumFrom_12 rfl ?_
    refine aw_iload_n X dX12_sumFrom_14 rfl ?_
    refine aw_icmp_eq (tgt := 30) X dX12_sumFrom_15 (by decide) (fun c2 => ?_) (fun c2 => ?_)
    · rw [if_pos c2] at h
      refine aw_iinc (v := (x5 + 1)) (L' := [some (.ref (zr Z 0)), none, some (.int x2), some (.int x3), some (.int x4), some (.int (x5 + 1))]) X dX12_sumFrom_30 rfl rfl (by decide) rfl ?_
      refine aw_goto (tgt := 6) X dX12_sumFrom_33 (by decide) ?_
      cases h
      refine aw_msk [true, false, true, true, true, true] ?_
      exact hi _ rfl
    · rw [if_neg c2] at h
      refine aw_iload X dX12_sumFrom_18 rfl ?_
      refine aw_aload_n X dX12_sumFrom_20 rfl ?_
      refine aw_getr X dX12_sumFrom_21 fl_RX12_74 iu_RX12 gu_RX12_41 ?_
      refine aw_iload X dX12_sumFrom_24 rfl ?_
      obtain ⟨v3, ev3, h⟩ := bnd h
      refine aw_iald X dX12_sumFrom_26 iu_RX12_41 ev3 ?_
      refine aw_iadd X dX12_sumFrom_27 ?_
      refine aw_istore (L' := [some (.ref (zr Z 0)), none, some (.int x2), some (.int x3), some (.int (x4 + v3)), some (.int x5)]) X dX12_sumFrom_28 (by decide) rfl ?_
      refine aw_iinc (v := (x5 + 1)) (L' := [some (.ref (zr Z 0)), none, some (.int x2), some (.int x3), some (.int (x4 + v3)), some (.int (x5 + 1))]) X dX12_sumFrom_30 rfl rfl (by decide) rfl ?_
      refine aw_goto (tgt := 6) X dX12_sumFrom_33 (by decide) ?_
      cases h
      refine aw_msk [true, false, true, true, true, true] ?_
      exact hi _ rfl
set_option maxRecDepth 100000 in
set_option maxHeartbeats 4000000 in
theorem w_X12_sumFrom {fr : Nat} (hfr : 0 ≤ fr) (Z : AZ) (X : AX Z cX12_sumFrom 6 RX12 (some .int) 1 fr) (x1 : Int32) (x2 : Int32) (x3 : Int32) (s : Mem) (r : Int32 × Mem) (hz : zres Z = (some (.int r.1), r.2)) (h : f_X12_sumFrom x1 x2 x3 s = some r) : AW Z s 0 [some (.ref (zr Z 0)), some (.int x1), some (.int x2), some (.int x3), none, none] [] := by
  unfold f_X12_sumFrom at h
  refine aw_iconst (v := 0) X dX12_sumFrom_0 (by decide) ?_
  refine aw_istore (L' := [some (.ref (zr Z 0)), some (.int x1), some (.int x2), some (.int x3), some (.int 0), none]) X dX12_sumFrom_1 (by decide) rfl ?_
  refine aw_iload_n X dX12_sumFrom_3 rfl ?_
  refine aw_istore (L' := [some (.ref (zr Z 0)), some (.int x1), some (.int x2), some (.int x3), some (.int 0), some (.int x1)]) X dX12_sumFrom_4 (by decide) rfl ?_
  obtain ⟨r4, er4, h⟩ := bnd h
  refine aw_msk [true, false, true, true, true, true] ?_
  refine it_ok (P := fun y : Int32 × Int32 × Mem => AW Z y.2.2 6 [some (.ref (zr Z 0)), none, some (.int x2), some (.int x3), some (.int y.1), some (.int y.2.1)] []) (Q := fun b : Int32 × Mem => AW Z b.2 36 [none, none, none, none, some (.int b.1), none] []) (fun y q hq hi he => so_X12_sumFrom_6 hfr Z X x2 x3 y.1 y.2.1 y.2.2 q hq hi he) FUEL _ _ er4 ?_
  refine aw_iload X dX12_sumFrom_36 rfl ?_
  cases h
  exact aw_iret X dX12_sumFrom_38 rfl hz.symm
set_option maxRecDepth 100000 in
set_option maxHeartbeats 4000000 in
theorem ok_X12_sumFrom {x1 x2 x3 : Int32} {s : Mem} {r : Int32 × Mem} (h : f_X12_sumFrom x1 x2 x3 s = some r) (l : Launch) (D : va_G) (ρ : Nat → Nat) (cA : ClassId × ClassId × ClassId) (τ : AT) : AM l D ρ cA 1 τ yX12_sumFrom cX12_sumFrom 6 (some .int) 0 [.ref (ρ 0), .int x1, .int x2, .int x3] (some (.int r.1)) s r.2 := by
  refine AM_of (L := [some (.ref (ρ 0)), some (.int x1), some (.int x2), some (.int x3), none, none]) (by decide) (by simp [Value.category]) (Nat.le_of_ble_eq_true rfl) (fun j v q => ?_) (fun Z X hρ hz hτ => ?_)
  · exact aL_ok (n := 2) [.ref (ρ 0), .int x1, .int x2, .int x3] j v q
  · subst hρ
    subst hτ
    exact w_X12_sumFrom (Nat.le_refl _) Z X x1 x2 x3 s r hz h

theorem dX12_held_0 : decode cX12_held 0 = .ok (.aload_n 0, 1) := by decide +kernel
theorem dX12_held_1 : decode cX12_held 1 = .ok (.iconst 0, 1) := by decide +kernel
theorem dX12_held_2 : decode cX12_held 2 = .ok (.putfield 122, 3) := by decide +kernel
theorem dX12_held_5 : decode cX12_held 5 = .ok (.aload_n 0, 1) := by decide +kernel
theorem dX12_held_6 : decode cX12_held 6 = .ok (.iload_n 1, 1) := by decide +kernel
theorem dX12_held_7 : decode cX12_held 7 = .ok (.iconst 0, 1) := by decide +kernel
theorem dX12_held_8 : decode cX12_held 8 = .ok (.iconst 1, 1) := by decide +kernel
theorem dX12_held_9 : decode cX12_held 9 = .ok (.invokevirtual 137, 3) := by decide +kernel
theorem dX12_held_12 : decode cX12_held 12 = .ok (.ifCond .ne 7, 3) := by decide +kernel
theorem dX12_held_15 : decode cX12_held 15 = .ok (.sipush (-1000), 3) := by decide +kernel
theorem dX12_held_18 : decode cX12_held 18 = .ok (.ireturn, 1) := by decide +kernel
theorem dX12_held_19 : decode cX12_held 19 = .ok (.aload_n 0, 1) := by decide +kernel
theorem dX12_held_20 : decode cX12_held 20 = .ok (.getfield 416, 3) := by decide +kernel
theorem dX12_held_23 : decode cX12_held 23 = .ok (.ifCond .ne 7, 3) := by decide +kernel
theorem dX12_held_26 : decode cX12_held 26 = .ok (.iconst 0, 1) := by decide +kernel
theorem dX12_held_27 : decode cX12_held 27 = .ok (.goto 6, 3) := by decide +kernel
theorem dX12_held_30 : decode cX12_held 30 = .ok (.ldc_w 419, 3) := by decide +kernel
theorem dX12_held_33 : decode cX12_held 33 = .ok (.istore_n 2, 1) := by decide +kernel
theorem dX12_held_34 : decode cX12_held 34 = .ok (.iconst 0, 1) := by decide +kernel
theorem dX12_held_35 : decode cX12_held 35 = .ok (.istore_n 3, 1) := by decide +kernel
theorem dX12_held_36 : decode cX12_held 36 = .ok (.iload_n 3, 1) := by decide +kernel
theorem dX12_held_37 : decode cX12_held 37 = .ok (.aload_n 0, 1) := by decide +kernel
theorem dX12_held_38 : decode cX12_held 38 = .ok (.getfield 416, 3) := by decide +kernel
theorem dX12_held_41 : decode cX12_held 41 = .ok (.if_icmp .ge 83, 3) := by decide +kernel
theorem dX12_held_44 : decode cX12_held 44 = .ok (.iload_n 3, 1) := by decide +kernel
theorem dX12_held_45 : decode cX12_held 45 = .ok (.istore 4, 2) := by decide +kernel
theorem dX12_held_47 : decode cX12_held 47 = .ok (.iload 4, 2) := by decide +kernel
theorem dX12_held_49 : decode cX12_held 49 = .ok (.aload_n 0, 1) := by decide +kernel
theorem dX12_held_50 : decode cX12_held 50 = .ok (.getfield 416, 3) := by decide +kernel
theorem dX12_held_53 : decode cX12_held 53 = .ok (.if_icmp .ge 65, 3) := by decide +kernel
theorem dX12_held_56 : decode cX12_held 56 = .ok (.aload_n 0, 1) := by decide +kernel
theorem dX12_held_57 : decode cX12_held 57 = .ok (.iload_n 2, 1) := by decide +kernel
theorem dX12_held_58 : decode cX12_held 58 = .ok (.aload_n 0, 1) := by decide +kernel
theorem dX12_held_59 : decode cX12_held 59 = .ok (.iload_n 3, 1) := by decide +kernel
theorem dX12_held_60 : decode cX12_held 60 = .ok (.iload 4, 2) := by decide +kernel
theorem dX12_held_62 : decode cX12_held 62 = .ok (.iconst (-1), 1) := by decide +kernel
theorem dX12_held_63 : decode cX12_held 63 = .ok (.invokevirtual 420, 3) := by decide +kernel
theorem dX12_held_66 : decode cX12_held 66 = .ok (.invokevirtual 386, 3) := by decide +kernel
theorem dX12_held_69 : decode cX12_held 69 = .ok (.istore_n 2, 1) := by decide +kernel
theorem dX12_held_70 : decode cX12_held 70 = .ok (.iload_n 3, 1) := by decide +kernel
theorem dX12_held_71 : decode cX12_held 71 = .ok (.istore 5, 2) := by decide +kernel
theorem dX12_held_73 : decode cX12_held 73 = .ok (.iload 5, 2) := by decide +kernel
theorem dX12_held_75 : decode cX12_held 75 = .ok (.iload 4, 2) := by decide +kernel
theorem dX12_held_77 : decode cX12_held 77 = .ok (.if_icmp .gt 35, 3) := by decide +kernel
theorem dX12_held_80 : decode cX12_held 80 = .ok (.iload_n 1, 1) := by decide +kernel
theorem dX12_held_81 : decode cX12_held 81 = .ok (.iconst 1, 1) := by decide +kernel
theorem dX12_held_82 : decode cX12_held 82 = .ok (.if_icmp .ne 30, 3) := by decide +kernel
theorem dX12_held_85 : decode cX12_held 85 = .ok (.iload 4, 2) := by decide +kernel
theorem dX12_held_87 : decode cX12_held 87 = .ok (.iload_n 3, 1) := by decide +kernel
theorem dX12_held_88 : decode cX12_held 88 = .ok (.if_icmp .le 24, 3) := by decide +kernel
theorem dX12_held_91 : decode cX12_held 91 = .ok (.aload_n 0, 1) := by decide +kernel
theorem dX12_held_92 : decode cX12_held 92 = .ok (.iload_n 2, 1) := by decide +kernel
theorem dX12_held_93 : decode cX12_held 93 = .ok (.aload_n 0, 1) := by decide +kernel
theorem dX12_held_94 : decode cX12_held 94 = .ok (.iload_n 3, 1) := by decide +kernel
theorem dX12_held_95 : decode cX12_held 95 = .ok (.iload 4, 2) := by decide +kernel
theorem dX12_held_97 : decode cX12_held 97 = .ok (.iload 5, 2) := by decide +kernel
theorem dX12_held_99 : decode cX12_held 99 = .ok (.invokevirtual 420, 3) := by decide +kernel
theorem dX12_held_102 : decode cX12_held 102 = .ok (.invokevirtual 386, 3) := by decide +kernel
theorem dX12_held_105 : decode cX12_held 105 = .ok (.istore_n 2, 1) := by decide +kernel
theorem dX12_held_106 : decode cX12_held 106 = .ok (.iinc 5 1, 3) := by decide +kernel
theorem dX12_held_109 : decode cX12_held 109 = .ok (.goto (-36), 3) := by decide +kernel
theorem dX12_held_112 : decode cX12_held 112 = .ok (.iinc 4 1, 3) := by decide +kernel
theorem dX12_held_115 : decode cX12_held 115 = .ok (.goto (-68), 3) := by decide +kernel
theorem dX12_held_118 : decode cX12_held 118 = .ok (.iinc 3 1, 3) := by decide +kernel
theorem dX12_held_121 : decode cX12_held 121 = .ok (.goto (-85), 3) := by decide +kernel
theorem dX12_held_124 : decode cX12_held 124 = .ok (.iload_n 2, 1) := by decide +kernel
theorem dX12_held_125 : decode cX12_held 125 = .ok (.ireturn, 1) := by decide +kernel
set_option maxRecDepth 100000 in
set_option maxHeartbeats 4000000 in
theorem so_X12_held_73 {fr : Nat} (hfr : 1 ≤ fr) (Z : AZ) (X : AX Z cX12_held 6 RX12 (some .int) 1 fr) (x1 : Int32) (x3 : Int32) (x4 : Int32) (x2 : Int32) (x5 : Int32) (s : Mem) (q : (Int32 × Int32 × Mem) ⊕ (Int32 × Mem)) (h : st_X12_held_73 x1 x3 x4 x2 x5 s = some q) (hi : ∀ y : Int32 × Int32 × Mem, q = .inl y → AW Z y.2.2 73 [some (.ref (zr Z 0)), some (.int x1), some (.int y.1), some (.int x3), some (.int x4), some (.int y.2.1)] []) (he : ∀ b : Int32 × Mem, q = .inr b → AW Z b.2 112 [some (.ref (zr Z 0)), some (.int x1), some (.int b.1), some (.int x3), some (.int x4), none] []) : AW Z s 73 [some (.ref (zr Z 0)), some (.int x1), some (.int x2), some (.int x3), some (.int x4), some (.int x5)] [] := by
  unfold st_X12_held_73 at h
  refine aw_iload X dX12_held_73 rfl ?_
  refine aw_iload X dX12_held_75 rfl ?_
  refine aw_icmp_gt (tgt := 112) X dX12_held_77 (by decide) (fun c8 => ?_) (fun c8 => ?_)
  · rw [if_pos c8] at h
    cases h
    refine aw_msk [true, true, true, true, true, false] ?_
    exact he _ rfl
  · rw [if_neg c8] at h
    refine aw_iload_n X dX12_held_80 rfl ?_
    refine aw_iconst (v := 1) X dX12_held_81 (by decide) ?_
    refine aw_icmp_ne (tgt := 112) X dX12_held_82 (by decide) (fun c9 => ?_) (fun c9 => ?_)
    · rw [if_neg c9] at h
      cases h
      refine aw_msk [true, true, true, true, true, false] ?_
      exact he _ rfl
    · rw [if_pos c9] at h
      refine aw_iload X dX12_held_85 rfl ?_
      refine aw_iload_n X dX12_held_87 rfl ?_
      refine aw_icmp_le (tgt := 112) X dX12_held_88 (by decide) (fun c10 => ?_) (fun c10 => ?_)
      · rw [if_pos c10] at h
        cases h
        refine aw_msk [true, true, true, true, true, false] ?_
        exact he _ rfl
      · rw [if_neg c10] at h
        refine aw_aload_n X dX12_held_91 rfl ?_
        refine aw_iload_n X dX12_held_92 rfl ?_
        refine aw_aload_n X dX12_held_93 rfl ?_
        refine aw_iload_n X dX12_held_94 rfl ?_
        refine aw_iload X dX12_held_95 rfl ?_
        refine aw_iload X dX12_held_97 rfl ?_
        obtain ⟨r11, er11, h⟩ := bnd h
        refine aw_callV X dX12_held_99 cv_RX12_420 (ok_X12_sumFrom er11 _ _ _ _ _) iu_RX12 rfl (Nat.le_trans (by decide) hfr) (by decide) rfl rfl (Nat.le_of_ble_eq_true rfl) ?_
        obtain ⟨r12, er12, h⟩ := bnd h
        refine aw_callV X dX12_held_102 cv_RX12_386 (ok_X12_greater er12 _ _ _ _ _) iu_RX12 rfl (Nat.le_trans (by decide) hfr) (by decide) rfl rfl (Nat.le_of_ble_eq_true rfl) ?_
        refine aw_istore_n (L' := [some (.ref (zr Z 0)), some (.int x1), some (.int r12.1), some (.int x3), some (.int x4), some (.int x5)]) X dX12_held_105 (by decide) rfl ?_
        refine aw_iinc (v := (x5 + 1)) (L' := [some (.ref (zr Z 0)), some (.int x1), some (.int r12.1), some (.int x3), some (.int x4), some (.int (x5 + 1))]) X dX12_held_106 rfl rfl (by decide) rfl ?_
        refine aw_goto (tgt := 73) X dX12_held_109 (by decide) ?_
        cases h
        refine aw_msk [true, true, true, true, true, true] ?_
        exact hi _ rfl
set_option maxRecDepth 100000 in
set_option maxHeartbeats 4000000 in
theorem so_X12_held_47 {fr : Nat} (hfr : 1 ≤ fr) (Z : AZ) (X : AX Z cX12_held 6 RX12 (some .int) 1 fr) (x1 : Int32) (x3 : Int32) (x2 : Int32) (x4 : Int32) (s : Mem) (q : (Int32 × Int32 × Mem) ⊕ (Int32 × Mem)) (h : st_X12_held_47 x1 x3 x2 x4 s = some q) (hi : ∀ y : Int32 × Int32 × Mem, q = .inl y → AW Z y.2.2 47 [some (.ref (zr Z 0)), some (.int x1), some (.int y.1), some (.int x3), some (.int y.2.1), none] []) (he : ∀ b : Int32 × Mem, q = .inr b → AW Z b.2 118 [some (.ref (zr Z 0)), some (.int x1), some (.int b.1), some (.int x3), none, none] []) : AW Z s 47 [some (.ref (zr Z 0)), some (.int x1), some (.int x2), some (.int x3), some (.int x4), none] [] := by
  unfold st_X12_held_47 at h
  refine aw_iload X dX12_held_47 rfl ?_
  refine aw_aload_n X dX12_held_49 rfl ?_
  refine aw_geti X dX12_held_50 fl_RX12_416 iu_RX12 gu_RX12_40 ?_
  refine aw_icmp_ge (tgt := 118) X dX12_held_53 (by decide) (fun c5 => ?_) (fun c5 => ?_)
  · rw [if_pos c5] at h
    cases h
    refine aw_msk [true, true, true, true, false, false] ?_
    exact he _ rfl
  · rw [if_neg c5] at h
    refine aw_aload_n X dX12_held_56 rfl ?_
    refine aw_iload_n X dX12_held_57 rfl ?_
    refine aw_aload_n X dX12_held_58 rfl ?_
    refine aw_iload_n X dX12_held_59 rfl ?_
    refine aw_iload X dX12_held_60 rfl ?_
    refine aw_iconst (v := (-1)) X dX12_held_62 (by decide) ?_
    obtain ⟨r6, er6, h⟩ := bnd h
    refine aw_callV X dX12_held_63 cv_RX12_420 (ok_X12_sumFrom er6 _ _ _ _ _) iu_RX12 rfl (Nat.le_trans (by decide) hfr) (by decide) rfl rfl (Nat.le_of_ble_eq_true rfl) ?_
    obtain ⟨r7, er7, h⟩ := bnd h
    refine aw_callV X dX12_held_66 cv_RX12_386 (ok_X12_greater er7 _ _ _ _ _) iu_RX12 rfl (Nat.le_trans (by decide) hfr) (by decide) rfl rfl (Nat.le_of_ble_eq_true rfl) ?_
    refine aw_istore_n (L' := [some (.ref (zr Z 0)), some (.int x1), some (.int r7.1), some (.int x3), some (.int x4), none]) X dX12_held_69 (by decide) rfl ?_
    refine aw_iload_n X dX12_held_70 rfl ?_
    refine aw_istore (L' := [some (.ref (zr Z 0)), some (.int x1), some (.int r7.1), some (.int x3), some (.int x4), some (.int x3)]) X dX12_held_71 (by decide) rfl ?_
    obtain ⟨r13, er13, h⟩ := bnd h
    refine aw_msk [true, true, true, true, true, true] ?_
    refine it_ok (P := fun y : Int32 × Int32 × Mem => AW Z y.2.2 73 [some (.ref (zr Z 0)), some (.int x1), some (.int y.1), some (.int x3), some (.int x4), some (.int y.2.1)] []) (Q := fun b : Int32 × Mem => AW Z b.2 112 [some (.ref (zr Z 0)), some (.int x1), some (.int b.1), some (.int x3), some (.int x4), none] []) (fun y q hq hi he => so_X12_held_73 hfr Z X x1 x3 x4 y.1 y.2.1 y.2.2 q hq hi he) FUEL _ _ er13 ?_
    refine aw_iinc (v := (x4 + 1)) (L' := [some (.ref (zr Z 0)), some (.int x1), some (.int r13.1), some (.int x3), some (.int (x4 + 1)), none]) X dX12_held_112 rfl rfl (by decide) rfl ?_
    refine aw_goto (tgt := 47) X dX12_held_115 (by decide) ?_
    cases h
    refine aw_msk [true, true, true, true, true, false] ?_
    exact hi _ rfl
set_option maxRecDepth 100000 in
set_option maxHeartbeats 4000000 in
theorem so_X12_held_36 {fr : Nat} (hfr : 1 ≤ fr) (Z : AZ) (X : AX Z cX12_held 6 RX12 (some .int) 1 fr) (x1 : Int32) (x2 : Int32) (x3 : Int32) (s : Mem) (q : (Int32 × Int32 × Mem) ⊕ (Int32 × Mem)) (h : st_X12_held_36 x1 x2 x3 s = some q) (hi : ∀ y : Int32 × Int32 × Mem, q = .inl y → AW Z y.2.2 36 [some (.ref (zr Z 0)), some (.int x1), some (.int y.1), some (.int y.2.1), none, none] []) (he : ∀ b : Int32 × Mem, q = .inr b → AW Z b.2 124 [none, none, some (.int b.1), none, none, none] []) : AW Z s 36 [some (.ref (zr Z 0)), some (.int x1), some (.int x2), some (.int x3), none, none] [] := by
  unfold st_X12_held_36 at h
  refine aw_iload_n X dX12_held_36 rfl ?_
  refine aw_aload_n X dX12_held_37 rfl ?_
  refine aw_geti X dX12_held_38 fl_RX12_416 iu_RX12 gu_RX12_40 ?_
  refine aw_icmp_ge (tgt := 124) X dX12_held_41 (by decide) (fun c4 => ?_) (fun c4 => ?_)
  · rw [if_pos c4] at h
    cases h
    refine aw_msk [false, false, true, false, false, false] ?_
    exact he _ rfl
  · rw [if_neg c4] at h
    refine aw_iload_n X dX12_held_44 rfl ?_
    refine aw_istore (L' := [some (.ref (zr Z 0)), some (.int x1), some (.int x2), some (.int x3), some (.int x3), none]) X dX12_held_45 (by decide) rfl ?_
    obtain ⟨r14, er14, h⟩ := bnd h
    refine aw_msk [true, true, true, true, true, false] ?_
    refine it_ok (P := fun y : Int32 × Int32 × Mem => AW Z y.2.2 47 [some (.ref (zr Z 0)), some (.int x1), some (.int y.1), some (.int x3), some (.int y.2.1), none] []) (Q := fun b : Int32 × Mem => AW Z b.2 118 [some (.ref (zr Z 0)), some (.int x1), some (.int b.1), some (.int x3), none, none] []) (fun y q hq hi he => so_X12_held_47 hfr Z X x1 x3 y.1 y.2.1 y.2.2 q hq hi he) FUEL _ _ er14 ?_
    refine aw_iinc (v := (x3 + 1)) (L' := [some (.ref (zr Z 0)), some (.int x1), some (.int r14.1), some (.int (x3 + 1)), none, none]) X dX12_held_118 rfl rfl (by decide) rfl ?_
    refine aw_goto (tgt := 36) X dX12_held_121 (by decide) ?_
    cases h
    refine aw_msk [true, true, true, true, false, false] ?_
    exact hi _ rfl
set_option maxRecDepth 100000 in
set_option maxHeartbeats 4000000 in
theorem jo_X12_held_33 {fr : Nat} (hfr : 1 ≤ fr) (Z : AZ) (X : AX Z cX12_held 6 RX12 (some .int) 1 fr) (x1 : Int32) (t0 : Int32) (s : Mem) (r : Int32 × Mem) (hz : zres Z = (some (.int r.1), r.2)) (h : jn_X12_held_33 x1 t0 s = some r) : AW Z s 33 [some (.ref (zr Z 0)), some (.int x1), none, none, none, none] [.int t0] := by
  unfold jn_X12_held_33 at h
  refine aw_istore_n (L' := [some (.ref (zr Z 0)), some (.int x1), some (.int t0), none, none, none]) X dX12_held_33 (by decide) rfl ?_
  refine aw_iconst (v := 0) X dX12_held_34 (by decide) ?_
  refine aw_istore_n (L' := [some (.ref (zr Z 0)), some (.int x1), some (.int t0), some (.int 0), none, none]) X dX12_held_35 (by decide) rfl ?_
  obtain ⟨r15, er15, h⟩ := bnd h
  refine aw_msk [true, true, true, true, false, false] ?_
  refine it_ok (P := fun y : Int32 × Int32 × Mem => AW Z y.2.2 36 [some (.ref (zr Z 0)), some (.int x1), some (.int y.1), some (.int y.2.1), none, none] []) (Q := fun b : Int32 × Mem => AW Z b.2 124 [none, none, some (.int b.1), none, none, none] []) (fun y q hq hi he => so_X12_held_36 hfr Z X x1 y.1 y.2.1 y.2.2 q hq hi he) FUEL _ _ er15 ?_
  refine aw_iload_n X dX12_held_124 rfl ?_
  cases h
  exact aw_iret X dX12_held_125 rfl hz.symm
set_option maxRecDepth 100000 in
set_option maxHeartbeats 4000000 in
theorem w_X12_held {fr : Nat} (hfr : 1 ≤ fr) (Z : AZ) (X : AX Z cX12_held 6 RX12 (some .int) 1 fr) (x1 : Int32) (s : Mem) (r : Int32 × Mem) (hz : zres Z = (some (.int r.1), r.2)) (h : f_X12_held x1 s = some r) : AW Z s 0 [some (.ref (zr Z 0)), some (.int x1), none, none, none, none] [] := by
  unfold f_X12_held at h
  refine aw_aload_n X dX12_held_0 rfl ?_
  refine aw_iconst (v := 0) X dX12_held_1 (by decide) ?_
  refine aw_put X dX12_held_2 fp_RX12_122 iu_RX12 gu_RX12_0 rfl rfl ?_
  refine aw_aload_n X dX12_held_5 rfl ?_
  refine aw_iload_n X dX12_held_6 rfl ?_
  refine aw_iconst (v := 0) X dX12_held_7 (by decide) ?_
  refine aw_iconst (v := 1) X dX12_held_8 (by decide) ?_
  obtain ⟨r1, er1, h⟩ := bnd h
  refine aw_callV X dX12_held_9 cv_RX12_137 (ok_X12_isIn er1 _ _ _ _ _) iu_RX12 rfl (Nat.le_trans (by decide) hfr) (by decide) rfl rfl (Nat.le_of_ble_eq_true rfl) ?_
  refine aw_if_ne (tgt := 19) X dX12_held_12 (by decide) (fun c2 => ?_) (fun c2 => ?_)
  · rw [if_neg c2] at h
    refine aw_aload_n X dX12_held_19 rfl ?_
    refine aw_geti X dX12_held_20 fl_RX12_416 iu_RX12 gu_RX12_40 ?_
    refine aw_if_ne (tgt := 30) X dX12_held_23 (by decide) (fun c3 => ?_) (fun c3 => ?_)
    · rw [if_neg c3] at h
      refine aw_ldcw X dX12_held_30 kc_RX12_419 ?_
      refine aw_msk [true, true, false, false, false, false] ?_
      exact jo_X12_held_33 hfr Z X _ _ _ _ hz h
    · rw [if_pos c3] at h
      refine aw_iconst (v := 0) X dX12_held_26 (by decide) ?_
      refine aw_goto (tgt := 33) X dX12_held_27 (by decide) ?_
      refine aw_msk [true, true, false, false, false, false] ?_
      exact jo_X12_held_33 hfr Z X _ _ _ _ hz h
  · rw [if_pos c2] at h
    refine aw_sipush (v := (-1000)) X dX12_held_15 (by decide) ?_
    cases h
    exact aw_iret X dX12_held_18 rfl hz.symm
set_option maxRecDepth 100000 in
set_option maxHeartbeats 4000000 in
theorem ok_X12_held {x1 : Int32} {s : Mem} {r : Int32 × Mem} (h : f_X12_held x1 s = some r) (l : Launch) (D : va_G) (ρ : Nat → Nat) (cA : ClassId × ClassId × ClassId) (τ : AT) : AM l D ρ cA 1 τ yX12_held cX12_held 6 (some .int) 1 [.ref (ρ 0), .int x1] (some (.int r.1)) s r.2 := by
  refine AM_of (L := [some (.ref (ρ 0)), some (.int x1), none, none, none, none]) (by decide) (by simp [Value.category]) (Nat.le_of_ble_eq_true rfl) (fun j v q => ?_) (fun Z X hρ hz hτ => ?_)
  · exact aL_ok (n := 4) [.ref (ρ 0), .int x1] j v q
  · subst hρ
    subst hτ
    exact w_X12_held (Nat.le_refl _) Z X x1 s r hz h

theorem dX12_least_0 : decode cX12_least 0 = .ok (.aload_n 0, 1) := by decide +kernel
theorem dX12_least_1 : decode cX12_least 1 = .ok (.iconst 0, 1) := by decide +kernel
theorem dX12_least_2 : decode cX12_least 2 = .ok (.putfield 122, 3) := by decide +kernel
theorem dX12_least_5 : decode cX12_least 5 = .ok (.aload_n 0, 1) := by decide +kernel
theorem dX12_least_6 : decode cX12_least 6 = .ok (.iload_n 1, 1) := by decide +kernel
theorem dX12_least_7 : decode cX12_least 7 = .ok (.iconst 0, 1) := by decide +kernel
theorem dX12_least_8 : decode cX12_least 8 = .ok (.aload_n 0, 1) := by decide +kernel
theorem dX12_least_9 : decode cX12_least 9 = .ok (.getfield 416, 3) := by decide +kernel
theorem dX12_least_12 : decode cX12_least 12 = .ok (.iconst 1, 1) := by decide +kernel
theorem dX12_least_13 : decode cX12_least 13 = .ok (.isub, 1) := by decide +kernel
theorem dX12_least_14 : decode cX12_least 14 = .ok (.invokevirtual 137, 3) := by decide +kernel
theorem dX12_least_17 : decode cX12_least 17 = .ok (.ifCond .eq 13, 3) := by decide +kernel
theorem dX12_least_20 : decode cX12_least 20 = .ok (.aload_n 0, 1) := by decide +kernel
theorem dX12_least_21 : decode cX12_least 21 = .ok (.iload_n 2, 1) := by decide +kernel
theorem dX12_least_22 : decode cX12_least 22 = .ok (.iconst 0, 1) := by decide +kernel
theorem dX12_least_23 : decode cX12_least 23 = .ok (.iconst 2, 1) := by decide +kernel
theorem dX12_least_24 : decode cX12_least 24 = .ok (.invokevirtual 137, 3) := by decide +kernel
theorem dX12_least_27 : decode cX12_least 27 = .ok (.ifCond .ne 5, 3) := by decide +kernel
theorem dX12_least_30 : decode cX12_least 30 = .ok (.iconst (-1), 1) := by decide +kernel
theorem dX12_least_31 : decode cX12_least 31 = .ok (.ireturn, 1) := by decide +kernel
theorem dX12_least_32 : decode cX12_least 32 = .ok (.iload_n 1, 1) := by decide +kernel
theorem dX12_least_33 : decode cX12_least 33 = .ok (.iconst 1, 1) := by decide +kernel
theorem dX12_least_34 : decode cX12_least 34 = .ok (.isub, 1) := by decide +kernel
theorem dX12_least_35 : decode cX12_least 35 = .ok (.istore_n 3, 1) := by decide +kernel
theorem dX12_least_36 : decode cX12_least 36 = .ok (.iload_n 3, 1) := by decide +kernel
theorem dX12_least_37 : decode cX12_least 37 = .ok (.ifCond .lt 25, 3) := by decide +kernel
theorem dX12_least_40 : decode cX12_least 40 = .ok (.aload_n 0, 1) := by decide +kernel
theorem dX12_least_41 : decode cX12_least 41 = .ok (.getfield 74, 3) := by decide +kernel
theorem dX12_least_44 : decode cX12_least 44 = .ok (.iload_n 3, 1) := by decide +kernel
theorem dX12_least_45 : decode cX12_least 45 = .ok (.iaload, 1) := by decide +kernel
theorem dX12_least_46 : decode cX12_least 46 = .ok (.aload_n 0, 1) := by decide +kernel
theorem dX12_least_47 : decode cX12_least 47 = .ok (.getfield 74, 3) := by decide +kernel
theorem dX12_least_50 : decode cX12_least 50 = .ok (.iload_n 1, 1) := by decide +kernel
theorem dX12_least_51 : decode cX12_least 51 = .ok (.iaload, 1) := by decide +kernel
theorem dX12_least_52 : decode cX12_least 52 = .ok (.if_icmp .lt 10, 3) := by decide +kernel
theorem dX12_least_55 : decode cX12_least 55 = .ok (.iload_n 3, 1) := by decide +kernel
theorem dX12_least_56 : decode cX12_least 56 = .ok (.iconst 1, 1) := by decide +kernel
theorem dX12_least_57 : decode cX12_least 57 = .ok (.isub, 1) := by decide +kernel
theorem dX12_least_58 : decode cX12_least 58 = .ok (.istore_n 3, 1) := by decide +kernel
theorem dX12_least_59 : decode cX12_least 59 = .ok (.goto (-23), 3) := by decide +kernel
theorem dX12_least_62 : decode cX12_least 62 = .ok (.iload_n 2, 1) := by decide +kernel
theorem dX12_least_63 : decode cX12_least 63 = .ok (.ifCond .ne 5, 3) := by decide +kernel
theorem dX12_least_66 : decode cX12_least 66 = .ok (.iload_n 3, 1) := by decide +kernel
theorem dX12_least_67 : decode cX12_least 67 = .ok (.ireturn, 1) := by decide +kernel
theorem dX12_least_68 : decode cX12_least 68 = .ok (.iload_n 1, 1) := by decide +kernel
theorem dX12_least_69 : decode cX12_least 69 = .ok (.iconst 1, 1) := by decide +kernel
theorem dX12_least_70 : decode cX12_least 70 = .ok (.iadd, 1) := by decide +kernel
theorem dX12_least_71 : decode cX12_least 71 = .ok (.istore 4, 2) := by decide +kernel
theorem dX12_least_73 : decode cX12_least 73 = .ok (.iload 4, 2) := by decide +kernel
theorem dX12_least_75 : decode cX12_least 75 = .ok (.aload_n 0, 1) := by decide +kernel
theorem dX12_least_76 : decode cX12_least 76 = .ok (.getfield 416, 3) := by decide +kernel
theorem dX12_least_79 : decode cX12_least 79 = .ok (.if_icmp .ge 28, 3) := by decide +kernel
theorem dX12_least_82 : decode cX12_least 82 = .ok (.aload_n 0, 1) := by decide +kernel
theorem dX12_least_83 : decode cX12_least 83 = .ok (.getfield 74, 3) := by decide +kernel
theorem dX12_least_86 : decode cX12_least 86 = .ok (.iload 4, 2) := by decide +kernel
theorem dX12_least_88 : decode cX12_least 88 = .ok (.iaload, 1) := by decide +kernel
theorem dX12_least_89 : decode cX12_least 89 = .ok (.aload_n 0, 1) := by decide +kernel
theorem dX12_least_90 : decode cX12_least 90 = .ok (.getfield 74, 3) := by decide +kernel
theorem dX12_least_93 : decode cX12_least 93 = .ok (.iload_n 1, 1) := by decide +kernel
theorem dX12_least_94 : decode cX12_least 94 = .ok (.iaload, 1) := by decide +kernel
theorem dX12_least_95 : decode cX12_least 95 = .ok (.if_icmp .lt 12, 3) := by decide +kernel
theorem dX12_least_98 : decode cX12_least 98 = .ok (.iload 4, 2) := by decide +kernel
theorem dX12_least_100 : decode cX12_least 100 = .ok (.iconst 1, 1) := by decide +kernel
theorem dX12_least_101 : decode cX12_least 101 = .ok (.iadd, 1) := by decide +kernel
theorem dX12_least_102 : decode cX12_least 102 = .ok (.istore 4, 2) := by decide +kernel
theorem dX12_least_104 : decode cX12_least 104 = .ok (.goto (-31), 3) := by decide +kernel
theorem dX12_least_107 : decode cX12_least 107 = .ok (.iload_n 2, 1) := by decide +kernel
theorem dX12_least_108 : decode cX12_least 108 = .ok (.iconst 1, 1) := by decide +kernel
theorem dX12_least_109 : decode cX12_least 109 = .ok (.if_icmp .ne 19, 3) := by decide +kernel
theorem dX12_least_112 : decode cX12_least 112 = .ok (.iload 4, 2) := by decide +kernel
theorem dX12_least_114 : decode cX12_least 114 = .ok (.aload_n 0, 1) := by decide +kernel
theorem dX12_least_115 : decode cX12_least 115 = .ok (.getfield 416, 3) := by decide +kernel
theorem dX12_least_118 : decode cX12_least 118 = .ok (.if_icmp .ge 8, 3) := by decide +kernel
theorem dX12_least_121 : decode cX12_least 121 = .ok (.iload 4, 2) := by decide +kernel
theorem dX12_least_123 : decode cX12_least 123 = .ok (.goto 4, 3) := by decide +kernel
theorem dX12_least_126 : decode cX12_least 126 = .ok (.iconst (-1), 1) := by decide +kernel
theorem dX12_least_127 : decode cX12_least 127 = .ok (.ireturn, 1) := by decide +kernel
theorem dX12_least_128 : decode cX12_least 128 = .ok (.iload_n 1, 1) := by decide +kernel
theorem dX12_least_129 : decode cX12_least 129 = .ok (.iconst 1, 1) := by decide +kernel
theorem dX12_least_130 : decode cX12_least 130 = .ok (.isub, 1) := by decide +kernel
theorem dX12_least_131 : decode cX12_least 131 = .ok (.istore 5, 2) := by decide +kernel
theorem dX12_least_133 : decode cX12_least 133 = .ok (.iload 5, 2) := by decide +kernel
theorem dX12_least_135 : decode cX12_least 135 = .ok (.ifCond .lt 28, 3) := by decide +kernel
theorem dX12_least_138 : decode cX12_least 138 = .ok (.aload_n 0, 1) := by decide +kernel
theorem dX12_least_139 : decode cX12_least 139 = .ok (.getfield 74, 3) := by decide +kernel
theorem dX12_least_142 : decode cX12_least 142 = .ok (.iload 5, 2) := by decide +kernel
theorem dX12_least_144 : decode cX12_least 144 = .ok (.iaload, 1) := by decide +kernel
theorem dX12_least_145 : decode cX12_least 145 = .ok (.aload_n 0, 1) := by decide +kernel
theorem dX12_least_146 : decode cX12_least 146 = .ok (.getfield 74, 3) := by decide +kernel
theorem dX12_least_149 : decode cX12_least 149 = .ok (.iload_n 1, 1) := by decide +kernel
theorem dX12_least_150 : decode cX12_least 150 = .ok (.iaload, 1) := by decide +kernel
theorem dX12_least_151 : decode cX12_least 151 = .ok (.if_icmp .le 12, 3) := by decide +kernel
theorem dX12_least_154 : decode cX12_least 154 = .ok (.iload 5, 2) := by decide +kernel
theorem dX12_least_156 : decode cX12_least 156 = .ok (.iconst 1, 1) := by decide +kernel
theorem dX12_least_157 : decode cX12_least 157 = .ok (.isub, 1) := by decide +kernel
theorem dX12_least_158 : decode cX12_least 158 = .ok (.istore 5, 2) := by decide +kernel
theorem dX12_least_160 : decode cX12_least 160 = .ok (.goto (-27), 3) := by decide +kernel
theorem dX12_least_163 : decode cX12_least 163 = .ok (.iload_n 1, 1) := by decide +kernel
theorem dX12_least_164 : decode cX12_least 164 = .ok (.iload 5, 2) := by decide +kernel
theorem dX12_least_166 : decode cX12_least 166 = .ok (.isub, 1) := by decide +kernel
theorem dX12_least_167 : decode cX12_least 167 = .ok (.iload 4, 2) := by decide +kernel
theorem dX12_least_169 : decode cX12_least 169 = .ok (.iload_n 1, 1) := by decide +kernel
theorem dX12_least_170 : decode cX12_least 170 = .ok (.isub, 1) := by decide +kernel
theorem dX12_least_171 : decode cX12_least 171 = .ok (.imul, 1) := by decide +kernel
theorem dX12_least_172 : decode cX12_least 172 = .ok (.ireturn, 1) := by decide +kernel
set_option maxRecDepth 100000 in
set_option maxHeartbeats 4000000 in
theorem so_X12_least_36 {fr : Nat} (hfr : 1 ≤ fr) (Z : AZ) (X : AX Z cX12_least 6 RX12 (some .int) 1 fr) (x1 : Int32) (x2 : Int32) (x3 : Int32) (s : Mem) (q : (Int32 × Mem) ⊕ (Int32 × Mem)) (h : st_X12_least_36 x1 x2 x3 s = some q) (hi : ∀ y : Int32 × Mem, q = .inl y → AW Z y.2 36 [some (.ref (zr Z 0)), some (.int x1), some (.int x2), some (.int y.1), none, none] []) (he : ∀ b : Int32 × Mem, q = .inr b → AW Z b.2 62 [some (.ref (zr Z 0)), some (.int x1), some (.int x2), some (.int b.1), none, none] []) : AW Z s 36 [some (.ref (zr Z 0)), some (.int x1), some (.int x2), some (.int x3), none, none] [] := by
  unfold st_X12_least_36 at h
  refine aw_iload_n X dX12_least_36 rfl ?_
  refine aw_if_lt (tgt := 62) X dX12_least_37 (by decide) (fun c5 => ?_) (fun c5 => ?_)
  · rw [if_pos c5] at h
    cases h
    refine aw_msk [true, true, true, true, false, false] ?_
    exact he _ rfl
  · rw [if_neg c5] at h
    refine aw_aload_n X dX12_least_40 rfl ?_
    refine aw_getr X dX12_least_41 fl_RX12_74 iu_RX12 gu_RX12_41 ?_
    refine aw_iload_n X dX12_least_44 rfl ?_
    obtain ⟨v6, ev6, h⟩ := bnd h
    refine aw_iald X dX12_least_45 iu_RX12_41 ev6 ?_
    refine aw_aload_n X dX12_least_46 rfl ?_
    refine aw_getr X dX12_least_47 fl_RX12_74 iu_RX12 gu_RX12_41 ?_
    refine aw_iload_n X dX12_least_50 rfl ?_
    obtain ⟨v7, ev7, h⟩ := bnd h
    refine aw_iald X dX12_least_51 iu_RX12_41 ev7 ?_
    refine aw_icmp_lt (tgt := 62) X dX12_least_52 (by decide) (fun c8 => ?_) (fun c8 => ?_)
    · rw [if_pos c8] at h
      cases h
      refine aw_msk [true, true, true, true, false, false] ?_
      exact he _ rfl
    · rw [if_neg c8] at h
      refine aw_iload_n X dX12_least_55 rfl ?_
      refine aw_iconst (v := 1) X dX12_least_56 (by decide) ?_
      refine aw_isub X dX12_least_57 ?_
      refine aw_istore_n (L' := [some (.ref (zr Z 0)), some (.int x1), some (.int x2), some (.int (x3 - 1)), none, none]) X dX12_least_58 (by decide) rfl ?_
      refine aw_goto (tgt := 36) X dX12_least_59 (by decide) ?_
      cases h
      refine aw_msk [true, true, true, true, false, false] ?_
      exact hi _ rfl
set_option maxRecDepth 100000 in
set_option maxHeartbeats 4000000 in
theorem so_X12_least_73 {fr : Nat} (hfr : 1 ≤ fr) (Z : AZ) (X : AX Z cX12_least 6 RX12 (some .int) 1 fr) (x1 : Int32) (x2 : Int32) (x4 : Int32) (s : Mem) (q : (Int32 × Mem) ⊕ (Int32 × Mem)) (h : st_X12_least_73 x1 x2 x4 s = some q) (hi : ∀ y : Int32 × Mem, q = .inl y → AW Z y.2 73 [some (.ref (zr Z 0)), some (.int x1), some (.int x2), none, some (.int y.1), none] []) (he : ∀ b : Int32 × Mem, q = .inr b → AW Z b.2 107 [some (.ref (zr Z 0)), some (.int x1), some (.int x2), none, some (.int b.1), none] []) : AW Z s 73 [some (.ref (zr Z 0)), some (.int x1), some (.int x2), none, some (.int x4), none] [] := by
  unfold st_X12_least_73 at h
  refine aw_iload X dX12_least_73 rfl ?_
  refine aw_aload_n X dX12_least_75 rfl ?_
  refine aw_geti X dX12_least_76 fl_RX12_416 iu_RX12 gu_RX12_40 ?_
  refine aw_icmp_ge (tgt := 107) X dX12_least_79 (by decide) (fun c11 => ?_) (fun c11 => ?_)
  · rw [if_pos c11] at h
    cases h
    refine aw_msk [true, true, true, false, true, false] ?_
    exact he _ rfl
  · rw [if_neg c11] at h
    refine aw_aload_n X dX12_least_82 rfl ?_
    refine aw_getr X dX12_least_83 fl_RX12_74 iu_RX12 gu_RX12_41 ?_
    refine aw_iload X dX12_least_86 rfl ?_
    obtain ⟨v12, ev12, h⟩ := bnd h
    refine aw_iald X dX12_least_88 iu_RX12_41 ev12 ?_
    refine aw_aload_n X dX12_least_89 rfl ?_
    refine aw_getr X dX12_least_90 fl_RX12_74 iu_RX12 gu_RX12_41 ?_
    refine aw_iload_n X dX12_least_93 rfl ?_
    obtain ⟨v13, ev13, h⟩ := bnd h
    refine aw_iald X dX12_least_94 iu_RX12_41 ev13 ?_
    refine aw_icmp_lt (tgt := 107) X dX12_least_95 (by decide) (fun c14 => ?_) (fun c14 => ?_)
    · rw [if_pos c14] at h
      cases h
      refine aw_msk [true, true, true, false, true, false] ?_
      exact he _ rfl
    · rw [if_neg c14] at h
      refine aw_iload X dX12_least_98 rfl ?_
      refine aw_iconst (v := 1) X dX12_least_100 (by decide) ?_
      refine aw_iadd X dX12_least_101 ?_
      refine aw_istore (L' := [some (.ref (zr Z 0)), some (.int x1), some (.int x2), none, some (.int (x4 + 1)), none]) X dX12_least_102 (by decide) rfl ?_
      refine aw_goto (tgt := 73) X dX12_least_104 (by decide) ?_
      cases h
      refine aw_msk [true, true, true, false, true, false] ?_
      exact hi _ rfl
set_option maxRecDepth 100000 in
set_option maxHeartbeats 4000000 in
theorem so_X12_least_133 {fr : Nat} (hfr : 1 ≤ fr) (Z : AZ) (X : AX Z cX12_least 6 RX12 (some .int) 1 fr) (x1 : Int32) (x4 : Int32) (x5 : Int32) (s : Mem) (q : (Int32 × Mem) ⊕ (Int32 × Mem)) (h : st_X12_least_133 x1 x4 x5 s = some q) (hi : ∀ y : Int32 × Mem, q = .inl y → AW Z y.2 133 [some (.ref (zr Z 0)), some (.int x1), none, none, some (.int x4), some (.int y.1)] []) (he : ∀ b : Int32 × Mem, q = .inr b → AW Z b.2 163 [none, some (.int x1), none, none, some (.int x4), some (.int b.1)] []) : AW Z s 133 [some (.ref (zr Z 0)), some (.int x1), none, none, some (.int x4), some (.int x5)] [] := by
  unfold st_X12_least_133 at h
  refine aw_iload X dX12_least_133 rfl ?_
  refine aw_if_lt (tgt := 163) X dX12_least_135 (by decide) (fun c17 => ?_) (fun c17 => ?_)
  · rw [if_pos c17] at h
    cases h
    refine aw_msk [false, true, false, false, true, true] ?_
    exact he _ rfl
  · rw [if_neg c17] at h
    refine aw_aload_n X dX12_least_138 rfl ?_
    refine aw_getr X dX12_least_139 fl_RX12_74 iu_RX12 gu_RX12_41 ?_
    refine aw_iload X dX12_least_142 rfl ?_
    obtain ⟨v18, ev18, h⟩ := bnd h
    refine aw_iald X dX12_least_144 iu_RX12_41 ev18 ?_
    refine aw_aload_n X dX12_least_145 rfl ?_
    refine aw_getr X dX12_least_146 fl_RX12_74 iu_RX12 gu_RX12_41 ?_
    refine aw_iload_n X dX12_least_149 rfl ?_
    obtain ⟨v19, ev19, h⟩ := bnd h
    refine aw_iald X dX12_least_150 iu_RX12_41 ev19 ?_
    refine aw_icmp_le (tgt := 163) X dX12_least_151 (by decide) (fun c20 => ?_) (fun c20 => ?_)
    · rw [if_pos c20] at h
      cases h
      refine aw_msk [false, true, false, false, true, true] ?_
      exact he _ rfl
    · rw [if_neg c20] at h
      refine aw_iload X dX12_least_154 rfl ?_
      refine aw_iconst (v := 1) X dX12_least_156 (by decide) ?_
      refine aw_isub X dX12_least_157 ?_
      refine aw_istore (L' := [some (.ref (zr Z 0)), some (.int x1), none, none, some (.int x4), some (.int (x5 - 1))]) X dX12_least_158 (by decide) rfl ?_
      refine aw_goto (tgt := 133) X dX12_least_160 (by decide) ?_
      cases h
      refine aw_msk [true, true, false, false, true, true] ?_
      exact hi _ rfl
set_option maxRecDepth 100000 in
set_option maxHeartbeats 4000000 in
theorem jo_X12_least_163 {fr : Nat} (hfr : 1 ≤ fr) (Z : AZ) (X : AX Z cX12_least 6 RX12 (some .int) 1 fr) (x1 : Int32) (x4 : Int32) (x5 : Int32) (s : Mem) (r : Int32 × Mem) (hz : zres Z = (some (.int r.1), r.2)) (h : jn_X12_least_163 x1 x4 x5 s = some r) : AW Z s 163 [none, some (.int x1), none, none, some (.int x4), some (.int x5)] [] := by
  unfold jn_X12_least_163 at h
  refine aw_iload_n X dX12_least_163 rfl ?_
  refine aw_iload X dX12_least_164 rfl ?_
  refine aw_isub X dX12_least_166 ?_
  refine aw_iload X dX12_least_167 rfl ?_
  refine aw_iload_n X dX12_least_169 rfl ?_
  refine aw_isub X dX12_least_170 ?_
  refine aw_imul X dX12_least_171 ?_
  cases h
  exact aw_iret X dX12_least_172 rfl hz.symm
set_option maxRecDepth 100000 in
set_option maxHeartbeats 4000000 in
theorem jo_X12_least_107 {fr : Nat} (hfr : 1 ≤ fr) (Z : AZ) (X : AX Z cX12_least 6 RX12 (some .int) 1 fr) (x1 : Int32) (x2 : Int32) (x4 : Int32) (s : Mem) (r : Int32 × Mem) (hz : zres Z = (some (.int r.1), r.2)) (h : jn_X12_least_107 x1 x2 x4 s = some r) : AW Z s 107 [some (.ref (zr Z 0)), some (.int x1), some (.int x2), none, some (.int x4), none] [] := by
  unfold jn_X12_least_107 at h
  refine aw_iload_n X dX12_least_107 rfl ?_
  refine aw_iconst (v := 1) X dX12_least_108 (by decide) ?_
  refine aw_icmp_ne (tgt := 128) X dX12_least_109 (by decide) (fun c16 => ?_) (fun c16 => ?_)
  · rw [if_neg c16] at h
    refine aw_iload_n X dX12_least_128 rfl ?_
    refine aw_iconst (v := 1) X dX12_least_129 (by decide) ?_
    refine aw_isub X dX12_least_130 ?_
    refine aw_istore (L' := [some (.ref (zr Z 0)), some (.int x1), some (.int x2), none, some (.int x4), some (.int (x1 - 1))]) X dX12_least_131 (by decide) rfl ?_
    obtain ⟨r21, er21, h⟩ := bnd h
    refine aw_msk [true, true, false, false, true, true] ?_
    refine it_ok (P := fun y : Int32 × Mem => AW Z y.2 133 [some (.ref (zr Z 0)), some (.int x1), none, none, some (.int x4), some (.int y.1)] []) (Q := fun b : Int32 × Mem => AW Z b.2 163 [none, some (.int x1), none, none, some (.int x4), some (.int b.1)] []) (fun y q hq hi he => so_X12_least_133 hfr Z X x1 x4 y.1 y.2 q hq hi he) FUEL _ _ er21 ?_
    refine aw_msk [false, true, false, false, true, true] ?_
    exact jo_X12_least_163 hfr Z X _ _ _ _ _ hz h
  · rw [if_pos c16] at h
    refine aw_iload X dX12_least_112 rfl ?_
    refine aw_aload_n X dX12_least_114 rfl ?_
    refine aw_geti X dX12_least_115 fl_RX12_416 iu_RX12 gu_RX12_40 ?_
    refine aw_icmp_ge (tgt := 126) X dX12_least_118 (by decide) (fun c22 => ?_) (fun c22 => ?_)
    · rw [if_pos c22] at h
      refine aw_iconst (v := (-1)) X dX12_least_126 (by decide) ?_
      cases h
      exact aw_iret X dX12_least_127 rfl hz.symm
    · rw [if_neg c22] at h
      refine aw_iload X dX12_least_121 rfl ?_
      refine aw_goto (tgt := 127) X dX12_least_123 (by decide) ?_
      cases h
      exact aw_iret X dX12_least_127 rfl hz.symm
set_option maxRecDepth 100000 in
set_option maxHeartbeats 4000000 in
theorem jo_X12_least_62 {fr : Nat} (hfr : 1 ≤ fr) (Z : AZ) (X : AX Z cX12_least 6 RX12 (some .int) 1 fr) (x1 : Int32) (x2 : Int32) (x3 : Int32) (s : Mem) (r : Int32 × Mem) (hz : zres Z = (some (.int r.1), r.2)) (h : jn_X12_least_62 x1 x2 x3 s = some r) : AW Z s 62 [some (.ref (zr Z 0)), some (.int x1), some (.int x2), some (.int x3), none, none] [] := by
  unfold jn_X12_least_62 at h
  refine aw_iload_n X dX12_least_62 rfl ?_
  refine aw_if_ne (tgt := 68) X dX12_least_63 (by decide) (fun c10 => ?_) (fun c10 => ?_)
  · rw [if_neg c10] at h
    refine aw_iload_n X dX12_least_68 rfl ?_
    refine aw_iconst (v := 1) X dX12_least_69 (by decide) ?_
    refine aw_iadd X dX12_least_70 ?_
    refine aw_istore (L' := [some (.ref (zr Z 0)), some (.int x1), some (.int x2), some (.int x3), some (.int (x1 + 1)), none]) X dX12_least_71 (by decide) rfl ?_
    obtain ⟨r15, er15, h⟩ := bnd h
    refine aw_msk [true, true, true, false, true, false] ?_
    refine it_ok (P := fun y : Int32 × Mem => AW Z y.2 73 [some (.ref (zr Z 0)), some (.int x1), some (.int x2), none, some (.int y.1), none] []) (Q := fun b : Int32 × Mem => AW Z b.2 107 [some (.ref (zr Z 0)), some (.int x1), some (.int x2), none, some (.int b.1), none] []) (fun y q hq hi he => so_X12_least_73 hfr Z X x1 x2 y.1 y.2 q hq hi he) FUEL _ _ er15 ?_
    refine aw_msk [true, true, true, false, true, false] ?_
    exact jo_X12_least_107 hfr Z X _ _ _ _ _ hz h
  · rw [if_pos c10] at h
    refine aw_iload_n X dX12_least_66 rfl ?_
    cases h
    exact aw_iret X dX12_least_67 rfl hz.symm
set_option maxRecDepth 100000 in
set_option maxHeartbeats 4000000 in
theorem w_X12_least {fr : Nat} (hfr : 1 ≤ fr) (Z : AZ) (X : AX Z cX12_least 6 RX12 (some .int) 1 fr) (x1 : Int32) (x2 : Int32) (s : Mem) (r : Int32 × Mem) (hz : zres Z = (some (.int r.1), r.2)) (h : f_X12_least x1 x2 s = some r) : AW Z s 0 [some (.ref (zr Z 0)), some (.int x1), some (.int x2), none, none, none] [] := by
  unfold f_X12_least at h
  refine aw_aload_n X dX12_least_0 rfl ?_
  refine aw_iconst (v := 0) X dX12_least_1 (by decide) ?_
  refine aw_put X dX12_least_2 fp_RX12_122 iu_RX12 gu_RX12_0 rfl rfl ?_
  refine aw_aload_n X dX12_least_5 rfl ?_
  refine aw_iload_n X dX12_least_6 rfl ?_
  refine aw_iconst (v := 0) X dX12_least_7 (by decide) ?_
  refine aw_aload_n X dX12_least_8 rfl ?_
  refine aw_geti X dX12_least_9 fl_RX12_416 iu_RX12 gu_RX12_40 ?_
  refine aw_iconst (v := 1) X dX12_least_12 (by decide) ?_
  refine aw_isub X dX12_least_13 ?_
  obtain ⟨r1, er1, h⟩ := bnd h
  refine aw_callV X dX12_least_14 cv_RX12_137 (ok_X12_isIn er1 _ _ _ _ _) iu_RX12 rfl (Nat.le_trans (by decide) hfr) (by decide) rfl rfl (Nat.le_of_ble_eq_true rfl) ?_
  refine aw_if_eq (tgt := 30) X dX12_least_17 (by decide) (fun c2 => ?_) (fun c2 => ?_)
  · rw [if_pos c2] at h
    refine aw_iconst (v := (-1)) X dX12_least_30 (by decide) ?_
    cases h
    exact aw_iret X dX12_least_31 rfl hz.symm
  · rw [if_neg c2] at h
    refine aw_aload_n X dX12_least_20 rfl ?_
    refine aw_iload_n X dX12_least_21 rfl ?_
    refine aw_iconst (v := 0) X dX12_least_22 (by decide) ?_
    refine aw_iconst (v := 2) X dX12_least_23 (by decide) ?_
    obtain ⟨r3, er3, h⟩ := bnd h
    refine aw_callV X dX12_least_24 cv_RX12_137 (ok_X12_isIn er3 _ _ _ _ _) iu_RX12 rfl (Nat.le_trans (by decide) hfr) (by decide) rfl rfl (Nat.le_of_ble_eq_true rfl) ?_
    refine aw_if_ne (tgt := 32) X dX12_least_27 (by decide) (fun c4 => ?_) (fun c4 => ?_)
    · rw [if_neg c4] at h
      refine aw_iload_n X dX12_least_32 rfl ?_
      refine aw_iconst (v := 1) X dX12_least_33 (by decide) ?_
      refine aw_isub X dX12_least_34 ?_
      refine aw_istore_n (L' := [some (.ref (zr Z 0)), some (.int x1), some (.int x2), some (.int (x1 - 1)), none, none]) X dX12_least_35 (by decide) rfl ?_
      obtain ⟨r9, er9, h⟩ := bnd h
      refine aw_msk [true, true, true, true, false, false] ?_
      refine it_ok (P := fun y : Int32 × Mem => AW Z y.2 36 [some (.ref (zr Z 0)), some (.int x1), some (.int x2), some (.int y.1), none, none] []) (Q := fun b : Int32 × Mem => AW Z b.2 62 [some (.ref (zr Z 0)), some (.int x1), some (.int x2), some (.int b.1), none, none] []) (fun y q hq hi he => so_X12_least_36 hfr Z X x1 x2 y.1 y.2 q hq hi he) FUEL _ _ er9 ?_
      refine aw_msk [true, true, true, true, false, false] ?_
      exact jo_X12_least_62 hfr Z X _ _ _ _ _ hz h
    · rw [if_pos c4] at h
      refine aw_iconst (v := (-1)) X dX12_least_30 (by decide) ?_
      cases h
      exact aw_iret X dX12_least_31 rfl hz.symm
set_option maxRecDepth 100000 in
set_option maxHeartbeats 4000000 in
theorem ok_X12_least {x1 x2 : Int32} {s : Mem} {r : Int32 × Mem} (h : f_X12_least x1 x2 s = some r) (l : Launch) (D : va_G) (ρ : Nat → Nat) (cA : ClassId × ClassId × ClassId) (τ : AT) : AM l D ρ cA 1 τ yX12_least cX12_least 6 (some .int) 1 [.ref (ρ 0), .int x1, .int x2] (some (.int r.1)) s r.2 := by
  refine AM_of (L := [some (.ref (ρ 0)), some (.int x1), some (.int x2), none, none, none]) (by decide) (by simp [Value.category]) (Nat.le_of_ble_eq_true rfl) (fun j v q => ?_) (fun Z X hρ hz hτ => ?_)
  · exact aL_ok (n := 3) [.ref (ρ 0), .int x1, .int x2] j v q
  · subst hρ
    subst hτ
    exact w_X12_least (Nat.le_refl _) Z X x1 x2 s r hz h

theorem dX12_upside_0 : decode cX12_upside 0 = .ok (.iconst 0, 1) := by decide +kernel
theorem dX12_upside_1 : decode cX12_upside 1 = .ok (.istore_n 2, 1) := by decide +kernel
theorem dX12_upside_2 : decode cX12_upside 2 = .ok (.iload_n 1, 1) := by decide +kernel
theorem dX12_upside_3 : decode cX12_upside 3 = .ok (.istore_n 3, 1) := by decide +kernel
theorem dX12_upside_4 : decode cX12_upside 4 = .ok (.iload_n 3, 1) := by decide +kernel
theorem dX12_upside_5 : decode cX12_upside 5 = .ok (.ifCond .le 69, 3) := by decide +kernel
theorem dX12_upside_8 : decode cX12_upside 8 = .ok (.iload_n 3, 1) := by decide +kernel
theorem dX12_upside_9 : decode cX12_upside 9 = .ok (.bipush 10, 2) := by decide +kernel
theorem dX12_upside_11 : decode cX12_upside 11 = .ok (.irem, 1) := by decide +kernel
theorem dX12_upside_12 : decode cX12_upside 12 = .ok (.istore 4, 2) := by decide +kernel
theorem dX12_upside_14 : decode cX12_upside 14 = .ok (.aload_n 0, 1) := by decide +kernel
theorem dX12_upside_15 : decode cX12_upside 15 = .ok (.iload 4, 2) := by decide +kernel
theorem dX12_upside_17 : decode cX12_upside 17 = .ok (.iconst 2, 1) := by decide +kernel
theorem dX12_upside_18 : decode cX12_upside 18 = .ok (.iconst 5, 1) := by decide +kernel
theorem dX12_upside_19 : decode cX12_upside 19 = .ok (.invokevirtual 137, 3) := by decide +kernel
theorem dX12_upside_22 : decode cX12_upside 22 = .ok (.ifCond .ne 10, 3) := by decide +kernel
theorem dX12_upside_25 : decode cX12_upside 25 = .ok (.iload 4, 2) := by decide +kernel
theorem dX12_upside_27 : decode cX12_upside 27 = .ok (.bipush 7, 2) := by decide +kernel
theorem dX12_upside_29 : decode cX12_upside 29 = .ok (.if_icmp .ne 5, 3) := by decide +kernel
theorem dX12_upside_32 : decode cX12_upside 32 = .ok (.iconst (-1), 1) := by decide +kernel
theorem dX12_upside_33 : decode cX12_upside 33 = .ok (.ireturn, 1) := by decide +kernel
theorem dX12_upside_34 : decode cX12_upside 34 = .ok (.bipush 10, 2) := by decide +kernel
theorem dX12_upside_36 : decode cX12_upside 36 = .ok (.iload_n 2, 1) := by decide +kernel
theorem dX12_upside_37 : decode cX12_upside 37 = .ok (.imul, 1) := by decide +kernel
theorem dX12_upside_38 : decode cX12_upside 38 = .ok (.iload 4, 2) := by decide +kernel
theorem dX12_upside_40 : decode cX12_upside 40 = .ok (.bipush 6, 2) := by decide +kernel
theorem dX12_upside_42 : decode cX12_upside 42 = .ok (.if_icmp .ne 8, 3) := by decide +kernel
theorem dX12_upside_45 : decode cX12_upside 45 = .ok (.bipush 9, 2) := by decide +kernel
theorem dX12_upside_47 : decode cX12_upside 47 = .ok (.goto 17, 3) := by decide +kernel
theorem dX12_upside_50 : decode cX12_upside 50 = .ok (.iload 4, 2) := by decide +kernel
theorem dX12_upside_52 : decode cX12_upside 52 = .ok (.bipush 9, 2) := by decide +kernel
theorem dX12_upside_54 : decode cX12_upside 54 = .ok (.if_icmp .ne 8, 3) := by decide +kernel
theorem dX12_upside_57 : decode cX12_upside 57 = .ok (.bipush 6, 2) := by decide +kernel
theorem dX12_upside_59 : decode cX12_upside 59 = .ok (.goto 5, 3) := by decide +kernel
theorem dX12_upside_62 : decode cX12_upside 62 = .ok (.iload 4, 2) := by decide +kernel
theorem dX12_upside_64 : decode cX12_upside 64 = .ok (.iadd, 1) := by decide +kernel
theorem dX12_upside_65 : decode cX12_upside 65 = .ok (.istore_n 2, 1) := by decide +kernel
theorem dX12_upside_66 : decode cX12_upside 66 = .ok (.iload_n 3, 1) := by decide +kernel
theorem dX12_upside_67 : decode cX12_upside 67 = .ok (.bipush 10, 2) := by decide +kernel
theorem dX12_upside_69 : decode cX12_upside 69 = .ok (.idiv, 1) := by decide +kernel
theorem dX12_upside_70 : decode cX12_upside 70 = .ok (.istore_n 3, 1) := by decide +kernel
theorem dX12_upside_71 : decode cX12_upside 71 = .ok (.goto (-67), 3) := by decide +kernel
theorem dX12_upside_74 : decode cX12_upside 74 = .ok (.iload_n 2, 1) := by decide +kernel
theorem dX12_upside_75 : decode cX12_upside 75 = .ok (.ireturn, 1) := by decide +kernel
set_option maxRecDepth 100000 in
set_option maxHeartbeats 4000000 in
theorem jo_X12_upside_64 {fr : Nat} (hfr : 1 ≤ fr) (Z : AZ) (X : AX Z cX12_upside 5 RX12 (some .int) 1 fr) (x3 : Int32) (t0 : Int32) (t1 : Int32) (s : Mem) (q : (Int32 × Int32 × Mem) ⊕ (Nat × Int32 × Mem)) (h : jn_X12_upside_64 x3 t0 t1 s = some q) (hi : ∀ y : Int32 × Int32 × Mem, q = .inl y → AW Z y.2.2 4 [some (.ref (zr Z 0)), none, some (.int y.1), some (.int y.2.1), none] []) (he : ∀ b : Nat × Int32 × Mem, q = .inr b → (b.1 = 0 → AW Z b.2.2 32 [none, none, none, none, none] []) ∧ (b.1 = 1 → AW Z b.2.2 74 [none, none, some (.int b.2.1), none, none] [])) : AW Z s 64 [some (.ref (zr Z 0)), none, none, some (.int x3), none] [.int t1, .int t0] := by
  unfold jn_X12_upside_64 at h
  refine aw_iadd X dX12_upside_64 ?_
  refine aw_istore_n (L' := [some (.ref (zr Z 0)), none, some (.int (t0 + t1)), some (.int x3), none]) X dX12_upside_65 (by decide) rfl ?_
  refine aw_iload_n X dX12_upside_66 rfl ?_
  refine aw_bipush (v := 10) X dX12_upside_67 (by decide) ?_
  refine aw_idiv X dX12_upside_69 (by decide) ?_
  refine aw_istore_n (L' := [some (.ref (zr Z 0)), none, some (.int (t0 + t1)), some (.int (x3 / 10)), none]) X dX12_upside_70 (by decide) rfl ?_
  refine aw_goto (tgt := 4) X dX12_upside_71 (by decide) ?_
  cases h
  refine aw_msk [true, false, true, true, false] ?_
  exact hi _ rfl
set_option maxRecDepth 100000 in
set_option maxHeartbeats 4000000 in
theorem so_X12_upside_4 {fr : Nat} (hfr : 1 ≤ fr) (Z : AZ) (X : AX Z cX12_upside 5 RX12 (some .int) 1 fr) (x2 : Int32) (x3 : Int32) (s : Mem) (q : (Int32 × Int32 × Mem) ⊕ (Nat × Int32 × Mem)) (h : st_X12_upside_4 x2 x3 s = some q) (hi : ∀ y : Int32 × Int32 × Mem, q = .inl y → AW Z y.2.2 4 [some (.ref (zr Z 0)), none, some (.int y.1), some (.int y.2.1), none] []) (he : ∀ b : Nat × Int32 × Mem, q = .inr b → (b.1 = 0 → AW Z b.2.2 32 [none, none, none, none, none] []) ∧ (b.1 = 1 → AW Z b.2.2 74 [none, none, some (.int b.2.1), none, none] [])) : AW Z s 4 [some (.ref (zr Z 0)), none, some (.int x2), some (.int x3), none] [] := by
  unfold st_X12_upside_4 at h
  refine aw_iload_n X dX12_upside_4 rfl ?_
  refine aw_if_le (tgt := 74) X dX12_upside_5 (by decide) (fun c1 => ?_) (fun c1 => ?_)
  · rw [if_pos c1] at h
    cases h
    refine aw_msk [false, false, true, false, false] ?_
    exact (he _ rfl).2 rfl
  · rw [if_neg c1] at h
    refine aw_iload_n X dX12_upside_8 rfl ?_
    refine aw_bipush (v := 10) X dX12_upside_9 (by decide) ?_
    refine aw_irem X dX12_upside_11 (by decide) ?_
    refine aw_istore (L' := [some (.ref (zr Z 0)), none, some (.int x2), some (.int x3), some (.int (x3 % 10))]) X dX12_upside_12 (by decide) rfl ?_
    refine aw_aload_n X dX12_upside_14 rfl ?_
    refine aw_iload X dX12_upside_15 rfl ?_
    refine aw_iconst (v := 2) X dX12_upside_17 (by decide) ?_
    refine aw_iconst (v := 5) X dX12_upside_18 (by decide) ?_
    obtain ⟨r2, er2, h⟩ := bnd h
    refine aw_callV X dX12_upside_19 cv_RX12_137 (ok_X12_isIn er2 _ _ _ _ _) iu_RX12 rfl (Nat.le_trans (by decide) hfr) (by decide) rfl rfl (Nat.le_of_ble_eq_true rfl) ?_
    refine aw_if_ne (tgt := 32) X dX12_upside_22 (by decide) (fun c3 => ?_) (fun c3 => ?_)
    · rw [if_neg c3] at h
      cases h
      refine aw_msk [false, false, false, false, false] ?_
      exact (he _ rfl).1 rfl
    · rw [if_pos c3] at h
      refine aw_iload X dX12_upside_25 rfl ?_
      refine aw_bipush (v := 7) X dX12_upside_27 (by decide) ?_
      refine aw_icmp_ne (tgt := 34) X dX12_upside_29 (by decide) (fun c4 => ?_) (fun c4 => ?_)
      · rw [if_neg c4] at h
        refine aw_bipush (v := 10) X dX12_upside_34 (by decide) ?_
        refine aw_iload_n X dX12_upside_36 rfl ?_
        refine aw_imul X dX12_upside_37 ?_
        refine aw_iload X dX12_upside_38 rfl ?_
        refine aw_bipush (v := 6) X dX12_upside_40 (by decide) ?_
        refine aw_icmp_ne (tgt := 50) X dX12_upside_42 (by decide) (fun c5 => ?_) (fun c5 => ?_)
        · rw [if_neg c5] at h
          refine aw_iload X dX12_upside_50 rfl ?_
          refine aw_bipush (v := 9) X dX12_upside_52 (by decide) ?_
          refine aw_icmp_ne (tgt := 62) X dX12_upside_54 (by decide) (fun c6 => ?_) (fun c6 => ?_)
          · rw [if_neg c6] at h
            refine aw_iload X dX12_upside_62 rfl ?_
            refine aw_msk [true, false, false, true, false] ?_
            exact jo_X12_upside_64 hfr Z X _ _ _ _ _ h hi he
          · rw [if_pos c6] at h
            refine aw_bipush (v := 6) X dX12_upside_57 (by decide) ?_
            refine aw_goto (tgt := 64) X dX12_upside_59 (by decide) ?_
            refine aw_msk [true, false, false, true, false] ?_
            exact jo_X12_upside_64 hfr Z X _ _ _ _ _ h hi he
        · rw [if_pos c5] at h
          refine aw_bipush (v := 9) X dX12_upside_45 (by decide) ?_
          refine aw_goto (tgt := 64) X dX12_upside_47 (by decide) ?_
          refine aw_msk [true, false, false, true, false] ?_
          exact jo_X12_upside_64 hfr Z X _ _ _ _ _ h hi he
      · rw [if_pos c4] at h
        cases h
        refine aw_msk [false, false, false, false, false] ?_
        exact (he _ rfl).1 rfl
set_option maxRecDepth 100000 in
set_option maxHeartbeats 4000000 in
theorem w_X12_upside {fr : Nat} (hfr : 1 ≤ fr) (Z : AZ) (X : AX Z cX12_upside 5 RX12 (some .int) 1 fr) (x1 : Int32) (s : Mem) (r : Int32 × Mem) (hz : zres Z = (some (.int r.1), r.2)) (h : f_X12_upside x1 s = some r) : AW Z s 0 [some (.ref (zr Z 0)), some (.int x1), none, none, none] [] := by
  unfold f_X12_upside at h
  refine aw_iconst (v := 0) X dX12_upside_0 (by decide) ?_
  refine aw_istore_n (L' := [some (.ref (zr Z 0)), some (.int x1), some (.int 0), none, none]) X dX12_upside_1 (by decide) rfl ?_
  refine aw_iload_n X dX12_upside_2 rfl ?_
  refine aw_istore_n (L' := [some (.ref (zr Z 0)), some (.int x1), some (.int 0), some (.int x1), none]) X dX12_upside_3 (by decide) rfl ?_
  obtain ⟨r7, er7, h⟩ := bnd h
  refine aw_msk [true, false, true, true, false] ?_
  refine it_ok (P := fun y : Int32 × Int32 × Mem => AW Z y.2.2 4 [some (.ref (zr Z 0)), none, some (.int y.1), some (.int y.2.1), none] []) (Q := fun b : Nat × Int32 × Mem => (b.1 = 0 → AW Z b.2.2 32 [none, none, none, none, none] []) ∧ (b.1 = 1 → AW Z b.2.2 74 [none, none, some (.int b.2.1), none, none] [])) (fun y q hq hi he => so_X12_upside_4 hfr Z X y.1 y.2.1 y.2.2 q hq hi he) FUEL _ _ er7 ?_
  refine ⟨fun c0 => ?_, fun c1 => ?_⟩
  · rw [if_pos c0] at h
    refine aw_iconst (v := (-1)) X dX12_upside_32 (by decide) ?_
    cases h
    exact aw_iret X dX12_upside_33 rfl hz.symm
  · rw [if_neg (by rw [c1]; decide)] at h
    refine aw_iload_n X dX12_upside_74 rfl ?_
    cases h
    exact aw_iret X dX12_upside_75 rfl hz.symm
set_option maxRecDepth 100000 in
set_option maxHeartbeats 4000000 in
theorem ok_X12_upside {x1 : Int32} {s : Mem} {r : Int32 × Mem} (h : f_X12_upside x1 s = some r) (l : Launch) (D : va_G) (ρ : Nat → Nat) (cA : ClassId × ClassId × ClassId) (τ : AT) : AM l D ρ cA 1 τ yX12_upside cX12_upside 5 (some .int) 1 [.ref (ρ 0), .int x1] (some (.int r.1)) s r.2 := by
  refine AM_of (L := [some (.ref (ρ 0)), some (.int x1), none, none, none]) (by decide) (by simp [Value.category]) (Nat.le_of_ble_eq_true rfl) (fun j v q => ?_) (fun Z X hρ hz hτ => ?_)
  · exact aL_ok (n := 3) [.ref (ρ 0), .int x1] j v q
  · subst hρ
    subst hτ
    exact w_X12_upside (Nat.le_refl _) Z X x1 s r hz h

theorem dX12_heads_0 : decode cX12_heads 0 = .ok (.aload_n 0, 1) := by decide +kernel
theorem dX12_heads_1 : decode cX12_heads 1 = .ok (.iconst 0, 1) := by decide +kernel
theorem dX12_heads_2 : decode cX12_heads 2 = .ok (.putfield 122, 3) := by decide +kernel
theorem dX12_heads_5 : decode cX12_heads 5 = .ok (.aload_n 0, 1) := by decide +kernel
theorem dX12_heads_6 : decode cX12_heads 6 = .ok (.iload_n 1, 1) := by decide +kernel
theorem dX12_heads_7 : decode cX12_heads 7 = .ok (.iconst 0, 1) := by decide +kernel
theorem dX12_heads_8 : decode cX12_heads 8 = .ok (.ldc_w 423, 3) := by decide +kernel
theorem dX12_heads_11 : decode cX12_heads 11 = .ok (.invokevirtual 137, 3) := by decide +kernel
theorem dX12_heads_14 : decode cX12_heads 14 = .ok (.ifCond .eq 13, 3) := by decide +kernel
theorem dX12_heads_17 : decode cX12_heads 17 = .ok (.aload_n 0, 1) := by decide +kernel
theorem dX12_heads_18 : decode cX12_heads 18 = .ok (.iload_n 2, 1) := by decide +kernel
theorem dX12_heads_19 : decode cX12_heads 19 = .ok (.iconst 0, 1) := by decide +kernel
theorem dX12_heads_20 : decode cX12_heads 20 = .ok (.iconst 2, 1) := by decide +kernel
theorem dX12_heads_21 : decode cX12_heads 21 = .ok (.invokevirtual 137, 3) := by decide +kernel
theorem dX12_heads_24 : decode cX12_heads 24 = .ok (.ifCond .ne 5, 3) := by decide +kernel
theorem dX12_heads_27 : decode cX12_heads 27 = .ok (.iconst (-1), 1) := by decide +kernel
theorem dX12_heads_28 : decode cX12_heads 28 = .ok (.ireturn, 1) := by decide +kernel
theorem dX12_heads_29 : decode cX12_heads 29 = .ok (.iload_n 2, 1) := by decide +kernel
theorem dX12_heads_30 : decode cX12_heads 30 = .ok (.ifCond .ne 9, 3) := by decide +kernel
theorem dX12_heads_33 : decode cX12_heads 33 = .ok (.aload_n 0, 1) := by decide +kernel
theorem dX12_heads_34 : decode cX12_heads 34 = .ok (.iload_n 1, 1) := by decide +kernel
theorem dX12_heads_35 : decode cX12_heads 35 = .ok (.invokevirtual 424, 3) := by decide +kernel
theorem dX12_heads_38 : decode cX12_heads 38 = .ok (.ireturn, 1) := by decide +kernel
theorem dX12_heads_39 : decode cX12_heads 39 = .ok (.iload_n 2, 1) := by decide +kernel
theorem dX12_heads_40 : decode cX12_heads 40 = .ok (.iconst 1, 1) := by decide +kernel
theorem dX12_heads_41 : decode cX12_heads 41 = .ok (.if_icmp .ne 25, 3) := by decide +kernel
theorem dX12_heads_44 : decode cX12_heads 44 = .ok (.iload_n 1, 1) := by decide +kernel
theorem dX12_heads_45 : decode cX12_heads 45 = .ok (.iconst 1, 1) := by decide +kernel
theorem dX12_heads_46 : decode cX12_heads 46 = .ok (.iadd, 1) := by decide +kernel
theorem dX12_heads_47 : decode cX12_heads 47 = .ok (.istore_n 3, 1) := by decide +kernel
theorem dX12_heads_48 : decode cX12_heads 48 = .ok (.aload_n 0, 1) := by decide +kernel
theorem dX12_heads_49 : decode cX12_heads 49 = .ok (.iload_n 3, 1) := by decide +kernel
theorem dX12_heads_50 : decode cX12_heads 50 = .ok (.invokevirtual 424, 3) := by decide +kernel
theorem dX12_heads_53 : decode cX12_heads 53 = .ok (.iload_n 3, 1) := by decide +kernel
theorem dX12_heads_54 : decode cX12_heads 54 = .ok (.if_icmp .eq 10, 3) := by decide +kernel
theorem dX12_heads_57 : decode cX12_heads 57 = .ok (.iload_n 3, 1) := by decide +kernel
theorem dX12_heads_58 : decode cX12_heads 58 = .ok (.iconst 1, 1) := by decide +kernel
theorem dX12_heads_59 : decode cX12_heads 59 = .ok (.iadd, 1) := by decide +kernel
theorem dX12_heads_60 : decode cX12_heads 60 = .ok (.istore_n 3, 1) := by decide +kernel
theorem dX12_heads_61 : decode cX12_heads 61 = .ok (.goto (-13), 3) := by decide +kernel
theorem dX12_heads_64 : decode cX12_heads 64 = .ok (.iload_n 3, 1) := by decide +kernel
theorem dX12_heads_65 : decode cX12_heads 65 = .ok (.ireturn, 1) := by decide +kernel
theorem dX12_heads_66 : decode cX12_heads 66 = .ok (.iconst 0, 1) := by decide +kernel
theorem dX12_heads_67 : decode cX12_heads 67 = .ok (.istore_n 3, 1) := by decide +kernel
theorem dX12_heads_68 : decode cX12_heads 68 = .ok (.iconst 0, 1) := by decide +kernel
theorem dX12_heads_69 : decode cX12_heads 69 = .ok (.istore 4, 2) := by decide +kernel
theorem dX12_heads_71 : decode cX12_heads 71 = .ok (.iload 4, 2) := by decide +kernel
theorem dX12_heads_73 : decode cX12_heads 73 = .ok (.iload_n 1, 1) := by decide +kernel
theorem dX12_heads_74 : decode cX12_heads 74 = .ok (.if_icmp .gt 24, 3) := by decide +kernel
theorem dX12_heads_77 : decode cX12_heads 77 = .ok (.aload_n 0, 1) := by decide +kernel
theorem dX12_heads_78 : decode cX12_heads 78 = .ok (.iload 4, 2) := by decide +kernel
theorem dX12_heads_80 : decode cX12_heads 80 = .ok (.invokevirtual 424, 3) := by decide +kernel
theorem dX12_heads_83 : decode cX12_heads 83 = .ok (.iload 4, 2) := by decide +kernel
theorem dX12_heads_85 : decode cX12_heads 85 = .ok (.if_icmp .ne 7, 3) := by decide +kernel
theorem dX12_heads_88 : decode cX12_heads 88 = .ok (.iload_n 3, 1) := by decide +kernel
theorem dX12_heads_89 : decode cX12_heads 89 = .ok (.iconst 1, 1) := by decide +kernel
theorem dX12_heads_90 : decode cX12_heads 90 = .ok (.iadd, 1) := by decide +kernel
theorem dX12_heads_91 : decode cX12_heads 91 = .ok (.istore_n 3, 1) := by decide +kernel
theorem dX12_heads_92 : decode cX12_heads 92 = .ok (.iinc 4 1, 3) := by decide +kernel
theorem dX12_heads_95 : decode cX12_heads 95 = .ok (.goto (-24), 3) := by decide +kernel
theorem dX12_heads_98 : decode cX12_heads 98 = .ok (.iload_n 3, 1) := by decide +kernel
theorem dX12_heads_99 : decode cX12_heads 99 = .ok (.ireturn, 1) := by decide +kernel
set_option maxRecDepth 100000 in
set_option maxHeartbeats 4000000 in
theorem so_X12_heads_71 {fr : Nat} (hfr : 2 ≤ fr) (Z : AZ) (X : AX Z cX12_heads 5 RX12 (some .int) 1 fr) (x1 : Int32) (x3 : Int32) (x4 : Int32) (s : Mem) (q : (Int32 × Int32 × Mem) ⊕ (Int32 × Mem)) (h : st_X12_heads_71 x1 x3 x4 s = some q) (hi : ∀ y : Int32 × Int32 × Mem, q = .inl y → AW Z y.2.2 71 [some (.ref (zr Z 0)), some (.int x1), none, some (.int y.1), some (.int y.2.1)] []) (he : ∀ b : Int32 × Mem, q = .inr b → AW Z b.2 98 [none, none, none, some (.int b.1), none] []) : AW Z s 71 [some (.ref (zr Z 0)), some (.int x1), none, some (.int x3), some (.int x4)] [] := by
  unfold st_X12_heads_71 at h
  refine aw_iload X dX12_heads_71 rfl ?_
  refine aw_iload_n X dX12_heads_73 rfl ?_
  refine aw_icmp_gt (tgt := 98) X dX12_heads_74 (by decide) (fun c7 => ?_) (fun c7 => ?_)
  · rw [if_pos c7] at h
    cases h
    refine aw_msk [false, false, false, true, false] ?_
    exact he _ rfl
  · rw [if_neg c7] at h
    refine aw_aload_n X dX12_heads_77 rfl ?_
    refine aw_iload X dX12_heads_78 rfl ?_
    obtain ⟨r8, er8, h⟩ := bnd h
    refine aw_callV X dX12_heads_80 cv_RX12_424 (ok_X12_upside er8 _ _ _ _ _) iu_RX12 rfl (Nat.le_trans (by decide) hfr) (by decide) rfl rfl (Nat.le_of_ble_eq_true rfl) ?_
    refine aw_iload X dX12_heads_83 rfl ?_
    refine aw_icmp_ne (tgt := 92) X dX12_heads_85 (by decide) (fun c9 => ?_) (fun c9 => ?_)
    · rw [if_neg c9] at h
      refine aw_iinc (v := (x4 + 1)) (L' := [some (.ref (zr Z 0)), some (.int x1), none, some (.int x3), some (.int (x4 + 1))]) X dX12_heads_92 rfl rfl (by decide) rfl ?_
      refine aw_goto (tgt := 71) X dX12_heads_95 (by decide) ?_
      cases h
      refine aw_msk [true, true, false, true, true] ?_
      exact hi _ rfl
    · rw [if_pos c9] at h
      refine aw_iload_n X dX12_heads_88 rfl ?_
      refine aw_iconst (v := 1) X dX12_heads_89 (by decide) ?_
      refine aw_iadd X dX12_heads_90 ?_
      refine aw_istore_n (L' := [some (.ref (zr Z 0)), some (.int x1), none, some (.int (x3 + 1)), some (.int x4)]) X dX12_heads_91 (by decide) rfl ?_
      refine aw_iinc (v := (x4 + 1)) (L' := [some (.ref (zr Z 0)), some (.int x1), none, some (.int (x3 + 1)), some (.int (x4 + 1))]) X dX12_heads_92 rfl rfl (by decide) rfl ?_
      refine aw_goto (tgt := 71) X dX12_heads_95 (by decide) ?_
      cases h
      refine aw_msk [true, true, false, true, true] ?_
      exact hi _ rfl
set_option maxRecDepth 100000 in
set_option maxHeartbeats 4000000 in
theorem so_X12_heads_48 {fr : Nat} (hfr : 2 ≤ fr) (Z : AZ) (X : AX Z cX12_heads 5 RX12 (some .int) 1 fr) (x3 : Int32) (s : Mem) (q : (Int32 × Mem) ⊕ (Int32 × Mem)) (h : st_X12_heads_48 x3 s = some q) (hi : ∀ y : Int32 × Mem, q = .inl y → AW Z y.2 48 [some (.ref (zr Z 0)), none, none, some (.int y.1), none] []) (he : ∀ b : Int32 × Mem, q = .inr b → AW Z b.2 64 [none, none, none, some (.int b.1), none] []) : AW Z s 48 [some (.ref (zr Z 0)), none, none, some (.int x3), none] [] := by
  unfold st_X12_heads_48 at h
  refine aw_aload_n X dX12_heads_48 rfl ?_
  refine aw_iload_n X dX12_heads_49 rfl ?_
  obtain ⟨r11, er11, h⟩ := bnd h
  refine aw_callV X dX12_heads_50 cv_RX12_424 (ok_X12_upside er11 _ _ _ _ _) iu_RX12 rfl (Nat.le_trans (by decide) hfr) (by decide) rfl rfl (Nat.le_of_ble_eq_true rfl) ?_
  refine aw_iload_n X dX12_heads_53 rfl ?_
  refine aw_icmp_eq (tgt := 64) X dX12_heads_54 (by decide) (fun c12 => ?_) (fun c12 => ?_)
  · rw [if_pos c12] at h
    cases h
    refine aw_msk [false, false, false, true, false] ?_
    exact he _ rfl
  · rw [if_neg c12] at h
    refine aw_iload_n X dX12_heads_57 rfl ?_
    refine aw_iconst (v := 1) X dX12_heads_58 (by decide) ?_
    refine aw_iadd X dX12_heads_59 ?_
    refine aw_istore_n (L' := [some (.ref (zr Z 0)), none, none, some (.int (x3 + 1)), none]) X dX12_heads_60 (by decide) rfl ?_
    refine aw_goto (tgt := 48) X dX12_heads_61 (by decide) ?_
    cases h
    refine aw_msk [true, false, false, true, false] ?_
    exact hi _ rfl
set_option maxRecDepth 100000 in
set_option maxHeartbeats 4000000 in
theorem w_X12_heads {fr : Nat} (hfr : 2 ≤ fr) (Z : AZ) (X : AX Z cX12_heads 5 RX12 (some .int) 1 fr) (x1 : Int32) (x2 : Int32) (s : Mem) (r : Int32 × Mem) (hz : zres Z = (some (.int r.1), r.2)) (h : f_X12_heads x1 x2 s = some r) : AW Z s 0 [some (.ref (zr Z 0)), some (.int x1), some (.int x2), none, none] [] := by
  unfold f_X12_heads at h
  refine aw_aload_n X dX12_heads_0 rfl ?_
  refine aw_iconst (v := 0) X dX12_heads_1 (by decide) ?_
  refine aw_put X dX12_heads_2 fp_RX12_122 iu_RX12 gu_RX12_0 rfl rfl ?_
  refine aw_aload_n X dX12_heads_5 rfl ?_
  refine aw_iload_n X dX12_heads_6 rfl ?_
  refine aw_iconst (v := 0) X dX12_heads_7 (by decide) ?_
  refine aw_ldcw X dX12_heads_8 kc_RX12_423 ?_
  obtain ⟨r1, er1, h⟩ := bnd h
  refine aw_callV X dX12_heads_11 cv_RX12_137 (ok_X12_isIn er1 _ _ _ _ _) iu_RX12 rfl (Nat.le_trans (by decide) hfr) (by decide) rfl rfl (Nat.le_of_ble_eq_true rfl) ?_
  refine aw_if_eq (tgt := 27) X dX12_heads_14 (by decide) (fun c2 => ?_) (fun c2 => ?_)
  · rw [if_pos c2] at h
    refine aw_iconst (v := (-1)) X dX12_heads_27 (by decide) ?_
    cases h
    exact aw_iret X dX12_heads_28 rfl hz.symm
  · rw [if_neg c2] at h
    refine aw_aload_n X dX12_heads_17 rfl ?_
    refine aw_iload_n X dX12_heads_18 rfl ?_
    refine aw_iconst (v := 0) X dX12_heads_19 (by decide) ?_
    refine aw_iconst (v := 2) X dX12_heads_20 (by decide) ?_
    obtain ⟨r3, er3, h⟩ := bnd h
    refine aw_callV X dX12_heads_21 cv_RX12_137 (ok_X12_isIn er3 _ _ _ _ _) iu_RX12 rfl (Nat.le_trans (by decide) hfr) (by decide) rfl rfl (Nat.le_of_ble_eq_true rfl) ?_
    refine aw_if_ne (tgt := 29) X dX12_heads_24 (by decide) (fun c4 => ?_) (fun c4 => ?_)
    · rw [if_neg c4] at h
      refine aw_iload_n X dX12_heads_29 rfl ?_
      refine aw_if_ne (tgt := 39) X dX12_heads_30 (by decide) (fun c5 => ?_) (fun c5 => ?_)
      · rw [if_neg c5] at h
        refine aw_iload_n X dX12_heads_39 rfl ?_
        refine aw_iconst (v := 1) X dX12_heads_40 (by decide) ?_
        refine aw_icmp_ne (tgt := 66) X dX12_heads_41 (by decide) (fun c6 => ?_) (fun c6 => ?_)
        · rw [if_neg c6] at h
          refine aw_iconst (v := 0) X dX12_heads_66 (by decide) ?_
          refine aw_istore_n (L' := [some (.ref (zr Z 0)), some (.int x1), some (.int x2), some (.int 0), none]) X dX12_heads_67 (by decide) rfl ?_
          refine aw_iconst (v := 0) X dX12_heads_68 (by decide) ?_
          refine aw_istore (L' := [some (.ref (zr Z 0)), some (.int x1), some (.int x2), some (.int 0), some (.int 0)]) X dX12_heads_69 (by decide) rfl ?_
          obtain ⟨r10, er10, h⟩ := bnd h
          refine aw_msk [true, true, false, true, true] ?_
          refine it_ok (P := fun y : Int32 × Int32 × Mem => AW Z y.2.2 71 [some (.ref (zr Z 0)), some (.int x1), none, some (.int y.1), some (.int y.2.1)] []) (Q := fun b : Int32 × Mem => AW Z b.2 98 [none, none, none, some (.int b.1), none] []) (fun y q hq hi he => so_X12_heads_71 hfr Z X x1 y.1 y.2.1 y.2.2 q hq hi he) FUEL _ _ er10 ?_
          refine aw_iload_n X dX12_heads_98 rfl ?_
          cases h
          exact aw_iret X dX12_heads_99 rfl hz.symm
        · rw [if_pos c6] at h
          refine aw_iload_n X dX12_heads_44 rfl ?_
          refine aw_iconst (v := 1) X dX12_heads_45 (by decide) ?_
          refine aw_iadd X dX12_heads_46 ?_
          refine aw_istore_n (L' := [some (.ref (zr Z 0)), some (.int x1), some (.int x2), some (.int (x1 + 1)), none]) X dX12_heads_47 (by decide) rfl ?_
          obtain ⟨r13, er13, h⟩ := bnd h
          refine aw_msk [true, false, false, true, false] ?_
          refine it_ok (P := fun y : Int32 × Mem => AW Z y.2 48 [some (.ref (zr Z 0)), none, none, some (.int y.1), none] []) (Q := fun b : Int32 × Mem => AW Z b.2 64 [none, none, none, some (.int b.1), none] []) (fun y q hq hi he => so_X12_heads_48 hfr Z X y.1 y.2 q hq hi he) FUEL _ _ er13 ?_
          refine aw_iload_n X dX12_heads_64 rfl ?_
          cases h
          exact aw_iret X dX12_heads_65 rfl hz.symm
      · rw [if_pos c5] at h
        refine aw_aload_n X dX12_heads_33 rfl ?_
        refine aw_iload_n X dX12_heads_34 rfl ?_
        obtain ⟨r14, er14, h⟩ := bnd h
        refine aw_callV X dX12_heads_35 cv_RX12_424 (ok_X12_upside er14 _ _ _ _ _) iu_RX12 rfl (Nat.le_trans (by decide) hfr) (by decide) rfl rfl (Nat.le_of_ble_eq_true rfl) ?_
        cases h
        exact aw_iret X dX12_heads_38 rfl hz.symm
    · rw [if_pos c4] at h
      refine aw_iconst (v := (-1)) X dX12_heads_27 (by decide) ?_
      cases h
      exact aw_iret X dX12_heads_28 rfl hz.symm
set_option maxRecDepth 100000 in
set_option maxHeartbeats 4000000 in
theorem ok_X12_heads {x1 x2 : Int32} {s : Mem} {r : Int32 × Mem} (h : f_X12_heads x1 x2 s = some r) (l : Launch) (D : va_G) (ρ : Nat → Nat) (cA : ClassId × ClassId × ClassId) (τ : AT) : AM l D ρ cA 1 τ yX12_heads cX12_heads 5 (some .int) 2 [.ref (ρ 0), .int x1, .int x2] (some (.int r.1)) s r.2 := by
  refine AM_of (L := [some (.ref (ρ 0)), some (.int x1), some (.int x2), none, none]) (by decide) (by simp [Value.category]) (Nat.le_of_ble_eq_true rfl) (fun j v q => ?_) (fun Z X hρ hz hτ => ?_)
  · exact aL_ok (n := 2) [.ref (ρ 0), .int x1, .int x2] j v q
  · subst hρ
    subst hτ
    exact w_X12_heads (Nat.le_refl _) Z X x1 x2 s r hz h

theorem dX12_said_0 : decode cX12_said 0 = .ok (.aload_n 0, 1) := by decide +kernel
theorem dX12_said_1 : decode cX12_said 1 = .ok (.iconst 0, 1) := by decide +kernel
theorem dX12_said_2 : decode cX12_said 2 = .ok (.putfield 122, 3) := by decide +kernel
theorem dX12_said_5 : decode cX12_said 5 = .ok (.aload_n 0, 1) := by decide +kernel
theorem dX12_said_6 : decode cX12_said 6 = .ok (.iload_n 1, 1) := by decide +kernel
theorem dX12_said_7 : decode cX12_said 7 = .ok (.iconst 1, 1) := by decide +kernel
theorem dX12_said_8 : decode cX12_said 8 = .ok (.sipush 9999, 3) := by decide +kernel
theorem dX12_said_11 : decode cX12_said 11 = .ok (.invokevirtual 137, 3) := by decide +kernel
theorem dX12_said_14 : decode cX12_said 14 = .ok (.ifCond .eq 14, 3) := by decide +kernel
theorem dX12_said_17 : decode cX12_said 17 = .ok (.aload_n 0, 1) := by decide +kernel
theorem dX12_said_18 : decode cX12_said 18 = .ok (.iload_n 2, 1) := by decide +kernel
theorem dX12_said_19 : decode cX12_said 19 = .ok (.iconst 0, 1) := by decide +kernel
theorem dX12_said_20 : decode cX12_said 20 = .ok (.bipush 9, 2) := by decide +kernel
theorem dX12_said_22 : decode cX12_said 22 = .ok (.invokevirtual 137, 3) := by decide +kernel
theorem dX12_said_25 : decode cX12_said 25 = .ok (.ifCond .ne 5, 3) := by decide +kernel
theorem dX12_said_28 : decode cX12_said 28 = .ok (.iconst (-1), 1) := by decide +kernel
theorem dX12_said_29 : decode cX12_said 29 = .ok (.ireturn, 1) := by decide +kernel
theorem dX12_said_30 : decode cX12_said 30 = .ok (.iconst 0, 1) := by decide +kernel
theorem dX12_said_31 : decode cX12_said 31 = .ok (.istore_n 3, 1) := by decide +kernel
theorem dX12_said_32 : decode cX12_said 32 = .ok (.iconst 1, 1) := by decide +kernel
theorem dX12_said_33 : decode cX12_said 33 = .ok (.istore 4, 2) := by decide +kernel
theorem dX12_said_35 : decode cX12_said 35 = .ok (.iload 4, 2) := by decide +kernel
theorem dX12_said_37 : decode cX12_said 37 = .ok (.iload_n 1, 1) := by decide +kernel
theorem dX12_said_38 : decode cX12_said 38 = .ok (.if_icmp .gt 41, 3) := by decide +kernel
theorem dX12_said_41 : decode cX12_said 41 = .ok (.iload 4, 2) := by decide +kernel
theorem dX12_said_43 : decode cX12_said 43 = .ok (.istore 5, 2) := by decide +kernel
theorem dX12_said_45 : decode cX12_said 45 = .ok (.iload 5, 2) := by decide +kernel
theorem dX12_said_47 : decode cX12_said 47 = .ok (.ifCond .le 26, 3) := by decide +kernel
theorem dX12_said_50 : decode cX12_said 50 = .ok (.iload 5, 2) := by decide +kernel
theorem dX12_said_52 : decode cX12_said 52 = .ok (.bipush 10, 2) := by decide +kernel
theorem dX12_said_54 : decode cX12_said 54 = .ok (.irem, 1) := by decide +kernel
theorem dX12_said_55 : decode cX12_said 55 = .ok (.iload_n 2, 1) := by decide +kernel
theorem dX12_said_56 : decode cX12_said 56 = .ok (.if_icmp .ne 7, 3) := by decide +kernel
theorem dX12_said_59 : decode cX12_said 59 = .ok (.iload_n 3, 1) := by decide +kernel
theorem dX12_said_60 : decode cX12_said 60 = .ok (.iconst 1, 1) := by decide +kernel
theorem dX12_said_61 : decode cX12_said 61 = .ok (.iadd, 1) := by decide +kernel
theorem dX12_said_62 : decode cX12_said 62 = .ok (.istore_n 3, 1) := by decide +kernel
theorem dX12_said_63 : decode cX12_said 63 = .ok (.iload 5, 2) := by decide +kernel
theorem dX12_said_65 : decode cX12_said 65 = .ok (.bipush 10, 2) := by decide +kernel
theorem dX12_said_67 : decode cX12_said 67 = .ok (.idiv, 1) := by decide +kernel
theorem dX12_said_68 : decode cX12_said 68 = .ok (.istore 5, 2) := by decide +kernel
theorem dX12_said_70 : decode cX12_said 70 = .ok (.goto (-25), 3) := by decide +kernel
theorem dX12_said_73 : decode cX12_said 73 = .ok (.iinc 4 1, 3) := by decide +kernel
theorem dX12_said_76 : decode cX12_said 76 = .ok (.goto (-41), 3) := by decide +kernel
theorem dX12_said_79 : decode cX12_said 79 = .ok (.iload_n 3, 1) := by decide +kernel
theorem dX12_said_80 : decode cX12_said 80 = .ok (.ireturn, 1) := by decide +kernel
set_option maxRecDepth 100000 in
set_option maxHeartbeats 4000000 in
theorem so_X12_said_45 {fr : Nat} (hfr : 1 ≤ fr) (Z : AZ) (X : AX Z cX12_said 6 RX12 (some .int) 1 fr) (x1 : Int32) (x2 : Int32) (x4 : Int32) (x3 : Int32) (x5 : Int32) (s : Mem) (q : (Int32 × Int32 × Mem) ⊕ (Int32 × Mem)) (h : st_X12_said_45 x1 x2 x4 x3 x5 s = some q) (hi : ∀ y : Int32 × Int32 × Mem, q = .inl y → AW Z y.2.2 45 [none, some (.int x1), some (.int x2), some (.int y.1), some (.int x4), some (.int y.2.1)] []) (he : ∀ b : Int32 × Mem, q = .inr b → AW Z b.2 73 [none, some (.int x1), some (.int x2), some (.int b.1), some (.int x4), none] []) : AW Z s 45 [none, some (.int x1), some (.int x2), some (.int x3), some (.int x4), some (.int x5)] [] := by
  unfold st_X12_said_45 at h
  refine aw_iload X dX12_said_45 rfl ?_
  refine aw_if_le (tgt := 73) X dX12_said_47 (by decide) (fun c6 => ?_) (fun c6 => ?_)
  · rw [if_pos c6] at h
    cases h
    refine aw_msk [false, true, true, true, true, false] ?_
    exact he _ rfl
  · rw [if_neg c6] at h
    refine aw_iload X dX12_said_50 rfl ?_
    refine aw_bipush (v := 10) X dX12_said_52 (by decide) ?_
    refine aw_irem X dX12_said_54 (by decide) ?_
    refine aw_iload_n X dX12_said_55 rfl ?_
    refine aw_icmp_ne (tgt := 63) X dX12_said_56 (by decide) (fun c7 => ?_) (fun c7 => ?_)
    · rw [if_neg c7] at h
      refine aw_iload X dX12_said_63 rfl ?_
      refine aw_bipush (v := 10) X dX12_said_65 (by decide) ?_
      refine aw_idiv X dX12_said_67 (by decide) ?_
      refine aw_istore (L' := [none, some (.int x1), some (.int x2), some (.int x3), some (.int x4), some (.int (x5 / 10))]) X dX12_said_68 (by decide) rfl ?_
      refine aw_goto (tgt := 45) X dX12_said_70 (by decide) ?_
      cases h
      refine aw_msk [false, true, true, true, true, true] ?_
      exact hi _ rfl
    · rw [if_pos c7] at h
      refine aw_iload_n X dX12_said_59 rfl ?_
      refine aw_iconst (v := 1) X dX12_said_60 (by decide) ?_
      refine aw_iadd X dX12_said_61 ?_
      refine aw_istore_n (L' := [none, some (.int x1), some (.int x2), some (.int (x3 + 1)), some (.int x4), some (.int x5)]) X dX12_said_62 (by decide) rfl ?_
      refine aw_iload X dX12_said_63 rfl ?_
      refine aw_bipush (v := 10) X dX12_said_65 (by decide) ?_
      refine aw_idiv X dX12_said_67 (by decide) ?_
      refine aw_istore (L' := [none, some (.int x1), some (.int x2), some (.int (x3 + 1)), some (.int x4), some (.int (x5 / 10))]) X dX12_said_68 (by decide) rfl ?_
      refine aw_goto (tgt := 45) X dX12_said_70 (by decide) ?_
      cases h
      refine aw_msk [false, true, true, true, true, true] ?_
      exact hi _ rfl
set_option maxRecDepth 100000 in
set_option maxHeartbeats 4000000 in
theorem so_X12_said_35 {fr : Nat} (hfr : 1 ≤ fr) (Z : AZ) (X : AX Z cX12_said 6 RX12 (some .int) 1 fr) (x1 : Int32) (x2 : Int32) (x3 : Int32) (x4 : Int32) (s : Mem) (q : (Int32 × Int32 × Mem) ⊕ (Int32 × Mem)) (h : st_X12_said_35 x1 x2 x3 x4 s = some q) (hi : ∀ y : Int32 × Int32 × Mem, q = .inl y → AW Z y.2.2 35 [none, some (.int x1), some (.int x2), some (.int y.1), some (.int y.2.1), none] []) (he : ∀ b : Int32 × Mem, q = .inr b → AW Z b.2 79 [none, none, none, some (.int b.1), none, none] []) : AW Z s 35 [none, some (.int x1), some (.int x2), some (.int x3), some (.int x4), none] [] := by
  unfold st_X12_said_35 at h
  refine aw_iload X dX12_said_35 rfl ?_
  refine aw_iload_n X dX12_said_37 rfl ?_
  refine aw_icmp_gt (tgt := 79) X dX12_said_38 (by decide) (fun c5 => ?_) (fun c5 => ?_)
  · rw [if_pos c5] at h
    cases h
    refine aw_msk [false, false, false, true, false, false] ?_
    exact he _ rfl
  · rw [if_neg c5] at h
    refine aw_iload X dX12_said_41 rfl ?_
    refine aw_istore (L' := [none, some (.int x1), some (.int x2), some (.int x3), some (.int x4), some (.int x4)]) X dX12_said_43 (by decide) rfl ?_
    obtain ⟨r8, er8, h⟩ := bnd h
    refine aw_msk [false, true, true, true, true, true] ?_
    refine it_ok (P := fun y : Int32 × Int32 × Mem => AW Z y.2.2 45 [none, some (.int x1), some (.int x2), some (.int y.1), some (.int x4), some (.int y.2.1)] []) (Q := fun b : Int32 × Mem => AW Z b.2 73 [none, some (.int x1), some (.int x2), some (.int b.1), some (.int x4), none] []) (fun y q hq hi he => so_X12_said_45 hfr Z X x1 x2 x4 y.1 y.2.1 y.2.2 q hq hi he) FUEL _ _ er8 ?_
    refine aw_iinc (v := (x4 + 1)) (L' := [none, some (.int x1), some (.int x2), some (.int r8.1), some (.int (x4 + 1)), none]) X dX12_said_73 rfl rfl (by decide) rfl ?_
    refine aw_goto (tgt := 35) X dX12_said_76 (by decide) ?_
    cases h
    refine aw_msk [false, true, true, true, true, false] ?_
    exact hi _ rfl
set_option maxRecDepth 100000 in
set_option maxHeartbeats 4000000 in
theorem w_X12_said {fr : Nat} (hfr : 1 ≤ fr) (Z : AZ) (X : AX Z cX12_said 6 RX12 (some .int) 1 fr) (x1 : Int32) (x2 : Int32) (s : Mem) (r : Int32 × Mem) (hz : zres Z = (some (.int r.1), r.2)) (h : f_X12_said x1 x2 s = some r) : AW Z s 0 [some (.ref (zr Z 0)), some (.int x1), some (.int x2), none, none, none] [] := by
  unfold f_X12_said at h
  refine aw_aload_n X dX12_said_0 rfl ?_
  refine aw_iconst (v := 0) X dX12_said_1 (by decide) ?_
  refine aw_put X dX12_said_2 fp_RX12_122 iu_RX12 gu_RX12_0 rfl rfl ?_
  refine aw_aload_n X dX12_said_5 rfl ?_
  refine aw_iload_n X dX12_said_6 rfl ?_
  refine aw_iconst (v := 1) X dX12_said_7 (by decide) ?_
  refine aw_sipush (v := 9999) X dX12_said_8 (by decide) ?_
  obtain ⟨r1, er1, h⟩ := bnd h
  refine aw_callV X dX12_said_11 cv_RX12_137 (ok_X12_isIn er1 _ _ _ _ _) iu_RX12 rfl (Nat.le_trans (by decide) hfr) (by decide) rfl rfl (Nat.le_of_ble_eq_true rfl) ?_
  refine aw_if_eq (tgt := 28) X dX12_said_14 (by decide) (fun c2 => ?_) (fun c2 => ?_)
  · rw [if_pos c2] at h
    refine aw_iconst (v := (-1)) X dX12_said_28 (by decide) ?_
    cases h
    exact aw_iret X dX12_said_29 rfl hz.symm
  · rw [if_neg c2] at h
    refine aw_aload_n X dX12_said_17 rfl ?_
    refine aw_iload_n X dX12_said_18 rfl ?_
    refine aw_iconst (v := 0) X dX12_said_19 (by decide) ?_
    refine aw_bipush (v := 9) X dX12_said_20 (by decide) ?_
    obtain ⟨r3, er3, h⟩ := bnd h
    refine aw_callV X dX12_said_22 cv_RX12_137 (ok_X12_isIn er3 _ _ _ _ _) iu_RX12 rfl (Nat.le_trans (by decide) hfr) (by decide) rfl rfl (Nat.le_of_ble_eq_true rfl) ?_
    refine aw_if_ne (tgt := 30) X dX12_said_25 (by decide) (fun c4 => ?_) (fun c4 => ?_)
    · rw [if_neg c4] at h
      refine aw_iconst (v := 0) X dX12_said_30 (by decide) ?_
      refine aw_istore_n (L' := [some (.ref (zr Z 0)), some (.int x1), some (.int x2), some (.int 0), none, none]) X dX12_said_31 (by decide) rfl ?_
      refine aw_iconst (v := 1) X dX12_said_32 (by decide) ?_
      refine aw_istore (L' := [some (.ref (zr Z 0)), some (.int x1), some (.int x2), some (.int 0), some (.int 1), none]) X dX12_said_33 (by decide) rfl ?_
      obtain ⟨r9, er9, h⟩ := bnd h
      refine aw_msk [false, true, true, true, true, false] ?_
      refine it_ok (P := fun y : Int32 × Int32 × Mem => AW Z y.2.2 35 [none, some (.int x1), some (.int x2), some (.int y.1), some (.int y.2.1), none] []) (Q := fun b : Int32 × Mem => AW Z b.2 79 [none, none, none, some (.int b.1), none, none] []) (fun y q hq hi he => so_X12_said_35 hfr Z X x1 x2 y.1 y.2.1 y.2.2 q hq hi he) FUEL _ _ er9 ?_
      refine aw_iload_n X dX12_said_79 rfl ?_
      cases h
      exact aw_iret X dX12_said_80 rfl hz.symm
    · rw [if_pos c4] at h
      refine aw_iconst (v := (-1)) X dX12_said_28 (by decide) ?_
      cases h
      exact aw_iret X dX12_said_29 rfl hz.symm
set_option maxRecDepth 100000 in
set_option maxHeartbeats 4000000 in
theorem ok_X12_said {x1 x2 : Int32} {s : Mem} {r : Int32 × Mem} (h : f_X12_said x1 x2 s = some r) (l : Launch) (D : va_G) (ρ : Nat → Nat) (cA : ClassId × ClassId × ClassId) (τ : AT) : AM l D ρ cA 1 τ yX12_said cX12_said 6 (some .int) 1 [.ref (ρ 0), .int x1, .int x2] (some (.int r.1)) s r.2 := by
  refine AM_of (L := [some (.ref (ρ 0)), some (.int x1), some (.int x2), none, none, none]) (by decide) (by simp [Value.category]) (Nat.le_of_ble_eq_true rfl) (fun j v q => ?_) (fun Z X hρ hz hτ => ?_)
  · exact aL_ok (n := 3) [.ref (ρ 0), .int x1, .int x2] j v q
  · subst hρ
    subst hτ
    exact w_X12_said (Nat.le_refl _) Z X x1 x2 s r hz h

theorem dX12_digit_0 : decode cX12_digit 0 = .ok (.aload_n 0, 1) := by decide +kernel
theorem dX12_digit_1 : decode cX12_digit 1 = .ok (.iconst 0, 1) := by decide +kernel
theorem dX12_digit_2 : decode cX12_digit 2 = .ok (.putfield 122, 3) := by decide +kernel
theorem dX12_digit_5 : decode cX12_digit 5 = .ok (.aload_n 0, 1) := by decide +kernel
theorem dX12_digit_6 : decode cX12_digit 6 = .ok (.iload_n 1, 1) := by decide +kernel
theorem dX12_digit_7 : decode cX12_digit 7 = .ok (.iconst 1, 1) := by decide +kernel
theorem dX12_digit_8 : decode cX12_digit 8 = .ok (.sipush 9999, 3) := by decide +kernel
theorem dX12_digit_11 : decode cX12_digit 11 = .ok (.invokevirtual 137, 3) := by decide +kernel
theorem dX12_digit_14 : decode cX12_digit 14 = .ok (.ifCond .eq 7, 3) := by decide +kernel
theorem dX12_digit_17 : decode cX12_digit 17 = .ok (.iload_n 2, 1) := by decide +kernel
theorem dX12_digit_18 : decode cX12_digit 18 = .ok (.ifCond .ge 5, 3) := by decide +kernel
theorem dX12_digit_21 : decode cX12_digit 21 = .ok (.iconst (-1), 1) := by decide +kernel
theorem dX12_digit_22 : decode cX12_digit 22 = .ok (.ireturn, 1) := by decide +kernel
theorem dX12_digit_23 : decode cX12_digit 23 = .ok (.iload_n 2, 1) := by decide +kernel
theorem dX12_digit_24 : decode cX12_digit 24 = .ok (.istore_n 3, 1) := by decide +kernel
theorem dX12_digit_25 : decode cX12_digit 25 = .ok (.iconst 1, 1) := by decide +kernel
theorem dX12_digit_26 : decode cX12_digit 26 = .ok (.istore 4, 2) := by decide +kernel
theorem dX12_digit_28 : decode cX12_digit 28 = .ok (.iload 4, 2) := by decide +kernel
theorem dX12_digit_30 : decode cX12_digit 30 = .ok (.iload_n 1, 1) := by decide +kernel
theorem dX12_digit_31 : decode cX12_digit 31 = .ok (.if_icmp .gt 95, 3) := by decide +kernel
theorem dX12_digit_34 : decode cX12_digit 34 = .ok (.iload 4, 2) := by decide +kernel
theorem dX12_digit_36 : decode cX12_digit 36 = .ok (.bipush 10, 2) := by decide +kernel
theorem dX12_digit_38 : decode cX12_digit 38 = .ok (.if_icmp .ge 7, 3) := by decide +kernel
theorem dX12_digit_41 : decode cX12_digit 41 = .ok (.iconst 1, 1) := by decide +kernel
theorem dX12_digit_42 : decode cX12_digit 42 = .ok (.goto 27, 3) := by decide +kernel
theorem dX12_digit_45 : decode cX12_digit 45 = .ok (.iload 4, 2) := by decide +kernel
theorem dX12_digit_47 : decode cX12_digit 47 = .ok (.bipush 100, 2) := by decide +kernel
theorem dX12_digit_49 : decode cX12_digit 49 = .ok (.if_icmp .ge 7, 3) := by decide +kernel
theorem dX12_digit_52 : decode cX12_digit 52 = .ok (.iconst 2, 1) := by decide +kernel
theorem dX12_digit_53 : decode cX12_digit 53 = .ok (.goto 16, 3) := by decide +kernel
theorem dX12_digit_56 : decode cX12_digit 56 = .ok (.iload 4, 2) := by decide +kernel
theorem dX12_digit_58 : decode cX12_digit 58 = .ok (.sipush 1000, 3) := by decide +kernel
theorem dX12_digit_61 : decode cX12_digit 61 = .ok (.if_icmp .ge 7, 3) := by decide +kernel
theorem dX12_digit_64 : decode cX12_digit 64 = .ok (.iconst 3, 1) := by decide +kernel
theorem dX12_digit_65 : decode cX12_digit 65 = .ok (.goto 4, 3) := by decide +kernel
theorem dX12_digit_68 : decode cX12_digit 68 = .ok (.iconst 4, 1) := by decide +kernel
theorem dX12_digit_69 : decode cX12_digit 69 = .ok (.istore 5, 2) := by decide +kernel
theorem dX12_digit_71 : decode cX12_digit 71 = .ok (.iload_n 3, 1) := by decide +kernel
theorem dX12_digit_72 : decode cX12_digit 72 = .ok (.iload 5, 2) := by decide +kernel
theorem dX12_digit_74 : decode cX12_digit 74 = .ok (.if_icmp .lt 11, 3) := by decide +kernel
theorem dX12_digit_77 : decode cX12_digit 77 = .ok (.iload_n 3, 1) := by decide +kernel
theorem dX12_digit_78 : decode cX12_digit 78 = .ok (.iload 5, 2) := by decide +kernel
theorem dX12_digit_80 : decode cX12_digit 80 = .ok (.isub, 1) := by decide +kernel
theorem dX12_digit_81 : decode cX12_digit 81 = .ok (.istore_n 3, 1) := by decide +kernel
theorem dX12_digit_82 : decode cX12_digit 82 = .ok (.goto 38, 3) := by decide +kernel
theorem dX12_digit_85 : decode cX12_digit 85 = .ok (.iload 4, 2) := by decide +kernel
theorem dX12_digit_87 : decode cX12_digit 87 = .ok (.istore 6, 2) := by decide +kernel
theorem dX12_digit_89 : decode cX12_digit 89 = .ok (.iload 5, 2) := by decide +kernel
theorem dX12_digit_91 : decode cX12_digit 91 = .ok (.iconst 1, 1) := by decide +kernel
theorem dX12_digit_92 : decode cX12_digit 92 = .ok (.isub, 1) := by decide +kernel
theorem dX12_digit_93 : decode cX12_digit 93 = .ok (.istore 7, 2) := by decide +kernel
theorem dX12_digit_95 : decode cX12_digit 95 = .ok (.iload 7, 2) := by decide +kernel
theorem dX12_digit_97 : decode cX12_digit 97 = .ok (.iload_n 3, 1) := by decide +kernel
theorem dX12_digit_98 : decode cX12_digit 98 = .ok (.if_icmp .le 16, 3) := by decide +kernel
theorem dX12_digit_101 : decode cX12_digit 101 = .ok (.iload 6, 2) := by decide +kernel
theorem dX12_digit_103 : decode cX12_digit 103 = .ok (.bipush 10, 2) := by decide +kernel
theorem dX12_digit_105 : decode cX12_digit 105 = .ok (.idiv, 1) := by decide +kernel
theorem dX12_digit_106 : decode cX12_digit 106 = .ok (.istore 6, 2) := by decide +kernel
theorem dX12_digit_108 : decode cX12_digit 108 = .ok (.iinc 7 (-1), 3) := by decide +kernel
theorem dX12_digit_111 : decode cX12_digit 111 = .ok (.goto (-16), 3) := by decide +kernel
theorem dX12_digit_114 : decode cX12_digit 114 = .ok (.iload 6, 2) := by decide +kernel
theorem dX12_digit_116 : decode cX12_digit 116 = .ok (.bipush 10, 2) := by decide +kernel
theorem dX12_digit_118 : decode cX12_digit 118 = .ok (.irem, 1) := by decide +kernel
theorem dX12_digit_119 : decode cX12_digit 119 = .ok (.ireturn, 1) := by decide +kernel
theorem dX12_digit_120 : decode cX12_digit 120 = .ok (.iinc 4 1, 3) := by decide +kernel
theorem dX12_digit_123 : decode cX12_digit 123 = .ok (.goto (-95), 3) := by decide +kernel
theorem dX12_digit_126 : decode cX12_digit 126 = .ok (.iconst (-1), 1) := by decide +kernel
theorem dX12_digit_127 : decode cX12_digit 127 = .ok (.ireturn, 1) := by decide +kernel
set_option maxRecDepth 100000 in
set_option maxHeartbeats 4000000 in
theorem jo_X12_digit_69 {fr : Nat} (hfr : 1 ≤ fr) (Z : AZ) (X : AX Z cX12_digit 8 RX12 (some .int) 1 fr) (x1 : Int32) (x3 : Int32) (x4 : Int32) (t0 : Int32) (s : Mem) (q : (Int32 × Int32 × Mem) ⊕ (Nat × Int32 × Int32 × Int32 × Mem)) (h : jn_X12_digit_69 x1 x3 x4 t0 s = some q) (hi : ∀ y : Int32 × Int32 × Mem, q = .inl y → AW Z y.2.2 28 [none, some (.int x1), none, some (.int y.1), some (.int y.2.1), none, none, none] []) (he : ∀ b : Nat × Int32 × Int32 × Int32 × Mem, q = .inr b → (b.1 = 0 → AW Z b.2.2.2.2 85 [none, none, none, some (.int b.2.1), some (.int b.2.2.1), some (.int b.2.2.2.1), none, none] []) ∧ (b.1 = 1 → AW Z b.2.2.2.2 126 [none, none, none, none, none, none, none, none] [])) : AW Z s 69 [none, some (.int x1), none, some (.int x3), some (.int x4), none, none, none] [.int t0] := by
  unfold jn_X12_digit_69 at h
  refine aw_istore (L' := [none, some (.int x1), none, some (.int x3), some (.int x4), some (.int t0), none, none]) X dX12_digit_69 (by decide) rfl ?_
  refine aw_iload_n X dX12_digit_71 rfl ?_
  refine aw_iload X dX12_digit_72 rfl ?_
  refine aw_icmp_lt (tgt := 85) X dX12_digit_74 (by decide) (fun c8 => ?_) (fun c8 => ?_)
  · rw [if_pos c8] at h
    cases h
    refine aw_msk [false, false, false, true, true, true, false, false] ?_
    exact (he _ rfl).1 rfl
  · rw [if_neg c8] at h
    refine aw_iload_n X dX12_digit_77 rfl ?_
    refine aw_iload X dX12_digit_78 rfl ?_
    refine aw_isub X dX12_digit_80 ?_
    refine aw_istore_n (L' := [none, some (.int x1), none, some (.int (x3 - t0)), some (.int x4), some (.int t0), none, none]) X dX12_digit_81 (by decide) rfl ?_
    refine aw_goto (tgt := 120) X dX12_digit_82 (by decide) ?_
    refine aw_iinc (v := (x4 + 1)) (L' := [none, some (.int x1), none, some (.int (x3 - t0)), some (.int (x4 + 1)), some (.int t0), none, none]) X dX12_digit_120 rfl rfl (by decide) rfl ?_
    refine aw_goto (tgt := 28) X dX12_digit_123 (by decide) ?_
    cases h
    refine aw_msk [false, true, false, true, true, false, false, false] ?_
    exact hi _ rfl
set_option maxRecDepth 100000 in
set_option maxHeartbeats 4000000 in
theorem so_X12_digit_28 {fr : Nat} (hfr : 1 ≤ fr) (Z : AZ) (X : AX Z cX12_digit 8 RX12 (some .int) 1 fr) (x1 : Int32) (x3 : Int32) (x4 : Int32) (s : Mem) (q : (Int32 × Int32 × Mem) ⊕ (Nat × Int32 × Int32 × Int32 × Mem)) (h : st_X12_digit_28 x1 x3 x4 s = some q) (hi : ∀ y : Int32 × Int32 × Mem, q = .inl y → AW Z y.2.2 28 [none, some (.int x1), none, some (.int y.1), some (.int y.2.1), none, none, none] []) (he : ∀ b : Nat × Int32 × Int32 × Int32 × Mem, q = .inr b → (b.1 = 0 → AW Z b.2.2.2.2 85 [none, none, none, some (.int b.2.1), some (.int b.2.2.1), some (.int b.2.2.2.1), none, none] []) ∧ (b.1 = 1 → AW Z b.2.2.2.2 126 [none, none, none, none, none, none, none, none] [])) : AW Z s 28 [none, some (.int x1), none, some (.int x3), some (.int x4), none, none, none] [] := by
  unfold st_X12_digit_28 at h
  refine aw_iload X dX12_digit_28 rfl ?_
  refine aw_iload_n X dX12_digit_30 rfl ?_
  refine aw_icmp_gt (tgt := 126) X dX12_digit_31 (by decide) (fun c4 => ?_) (fun c4 => ?_)
  · rw [if_pos c4] at h
    cases h
    refine aw_msk [false, false, false, false, false, false, false, false] ?_
    exact (he _ rfl).2 rfl
  · rw [if_neg c4] at h
    refine aw_iload X dX12_digit_34 rfl ?_
    refine aw_bipush (v := 10) X dX12_digit_36 (by decide) ?_
    refine aw_icmp_ge (tgt := 45) X dX12_digit_38 (by decide) (fun c5 => ?_) (fun c5 => ?_)
    · rw [if_pos c5] at h
      refine aw_iload X dX12_digit_45 rfl ?_
      refine aw_bipush (v := 100) X dX12_digit_47 (by decide) ?_
      refine aw_icmp_ge (tgt := 56) X dX12_digit_49 (by decide) (fun c6 => ?_) (fun c6 => ?_)
      · rw [if_pos c6] at h
        refine aw_iload X dX12_digit_56 rfl ?_
        refine aw_sipush (v := 1000) X dX12_digit_58 (by decide) ?_
        refine aw_icmp_ge (tgt := 68) X dX12_digit_61 (by decide) (fun c7 => ?_) (fun c7 => ?_)
        · rw [if_pos c7] at h
          refine aw_iconst (v := 4) X dX12_digit_68 (by decide) ?_
          refine aw_msk [false, true, false, true, true, false, false, false] ?_
          exact jo_X12_digit_69 hfr Z X _ _ _ _ _ _ h hi he
        · rw [if_neg c7] at h
          refine aw_iconst (v := 3) X dX12_digit_64 (by decide) ?_
          refine aw_goto (tgt := 69) X dX12_digit_65 (by decide) ?_
          refine aw_msk [false, true, false, true, true, false, false, false] ?_
          exact jo_X12_digit_69 hfr Z X _ _ _ _ _ _ h hi he
      · rw [if_neg c6] at h
        refine aw_iconst (v := 2) X dX12_digit_52 (by decide) ?_
        refine aw_goto (tgt := 69) X dX12_digit_53 (by decide) ?_
        refine aw_msk [false, true, false, true, true, false, false, false] ?_
        exact jo_X12_digit_69 hfr Z X _ _ _ _ _ _ h hi he
    · rw [if_neg c5] at h
      refine aw_iconst (v := 1) X dX12_digit_41 (by decide) ?_
      refine aw_goto (tgt := 69) X dX12_digit_42 (by decide) ?_
      refine aw_msk [false, true, false, true, true, false, false, false] ?_
      exact jo_X12_digit_69 hfr Z X _ _ _ _ _ _ h hi he
set_option maxRecDepth 100000 in
set_option maxHeartbeats 4000000 in
theorem so_X12_digit_95 {fr : Nat} (hfr : 1 ≤ fr) (Z : AZ) (X : AX Z cX12_digit 8 RX12 (some .int) 1 fr) (x3 : Int32) (x6 : Int32) (x7 : Int32) (s : Mem) (q : (Int32 × Int32 × Mem) ⊕ (Int32 × Mem)) (h : st_X12_digit_95 x3 x6 x7 s = some q) (hi : ∀ y : Int32 × Int32 × Mem, q = .inl y → AW Z y.2.2 95 [none, none, none, some (.int x3), none, none, some (.int y.1), some (.int y.2.1)] []) (he : ∀ b : Int32 × Mem, q = .inr b → AW Z b.2 114 [none, none, none, none, none, none, some (.int b.1), none] []) : AW Z s 95 [none, none, none, some (.int x3), none, none, some (.int x6), some (.int x7)] [] := by
  unfold st_X12_digit_95 at h
  refine aw_iload X dX12_digit_95 rfl ?_
  refine aw_iload_n X dX12_digit_97 rfl ?_
  refine aw_icmp_le (tgt := 114) X dX12_digit_98 (by decide) (fun c10 => ?_) (fun c10 => ?_)
  · rw [if_pos c10] at h
    cases h
    refine aw_msk [false, false, false, false, false, false, true, false] ?_
    exact he _ rfl
  · rw [if_neg c10] at h
    refine aw_iload X dX12_digit_101 rfl ?_
    refine aw_bipush (v := 10) X dX12_digit_103 (by decide) ?_
    refine aw_idiv X dX12_digit_105 (by decide) ?_
    refine aw_istore (L' := [none, none, none, some (.int x3), none, none, some (.int (x6 / 10)), some (.int x7)]) X dX12_digit_106 (by decide) rfl ?_
    refine aw_iinc (v := (x7 + (-1))) (L' := [none, none, none, some (.int x3), none, none, some (.int (x6 / 10)), some (.int (x7 + (-1)))]) X dX12_digit_108 rfl rfl (by decide) rfl ?_
    refine aw_goto (tgt := 95) X dX12_digit_111 (by decide) ?_
    cases h
    refine aw_msk [false, false, false, true, false, false, true, true] ?_
    exact hi _ rfl
set_option maxRecDepth 100000 in
set_option maxHeartbeats 4000000 in
theorem w_X12_digit {fr : Nat} (hfr : 1 ≤ fr) (Z : AZ) (X : AX Z cX12_digit 8 RX12 (some .int) 1 fr) (x1 : Int32) (x2 : Int32) (s : Mem) (r : Int32 × Mem) (hz : zres Z = (some (.int r.1), r.2)) (h : f_X12_digit x1 x2 s = some r) : AW Z s 0 [some (.ref (zr Z 0)), some (.int x1), some (.int x2), none, none, none, none, none] [] := by
  unfold f_X12_digit at h
  refine aw_aload_n X dX12_digit_0 rfl ?_
  refine aw_iconst (v := 0) X dX12_digit_1 (by decide) ?_
  refine aw_put X dX12_digit_2 fp_RX12_122 iu_RX12 gu_RX12_0 rfl rfl ?_
  refine aw_aload_n X dX12_digit_5 rfl ?_
  refine aw_iload_n X dX12_digit_6 rfl ?_
  refine aw_iconst (v := 1) X dX12_digit_7 (by decide) ?_
  refine aw_sipush (v := 9999) X dX12_digit_8 (by decide) ?_
  obtain ⟨r1, er1, h⟩ := bnd h
  refine aw_callV X dX12_digit_11 cv_RX12_137 (ok_X12_isIn er1 _ _ _ _ _) iu_RX12 rfl (Nat.le_trans (by decide) hfr) (by decide) rfl rfl (Nat.le_of_ble_eq_true rfl) ?_
  refine aw_if_eq (tgt := 21) X dX12_digit_14 (by decide) (fun c2 => ?_) (fun c2 => ?_)
  · rw [if_pos c2] at h
    refine aw_iconst (v := (-1)) X dX12_digit_21 (by decide) ?_
    cases h
    exact aw_iret X dX12_digit_22 rfl hz.symm
  · rw [if_neg c2] at h
    refine aw_iload_n X dX12_digit_17 rfl ?_
    refine aw_if_ge (tgt := 23) X dX12_digit_18 (by decide) (fun c3 => ?_) (fun c3 => ?_)
    · rw [if_pos c3] at h
      refine aw_iload_n X dX12_digit_23 rfl ?_
      refine aw_istore_n (L' := [some (.ref (zr Z 0)), some (.int x1), some (.int x2), some (.int x2), none, none, none, none]) X dX12_digit_24 (by decide) rfl ?_
      refine aw_iconst (v := 1) X dX12_digit_25 (by decide) ?_
      refine aw_istore (L' := [some (.ref (zr Z 0)), some (.int x1), some (.int x2), some (.int x2), some (.int 1), none, none, none]) X dX12_digit_26 (by decide) rfl ?_
      obtain ⟨r9, er9, h⟩ := bnd h
      refine aw_msk [false, true, false, true, true, false, false, false] ?_
      refine it_ok (P := fun y : Int32 × Int32 × Mem => AW Z y.2.2 28 [none, some (.int x1), none, some (.int y.1), some (.int y.2.1), none, none, none] []) (Q := fun b : Nat × Int32 × Int32 × Int32 × Mem => (b.1 = 0 → AW Z b.2.2.2.2 85 [none, none, none, some (.int b.2.1), some (.int b.2.2.1), some (.int b.2.2.2.1), none, none] []) ∧ (b.1 = 1 → AW Z b.2.2.2.2 126 [none, none, none, none, none, none, none, none] [])) (fun y q hq hi he => so_X12_digit_28 hfr Z X x1 y.1 y.2.1 y.2.2 q hq hi he) FUEL _ _ er9 ?_
      refine ⟨fun c0 => ?_, fun c1 => ?_⟩
      · rw [if_pos c0] at h
        refine aw_iload X dX12_digit_85 rfl ?_
        refine aw_istore (L' := [none, none, none, some (.int r9.2.1), some (.int r9.2.2.1), some (.int r9.2.2.2.1), some (.int r9.2.2.1), none]) X dX12_digit_87 (by decide) rfl ?_
        refine aw_iload X dX12_digit_89 rfl ?_
        refine aw_iconst (v := 1) X dX12_digit_91 (by decide) ?_
        refine aw_isub X dX12_digit_92 ?_
        refine aw_istore (L' := [none, none, none, some (.int r9.2.1), some (.int r9.2.2.1), some (.int r9.2.2.2.1), some (.int r9.2.2.1), some (.int (r9.2.2.2.1 - 1))]) X dX12_digit_93 (by decide) rfl ?_
        obtain ⟨r11, er11, h⟩ := bnd h
        refine aw_msk [false, false, false, true, false, false, true, true] ?_
        refine it_ok (P := fun y : Int32 × Int32 × Mem => AW Z y.2.2 95 [none, none, none, some (.int r9.2.1), none, none, some (.int y.1), some (.int y.2.1)] []) (Q := fun b : Int32 × Mem => AW Z b.2 114 [none, none, none, none, none, none, some (.int b.1), none] []) (fun y q hq hi he => so_X12_digit_95 hfr Z X r9.2.1 y.1 y.2.1 y.2.2 q hq hi he) FUEL _ _ er11 ?_
        refine aw_iload X dX12_digit_114 rfl ?_
        refine aw_bipush (v := 10) X dX12_digit_116 (by decide) ?_
        refine aw_irem X dX12_digit_118 (by decide) ?_
        cases h
        exact aw_iret X dX12_digit_119 rfl hz.symm
      · rw [if_neg (by rw [c1]; decide)] at h
        refine aw_iconst (v := (-1)) X dX12_digit_126 (by decide) ?_
        cases h
        exact aw_iret X dX12_digit_127 rfl hz.symm
    · rw [if_neg c3] at h
      refine aw_iconst (v := (-1)) X dX12_digit_21 (by decide) ?_
      cases h
      exact aw_iret X dX12_digit_22 rfl hz.symm
set_option maxRecDepth 100000 in
set_option maxHeartbeats 4000000 in
theorem ok_X12_digit {x1 x2 : Int32} {s : Mem} {r : Int32 × Mem} (h : f_X12_digit x1 x2 s = some r) (l : Launch) (D : va_G) (ρ : Nat → Nat) (cA : ClassId × ClassId × ClassId) (τ : AT) : AM l D ρ cA 1 τ yX12_digit cX12_digit 8 (some .int) 1 [.ref (ρ 0), .int x1, .int x2] (some (.int r.1)) s r.2 := by
  refine AM_of (L := [some (.ref (ρ 0)), some (.int x1), some (.int x2), none, none, none, none, none]) (by decide) (by simp [Value.category]) (Nat.le_of_ble_eq_true rfl) (fun j v q => ?_) (fun Z X hρ hz hτ => ?_)
  · exact aL_ok (n := 5) [.ref (ρ 0), .int x1, .int x2] j v q
  · subst hρ
    subst hτ
    exact w_X12_digit (Nat.le_refl _) Z X x1 x2 s r hz h

theorem dX12_call_0 : decode cX12_call 0 = .ok (.aload_n 0, 1) := by decide +kernel
theorem dX12_call_1 : decode cX12_call 1 = .ok (.iconst 0, 1) := by decide +kernel
theorem dX12_call_2 : decode cX12_call 2 = .ok (.putfield 122, 3) := by decide +kernel
theorem dX12_call_5 : decode cX12_call 5 = .ok (.iload_n 1, 1) := by decide +kernel
theorem dX12_call_6 : decode cX12_call 6 = .ok (.iconst (-1), 1) := by decide +kernel
theorem dX12_call_7 : decode cX12_call 7 = .ok (.if_icmp .ne 10, 3) := by decide +kernel
theorem dX12_call_10 : decode cX12_call 10 = .ok (.aload_n 0, 1) := by decide +kernel
theorem dX12_call_11 : decode cX12_call 11 = .ok (.iconst 0, 1) := by decide +kernel
theorem dX12_call_12 : decode cX12_call 12 = .ok (.putfield 427, 3) := by decide +kernel
theorem dX12_call_15 : decode cX12_call 15 = .ok (.iconst 0, 1) := by decide +kernel
theorem dX12_call_16 : decode cX12_call 16 = .ok (.ireturn, 1) := by decide +kernel
theorem dX12_call_17 : decode cX12_call 17 = .ok (.aload_n 0, 1) := by decide +kernel
theorem dX12_call_18 : decode cX12_call 18 = .ok (.iload_n 1, 1) := by decide +kernel
theorem dX12_call_19 : decode cX12_call 19 = .ok (.iconst 0, 1) := by decide +kernel
theorem dX12_call_20 : decode cX12_call 20 = .ok (.bipush 99, 2) := by decide +kernel
theorem dX12_call_22 : decode cX12_call 22 = .ok (.invokevirtual 137, 3) := by decide +kernel
theorem dX12_call_25 : decode cX12_call 25 = .ok (.ifCond .eq 36, 3) := by decide +kernel
theorem dX12_call_28 : decode cX12_call 28 = .ok (.aload_n 0, 1) := by decide +kernel
theorem dX12_call_29 : decode cX12_call 29 = .ok (.iload_n 2, 1) := by decide +kernel
theorem dX12_call_30 : decode cX12_call 30 = .ok (.iload_n 1, 1) := by decide +kernel
theorem dX12_call_31 : decode cX12_call 31 = .ok (.iconst 1, 1) := by decide +kernel
theorem dX12_call_32 : decode cX12_call 32 = .ok (.iadd, 1) := by decide +kernel
theorem dX12_call_33 : decode cX12_call 33 = .ok (.bipush 99, 2) := by decide +kernel
theorem dX12_call_35 : decode cX12_call 35 = .ok (.invokevirtual 137, 3) := by decide +kernel
theorem dX12_call_38 : decode cX12_call 38 = .ok (.ifCond .eq 23, 3) := by decide +kernel
theorem dX12_call_41 : decode cX12_call 41 = .ok (.aload_n 0, 1) := by decide +kernel
theorem dX12_call_42 : decode cX12_call 42 = .ok (.iload_n 3, 1) := by decide +kernel
theorem dX12_call_43 : decode cX12_call 43 = .ok (.iconst 1, 1) := by decide +kernel
theorem dX12_call_44 : decode cX12_call 44 = .ok (.bipush 99, 2) := by decide +kernel
theorem dX12_call_46 : decode cX12_call 46 = .ok (.invokevirtual 137, 3) := by decide +kernel
theorem dX12_call_49 : decode cX12_call 49 = .ok (.ifCond .eq 12, 3) := by decide +kernel
theorem dX12_call_52 : decode cX12_call 52 = .ok (.aload_n 0, 1) := by decide +kernel
theorem dX12_call_53 : decode cX12_call 53 = .ok (.getfield 427, 3) := by decide +kernel
theorem dX12_call_56 : decode cX12_call 56 = .ok (.bipush 10, 2) := by decide +kernel
theorem dX12_call_58 : decode cX12_call 58 = .ok (.if_icmp .ne 5, 3) := by decide +kernel
theorem dX12_call_61 : decode cX12_call 61 = .ok (.iconst (-1), 1) := by decide +kernel
theorem dX12_call_62 : decode cX12_call 62 = .ok (.ireturn, 1) := by decide +kernel
theorem dX12_call_63 : decode cX12_call 63 = .ok (.aload_n 0, 1) := by decide +kernel
theorem dX12_call_64 : decode cX12_call 64 = .ok (.getfield 77, 3) := by decide +kernel
theorem dX12_call_67 : decode cX12_call 67 = .ok (.aload_n 0, 1) := by decide +kernel
theorem dX12_call_68 : decode cX12_call 68 = .ok (.getfield 427, 3) := by decide +kernel
theorem dX12_call_71 : decode cX12_call 71 = .ok (.iload_n 1, 1) := by decide +kernel
theorem dX12_call_72 : decode cX12_call 72 = .ok (.iastore, 1) := by decide +kernel
theorem dX12_call_73 : decode cX12_call 73 = .ok (.aload_n 0, 1) := by decide +kernel
theorem dX12_call_74 : decode cX12_call 74 = .ok (.getfield 80, 3) := by decide +kernel
theorem dX12_call_77 : decode cX12_call 77 = .ok (.aload_n 0, 1) := by decide +kernel
theorem dX12_call_78 : decode cX12_call 78 = .ok (.getfield 427, 3) := by decide +kernel
theorem dX12_call_81 : decode cX12_call 81 = .ok (.iload_n 2, 1) := by decide +kernel
theorem dX12_call_82 : decode cX12_call 82 = .ok (.iastore, 1) := by decide +kernel
theorem dX12_call_83 : decode cX12_call 83 = .ok (.aload_n 0, 1) := by decide +kernel
theorem dX12_call_84 : decode cX12_call 84 = .ok (.getfield 83, 3) := by decide +kernel
theorem dX12_call_87 : decode cX12_call 87 = .ok (.aload_n 0, 1) := by decide +kernel
theorem dX12_call_88 : decode cX12_call 88 = .ok (.getfield 427, 3) := by decide +kernel
theorem dX12_call_91 : decode cX12_call 91 = .ok (.iload_n 3, 1) := by decide +kernel
theorem dX12_call_92 : decode cX12_call 92 = .ok (.iastore, 1) := by decide +kernel
theorem dX12_call_93 : decode cX12_call 93 = .ok (.aload_n 0, 1) := by decide +kernel
theorem dX12_call_94 : decode cX12_call 94 = .ok (.aload_n 0, 1) := by decide +kernel
theorem dX12_call_95 : decode cX12_call 95 = .ok (.getfield 427, 3) := by decide +kernel
theorem dX12_call_98 : decode cX12_call 98 = .ok (.iconst 1, 1) := by decide +kernel
theorem dX12_call_99 : decode cX12_call 99 = .ok (.iadd, 1) := by decide +kernel
theorem dX12_call_100 : decode cX12_call 100 = .ok (.putfield 427, 3) := by decide +kernel
theorem dX12_call_103 : decode cX12_call 103 = .ok (.aload_n 0, 1) := by decide +kernel
theorem dX12_call_104 : decode cX12_call 104 = .ok (.getfield 427, 3) := by decide +kernel
theorem dX12_call_107 : decode cX12_call 107 = .ok (.ireturn, 1) := by decide +kernel
set_option maxRecDepth 100000 in
set_option maxHeartbeats 4000000 in
theorem w_X12_call {fr : Nat} (hfr : 1 ≤ fr) (Z : AZ) (X : AX Z cX12_call 4 RX12 (some .int) 1 fr) (x1 : Int32) (x2 : Int32) (x3 : Int32) (s : Mem) (r : Int32 × Mem) (hz : zres Z = (some (.int r.1), r.2)) (h : f_X12_call x1 x2 x3 s = some r) : AW Z s 0 [some (.ref (zr Z 0)), some (.int x1), some (.int x2), some (.int x3)] [] := by
  unfold f_X12_call at h
  refine aw_aload_n X dX12_call_0 rfl ?_
  refine aw_iconst (v := 0) X dX12_call_1 (by decide) ?_
  refine aw_put X dX12_call_2 fp_RX12_122 iu_RX12 gu_RX12_0 rfl rfl ?_
  refine aw_iload_n X dX12_call_5 rfl ?_
  refine aw_iconst (v := (-1)) X dX12_call_6 (by decide) ?_
  refine aw_icmp_ne (tgt := 17) X dX12_call_7 (by decide) (fun c1 => ?_) (fun c1 => ?_)
  · rw [if_neg c1] at h
    refine aw_aload_n X dX12_call_17 rfl ?_
    refine aw_iload_n X dX12_call_18 rfl ?_
    refine aw_iconst (v := 0) X dX12_call_19 (by decide) ?_
    refine aw_bipush (v := 99) X dX12_call_20 (by decide) ?_
    obtain ⟨r2, er2, h⟩ := bnd h
    refine aw_callV X dX12_call_22 cv_RX12_137 (ok_X12_isIn er2 _ _ _ _ _) iu_RX12 rfl (Nat.le_trans (by decide) hfr) (by decide) rfl rfl (Nat.le_of_ble_eq_true rfl) ?_
    refine aw_if_eq (tgt := 61) X dX12_call_25 (by decide) (fun c3 => ?_) (fun c3 => ?_)
    · rw [if_pos c3] at h
      refine aw_iconst (v := (-1)) X dX12_call_61 (by decide) ?_
      cases h
      exact aw_iret X dX12_call_62 rfl hz.symm
    · rw [if_neg c3] at h
      refine aw_aload_n X dX12_call_28 rfl ?_
      refine aw_iload_n X dX12_call_29 rfl ?_
      refine aw_iload_n X dX12_call_30 rfl ?_
      refine aw_iconst (v := 1) X dX12_call_31 (by decide) ?_
      refine aw_iadd X dX12_call_32 ?_
      refine aw_bipush (v := 99) X dX12_call_33 (by decide) ?_
      obtain ⟨r4, er4, h⟩ := bnd h
      refine aw_callV X dX12_call_35 cv_RX12_137 (ok_X12_isIn er4 _ _ _ _ _) iu_RX12 rfl (Nat.le_trans (by decide) hfr) (by decide) rfl rfl (Nat.le_of_ble_eq_true rfl) ?_
      refine aw_if_eq (tgt := 61) X dX12_call_38 (by decide) (fun c5 => ?_) (fun c5 => ?_)
      · rw [if_pos c5] at h
        refine aw_iconst (v := (-1)) X dX12_call_61 (by decide) ?_
        cases h
        exact aw_iret X dX12_call_62 rfl hz.symm
      · rw [if_neg c5] at h
        refine aw_aload_n X dX12_call_41 rfl ?_
        refine aw_iload_n X dX12_call_42 rfl ?_
        refine aw_iconst (v := 1) X dX12_call_43 (by decide) ?_
        refine aw_bipush (v := 99) X dX12_call_44 (by decide) ?_
        obtain ⟨r6, er6, h⟩ := bnd h
        refine aw_callV X dX12_call_46 cv_RX12_137 (ok_X12_isIn er6 _ _ _ _ _) iu_RX12 rfl (Nat.le_trans (by decide) hfr) (by decide) rfl rfl (Nat.le_of_ble_eq_true rfl) ?_
        refine aw_if_eq (tgt := 61) X dX12_call_49 (by decide) (fun c7 => ?_) (fun c7 => ?_)
        · rw [if_pos c7] at h
          refine aw_iconst (v := (-1)) X dX12_call_61 (by decide) ?_
          cases h
          exact aw_iret X dX12_call_62 rfl hz.symm
        · rw [if_neg c7] at h
          refine aw_aload_n X dX12_call_52 rfl ?_
          refine aw_geti X dX12_call_53 fl_RX12_427 iu_RX12 gu_RX12_42 ?_
          refine aw_bipush (v := 10) X dX12_call_56 (by decide) ?_
          refine aw_icmp_ne (tgt := 63) X dX12_call_58 (by decide) (fun c8 => ?_) (fun c8 => ?_)
          · rw [if_neg c8] at h
            refine aw_aload_n X dX12_call_63 rfl ?_
            refine aw_getr X dX12_call_64 fl_RX12_77 iu_RX12 gu_RX12_43 ?_
            refine aw_aload_n X dX12_call_67 rfl ?_
            refine aw_geti X dX12_call_68 fl_RX12_427 iu_RX12 gu_RX12_42 ?_
            refine aw_iload_n X dX12_call_71 rfl ?_
            obtain ⟨s9, es9, h⟩ := bnd h
            refine aw_iast X dX12_call_72 iu_RX12_43 es9 ?_
            refine aw_aload_n X dX12_call_73 rfl ?_
            refine aw_getr X dX12_call_74 fl_RX12_80 iu_RX12 gu_RX12_44 ?_
            refine aw_aload_n X dX12_call_77 rfl ?_
            refine aw_geti X dX12_call_78 fl_RX12_427 iu_RX12 gu_RX12_42 ?_
            refine aw_iload_n X dX12_call_81 rfl ?_
            obtain ⟨s10, es10, h⟩ := bnd h
            refine aw_iast X dX12_call_82 iu_RX12_44 es10 ?_
            refine aw_aload_n X dX12_call_83 rfl ?_
            refine aw_getr X dX12_call_84 fl_RX12_83 iu_RX12 gu_RX12_45 ?_
            refine aw_aload_n X dX12_call_87 rfl ?_
            refine aw_geti X dX12_call_88 fl_RX12_427 iu_RX12 gu_RX12_42 ?_
            refine aw_iload_n X dX12_call_91 rfl ?_
            obtain ⟨s11, es11, h⟩ := bnd h
            refine aw_iast X dX12_call_92 iu_RX12_45 es11 ?_
            refine aw_aload_n X dX12_call_93 rfl ?_
            refine aw_aload_n X dX12_call_94 rfl ?_
            refine aw_geti X dX12_call_95 fl_RX12_427 iu_RX12 gu_RX12_42 ?_
            refine aw_iconst (v := 1) X dX12_call_98 (by decide) ?_
            refine aw_iadd X dX12_call_99 ?_
            refine aw_put X dX12_call_100 fp_RX12_427 iu_RX12 gu_RX12_42 rfl rfl ?_
            refine aw_aload_n X dX12_call_103 rfl ?_
            refine aw_geti X dX12_call_104 fl_RX12_427 iu_RX12 gu_RX12_42 ?_
            cases h
            exact aw_iret X dX12_call_107 rfl hz.symm
          · rw [if_pos c8] at h
            refine aw_iconst (v := (-1)) X dX12_call_61 (by decide) ?_
            cases h
            exact aw_iret X dX12_call_62 rfl hz.symm
  · rw [if_pos c1] at h
    refine aw_aload_n X dX12_call_10 rfl ?_
    refine aw_iconst (v := 0) X dX12_call_11 (by decide) ?_
    refine aw_put X dX12_call_12 fp_RX12_427 iu_RX12 gu_RX12_42 rfl rfl ?_
    refine aw_iconst (v := 0) X dX12_call_15 (by decide) ?_
    cases h
    exact aw_iret X dX12_call_16 rfl hz.symm
set_option maxRecDepth 100000 in
set_option maxHeartbeats 4000000 in
theorem ok_X12_call {x1 x2 x3 : Int32} {s : Mem} {r : Int32 × Mem} (h : f_X12_call x1 x2 x3 s = some r) (l : Launch) (D : va_G) (ρ : Nat → Nat) (cA : ClassId × ClassId × ClassId) (τ : AT) : AM l D ρ cA 1 τ yX12_call cX12_call 4 (some .int) 1 [.ref (ρ 0), .int x1, .int x2, .int x3] (some (.int r.1)) s r.2 := by
  refine AM_of (L := [some (.ref (ρ 0)), some (.int x1), some (.int x2), some (.int x3)]) (by decide) (by simp [Value.category]) (Nat.le_of_ble_eq_true rfl) (fun j v q => ?_) (fun Z X hρ hz hτ => ?_)
  · exact aL_ok (n := 0) [.ref (ρ 0), .int x1, .int x2, .int x3] j v q
  · subst hρ
    subst hτ
    exact w_X12_call (Nat.le_refl _) Z X x1 x2 x3 s r hz h

theorem dX12_worthOf_0 : decode cX12_worthOf 0 = .ok (.iconst 0, 1) := by decide +kernel
theorem dX12_worthOf_1 : decode cX12_worthOf 1 = .ok (.istore_n 2, 1) := by decide +kernel
theorem dX12_worthOf_2 : decode cX12_worthOf 2 = .ok (.iconst 0, 1) := by decide +kernel
theorem dX12_worthOf_3 : decode cX12_worthOf 3 = .ok (.istore_n 3, 1) := by decide +kernel
theorem dX12_worthOf_4 : decode cX12_worthOf 4 = .ok (.iload_n 3, 1) := by decide +kernel
theorem dX12_worthOf_5 : decode cX12_worthOf 5 = .ok (.aload_n 0, 1) := by decide +kernel
theorem dX12_worthOf_6 : decode cX12_worthOf 6 = .ok (.getfield 427, 3) := by decide +kernel
theorem dX12_worthOf_9 : decode cX12_worthOf 9 = .ok (.if_icmp .ge 89, 3) := by decide +kernel
theorem dX12_worthOf_12 : decode cX12_worthOf 12 = .ok (.aload_n 0, 1) := by decide +kernel
theorem dX12_worthOf_13 : decode cX12_worthOf 13 = .ok (.iload_n 1, 1) := by decide +kernel
theorem dX12_worthOf_14 : decode cX12_worthOf 14 = .ok (.iload_n 3, 1) := by decide +kernel
theorem dX12_worthOf_15 : decode cX12_worthOf 15 = .ok (.invokevirtual 314, 3) := by decide +kernel
theorem dX12_worthOf_18 : decode cX12_worthOf 18 = .ok (.ifCond .ne 6, 3) := by decide +kernel
theorem dX12_worthOf_21 : decode cX12_worthOf 21 = .ok (.goto 71, 3) := by decide +kernel
theorem dX12_worthOf_24 : decode cX12_worthOf 24 = .ok (.iload_n 2, 1) := by decide +kernel
theorem dX12_worthOf_25 : decode cX12_worthOf 25 = .ok (.aload_n 0, 1) := by decide +kernel
theorem dX12_worthOf_26 : decode cX12_worthOf 26 = .ok (.getfield 83, 3) := by decide +kernel
theorem dX12_worthOf_29 : decode cX12_worthOf 29 = .ok (.iload_n 3, 1) := by decide +kernel
theorem dX12_worthOf_30 : decode cX12_worthOf 30 = .ok (.iaload, 1) := by decide +kernel
theorem dX12_worthOf_31 : decode cX12_worthOf 31 = .ok (.iadd, 1) := by decide +kernel
theorem dX12_worthOf_32 : decode cX12_worthOf 32 = .ok (.istore_n 2, 1) := by decide +kernel
theorem dX12_worthOf_33 : decode cX12_worthOf 33 = .ok (.iconst 0, 1) := by decide +kernel
theorem dX12_worthOf_34 : decode cX12_worthOf 34 = .ok (.istore 4, 2) := by decide +kernel
theorem dX12_worthOf_36 : decode cX12_worthOf 36 = .ok (.iload 4, 2) := by decide +kernel
theorem dX12_worthOf_38 : decode cX12_worthOf 38 = .ok (.iload_n 3, 1) := by decide +kernel
theorem dX12_worthOf_39 : decode cX12_worthOf 39 = .ok (.if_icmp .ge 53, 3) := by decide +kernel
theorem dX12_worthOf_42 : decode cX12_worthOf 42 = .ok (.aload_n 0, 1) := by decide +kernel
theorem dX12_worthOf_43 : decode cX12_worthOf 43 = .ok (.iload_n 1, 1) := by decide +kernel
theorem dX12_worthOf_44 : decode cX12_worthOf 44 = .ok (.iload 4, 2) := by decide +kernel
theorem dX12_worthOf_46 : decode cX12_worthOf 46 = .ok (.invokevirtual 314, 3) := by decide +kernel
theorem dX12_worthOf_49 : decode cX12_worthOf 49 = .ok (.ifCond .eq 37, 3) := by decide +kernel
theorem dX12_worthOf_52 : decode cX12_worthOf 52 = .ok (.aload_n 0, 1) := by decide +kernel
theorem dX12_worthOf_53 : decode cX12_worthOf 53 = .ok (.getfield 77, 3) := by decide +kernel
theorem dX12_worthOf_56 : decode cX12_worthOf 56 = .ok (.iload_n 3, 1) := by decide +kernel
theorem dX12_worthOf_57 : decode cX12_worthOf 57 = .ok (.iaload, 1) := by decide +kernel
theorem dX12_worthOf_58 : decode cX12_worthOf 58 = .ok (.aload_n 0, 1) := by decide +kernel
theorem dX12_worthOf_59 : decode cX12_worthOf 59 = .ok (.getfield 80, 3) := by decide +kernel
theorem dX12_worthOf_62 : decode cX12_worthOf 62 = .ok (.iload 4, 2) := by decide +kernel
theorem dX12_worthOf_64 : decode cX12_worthOf 64 = .ok (.iaload, 1) := by decide +kernel
theorem dX12_worthOf_65 : decode cX12_worthOf 65 = .ok (.if_icmp .ge 21, 3) := by decide +kernel
theorem dX12_worthOf_68 : decode cX12_worthOf 68 = .ok (.aload_n 0, 1) := by decide +kernel
theorem dX12_worthOf_69 : decode cX12_worthOf 69 = .ok (.getfield 77, 3) := by decide +kernel
theorem dX12_worthOf_72 : decode cX12_worthOf 72 = .ok (.iload 4, 2) := by decide +kernel
theorem dX12_worthOf_74 : decode cX12_worthOf 74 = .ok (.iaload, 1) := by decide +kernel
theorem dX12_worthOf_75 : decode cX12_worthOf 75 = .ok (.aload_n 0, 1) := by decide +kernel
theorem dX12_worthOf_76 : decode cX12_worthOf 76 = .ok (.getfield 80, 3) := by decide +kernel
theorem dX12_worthOf_79 : decode cX12_worthOf 79 = .ok (.iload_n 3, 1) := by decide +kernel
theorem dX12_worthOf_80 : decode cX12_worthOf 80 = .ok (.iaload, 1) := by decide +kernel
theorem dX12_worthOf_81 : decode cX12_worthOf 81 = .ok (.if_icmp .ge 5, 3) := by decide +kernel
theorem dX12_worthOf_84 : decode cX12_worthOf 84 = .ok (.iconst (-1), 1) := by decide +kernel
theorem dX12_worthOf_85 : decode cX12_worthOf 85 = .ok (.ireturn, 1) := by decide +kernel
theorem dX12_worthOf_86 : decode cX12_worthOf 86 = .ok (.iinc 4 1, 3) := by decide +kernel
theorem dX12_worthOf_89 : decode cX12_worthOf 89 = .ok (.goto (-53), 3) := by decide +kernel
theorem dX12_worthOf_92 : decode cX12_worthOf 92 = .ok (.iinc 3 1, 3) := by decide +kernel
theorem dX12_worthOf_95 : decode cX12_worthOf 95 = .ok (.goto (-91), 3) := by decide +kernel
theorem dX12_worthOf_98 : decode cX12_worthOf 98 = .ok (.iload_n 2, 1) := by decide +kernel
theorem dX12_worthOf_99 : decode cX12_worthOf 99 = .ok (.ireturn, 1) := by decide +kernel
set_option maxRecDepth 100000 in
set_option maxHeartbeats 4000000 in
theorem so_X12_worthOf_36 {fr : Nat} (hfr : 1 ≤ fr) (Z : AZ) (X : AX Z cX12_worthOf 5 RX12 (some .int) 1 fr) (x1 : Int32) (x2 : Int32) (x3 : Int32) (x4 : Int32) (s : Mem) (q : (Int32 × Mem) ⊕ (Nat × Mem)) (h : st_X12_worthOf_36 x1 x2 x3 x4 s = some q) (hi : ∀ y : Int32 × Mem, q = .inl y → AW Z y.2 36 [some (.ref (zr Z 0)), some (.int x1), some (.int x2), some (.int x3), some (.int y.1)] []) (he : ∀ b : Nat × Mem, q = .inr b → (b.1 = 0 → AW Z b.2 84 [none, none, none, none, none] []) ∧ (b.1 = 1 → AW Z b.2 92 [some (.ref (zr Z 0)), some (.int x1), some (.int x2), some (.int x3), none] [])) : AW Z s 36 [some (.ref (zr Z 0)), some (.int x1), some (.int x2), some (.int x3), some (.int x4)] [] := by
  unfold st_X12_worthOf_36 at h
  refine aw_iload X dX12_worthOf_36 rfl ?_
  refine aw_iload_n X dX12_worthOf_38 rfl ?_
  refine aw_icmp_ge (tgt := 92) X dX12_worthOf_39 (by decide) (fun c5 => ?_) (fun c5 => ?_)
  · rw [if_pos c5] at h
    cases h
    refine aw_msk [true, true, true, true, false] ?_
    exact (he _ rfl).2 rfl
  · rw [if_neg c5] at h
    refine aw_aload_n X dX12_worthOf_42 rfl ?_
    refine aw_iload_n X dX12_worthOf_43 rfl ?_
    refine aw_iload X dX12_worthOf_44 rfl ?_
    obtain ⟨r6, er6, h⟩ := bnd h
    refine aw_callV X dX12_worthOf_46 cv_RX12_314 (ok_X12_has er6 _ _ _ _ _) iu_RX12 rfl (Nat.le_trans (by decide) hfr) (by decide) rfl rfl (Nat.le_of_ble_eq_true rfl) ?_
    refine aw_if_eq (tgt := 86) X dX12_worthOf_49 (by decide) (fun c7 => ?_) (fun c7 => ?_)
    · rw [if_pos c7] at h
      refine aw_iinc (v := (x4 + 1)) (L' := [some (.ref (zr Z 0)), some (.int x1), some (.int x2), some (.int x3), some (.int (x4 + 1))]) X dX12_worthOf_86 rfl rfl (by decide) rfl ?_
      refine aw_goto (tgt := 36) X dX12_worthOf_89 (by decide) ?_
      cases h
      refine aw_msk [true, true, true, true, true] ?_
      exact hi _ rfl
    · rw [if_neg c7] at h
      refine aw_aload_n X dX12_worthOf_52 rfl ?_
      refine aw_getr X dX12_worthOf_53 fl_RX12_77 iu_RX12 gu_RX12_43 ?_
      refine aw_iload_n X dX12_worthOf_56 rfl ?_
      obtain ⟨v8, ev8, h⟩ := bnd h
      refine aw_iald X dX12_worthOf_57 iu_RX12_43 ev8 ?_
      refine aw_aload_n X dX12_worthOf_58 rfl ?_
      refine aw_getr X dX12_worthOf_59 fl_RX12_80 iu_RX12 gu_RX12_44 ?_
      refine aw_iload X dX12_worthOf_62 rfl ?_
      obtain ⟨v9, ev9, h⟩ := bnd h
      refine aw_iald X dX12_worthOf_64 iu_RX12_44 ev9 ?_
      refine aw_icmp_ge (tgt := 86) X dX12_worthOf_65 (by decide) (fun c10 => ?_) (fun c10 => ?_)
      · rw [if_pos c10] at h
        refine aw_iinc (v := (x4 + 1)) (L' := [some (.ref (zr Z 0)), some (.int x1), some (.int x2), some (.int x3), some (.int (x4 + 1))]) X dX12_worthOf_86 rfl rfl (by decide) rfl ?_
        refine aw_goto (tgt := 36) X dX12_worthOf_89 (by decide) ?_
        cases h
        refine aw_msk [true, true, true, true, true] ?_
        exact hi _ rfl
      · rw [if_neg c10] at h
        refine aw_aload_n X dX12_worthOf_68 rfl ?_
        refine aw_getr X dX12_worthOf_69 fl_RX12_77 iu_RX12 gu_RX12_43 ?_
        refine aw_iload X dX12_worthOf_72 rfl ?_
        obtain ⟨v11, ev11, h⟩ := bnd h
        refine aw_iald X dX12_worthOf_74 iu_RX12_43 ev11 ?_
        refine aw_aload_n X dX12_worthOf_75 rfl ?_
        refine aw_getr X dX12_worthOf_76 fl_RX12_80 iu_RX12 gu_RX12_44 ?_
        refine aw_iload_n X dX12_worthOf_79 rfl ?_
        obtain ⟨v12, ev12, h⟩ := bnd h
        refine aw_iald X dX12_worthOf_80 iu_RX12_44 ev12 ?_
        refine aw_icmp_ge (tgt := 86) X dX12_worthOf_81 (by decide) (fun c13 => ?_) (fun c13 => ?_)
        · rw [if_pos c13] at h
          refine aw_iinc (v := (x4 + 1)) (L' := [some (.ref (zr Z 0)), some (.int x1), some (.int x2), some (.int x3), some (.int (x4 + 1))]) X dX12_worthOf_86 rfl rfl (by decide) rfl ?_
          refine aw_goto (tgt := 36) X dX12_worthOf_89 (by decide) ?_
          cases h
          refine aw_msk [true, true, true, true, true] ?_
          exact hi _ rfl
        · rw [if_neg c13] at h
          cases h
          refine aw_msk [false, false, false, false, false] ?_
          exact (he _ rfl).1 rfl
set_option maxRecDepth 100000 in
set_option maxHeartbeats 4000000 in
theorem so_X12_worthOf_4 {fr : Nat} (hfr : 1 ≤ fr) (Z : AZ) (X : AX Z cX12_worthOf 5 RX12 (some .int) 1 fr) (x1 : Int32) (x2 : Int32) (x3 : Int32) (s : Mem) (q : (Int32 × Int32 × Mem) ⊕ (Nat × Int32 × Mem)) (h : st_X12_worthOf_4 x1 x2 x3 s = some q) (hi : ∀ y : Int32 × Int32 × Mem, q = .inl y → AW Z y.2.2 4 [some (.ref (zr Z 0)), some (.int x1), some (.int y.1), some (.int y.2.1), none] []) (he : ∀ b : Nat × Int32 × Mem, q = .inr b → (b.1 = 0 → AW Z b.2.2 84 [none, none, none, none, none] []) ∧ (b.1 = 1 → AW Z b.2.2 98 [none, none, some (.int b.2.1), none, none] [])) : AW Z s 4 [some (.ref (zr Z 0)), some (.int x1), some (.int x2), some (.int x3), none] [] := by
  unfold st_X12_worthOf_4 at h
  refine aw_iload_n X dX12_worthOf_4 rfl ?_
  refine aw_aload_n X dX12_worthOf_5 rfl ?_
  refine aw_geti X dX12_worthOf_6 fl_RX12_427 iu_RX12 gu_RX12_42 ?_
  refine aw_icmp_ge (tgt := 98) X dX12_worthOf_9 (by decide) (fun c1 => ?_) (fun c1 => ?_)
  · rw [if_pos c1] at h
    cases h
    refine aw_msk [false, false, true, false, false] ?_
    exact (he _ rfl).2 rfl
  · rw [if_neg c1] at h
    refine aw_aload_n X dX12_worthOf_12 rfl ?_
    refine aw_iload_n X dX12_worthOf_13 rfl ?_
    refine aw_iload_n X dX12_worthOf_14 rfl ?_
    obtain ⟨r2, er2, h⟩ := bnd h
    refine aw_callV X dX12_worthOf_15 cv_RX12_314 (ok_X12_has er2 _ _ _ _ _) iu_RX12 rfl (Nat.le_trans (by decide) hfr) (by decide) rfl rfl (Nat.le_of_ble_eq_true rfl) ?_
    refine aw_if_ne (tgt := 24) X dX12_worthOf_18 (by decide) (fun c3 => ?_) (fun c3 => ?_)
    · rw [if_neg c3] at h
      refine aw_iload_n X dX12_worthOf_24 rfl ?_
      refine aw_aload_n X dX12_worthOf_25 rfl ?_
      refine aw_getr X dX12_worthOf_26 fl_RX12_83 iu_RX12 gu_RX12_45 ?_
      refine aw_iload_n X dX12_worthOf_29 rfl ?_
      obtain ⟨v4, ev4, h⟩ := bnd h
      refine aw_iald X dX12_worthOf_30 iu_RX12_45 ev4 ?_
      refine aw_iadd X dX12_worthOf_31 ?_
      refine aw_istore_n (L' := [some (.ref (zr Z 0)), some (.int x1), some (.int (x2 + v4)), some (.int x3), none]) X dX12_worthOf_32 (by decide) rfl ?_
      refine aw_iconst (v := 0) X dX12_worthOf_33 (by decide) ?_
      refine aw_istore (L' := [some (.ref (zr Z 0)), some (.int x1), some (.int (x2 + v4)), some (.int x3), some (.int 0)]) X dX12_worthOf_34 (by decide) rfl ?_
      obtain ⟨r14, er14, h⟩ := bnd h
      refine aw_msk [true, true, true, true, true] ?_
      refine it_ok (P := fun y : Int32 × Mem => AW Z y.2 36 [some (.ref (zr Z 0)), some (.int x1), some (.int (x2 + v4)), some (.int x3), some (.int y.1)] []) (Q := fun b : Nat × Mem => (b.1 = 0 → AW Z b.2 84 [none, none, none, none, none] []) ∧ (b.1 = 1 → AW Z b.2 92 [some (.ref (zr Z 0)), some (.int x1), some (.int (x2 + v4)), some (.int x3), none] [])) (fun y q hq hi he => so_X12_worthOf_36 hfr Z X x1 (x2 + v4) x3 y.1 y.2 q hq hi he) FUEL _ _ er14 ?_
      refine ⟨fun c0 => ?_, fun c1 => ?_⟩
      · rw [if_pos c0] at h
        cases h
        refine aw_msk [false, false, false, false, false] ?_
        exact (he _ rfl).1 rfl
      · rw [if_neg (by rw [c1]; decide)] at h
        refine aw_iinc (v := (x3 + 1)) (L' := [some (.ref (zr Z 0)), some (.int x1), some (.int (x2 + v4)), some (.int (x3 + 1)), none]) X dX12_worthOf_92 rfl rfl (by decide) rfl ?_
        refine aw_goto (tgt := 4) X dX12_worthOf_95 (by decide) ?_
        cases h
        refine aw_msk [true, true, true, true, false] ?_
        exact hi _ rfl
    · rw [if_pos c3] at h
      refine aw_goto (tgt := 92) X dX12_worthOf_21 (by decide) ?_
      refine aw_iinc (v := (x3 + 1)) (L' := [some (.ref (zr Z 0)), some (.int x1), some (.int x2), some (.int (x3 + 1)), none]) X dX12_worthOf_92 rfl rfl (by decide) rfl ?_
      refine aw_goto (tgt := 4) X dX12_worthOf_95 (by decide) ?_
      cases h
      refine aw_msk [true, true, true, true, false] ?_
      exact hi _ rfl
set_option maxRecDepth 100000 in
set_option maxHeartbeats 4000000 in
theorem w_X12_worthOf {fr : Nat} (hfr : 1 ≤ fr) (Z : AZ) (X : AX Z cX12_worthOf 5 RX12 (some .int) 1 fr) (x1 : Int32) (s : Mem) (r : Int32 × Mem) (hz : zres Z = (some (.int r.1), r.2)) (h : f_X12_worthOf x1 s = some r) : AW Z s 0 [some (.ref (zr Z 0)), some (.int x1), none, none, none] [] := by
  unfold f_X12_worthOf at h
  refine aw_iconst (v := 0) X dX12_worthOf_0 (by decide) ?_
  refine aw_istore_n (L' := [some (.ref (zr Z 0)), some (.int x1), some (.int 0), none, none]) X dX12_worthOf_1 (by decide) rfl ?_
  refine aw_iconst (v := 0) X dX12_worthOf_2 (by decide) ?_
  refine aw_istore_n (L' := [some (.ref (zr Z 0)), some (.int x1), some (.int 0), some (.int 0), none]) X dX12_worthOf_3 (by decide) rfl ?_
  obtain ⟨r15, er15, h⟩ := bnd h
  refine aw_msk [true, true, true, true, false] ?_
  refine it_ok (P := fun y : Int32 × Int32 × Mem => AW Z y.2.2 4 [some (.ref (zr Z 0)), some (.int x1), some (.int y.1), some (.int y.2.1), none] []) (Q := fun b : Nat × Int32 × Mem => (b.1 = 0 → AW Z b.2.2 84 [none, none, none, none, none] []) ∧ (b.1 = 1 → AW Z b.2.2 98 [none, none, some (.int b.2.1), none, none] [])) (fun y q hq hi he => so_X12_worthOf_4 hfr Z X x1 y.1 y.2.1 y.2.2 q hq hi he) FUEL _ _ er15 ?_
  refine ⟨fun c0 => ?_, fun c1 => ?_⟩
  · rw [if_pos c0] at h
    refine aw_iconst (v := (-1)) X dX12_worthOf_84 (by decide) ?_
    cases h
    exact aw_iret X dX12_worthOf_85 rfl hz.symm
  · rw [if_neg (by rw [c1]; decide)] at h
    refine aw_iload_n X dX12_worthOf_98 rfl ?_
    cases h
    exact aw_iret X dX12_worthOf_99 rfl hz.symm
set_option maxRecDepth 100000 in
set_option maxHeartbeats 4000000 in
theorem ok_X12_worthOf {x1 : Int32} {s : Mem} {r : Int32 × Mem} (h : f_X12_worthOf x1 s = some r) (l : Launch) (D : va_G) (ρ : Nat → Nat) (cA : ClassId × ClassId × ClassId) (τ : AT) : AM l D ρ cA 1 τ yX12_worthOf cX12_worthOf 5 (some .int) 1 [.ref (ρ 0), .int x1] (some (.int r.1)) s r.2 := by
  refine AM_of (L := [some (.ref (ρ 0)), some (.int x1), none, none, none]) (by decide) (by simp [Value.category]) (Nat.le_of_ble_eq_true rfl) (fun j v q => ?_) (fun Z X hρ hz hτ => ?_)
  · exact aL_ok (n := 3) [.ref (ρ 0), .int x1] j v q
  · subst hρ
    subst hτ
    exact w_X12_worthOf (Nat.le_refl _) Z X x1 s r hz h

theorem dX12_callsAt_0 : decode cX12_callsAt 0 = .ok (.iconst 0, 1) := by decide +kernel
theorem dX12_callsAt_1 : decode cX12_callsAt 1 = .ok (.istore_n 2, 1) := by decide +kernel
theorem dX12_callsAt_2 : decode cX12_callsAt 2 = .ok (.iconst 0, 1) := by decide +kernel
theorem dX12_callsAt_3 : decode cX12_callsAt 3 = .ok (.istore_n 3, 1) := by decide +kernel
theorem dX12_callsAt_4 : decode cX12_callsAt 4 = .ok (.iload_n 3, 1) := by decide +kernel
theorem dX12_callsAt_5 : decode cX12_callsAt 5 = .ok (.aload_n 0, 1) := by decide +kernel
theorem dX12_callsAt_6 : decode cX12_callsAt 6 = .ok (.getfield 427, 3) := by decide +kernel
theorem dX12_callsAt_9 : decode cX12_callsAt 9 = .ok (.if_icmp .ge 35, 3) := by decide +kernel
theorem dX12_callsAt_12 : decode cX12_callsAt 12 = .ok (.aload_n 0, 1) := by decide +kernel
theorem dX12_callsAt_13 : decode cX12_callsAt 13 = .ok (.iload_n 1, 1) := by decide +kernel
theorem dX12_callsAt_14 : decode cX12_callsAt 14 = .ok (.aload_n 0, 1) := by decide +kernel
theorem dX12_callsAt_15 : decode cX12_callsAt 15 = .ok (.getfield 77, 3) := by decide +kernel
theorem dX12_callsAt_18 : decode cX12_callsAt 18 = .ok (.iload_n 3, 1) := by decide +kernel
theorem dX12_callsAt_19 : decode cX12_callsAt 19 = .ok (.iaload, 1) := by decide +kernel
theorem dX12_callsAt_20 : decode cX12_callsAt 20 = .ok (.aload_n 0, 1) := by decide +kernel
theorem dX12_callsAt_21 : decode cX12_callsAt 21 = .ok (.getfield 80, 3) := by decide +kernel
theorem dX12_callsAt_24 : decode cX12_callsAt 24 = .ok (.iload_n 3, 1) := by decide +kernel
theorem dX12_callsAt_25 : decode cX12_callsAt 25 = .ok (.iaload, 1) := by decide +kernel
theorem dX12_callsAt_26 : decode cX12_callsAt 26 = .ok (.iconst 1, 1) := by decide +kernel
theorem dX12_callsAt_27 : decode cX12_callsAt 27 = .ok (.isub, 1) := by decide +kernel
theorem dX12_callsAt_28 : decode cX12_callsAt 28 = .ok (.invokevirtual 137, 3) := by decide +kernel
theorem dX12_callsAt_31 : decode cX12_callsAt 31 = .ok (.ifCond .eq 7, 3) := by decide +kernel
theorem dX12_callsAt_34 : decode cX12_callsAt 34 = .ok (.iload_n 2, 1) := by decide +kernel
theorem dX12_callsAt_35 : decode cX12_callsAt 35 = .ok (.iconst 1, 1) := by decide +kernel
theorem dX12_callsAt_36 : decode cX12_callsAt 36 = .ok (.iadd, 1) := by decide +kernel
theorem dX12_callsAt_37 : decode cX12_callsAt 37 = .ok (.istore_n 2, 1) := by decide +kernel
theorem dX12_callsAt_38 : decode cX12_callsAt 38 = .ok (.iinc 3 1, 3) := by decide +kernel
theorem dX12_callsAt_41 : decode cX12_callsAt 41 = .ok (.goto (-37), 3) := by decide +kernel
theorem dX12_callsAt_44 : decode cX12_callsAt 44 = .ok (.iload_n 2, 1) := by decide +kernel
theorem dX12_callsAt_45 : decode cX12_callsAt 45 = .ok (.ireturn, 1) := by decide +kernel
set_option maxRecDepth 100000 in
set_option maxHeartbeats 4000000 in
theorem so_X12_callsAt_4 {fr : Nat} (hfr : 1 ≤ fr) (Z : AZ) (X : AX Z cX12_callsAt 4 RX12 (some .int) 1 fr) (x1 : Int32) (x2 : Int32) (x3 : Int32) (s : Mem) (q : (Int32 × Int32 × Mem) ⊕ (Int32 × Mem)) (h : st_X12_callsAt_4 x1 x2 x3 s = some q) (hi : ∀ y : Int32 × Int32 × Mem, q = .inl y → AW Z y.2.2 4 [some (.ref (zr Z 0)), some (.int x1), some (.int y.1), some (.int y.2.1)] []) (he : ∀ b : Int32 × Mem, q = .inr b → AW Z b.2 44 [none, none, some (.int b.1), none] []) : AW Z s 4 [some (.ref (zr Z 0)), some (.int x1), some (.int x2), some (.int x3)] [] := by
  unfold st_X12_callsAt_4 at h
  refine aw_iload_n X dX12_callsAt_4 rfl ?_
  refine aw_aload_n X dX12_callsAt_5 rfl ?_
  refine aw_geti X dX12_callsAt_6 fl_RX12_427 iu_RX12 gu_RX12_42 ?_
  refine aw_icmp_ge (tgt := 44) X dX12_callsAt_9 (by decide) (fun c1 => ?_) (fun c1 => ?_)
  · rw [if_pos c1] at h
    cases h
    refine aw_msk [false, false, true, false] ?_
    exact he _ rfl
  · rw [if_neg c1] at h
    refine aw_aload_n X dX12_callsAt_12 rfl ?_
    refine aw_iload_n X dX12_callsAt_13 rfl ?_
    refine aw_aload_n X dX12_callsAt_14 rfl ?_
    refine aw_getr X dX12_callsAt_15 fl_RX12_77 iu_RX12 gu_RX12_43 ?_
    refine aw_iload_n X dX12_callsAt_18 rfl ?_
    obtain ⟨v2, ev2, h⟩ := bnd h
    refine aw_iald X dX12_callsAt_19 iu_RX12_43 ev2 ?_
    refine aw_aload_n X dX12_callsAt_20 rfl ?_
    refine aw_getr X dX12_callsAt_21 fl_RX12_80 iu_RX12 gu_RX12_44 ?_
    refine aw_iload_n X dX12_callsAt_24 rfl ?_
    obtain ⟨v3, ev3, h⟩ := bnd h
    refine aw_iald X dX12_callsAt_25 iu_RX12_44 ev3 ?_
    refine aw_iconst (v := 1) X dX12_callsAt_26 (by decide) ?_
    refine aw_isub X dX12_callsAt_27 ?_
    obtain ⟨r4, er4, h⟩ := bnd h
    refine aw_callV X dX12_callsAt_28 cv_RX12_137 (ok_X12_isIn er4 _ _ _ _ _) iu_RX12 rfl (Nat.le_trans (by decide) hfr) (by decide) rfl rfl (Nat.le_of_ble_eq_true rfl) ?_
    refine aw_if_eq (tgt := 38) X dX12_callsAt_31 (by decide) (fun c5 => ?_) (fun c5 => ?_)
    · rw [if_pos c5] at h
      refine aw_iinc (v := (x3 + 1)) (L' := [some (.ref (zr Z 0)), some (.int x1), some (.int x2), some (.int (x3 + 1))]) X dX12_callsAt_38 rfl rfl (by decide) rfl ?_
      refine aw_goto (tgt := 4) X dX12_callsAt_41 (by decide) ?_
      cases h
      refine aw_msk [true, true, true, true] ?_
      exact hi _ rfl
    · rw [if_neg c5] at h
      refine aw_iload_n X dX12_callsAt_34 rfl ?_
      refine aw_iconst (v := 1) X dX12_callsAt_35 (by decide) ?_
      refine aw_iadd X dX12_callsAt_36 ?_
      refine aw_istore_n (L' := [some (.ref (zr Z 0)), some (.int x1), some (.int (x2 + 1)), some (.int x3)]) X dX12_callsAt_37 (by decide) rfl ?_
      refine aw_iinc (v := (x3 + 1)) (L' := [some (.ref (zr Z 0)), some (.int x1), some (.int (x2 + 1)), some (.int (x3 + 1))]) X dX12_callsAt_38 rfl rfl (by decide) rfl ?_
      refine aw_goto (tgt := 4) X dX12_callsAt_41 (by decide) ?_
      cases h
      refine aw_msk [true, true, true, true] ?_
      exact hi _ rfl
set_option maxRecDepth 100000 in
set_option maxHeartbeats 4000000 in
theorem w_X12_callsAt {fr : Nat} (hfr : 1 ≤ fr) (Z : AZ) (X : AX Z cX12_callsAt 4 RX12 (some .int) 1 fr) (x1 : Int32) (s : Mem) (r : Int32 × Mem) (hz : zres Z = (some (.int r.1), r.2)) (h : f_X12_callsAt x1 s = some r) : AW Z s 0 [some (.ref (zr Z 0)), some (.int x1), none, none] [] := by
  unfold f_X12_callsAt at h
  refine aw_iconst (v := 0) X dX12_callsAt_0 (by decide) ?_
  refine aw_istore_n (L' := [some (.ref (zr Z 0)), some (.int x1), some (.int 0), none]) X dX12_callsAt_1 (by decide) rfl ?_
  refine aw_iconst (v := 0) X dX12_callsAt_2 (by decide) ?_
  refine aw_istore_n (L' := [some (.ref (zr Z 0)), some (.int x1), some (.int 0), some (.int 0)]) X dX12_callsAt_3 (by decide) rfl ?_
  obtain ⟨r6, er6, h⟩ := bnd h
  refine aw_msk [true, true, true, true] ?_
  refine it_ok (P := fun y : Int32 × Int32 × Mem => AW Z y.2.2 4 [some (.ref (zr Z 0)), some (.int x1), some (.int y.1), some (.int y.2.1)] []) (Q := fun b : Int32 × Mem => AW Z b.2 44 [none, none, some (.int b.1), none] []) (fun y q hq hi he => so_X12_callsAt_4 hfr Z X x1 y.1 y.2.1 y.2.2 q hq hi he) FUEL _ _ er6 ?_
  refine aw_iload_n X dX12_callsAt_44 rfl ?_
  cases h
  exact aw_iret X dX12_callsAt_45 rfl hz.symm
set_option maxRecDepth 100000 in
set_option maxHeartbeats 4000000 in
theorem ok_X12_callsAt {x1 : Int32} {s : Mem} {r : Int32 × Mem} (h : f_X12_callsAt x1 s = some r) (l : Launch) (D : va_G) (ρ : Nat → Nat) (cA : ClassId × ClassId × ClassId) (τ : AT) : AM l D ρ cA 1 τ yX12_callsAt cX12_callsAt 4 (some .int) 1 [.ref (ρ 0), .int x1] (some (.int r.1)) s r.2 := by
  refine AM_of (L := [some (.ref (ρ 0)), some (.int x1), none, none]) (by decide) (by simp [Value.category]) (Nat.le_of_ble_eq_true rfl) (fun j v q => ?_) (fun Z X hρ hz hτ => ?_)
  · exact aL_ok (n := 2) [.ref (ρ 0), .int x1] j v q
  · subst hρ
    subst hτ
    exact w_X12_callsAt (Nat.le_refl _) Z X x1 s r hz h

theorem dX12_calls_0 : decode cX12_calls 0 = .ok (.aload_n 0, 1) := by decide +kernel
theorem dX12_calls_1 : decode cX12_calls 1 = .ok (.iconst 0, 1) := by decide +kernel
theorem dX12_calls_2 : decode cX12_calls 2 = .ok (.putfield 122, 3) := by decide +kernel
theorem dX12_calls_5 : decode cX12_calls 5 = .ok (.aload_n 0, 1) := by decide +kernel
theorem dX12_calls_6 : decode cX12_calls 6 = .ok (.iload_n 1, 1) := by decide +kernel
theorem dX12_calls_7 : decode cX12_calls 7 = .ok (.iconst 0, 1) := by decide +kernel
theorem dX12_calls_8 : decode cX12_calls 8 = .ok (.iconst 3, 1) := by decide +kernel
theorem dX12_calls_9 : decode cX12_calls 9 = .ok (.invokevirtual 137, 3) := by decide +kernel
theorem dX12_calls_12 : decode cX12_calls 12 = .ok (.ifCond .ne 5, 3) := by decide +kernel
theorem dX12_calls_15 : decode cX12_calls 15 = .ok (.iconst (-1), 1) := by decide +kernel
theorem dX12_calls_16 : decode cX12_calls 16 = .ok (.ireturn, 1) := by decide +kernel
theorem dX12_calls_17 : decode cX12_calls 17 = .ok (.iconst 0, 1) := by decide +kernel
theorem dX12_calls_18 : decode cX12_calls 18 = .ok (.istore_n 2, 1) := by decide +kernel
theorem dX12_calls_19 : decode cX12_calls 19 = .ok (.iconst 0, 1) := by decide +kernel
theorem dX12_calls_20 : decode cX12_calls 20 = .ok (.istore_n 3, 1) := by decide +kernel
theorem dX12_calls_21 : decode cX12_calls 21 = .ok (.iconst 1, 1) := by decide +kernel
theorem dX12_calls_22 : decode cX12_calls 22 = .ok (.istore 4, 2) := by decide +kernel
theorem dX12_calls_24 : decode cX12_calls 24 = .ok (.iload 4, 2) := by decide +kernel
theorem dX12_calls_26 : decode cX12_calls 26 = .ok (.iconst 1, 1) := by decide +kernel
theorem dX12_calls_27 : decode cX12_calls 27 = .ok (.aload_n 0, 1) := by decide +kernel
theorem dX12_calls_28 : decode cX12_calls 28 = .ok (.getfield 427, 3) := by decide +kernel
theorem dX12_calls_31 : decode cX12_calls 31 = .ok (.ishl, 1) := by decide +kernel
theorem dX12_calls_32 : decode cX12_calls 32 = .ok (.if_icmp .ge 57, 3) := by decide +kernel
theorem dX12_calls_35 : decode cX12_calls 35 = .ok (.iload_n 1, 1) := by decide +kernel
theorem dX12_calls_36 : decode cX12_calls 36 = .ok (.iconst 2, 1) := by decide +kernel
theorem dX12_calls_37 : decode cX12_calls 37 = .ok (.if_icmp .ge 52, 3) := by decide +kernel
theorem dX12_calls_40 : decode cX12_calls 40 = .ok (.aload_n 0, 1) := by decide +kernel
theorem dX12_calls_41 : decode cX12_calls 41 = .ok (.iload 4, 2) := by decide +kernel
theorem dX12_calls_43 : decode cX12_calls 43 = .ok (.invokevirtual 430, 3) := by decide +kernel
theorem dX12_calls_46 : decode cX12_calls 46 = .ok (.istore 5, 2) := by decide +kernel
theorem dX12_calls_48 : decode cX12_calls 48 = .ok (.iload 5, 2) := by decide +kernel
theorem dX12_calls_50 : decode cX12_calls 50 = .ok (.iload_n 2, 1) := by decide +kernel
theorem dX12_calls_51 : decode cX12_calls 51 = .ok (.if_icmp .lt 32, 3) := by decide +kernel
theorem dX12_calls_54 : decode cX12_calls 54 = .ok (.iload 5, 2) := by decide +kernel
theorem dX12_calls_56 : decode cX12_calls 56 = .ok (.iload_n 2, 1) := by decide +kernel
theorem dX12_calls_57 : decode cX12_calls 57 = .ok (.if_icmp .ne 16, 3) := by decide +kernel
theorem dX12_calls_60 : decode cX12_calls 60 = .ok (.aload_n 0, 1) := by decide +kernel
theorem dX12_calls_61 : decode cX12_calls 61 = .ok (.iload 4, 2) := by decide +kernel
theorem dX12_calls_63 : decode cX12_calls 63 = .ok (.invokevirtual 321, 3) := by decide +kernel
theorem dX12_calls_66 : decode cX12_calls 66 = .ok (.iload_n 3, 1) := by decide +kernel
theorem dX12_calls_67 : decode cX12_calls 67 = .ok (.if_icmp .lt 6, 3) := by decide +kernel
theorem dX12_calls_70 : decode cX12_calls 70 = .ok (.goto 13, 3) := by decide +kernel
theorem dX12_calls_73 : decode cX12_calls 73 = .ok (.iload 5, 2) := by decide +kernel
theorem dX12_calls_75 : decode cX12_calls 75 = .ok (.istore_n 2, 1) := by decide +kernel
theorem dX12_calls_76 : decode cX12_calls 76 = .ok (.aload_n 0, 1) := by decide +kernel
theorem dX12_calls_77 : decode cX12_calls 77 = .ok (.iload 4, 2) := by decide +kernel
theorem dX12_calls_79 : decode cX12_calls 79 = .ok (.invokevirtual 321, 3) := by decide +kernel
theorem dX12_calls_82 : decode cX12_calls 82 = .ok (.istore_n 3, 1) := by decide +kernel
theorem dX12_calls_83 : decode cX12_calls 83 = .ok (.iinc 4 1, 3) := by decide +kernel
theorem dX12_calls_86 : decode cX12_calls 86 = .ok (.goto (-62), 3) := by decide +kernel
theorem dX12_calls_89 : decode cX12_calls 89 = .ok (.iload_n 1, 1) := by decide +kernel
theorem dX12_calls_90 : decode cX12_calls 90 = .ok (.iconst 2, 1) := by decide +kernel
theorem dX12_calls_91 : decode cX12_calls 91 = .ok (.if_icmp .ge 13, 3) := by decide +kernel
theorem dX12_calls_94 : decode cX12_calls 94 = .ok (.iload_n 1, 1) := by decide +kernel
theorem dX12_calls_95 : decode cX12_calls 95 = .ok (.ifCond .ne 7, 3) := by decide +kernel
theorem dX12_calls_98 : decode cX12_calls 98 = .ok (.iload_n 2, 1) := by decide +kernel
theorem dX12_calls_99 : decode cX12_calls 99 = .ok (.goto 4, 3) := by decide +kernel
theorem dX12_calls_102 : decode cX12_calls 102 = .ok (.iload_n 3, 1) := by decide +kernel
theorem dX12_calls_103 : decode cX12_calls 103 = .ok (.ireturn, 1) := by decide +kernel
theorem dX12_calls_104 : decode cX12_calls 104 = .ok (.iconst 0, 1) := by decide +kernel
theorem dX12_calls_105 : decode cX12_calls 105 = .ok (.istore 4, 2) := by decide +kernel
theorem dX12_calls_107 : decode cX12_calls 107 = .ok (.iconst 0, 1) := by decide +kernel
theorem dX12_calls_108 : decode cX12_calls 108 = .ok (.istore 5, 2) := by decide +kernel
theorem dX12_calls_110 : decode cX12_calls 110 = .ok (.iconst 0, 1) := by decide +kernel
theorem dX12_calls_111 : decode cX12_calls 111 = .ok (.istore 6, 2) := by decide +kernel
theorem dX12_calls_113 : decode cX12_calls 113 = .ok (.iload 6, 2) := by decide +kernel
theorem dX12_calls_115 : decode cX12_calls 115 = .ok (.bipush 100, 2) := by decide +kernel
theorem dX12_calls_117 : decode cX12_calls 117 = .ok (.if_icmp .ge 38, 3) := by decide +kernel
theorem dX12_calls_120 : decode cX12_calls 120 = .ok (.aload_n 0, 1) := by decide +kernel
theorem dX12_calls_121 : decode cX12_calls 121 = .ok (.iload 6, 2) := by decide +kernel
theorem dX12_calls_123 : decode cX12_calls 123 = .ok (.invokevirtual 433, 3) := by decide +kernel
theorem dX12_calls_126 : decode cX12_calls 126 = .ok (.ifCond .le 9, 3) := by decide +kernel
theorem dX12_calls_129 : decode cX12_calls 129 = .ok (.iload 4, 2) := by decide +kernel
theorem dX12_calls_131 : decode cX12_calls 131 = .ok (.iconst 1, 1) := by decide +kernel
theorem dX12_calls_132 : decode cX12_calls 132 = .ok (.iadd, 1) := by decide +kernel
theorem dX12_calls_133 : decode cX12_calls 133 = .ok (.istore 4, 2) := by decide +kernel
theorem dX12_calls_135 : decode cX12_calls 135 = .ok (.aload_n 0, 1) := by decide +kernel
theorem dX12_calls_136 : decode cX12_calls 136 = .ok (.iload 5, 2) := by decide +kernel
theorem dX12_calls_138 : decode cX12_calls 138 = .ok (.aload_n 0, 1) := by decide +kernel
theorem dX12_calls_139 : decode cX12_calls 139 = .ok (.iload 6, 2) := by decide +kernel
theorem dX12_calls_141 : decode cX12_calls 141 = .ok (.invokevirtual 433, 3) := by decide +kernel
theorem dX12_calls_144 : decode cX12_calls 144 = .ok (.invokevirtual 386, 3) := by decide +kernel
theorem dX12_calls_147 : decode cX12_calls 147 = .ok (.istore 5, 2) := by decide +kernel
theorem dX12_calls_149 : decode cX12_calls 149 = .ok (.iinc 6 1, 3) := by decide +kernel
theorem dX12_calls_152 : decode cX12_calls 152 = .ok (.goto (-39), 3) := by decide +kernel
theorem dX12_calls_155 : decode cX12_calls 155 = .ok (.iload_n 1, 1) := by decide +kernel
theorem dX12_calls_156 : decode cX12_calls 156 = .ok (.iconst 2, 1) := by decide +kernel
theorem dX12_calls_157 : decode cX12_calls 157 = .ok (.if_icmp .ne 8, 3) := by decide +kernel
theorem dX12_calls_160 : decode cX12_calls 160 = .ok (.iload 4, 2) := by decide +kernel
theorem dX12_calls_162 : decode cX12_calls 162 = .ok (.goto 5, 3) := by decide +kernel
theorem dX12_calls_165 : decode cX12_calls 165 = .ok (.iload 5, 2) := by decide +kernel
theorem dX12_calls_167 : decode cX12_calls 167 = .ok (.ireturn, 1) := by decide +kernel
set_option maxRecDepth 100000 in
set_option maxHeartbeats 4000000 in
theorem jo_X12_calls_73 {fr : Nat} (hfr : 2 ≤ fr) (Z : AZ) (X : AX Z cX12_calls 7 RX12 (some .int) 1 fr) (x1 : Int32) (x4 : Int32) (x5 : Int32) (s : Mem) (q : (Int32 × Int32 × Int32 × Mem) ⊕ (Int32 × Int32 × Mem)) (h : jn_X12_calls_73 x1 x4 x5 s = some q) (hi : ∀ y : Int32 × Int32 × Int32 × Mem, q = .inl y → AW Z y.2.2.2 24 [some (.ref (zr Z 0)), some (.int x1), some (.int y.1), some (.int y.2.1), some (.int y.2.2.1), none, none] []) (he : ∀ b : Int32 × Int32 × Mem, q = .inr b → AW Z b.2.2 89 [some (.ref (zr Z 0)), some (.int x1), some (.int b.1), some (.int b.2.1), none, none, none] []) : AW Z s 73 [some (.ref (zr Z 0)), some (.int x1), none, none, some (.int x4), some (.int x5), none] [] := by
  unfold jn_X12_calls_73 at h
  refine aw_iload X dX12_calls_73 rfl ?_
  refine aw_istore_n (L' := [some (.ref (zr Z 0)), some (.int x1), some (.int x5), none, some (.int x4), some (.int x5), none]) X dX12_calls_75 (by decide) rfl ?_
  refine aw_aload_n X dX12_calls_76 rfl ?_
  refine aw_iload X dX12_calls_77 rfl ?_
  obtain ⟨r8, er8, h⟩ := bnd h
  refine aw_callV X dX12_calls_79 cv_RX12_321 (ok_X12_onesOf er8 _ _ _ _ _) iu_RX12 rfl (Nat.le_trans (by decide) hfr) (by decide) rfl rfl (Nat.le_of_ble_eq_true rfl) ?_
  refine aw_istore_n (L' := [some (.ref (zr Z 0)), some (.int x1), some (.int x5), some (.int r8.1), some (.int x4), some (.int x5), none]) X dX12_calls_82 (by decide) rfl ?_
  refine aw_iinc (v := (x4 + 1)) (L' := [some (.ref (zr Z 0)), some (.int x1), some (.int x5), some (.int r8.1), some (.int (x4 + 1)), some (.int x5), none]) X dX12_calls_83 rfl rfl (by decide) rfl ?_
  refine aw_goto (tgt := 24) X dX12_calls_86 (by decide) ?_
  cases h
  refine aw_msk [true, true, true, true, true, false, false] ?_
  exact hi _ rfl
set_option maxRecDepth 100000 in
set_option maxHeartbeats 4000000 in
theorem so_X12_calls_24 {fr : Nat} (hfr : 2 ≤ fr) (Z : AZ) (X : AX Z cX12_calls 7 RX12 (some .int) 1 fr) (x1 : Int32) (x2 : Int32) (x3 : Int32) (x4 : Int32) (s : Mem) (q : (Int32 × Int32 × Int32 × Mem) ⊕ (Int32 × Int32 × Mem)) (h : st_X12_calls_24 x1 x2 x3 x4 s = some q) (hi : ∀ y : Int32 × Int32 × Int32 × Mem, q = .inl y → AW Z y.2.2.2 24 [some (.ref (zr Z 0)), some (.int x1), some (.int y.1), some (.int y.2.1), some (.int y.2.2.1), none, none] []) (he : ∀ b : Int32 × Int32 × Mem, q = .inr b → AW Z b.2.2 89 [some (.ref (zr Z 0)), some (.int x1), some (.int b.1), some (.int b.2.1), none, none, none] []) : AW Z s 24 [some (.ref (zr Z 0)), some (.int x1), some (.int x2), some (.int x3), some (.int x4), none, none] [] := by
  unfold st_X12_calls_24 at h
  refine aw_iload X dX12_calls_24 rfl ?_
  refine aw_iconst (v := 1) X dX12_calls_26 (by decide) ?_
  refine aw_aload_n X dX12_calls_27 rfl ?_
  refine aw_geti X dX12_calls_28 fl_RX12_427 iu_RX12 gu_RX12_42 ?_
  refine aw_ishl X dX12_calls_31 ?_
  refine aw_icmp_ge (tgt := 89) X dX12_calls_32 (by decide) (fun c3 => ?_) (fun c3 => ?_)
  · rw [if_pos c3] at h
    cases h
    refine aw_msk [true, true, true, true, false, false, false] ?_
    exact he _ rfl
  · rw [if_neg c3] at h
    refine aw_iload_n X dX12_calls_35 rfl ?_
    refine aw_iconst (v := 2) X dX12_calls_36 (by decide) ?_
    refine aw_icmp_ge (tgt := 89) X dX12_calls_37 (by decide) (fun c4 => ?_) (fun c4 => ?_)
    · rw [if_pos c4] at h
      cases h
      refine aw_msk [true, true, true, true, false, false, false] ?_
      exact he _ rfl
    · rw [if_neg c4] at h
      refine aw_aload_n X dX12_calls_40 rfl ?_
      refine aw_iload X dX12_calls_41 rfl ?_
      obtain ⟨r5, er5, h⟩ := bnd h
      refine aw_callV X dX12_calls_43 cv_RX12_430 (ok_X12_worthOf er5 _ _ _ _ _) iu_RX12 rfl (Nat.le_trans (by decide) hfr) (by decide) rfl rfl (Nat.le_of_ble_eq_true rfl) ?_
      refine aw_istore (L' := [some (.ref (zr Z 0)), some (.int x1), some (.int x2), some (.int x3), some (.int x4), some (.int r5.1), none]) X dX12_calls_46 (by decide) rfl ?_
      refine aw_iload X dX12_calls_48 rfl ?_
      refine aw_iload_n X dX12_calls_50 rfl ?_
      refine aw_icmp_lt (tgt := 83) X dX12_calls_51 (by decide) (fun c6 => ?_) (fun c6 => ?_)
      · rw [if_pos c6] at h
        refine aw_iinc (v := (x4 + 1)) (L' := [some (.ref (zr Z 0)), some (.int x1), some (.int x2), some (.int x3), some (.int (x4 + 1)), some (.int r5.1), none]) X dX12_calls_83 rfl rfl (by decide) rfl ?_
        refine aw_goto (tgt := 24) X dX12_calls_86 (by decide) ?_
        cases h
        refine aw_msk [true, true, true, true, true, false, false] ?_
        exact hi _ rfl
      · rw [if_neg c6] at h
        refine aw_iload X dX12_calls_54 rfl ?_
        refine aw_iload_n X dX12_calls_56 rfl ?_
        refine aw_icmp_ne (tgt := 73) X dX12_calls_57 (by decide) (fun c7 => ?_) (fun c7 => ?_)
        · rw [if_neg c7] at h
          refine aw_msk [true, true, false, false, true, true, false] ?_
          exact jo_X12_calls_73 hfr Z X _ _ _ _ _ h hi he
        · rw [if_pos c7] at h
          refine aw_aload_n X dX12_calls_60 rfl ?_
          refine aw_iload X dX12_calls_61 rfl ?_
          obtain ⟨r9, er9, h⟩ := bnd h
          refine aw_callV X dX12_calls_63 cv_RX12_321 (ok_X12_onesOf er9 _ _ _ _ _) iu_RX12 rfl (Nat.le_trans (by decide) hfr) (by decide) rfl rfl (Nat.le_of_ble_eq_true rfl) ?_
          refine aw_iload_n X dX12_calls_66 rfl ?_
          refine aw_icmp_lt (tgt := 73) X dX12_calls_67 (by decide) (fun c10 => ?_) (fun c10 => ?_)
          · rw [if_pos c10] at h
            refine aw_msk [true, true, false, false, true, true, false] ?_
            exact jo_X12_calls_73 hfr Z X _ _ _ _ _ h hi he
          · rw [if_neg c10] at h
            refine aw_goto (tgt := 83) X dX12_calls_70 (by decide) ?_
            refine aw_iinc (v := (x4 + 1)) (L' := [some (.ref (zr Z 0)), some (.int x1), some (.int x2), some (.int x3), some (.int (x4 + 1)), some (.int r5.1), none]) X dX12_calls_83 rfl rfl (by decide) rfl ?_
            refine aw_goto (tgt := 24) X dX12_calls_86 (by decide) ?_
            cases h
            refine aw_msk [true, true, true, true, true, false, false] ?_
            exact hi _ rfl
set_option maxRecDepth 100000 in
set_option maxHeartbeats 4000000 in
theorem jo_X12_calls_135 {fr : Nat} (hfr : 2 ≤ fr) (Z : AZ) (X : AX Z cX12_calls 7 RX12 (some .int) 1 fr) (x1 : Int32) (x4 : Int32) (x5 : Int32) (x6 : Int32) (s : Mem) (q : (Int32 × Int32 × Int32 × Mem) ⊕ (Int32 × Int32 × Mem)) (h : jn_X12_calls_135 x1 x4 x5 x6 s = some q) (hi : ∀ y : Int32 × Int32 × Int32 × Mem, q = .inl y → AW Z y.2.2.2 113 [some (.ref (zr Z 0)), some (.int x1), none, none, some (.int y.1), some (.int y.2.1), some (.int y.2.2.1)] []) (he : ∀ b : Int32 × Int32 × Mem, q = .inr b → AW Z b.2.2 155 [none, some (.int x1), none, none, some (.int b.1), some (.int b.2.1), none] []) : AW Z s 135 [some (.ref (zr Z 0)), some (.int x1), none, none, some (.int x4), some (.int x5), some (.int x6)] [] := by
  unfold jn_X12_calls_135 at h
  refine aw_aload_n X dX12_calls_135 rfl ?_
  refine aw_iload X dX12_calls_136 rfl ?_
  refine aw_aload_n X dX12_calls_138 rfl ?_
  refine aw_iload X dX12_calls_139 rfl ?_
  obtain ⟨r16, er16, h⟩ := bnd h
  refine aw_callV X dX12_calls_141 cv_RX12_433 (ok_X12_callsAt er16 _ _ _ _ _) iu_RX12 rfl (Nat.le_trans (by decide) hfr) (by decide) rfl rfl (Nat.le_of_ble_eq_true rfl) ?_
  obtain ⟨r17, er17, h⟩ := bnd h
  refine aw_callV X dX12_calls_144 cv_RX12_386 (ok_X12_greater er17 _ _ _ _ _) iu_RX12 rfl (Nat.le_trans (by decide) hfr) (by decide) rfl rfl (Nat.le_of_ble_eq_true rfl) ?_
  refine aw_istore (L' := [some (.ref (zr Z 0)), some (.int x1), none, none, some (.int x4), some (.int r17.1), some (.int x6)]) X dX12_calls_147 (by decide) rfl ?_
  refine aw_iinc (v := (x6 + 1)) (L' := [some (.ref (zr Z 0)), some (.int x1), none, none, some (.int x4), some (.int r17.1), some (.int (x6 + 1))]) X dX12_calls_149 rfl rfl (by decide) rfl ?_
  refine aw_goto (tgt := 113) X dX12_calls_152 (by decide) ?_
  cases h
  refine aw_msk [true, true, false, false, true, true, true] ?_
  exact hi _ rfl
set_option maxRecDepth 100000 in
set_option maxHeartbeats 4000000 in
theorem so_X12_calls_113 {fr : Nat} (hfr : 2 ≤ fr) (Z : AZ) (X : AX Z cX12_calls 7 RX12 (some .int) 1 fr) (x1 : Int32) (x4 : Int32) (x5 : Int32) (x6 : Int32) (s : Mem) (q : (Int32 × Int32 × Int32 × Mem) ⊕ (Int32 × Int32 × Mem)) (h : st_X12_calls_113 x1 x4 x5 x6 s = some q) (hi : ∀ y : Int32 × Int32 × Int32 × Mem, q = .inl y → AW Z y.2.2.2 113 [some (.ref (zr Z 0)), some (.int x1), none, none, some (.int y.1), some (.int y.2.1), some (.int y.2.2.1)] []) (he : ∀ b : Int32 × Int32 × Mem, q = .inr b → AW Z b.2.2 155 [none, some (.int x1), none, none, some (.int b.1), some (.int b.2.1), none] []) : AW Z s 113 [some (.ref (zr Z 0)), some (.int x1), none, none, some (.int x4), some (.int x5), some (.int x6)] [] := by
  unfold st_X12_calls_113 at h
  refine aw_iload X dX12_calls_113 rfl ?_
  refine aw_bipush (v := 100) X dX12_calls_115 (by decide) ?_
  refine aw_icmp_ge (tgt := 155) X dX12_calls_117 (by decide) (fun c13 => ?_) (fun c13 => ?_)
  · rw [if_pos c13] at h
    cases h
    refine aw_msk [false, true, false, false, true, true, false] ?_
    exact he _ rfl
  · rw [if_neg c13] at h
    refine aw_aload_n X dX12_calls_120 rfl ?_
    refine aw_iload X dX12_calls_121 rfl ?_
    obtain ⟨r14, er14, h⟩ := bnd h
    refine aw_callV X dX12_calls_123 cv_RX12_433 (ok_X12_callsAt er14 _ _ _ _ _) iu_RX12 rfl (Nat.le_trans (by decide) hfr) (by decide) rfl rfl (Nat.le_of_ble_eq_true rfl) ?_
    refine aw_if_le (tgt := 135) X dX12_calls_126 (by decide) (fun c15 => ?_) (fun c15 => ?_)
    · rw [if_pos c15] at h
      refine aw_msk [true, true, false, false, true, true, true] ?_
      exact jo_X12_calls_135 hfr Z X _ _ _ _ _ _ h hi he
    · rw [if_neg c15] at h
      refine aw_iload X dX12_calls_129 rfl ?_
      refine aw_iconst (v := 1) X dX12_calls_131 (by decide) ?_
      refine aw_iadd X dX12_calls_132 ?_
      refine aw_istore (L' := [some (.ref (zr Z 0)), some (.int x1), none, none, some (.int (x4 + 1)), some (.int x5), some (.int x6)]) X dX12_calls_133 (by decide) rfl ?_
      refine aw_msk [true, true, false, false, true, true, true] ?_
      exact jo_X12_calls_135 hfr Z X _ _ _ _ _ _ h hi he
set_option maxRecDepth 100000 in
set_option maxHeartbeats 4000000 in
theorem jo_X12_calls_89 {fr : Nat} (hfr : 2 ≤ fr) (Z : AZ) (X : AX Z cX12_calls 7 RX12 (some .int) 1 fr) (x1 : Int32) (x2 : Int32) (x3 : Int32) (s : Mem) (r : Int32 × Mem) (hz : zres Z = (some (.int r.1), r.2)) (h : jn_X12_calls_89 x1 x2 x3 s = some r) : AW Z s 89 [some (.ref (zr Z 0)), some (.int x1), some (.int x2), some (.int x3), none, none, none] [] := by
  unfold jn_X12_calls_89 at h
  refine aw_iload_n X dX12_calls_89 rfl ?_
  refine aw_iconst (v := 2) X dX12_calls_90 (by decide) ?_
  refine aw_icmp_ge (tgt := 104) X dX12_calls_91 (by decide) (fun c12 => ?_) (fun c12 => ?_)
  · rw [if_pos c12] at h
    refine aw_iconst (v := 0) X dX12_calls_104 (by decide) ?_
    refine aw_istore (L' := [some (.ref (zr Z 0)), some (.int x1), some (.int x2), some (.int x3), some (.int 0), none, none]) X dX12_calls_105 (by decide) rfl ?_
    refine aw_iconst (v := 0) X dX12_calls_107 (by decide) ?_
    refine aw_istore (L' := [some (.ref (zr Z 0)), some (.int x1), some (.int x2), some (.int x3), some (.int 0), some (.int 0), none]) X dX12_calls_108 (by decide) rfl ?_
    refine aw_iconst (v := 0) X dX12_calls_110 (by decide) ?_
    refine aw_istore (L' := [some (.ref (zr Z 0)), some (.int x1), some (.int x2), some (.int x3), some (.int 0), some (.int 0), some (.int 0)]) X dX12_calls_111 (by decide) rfl ?_
    obtain ⟨r18, er18, h⟩ := bnd h
    refine aw_msk [true, true, false, false, true, true, true] ?_
    refine it_ok (P := fun y : Int32 × Int32 × Int32 × Mem => AW Z y.2.2.2 113 [some (.ref (zr Z 0)), some (.int x1), none, none, some (.int y.1), some (.int y.2.1), some (.int y.2.2.1)] []) (Q := fun b : Int32 × Int32 × Mem => AW Z b.2.2 155 [none, some (.int x1), none, none, some (.int b.1), some (.int b.2.1), none] []) (fun y q hq hi he => so_X12_calls_113 hfr Z X x1 y.1 y.2.1 y.2.2.1 y.2.2.2 q hq hi he) FUEL _ _ er18 ?_
    refine aw_iload_n X dX12_calls_155 rfl ?_
    refine aw_iconst (v := 2) X dX12_calls_156 (by decide) ?_
    refine aw_icmp_ne (tgt := 165) X dX12_calls_157 (by decide) (fun c19 => ?_) (fun c19 => ?_)
    · rw [if_neg c19] at h
      refine aw_iload X dX12_calls_165 rfl ?_
      cases h
      exact aw_iret X dX12_calls_167 rfl hz.symm
    · rw [if_pos c19] at h
      refine aw_iload X dX12_calls_160 rfl ?_
      refine aw_goto (tgt := 167) X dX12_calls_162 (by decide) ?_
      cases h
      exact aw_iret X dX12_calls_167 rfl hz.symm
  · rw [if_neg c12] at h
    refine aw_iload_n X dX12_calls_94 rfl ?_
    refine aw_if_ne (tgt := 102) X dX12_calls_95 (by decide) (fun c20 => ?_) (fun c20 => ?_)
    · rw [if_neg c20] at h
      refine aw_iload_n X dX12_calls_102 rfl ?_
      cases h
      exact aw_iret X dX12_calls_103 rfl hz.symm
    · rw [if_pos c20] at h
      refine aw_iload_n X dX12_calls_98 rfl ?_
      refine aw_goto (tgt := 103) X dX12_calls_99 (by decide) ?_
      cases h
      exact aw_iret X dX12_calls_103 rfl hz.symm
set_option maxRecDepth 100000 in
set_option maxHeartbeats 4000000 in
theorem w_X12_calls {fr : Nat} (hfr : 2 ≤ fr) (Z : AZ) (X : AX Z cX12_calls 7 RX12 (some .int) 1 fr) (x1 : Int32) (s : Mem) (r : Int32 × Mem) (hz : zres Z = (some (.int r.1), r.2)) (h : f_X12_calls x1 s = some r) : AW Z s 0 [some (.ref (zr Z 0)), some (.int x1), none, none, none, none, none] [] := by
  unfold f_X12_calls at h
  refine aw_aload_n X dX12_calls_0 rfl ?_
  refine aw_iconst (v := 0) X dX12_calls_1 (by decide) ?_
  refine aw_put X dX12_calls_2 fp_RX12_122 iu_RX12 gu_RX12_0 rfl rfl ?_
  refine aw_aload_n X dX12_calls_5 rfl ?_
  refine aw_iload_n X dX12_calls_6 rfl ?_
  refine aw_iconst (v := 0) X dX12_calls_7 (by decide) ?_
  refine aw_iconst (v := 3) X dX12_calls_8 (by decide) ?_
  obtain ⟨r1, er1, h⟩ := bnd h
  refine aw_callV X dX12_calls_9 cv_RX12_137 (ok_X12_isIn er1 _ _ _ _ _) iu_RX12 rfl (Nat.le_trans (by decide) hfr) (by decide) rfl rfl (Nat.le_of_ble_eq_true rfl) ?_
  refine aw_if_ne (tgt := 17) X dX12_calls_12 (by decide) (fun c2 => ?_) (fun c2 => ?_)
  · rw [if_neg c2] at h
    refine aw_iconst (v := 0) X dX12_calls_17 (by decide) ?_
    refine aw_istore_n (L' := [some (.ref (zr Z 0)), some (.int x1), some (.int 0), none, none, none, none]) X dX12_calls_18 (by decide) rfl ?_
    refine aw_iconst (v := 0) X dX12_calls_19 (by decide) ?_
    refine aw_istore_n (L' := [some (.ref (zr Z 0)), some (.int x1), some (.int 0), some (.int 0), none, none, none]) X dX12_calls_20 (by decide) rfl ?_
    refine aw_iconst (v := 1) X dX12_calls_21 (by decide) ?_
    refine aw_istore (L' := [some (.ref (zr Z 0)), some (.int x1), some (.int 0), some (.int 0), some (.int 1), none, none]) X dX12_calls_22 (by decide) rfl ?_
    obtain ⟨r11, er11, h⟩ := bnd h
    refine aw_msk [true, true, true, true, true, false, false] ?_
    refine it_ok (P := fun y : Int32 × Int32 × Int32 × Mem => AW Z y.2.2.2 24 [some (.ref (zr Z 0)), some (.int x1), some (.int y.1), some (.int y.2.1), some (.int y.2.2.1), none, none] []) (Q := fun b : Int32 × Int32 × Mem => AW Z b.2.2 89 [some (.ref (zr Z 0)), some (.int x1), some (.int b.1), some (.int b.2.1), none, none, none] []) (fun y q hq hi he => so_X12_calls_24 hfr Z X x1 y.1 y.2.1 y.2.2.1 y.2.2.2 q hq hi he) FUEL _ _ er11 ?_
    refine aw_msk [true, true, true, true, false, false, false] ?_
    exact jo_X12_calls_89 hfr Z X _ _ _ _ _ hz h
  · rw [if_pos c2] at h
    refine aw_iconst (v := (-1)) X dX12_calls_15 (by decide) ?_
    cases h
    exact aw_iret X dX12_calls_16 rfl hz.symm
set_option maxRecDepth 100000 in
set_option maxHeartbeats 4000000 in
theorem ok_X12_calls {x1 : Int32} {s : Mem} {r : Int32 × Mem} (h : f_X12_calls x1 s = some r) (l : Launch) (D : va_G) (ρ : Nat → Nat) (cA : ClassId × ClassId × ClassId) (τ : AT) : AM l D ρ cA 1 τ yX12_calls cX12_calls 7 (some .int) 2 [.ref (ρ 0), .int x1] (some (.int r.1)) s r.2 := by
  refine AM_of (L := [some (.ref (ρ 0)), some (.int x1), none, none, none, none, none]) (by decide) (by simp [Value.category]) (Nat.le_of_ble_eq_true rfl) (fun j v q => ?_) (fun Z X hρ hz hτ => ?_)
  · exact aL_ok (n := 5) [.ref (ρ 0), .int x1] j v q
  · subst hρ
    subst hτ
    exact w_X12_calls (Nat.le_refl _) Z X x1 s r hz h

theorem dX12_hics_0 : decode cX12_hics 0 = .ok (.aload_n 0, 1) := by decide +kernel
theorem dX12_hics_1 : decode cX12_hics 1 = .ok (.iconst 0, 1) := by decide +kernel
theorem dX12_hics_2 : decode cX12_hics 2 = .ok (.putfield 122, 3) := by decide +kernel
theorem dX12_hics_5 : decode cX12_hics 5 = .ok (.aload_n 0, 1) := by decide +kernel
theorem dX12_hics_6 : decode cX12_hics 6 = .ok (.iload_n 2, 1) := by decide +kernel
theorem dX12_hics_7 : decode cX12_hics 7 = .ok (.iconst 1, 1) := by decide +kernel
theorem dX12_hics_8 : decode cX12_hics 8 = .ok (.bipush 30, 2) := by decide +kernel
theorem dX12_hics_10 : decode cX12_hics 10 = .ok (.invokevirtual 137, 3) := by decide +kernel
theorem dX12_hics_13 : decode cX12_hics 13 = .ok (.ifCond .eq 31, 3) := by decide +kernel
theorem dX12_hics_16 : decode cX12_hics 16 = .ok (.aload_n 0, 1) := by decide +kernel
theorem dX12_hics_17 : decode cX12_hics 17 = .ok (.iload_n 1, 1) := by decide +kernel
theorem dX12_hics_18 : decode cX12_hics 18 = .ok (.iconst 0, 1) := by decide +kernel
theorem dX12_hics_19 : decode cX12_hics 19 = .ok (.iload_n 2, 1) := by decide +kernel
theorem dX12_hics_20 : decode cX12_hics 20 = .ok (.invokevirtual 137, 3) := by decide +kernel
theorem dX12_hics_23 : decode cX12_hics 23 = .ok (.ifCond .eq 21, 3) := by decide +kernel
theorem dX12_hics_26 : decode cX12_hics 26 = .ok (.iload_n 3, 1) := by decide +kernel
theorem dX12_hics_27 : decode cX12_hics 27 = .ok (.bipush 100, 2) := by decide +kernel
theorem dX12_hics_29 : decode cX12_hics 29 = .ok (.if_icmp .eq 17, 3) := by decide +kernel
theorem dX12_hics_32 : decode cX12_hics 32 = .ok (.aload_n 0, 1) := by decide +kernel
theorem dX12_hics_33 : decode cX12_hics 33 = .ok (.iload_n 3, 1) := by decide +kernel
theorem dX12_hics_34 : decode cX12_hics 34 = .ok (.iconst 0, 1) := by decide +kernel
theorem dX12_hics_35 : decode cX12_hics 35 = .ok (.iload_n 2, 1) := by decide +kernel
theorem dX12_hics_36 : decode cX12_hics 36 = .ok (.iconst 1, 1) := by decide +kernel
theorem dX12_hics_37 : decode cX12_hics 37 = .ok (.isub, 1) := by decide +kernel
theorem dX12_hics_38 : decode cX12_hics 38 = .ok (.invokevirtual 137, 3) := by decide +kernel
theorem dX12_hics_41 : decode cX12_hics 41 = .ok (.ifCond .ne 5, 3) := by decide +kernel
theorem dX12_hics_44 : decode cX12_hics 44 = .ok (.iconst (-1), 1) := by decide +kernel
theorem dX12_hics_45 : decode cX12_hics 45 = .ok (.ireturn, 1) := by decide +kernel
theorem dX12_hics_46 : decode cX12_hics 46 = .ok (.iload_n 3, 1) := by decide +kernel
theorem dX12_hics_47 : decode cX12_hics 47 = .ok (.bipush 100, 2) := by decide +kernel
theorem dX12_hics_49 : decode cX12_hics 49 = .ok (.if_icmp .eq 18, 3) := by decide +kernel
theorem dX12_hics_52 : decode cX12_hics 52 = .ok (.iload_n 3, 1) := by decide +kernel
theorem dX12_hics_53 : decode cX12_hics 53 = .ok (.iload_n 1, 1) := by decide +kernel
theorem dX12_hics_54 : decode cX12_hics 54 = .ok (.imul, 1) := by decide +kernel
theorem dX12_hics_55 : decode cX12_hics 55 = .ok (.iload_n 2, 1) := by decide +kernel
theorem dX12_hics_56 : decode cX12_hics 56 = .ok (.irem, 1) := by decide +kernel
theorem dX12_hics_57 : decode cX12_hics 57 = .ok (.iload_n 1, 1) := by decide +kernel
theorem dX12_hics_58 : decode cX12_hics 58 = .ok (.if_icmp .ge 7, 3) := by decide +kernel
theorem dX12_hics_61 : decode cX12_hics 61 = .ok (.iconst 1, 1) := by decide +kernel
theorem dX12_hics_62 : decode cX12_hics 62 = .ok (.goto 4, 3) := by decide +kernel
theorem dX12_hics_65 : decode cX12_hics 65 = .ok (.iconst 0, 1) := by decide +kernel
theorem dX12_hics_66 : decode cX12_hics 66 = .ok (.ireturn, 1) := by decide +kernel
theorem dX12_hics_67 : decode cX12_hics 67 = .ok (.iconst 0, 1) := by decide +kernel
theorem dX12_hics_68 : decode cX12_hics 68 = .ok (.istore 4, 2) := by decide +kernel
theorem dX12_hics_70 : decode cX12_hics 70 = .ok (.iconst (-1), 1) := by decide +kernel
theorem dX12_hics_71 : decode cX12_hics 71 = .ok (.istore 5, 2) := by decide +kernel
theorem dX12_hics_73 : decode cX12_hics 73 = .ok (.iconst 0, 1) := by decide +kernel
theorem dX12_hics_74 : decode cX12_hics 74 = .ok (.istore 6, 2) := by decide +kernel
theorem dX12_hics_76 : decode cX12_hics 76 = .ok (.iload 6, 2) := by decide +kernel
theorem dX12_hics_78 : decode cX12_hics 78 = .ok (.iconst 2, 1) := by decide +kernel
theorem dX12_hics_79 : decode cX12_hics 79 = .ok (.iload_n 2, 1) := by decide +kernel
theorem dX12_hics_80 : decode cX12_hics 80 = .ok (.imul, 1) := by decide +kernel
theorem dX12_hics_81 : decode cX12_hics 81 = .ok (.if_icmp .ge 51, 3) := by decide +kernel
theorem dX12_hics_84 : decode cX12_hics 84 = .ok (.iload_n 1, 1) := by decide +kernel
theorem dX12_hics_85 : decode cX12_hics 85 = .ok (.ifCond .le 47, 3) := by decide +kernel
theorem dX12_hics_88 : decode cX12_hics 88 = .ok (.iload 6, 2) := by decide +kernel
theorem dX12_hics_90 : decode cX12_hics 90 = .ok (.iload_n 2, 1) := by decide +kernel
theorem dX12_hics_91 : decode cX12_hics 91 = .ok (.irem, 1) := by decide +kernel
theorem dX12_hics_92 : decode cX12_hics 92 = .ok (.iload_n 1, 1) := by decide +kernel
theorem dX12_hics_93 : decode cX12_hics 93 = .ok (.imul, 1) := by decide +kernel
theorem dX12_hics_94 : decode cX12_hics 94 = .ok (.iload_n 2, 1) := by decide +kernel
theorem dX12_hics_95 : decode cX12_hics 95 = .ok (.irem, 1) := by decide +kernel
theorem dX12_hics_96 : decode cX12_hics 96 = .ok (.iload_n 1, 1) := by decide +kernel
theorem dX12_hics_97 : decode cX12_hics 97 = .ok (.if_icmp .lt 6, 3) := by decide +kernel
theorem dX12_hics_100 : decode cX12_hics 100 = .ok (.goto 26, 3) := by decide +kernel
theorem dX12_hics_103 : decode cX12_hics 103 = .ok (.iload 5, 2) := by decide +kernel
theorem dX12_hics_105 : decode cX12_hics 105 = .ok (.iconst (-1), 1) := by decide +kernel
theorem dX12_hics_106 : decode cX12_hics 106 = .ok (.if_icmp .eq 16, 3) := by decide +kernel
theorem dX12_hics_109 : decode cX12_hics 109 = .ok (.aload_n 0, 1) := by decide +kernel
theorem dX12_hics_110 : decode cX12_hics 110 = .ok (.iload 4, 2) := by decide +kernel
theorem dX12_hics_112 : decode cX12_hics 112 = .ok (.iload 6, 2) := by decide +kernel
theorem dX12_hics_114 : decode cX12_hics 114 = .ok (.iload 5, 2) := by decide +kernel
theorem dX12_hics_116 : decode cX12_hics 116 = .ok (.isub, 1) := by decide +kernel
theorem dX12_hics_117 : decode cX12_hics 117 = .ok (.invokevirtual 386, 3) := by decide +kernel
theorem dX12_hics_120 : decode cX12_hics 120 = .ok (.istore 4, 2) := by decide +kernel
theorem dX12_hics_122 : decode cX12_hics 122 = .ok (.iload 6, 2) := by decide +kernel
theorem dX12_hics_124 : decode cX12_hics 124 = .ok (.istore 5, 2) := by decide +kernel
theorem dX12_hics_126 : decode cX12_hics 126 = .ok (.iinc 6 1, 3) := by decide +kernel
theorem dX12_hics_129 : decode cX12_hics 129 = .ok (.goto (-53), 3) := by decide +kernel
theorem dX12_hics_132 : decode cX12_hics 132 = .ok (.iload 4, 2) := by decide +kernel
theorem dX12_hics_134 : decode cX12_hics 134 = .ok (.ireturn, 1) := by decide +kernel
set_option maxRecDepth 100000 in
set_option maxHeartbeats 4000000 in
theorem so_X12_hics_76 {fr : Nat} (hfr : 1 ≤ fr) (Z : AZ) (X : AX Z cX12_hics 7 RX12 (some .int) 1 fr) (x1 : Int32) (x2 : Int32) (x4 : Int32) (x5 : Int32) (x6 : Int32) (s : Mem) (q : (Int32 × Int32 × Int32 × Mem) ⊕ (Int32 × Mem)) (h : st_X12_hics_76 x1 x2 x4 x5 x6 s = some q) (hi : ∀ y : Int32 × Int32 × Int32 × Mem, q = .inl y → AW Z y.2.2.2 76 [some (.ref (zr Z 0)), some (.int x1), some (.int x2), none, some (.int y.1), some (.int y.2.1), some (.int y.2.2.1)] []) (he : ∀ b : Int32 × Mem, q = .inr b → AW Z b.2 132 [none, none, none, none, some (.int b.1), none, none] []) : AW Z s 76 [some (.ref (zr Z 0)), some (.int x1), some (.int x2), none, some (.int x4), some (.int x5), some (.int x6)] [] := by
  unfold st_X12_hics_76 at h
  refine aw_iload X dX12_hics_76 rfl ?_
  refine aw_iconst (v := 2) X dX12_hics_78 (by decide) ?_
  refine aw_iload_n X dX12_hics_79 rfl ?_
  refine aw_imul X dX12_hics_80 ?_
  refine aw_icmp_ge (tgt := 132) X dX12_hics_81 (by decide) (fun c7 => ?_) (fun c7 => ?_)
  · rw [if_pos c7] at h
    cases h
    refine aw_msk [false, false, false, false, true, false, false] ?_
    exact he _ rfl
  · rw [if_neg c7] at h
    refine aw_iload_n X dX12_hics_84 rfl ?_
    refine aw_if_le (tgt := 132) X dX12_hics_85 (by decide) (fun c8 => ?_) (fun c8 => ?_)
    · rw [if_pos c8] at h
      cases h
      refine aw_msk [false, false, false, false, true, false, false] ?_
      exact he _ rfl
    · rw [if_neg c8] at h
      refine aw_iload X dX12_hics_88 rfl ?_
      refine aw_iload_n X dX12_hics_90 rfl ?_
      by_cases c9 : x2 = 0
      · rw [if_pos c9] at h
        cases h
      rw [if_neg c9] at h
      refine aw_irem X dX12_hics_91 c9 ?_
      refine aw_iload_n X dX12_hics_92 rfl ?_
      refine aw_imul X dX12_hics_93 ?_
      refine aw_iload_n X dX12_hics_94 rfl ?_
      by_cases c10 : x2 = 0
      · rw [if_pos c10] at h
        cases h
      rw [if_neg c10] at h
      refine aw_irem X dX12_hics_95 c10 ?_
      refine aw_iload_n X dX12_hics_96 rfl ?_
      refine aw_icmp_lt (tgt := 103) X dX12_hics_97 (by decide) (fun c11 => ?_) (fun c11 => ?_)
      · rw [if_pos c11] at h
        refine aw_iload X dX12_hics_103 rfl ?_
        refine aw_iconst (v := (-1)) X dX12_hics_105 (by decide) ?_
        refine aw_icmp_eq (tgt := 122) X dX12_hics_106 (by decide) (fun c12 => ?_) (fun c12 => ?_)
        · rw [if_pos c12] at h
          refine aw_iload X dX12_hics_122 rfl ?_
          refine aw_istore (L' := [some (.ref (zr Z 0)), some (.int x1), some (.int x2), none, some (.int x4), some (.int x6), some (.int x6)]) X dX12_hics_124 (by decide) rfl ?_
          refine aw_iinc (v := (x6 + 1)) (L' := [some (.ref (zr Z 0)), some (.int x1), some (.int x2), none, some (.int x4), some (.int x6), some (.int (x6 + 1))]) X dX12_hics_126 rfl rfl (by decide) rfl ?_
          refine aw_goto (tgt := 76) X dX12_hics_129 (by decide) ?_
          cases h
          refine aw_msk [true, true, true, false, true, true, true] ?_
          exact hi _ rfl
        · rw [if_neg c12] at h
          refine aw_aload_n X dX12_hics_109 rfl ?_
          refine aw_iload X dX12_hics_110 rfl ?_
          refine aw_iload X dX12_hics_112 rfl ?_
          refine aw_iload X dX12_hics_114 rfl ?_
          refine aw_isub X dX12_hics_116 ?_
          obtain ⟨r13, er13, h⟩ := bnd h
          refine aw_callV X dX12_hics_117 cv_RX12_386 (ok_X12_greater er13 _ _ _ _ _) iu_RX12 rfl (Nat.le_trans (by decide) hfr) (by decide) rfl rfl (Nat.le_of_ble_eq_true rfl) ?_
          refine aw_istore (L' := [some (.ref (zr Z 0)), some (.int x1), some (.int x2), none, some (.int r13.1), some (.int x5), some (.int x6)]) X dX12_hics_120 (by decide) rfl ?_
          refine aw_iload X dX12_hics_122 rfl ?_
          refine aw_istore (L' := [some (.ref (zr Z 0)), some (.int x1), some (.int x2), none, some (.int r13.1), some (.int x6), some (.int x6)]) X dX12_hics_124 (by decide) rfl ?_
          refine aw_iinc (v := (x6 + 1)) (L' := [some (.ref (zr Z 0)), some (.int x1), some (.int x2), none, some (.int r13.1), some (.int x6), some (.int (x6 + 1))]) X dX12_hics_126 rfl rfl (by decide) rfl ?_
          refine aw_goto (tgt := 76) X dX12_hics_129 (by decide) ?_
          cases h
          refine aw_msk [true, true, true, false, true, true, true] ?_
          exact hi _ rfl
      · rw [if_neg c11] at h
        refine aw_goto (tgt := 126) X dX12_hics_100 (by decide) ?_
        refine aw_iinc (v := (x6 + 1)) (L' := [some (.ref (zr Z 0)), some (.int x1), some (.int x2), none, some (.int x4), some (.int x5), some (.int (x6 + 1))]) X dX12_hics_126 rfl rfl (by decide) rfl ?_
        refine aw_goto (tgt := 76) X dX12_hics_129 (by decide) ?_
        cases h
        refine aw_msk [true, true, true, false, true, true, true] ?_
        exact hi _ rfl
set_option maxRecDepth 100000 in
set_option maxHeartbeats 4000000 in
theorem jo_X12_hics_46 {fr : Nat} (hfr : 1 ≤ fr) (Z : AZ) (X : AX Z cX12_hics 7 RX12 (some .int) 1 fr) (x1 : Int32) (x2 : Int32) (x3 : Int32) (s : Mem) (r : Int32 × Mem) (hz : zres Z = (some (.int r.1), r.2)) (h : jn_X12_hics_46 x1 x2 x3 s = some r) : AW Z s 46 [some (.ref (zr Z 0)), some (.int x1), some (.int x2), some (.int x3), none, none, none] [] := by
  unfold jn_X12_hics_46 at h
  refine aw_iload_n X dX12_hics_46 rfl ?_
  refine aw_bipush (v := 100) X dX12_hics_47 (by decide) ?_
  refine aw_icmp_eq (tgt := 67) X dX12_hics_49 (by decide) (fun c6 => ?_) (fun c6 => ?_)
  · rw [if_pos c6] at h
    refine aw_iconst (v := 0) X dX12_hics_67 (by decide) ?_
    refine aw_istore (L' := [some (.ref (zr Z 0)), some (.int x1), some (.int x2), some (.int x3), some (.int 0), none, none]) X dX12_hics_68 (by decide) rfl ?_
    refine aw_iconst (v := (-1)) X dX12_hics_70 (by decide) ?_
    refine aw_istore (L' := [some (.ref (zr Z 0)), some (.int x1), some (.int x2), some (.int x3), some (.int 0), some (.int (-1)), none]) X dX12_hics_71 (by decide) rfl ?_
    refine aw_iconst (v := 0) X dX12_hics_73 (by decide) ?_
    refine aw_istore (L' := [some (.ref (zr Z 0)), some (.int x1), some (.int x2), some (.int x3), some (.int 0), some (.int (-1)), some (.int 0)]) X dX12_hics_74 (by decide) rfl ?_
    obtain ⟨r14, er14, h⟩ := bnd h
    refine aw_msk [true, true, true, false, true, true, true] ?_
    refine it_ok (P := fun y : Int32 × Int32 × Int32 × Mem => AW Z y.2.2.2 76 [some (.ref (zr Z 0)), some (.int x1), some (.int x2), none, some (.int y.1), some (.int y.2.1), some (.int y.2.2.1)] []) (Q := fun b : Int32 × Mem => AW Z b.2 132 [none, none, none, none, some (.int b.1), none, none] []) (fun y q hq hi he => so_X12_hics_76 hfr Z X x1 x2 y.1 y.2.1 y.2.2.1 y.2.2.2 q hq hi he) FUEL _ _ er14 ?_
    refine aw_iload X dX12_hics_132 rfl ?_
    cases h
    exact aw_iret X dX12_hics_134 rfl hz.symm
  · rw [if_neg c6] at h
    refine aw_iload_n X dX12_hics_52 rfl ?_
    refine aw_iload_n X dX12_hics_53 rfl ?_
    refine aw_imul X dX12_hics_54 ?_
    refine aw_iload_n X dX12_hics_55 rfl ?_
    by_cases c15 : x2 = 0
    · rw [if_pos c15] at h
      cases h
    rw [if_neg c15] at h
    refine aw_irem X dX12_hics_56 c15 ?_
    refine aw_iload_n X dX12_hics_57 rfl ?_
    refine aw_icmp_ge (tgt := 65) X dX12_hics_58 (by decide) (fun c16 => ?_) (fun c16 => ?_)
    · rw [if_pos c16] at h
      refine aw_iconst (v := 0) X dX12_hics_65 (by decide) ?_
      cases h
      exact aw_iret X dX12_hics_66 rfl hz.symm
    · rw [if_neg c16] at h
      refine aw_iconst (v := 1) X dX12_hics_61 (by decide) ?_
      refine aw_goto (tgt := 66) X dX12_hics_62 (by decide) ?_
      cases h
      exact aw_iret X dX12_hics_66 rfl hz.symm
set_option maxRecDepth 100000 in
set_option maxHeartbeats 4000000 in
theorem w_X12_hics {fr : Nat} (hfr : 1 ≤ fr) (Z : AZ) (X : AX Z cX12_hics 7 RX12 (some .int) 1 fr) (x1 : Int32) (x2 : Int32) (x3 : Int32) (s : Mem) (r : Int32 × Mem) (hz : zres Z = (some (.int r.1), r.2)) (h : f_X12_hics x1 x2 x3 s = some r) : AW Z s 0 [some (.ref (zr Z 0)), some (.int x1), some (.int x2), some (.int x3), none, none, none] [] := by
  unfold f_X12_hics at h
  refine aw_aload_n X dX12_hics_0 rfl ?_
  refine aw_iconst (v := 0) X dX12_hics_1 (by decide) ?_
  refine aw_put X dX12_hics_2 fp_RX12_122 iu_RX12 gu_RX12_0 rfl rfl ?_
  refine aw_aload_n X dX12_hics_5 rfl ?_
  refine aw_iload_n X dX12_hics_6 rfl ?_
  refine aw_iconst (v := 1) X dX12_hics_7 (by decide) ?_
  refine aw_bipush (v := 30) X dX12_hics_8 (by decide) ?_
  obtain ⟨r1, er1, h⟩ := bnd h
  refine aw_callV X dX12_hics_10 cv_RX12_137 (ok_X12_isIn er1 _ _ _ _ _) iu_RX12 rfl (Nat.le_trans (by decide) hfr) (by decide) rfl rfl (Nat.le_of_ble_eq_true rfl) ?_
  refine aw_if_eq (tgt := 44) X dX12_hics_13 (by decide) (fun c2 => ?_) (fun c2 => ?_)
  · rw [if_pos c2] at h
    refine aw_iconst (v := (-1)) X dX12_hics_44 (by decide) ?_
    cases h
    exact aw_iret X dX12_hics_45 rfl hz.symm
  · rw [if_neg c2] at h
    refine aw_aload_n X dX12_hics_16 rfl ?_
    refine aw_iload_n X dX12_hics_17 rfl ?_
    refine aw_iconst (v := 0) X dX12_hics_18 (by decide) ?_
    refine aw_iload_n X dX12_hics_19 rfl ?_
    obtain ⟨r3, er3, h⟩ := bnd h
    refine aw_callV X dX12_hics_20 cv_RX12_137 (ok_X12_isIn er3 _ _ _ _ _) iu_RX12 rfl (Nat.le_trans (by decide) hfr) (by decide) rfl rfl (Nat.le_of_ble_eq_true rfl) ?_
    refine aw_if_eq (tgt := 44) X dX12_hics_23 (by decide) (fun c4 => ?_) (fun c4 => ?_)
    · rw [if_pos c4] at h
      refine aw_iconst (v := (-1)) X dX12_hics_44 (by decide) ?_
      cases h
      exact aw_iret X dX12_hics_45 rfl hz.symm
    · rw [if_neg c4] at h
      refine aw_iload_n X dX12_hics_26 rfl ?_
      refine aw_bipush (v := 100) X dX12_hics_27 (by decide) ?_
      refine aw_icmp_eq (tgt := 46) X dX12_hics_29 (by decide) (fun c5 => ?_) (fun c5 => ?_)
      · rw [if_pos c5] at h
        refine aw_msk [true, true, true, true, false, false, false] ?_
        exact jo_X12_hics_46 hfr Z X _ _ _ _ _ hz h
      · rw [if_neg c5] at h
        refine aw_aload_n X dX12_hics_32 rfl ?_
        refine aw_iload_n X dX12_hics_33 rfl ?_
        refine aw_iconst (v := 0) X dX12_hics_34 (by decide) ?_
        refine aw_iload_n X dX12_hics_35 rfl ?_
        refine aw_iconst (v := 1) X dX12_hics_36 (by decide) ?_
        refine aw_isub X dX12_hics_37 ?_
        obtain ⟨r17, er17, h⟩ := bnd h
        refine aw_callV X dX12_hics_38 cv_RX12_137 (ok_X12_isIn er17 _ _ _ _ _) iu_RX12 rfl (Nat.le_trans (by decide) hfr) (by decide) rfl rfl (Nat.le_of_ble_eq_true rfl) ?_
        refine aw_if_ne (tgt := 46) X dX12_hics_41 (by decide) (fun c18 => ?_) (fun c18 => ?_)
        · rw [if_neg c18] at h
          refine aw_msk [true, true, true, true, false, false, false] ?_
          exact jo_X12_hics_46 hfr Z X _ _ _ _ _ hz h
        · rw [if_pos c18] at h
          refine aw_iconst (v := (-1)) X dX12_hics_44 (by decide) ?_
          cases h
          exact aw_iret X dX12_hics_45 rfl hz.symm
set_option maxRecDepth 100000 in
set_option maxHeartbeats 4000000 in
theorem ok_X12_hics {x1 x2 x3 : Int32} {s : Mem} {r : Int32 × Mem} (h : f_X12_hics x1 x2 x3 s = some r) (l : Launch) (D : va_G) (ρ : Nat → Nat) (cA : ClassId × ClassId × ClassId) (τ : AT) : AM l D ρ cA 1 τ yX12_hics cX12_hics 7 (some .int) 1 [.ref (ρ 0), .int x1, .int x2, .int x3] (some (.int r.1)) s r.2 := by
  refine AM_of (L := [some (.ref (ρ 0)), some (.int x1), some (.int x2), some (.int x3), none, none, none]) (by decide) (by simp [Value.category]) (Nat.le_of_ble_eq_true rfl) (fun j v q => ?_) (fun Z X hρ hz hτ => ?_)
  · exact aL_ok (n := 3) [.ref (ρ 0), .int x1, .int x2, .int x3] j v q
  · subst hρ
    subst hτ
    exact w_X12_hics (Nat.le_refl _) Z X x1 x2 x3 s r hz h
