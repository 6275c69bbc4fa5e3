/-! ===== walks: X12_readTalk .. X12_asks ===== -/
theorem dX12_readTalk_0 : decode cX12_readTalk 0 = .ok (.iconst 0, 1) := by decide +kernel
theorem dX12_readTalk_1 : decode cX12_readTalk 1 = .ok (.istore_n 1, 1) := by decide +kernel
theorem dX12_readTalk_2 : decode cX12_readTalk 2 = .ok (.aload_n 0, 1) := by decide +kernel
theorem dX12_readTalk_3 : decode cX12_readTalk 3 = .ok (.bipush 15, 2) := by decide +kernel
theorem dX12_readTalk_5 : decode cX12_readTalk 5 = .ok (.invokevirtual 225, 3) := by decide +kernel
theorem dX12_readTalk_8 : decode cX12_readTalk 8 = .ok (.ifCond .eq 38, 3) := by decide +kernel
theorem dX12_readTalk_11 : decode cX12_readTalk 11 = .ok (.iload_n 1, 1) := by decide +kernel
theorem dX12_readTalk_12 : decode cX12_readTalk 12 = .ok (.bipush 16, 2) := by decide +kernel
theorem dX12_readTalk_14 : decode cX12_readTalk 14 = .ok (.if_icmp .ne 9, 3) := by decide +kernel
theorem dX12_readTalk_17 : decode cX12_readTalk 17 = .ok (.aload_n 0, 1) := by decide +kernel
theorem dX12_readTalk_18 : decode cX12_readTalk 18 = .ok (.iconst 3, 1) := by decide +kernel
theorem dX12_readTalk_19 : decode cX12_readTalk 19 = .ok (.invokevirtual 197, 3) := by decide +kernel
theorem dX12_readTalk_22 : decode cX12_readTalk 22 = .ok (.ireturn, 1) := by decide +kernel
theorem dX12_readTalk_23 : decode cX12_readTalk 23 = .ok (.aload_n 0, 1) := by decide +kernel
theorem dX12_readTalk_24 : decode cX12_readTalk 24 = .ok (.bipush 48, 2) := by decide +kernel
theorem dX12_readTalk_26 : decode cX12_readTalk 26 = .ok (.iconst 3, 1) := by decide +kernel
theorem dX12_readTalk_27 : decode cX12_readTalk 27 = .ok (.iload_n 1, 1) := by decide +kernel
theorem dX12_readTalk_28 : decode cX12_readTalk 28 = .ok (.imul, 1) := by decide +kernel
theorem dX12_readTalk_29 : decode cX12_readTalk 29 = .ok (.iadd, 1) := by decide +kernel
theorem dX12_readTalk_30 : decode cX12_readTalk 30 = .ok (.invokevirtual 260, 3) := by decide +kernel
theorem dX12_readTalk_33 : decode cX12_readTalk 33 = .ok (.iconst (-1), 1) := by decide +kernel
theorem dX12_readTalk_34 : decode cX12_readTalk 34 = .ok (.if_icmp .ne 5, 3) := by decide +kernel
theorem dX12_readTalk_37 : decode cX12_readTalk 37 = .ok (.iconst (-1), 1) := by decide +kernel
theorem dX12_readTalk_38 : decode cX12_readTalk 38 = .ok (.ireturn, 1) := by decide +kernel
theorem dX12_readTalk_39 : decode cX12_readTalk 39 = .ok (.iload_n 1, 1) := by decide +kernel
theorem dX12_readTalk_40 : decode cX12_readTalk 40 = .ok (.iconst 1, 1) := by decide +kernel
theorem dX12_readTalk_41 : decode cX12_readTalk 41 = .ok (.iadd, 1) := by decide +kernel
theorem dX12_readTalk_42 : decode cX12_readTalk 42 = .ok (.istore_n 1, 1) := by decide +kernel
theorem dX12_readTalk_43 : decode cX12_readTalk 43 = .ok (.goto (-41), 3) := by decide +kernel
theorem dX12_readTalk_46 : decode cX12_readTalk 46 = .ok (.aload_n 0, 1) := by decide +kernel
theorem dX12_readTalk_47 : decode cX12_readTalk 47 = .ok (.getfield 166, 3) := by decide +kernel
theorem dX12_readTalk_50 : decode cX12_readTalk 50 = .ok (.ifCond .ne 7, 3) := by decide +kernel
theorem dX12_readTalk_53 : decode cX12_readTalk 53 = .ok (.iload_n 1, 1) := by decide +kernel
theorem dX12_readTalk_54 : decode cX12_readTalk 54 = .ok (.goto 8, 3) := by decide +kernel
theorem dX12_readTalk_57 : decode cX12_readTalk 57 = .ok (.aload_n 0, 1) := by decide +kernel
theorem dX12_readTalk_58 : decode cX12_readTalk 58 = .ok (.iconst 1, 1) := by decide +kernel
theorem dX12_readTalk_59 : decode cX12_readTalk 59 = .ok (.invokevirtual 197, 3) := by decide +kernel
theorem dX12_readTalk_62 : decode cX12_readTalk 62 = .ok (.ireturn, 1) := by decide +kernel
set_option maxRecDepth 100000 in
set_option maxHeartbeats 4000000 in
theorem so_X12_readTalk_2 {fr : Nat} (hfr : 6 ≤ fr) (Z : AZ) (X : AX Z cX12_readTalk 2 RX12 (some .int) 1 fr) (x1 : Int32) (s : Mem) (q : (Int32 × Mem) ⊕ (Nat × Int32 × Mem)) (h : st_X12_readTalk_2 x1 s = some q) (hi : ∀ y : Int32 × Mem, q = .inl y → AW Z y.2 2 [some (.ref (zr Z 0)), some (.int y.1)] []) (he : ∀ b : Nat × Int32 × Mem, q = .inr b → (b.1 = 0 → AW Z b.2.2 17 [some (.ref (zr Z 0)), none] []) ∧ (b.1 = 1 → AW Z b.2.2 37 [none, none] []) ∧ (b.1 = 2 → AW Z b.2.2 46 [some (.ref (zr Z 0)), some (.int b.2.1)] [])) : AW Z s 2 [some (.ref (zr Z 0)), some (.int x1)] [] := by
  unfold st_X12_readTalk_2 at h
  refine aw_aload_n X dX12_readTalk_2 rfl ?_
  refine aw_bipush (v := 15) X dX12_readTalk_3 (by decide) ?_
  obtain ⟨r1, er1, h⟩ := bnd h
  refine aw_callV X dX12_readTalk_5 cv_RX12_225 (ok_X12_isWord er1 _ _ _ _ _) iu_RX12 rfl (Nat.le_trans (by decide) hfr) (by decide) rfl rfl (Nat.le_of_ble_eq_true rfl) ?_
  refine aw_if_eq (tgt := 46) X dX12_readTalk_8 (by decide) (fun c2 => ?_) (fun c2 => ?_)
  · rw [if_pos c2] at h
    cases h
    refine aw_msk [true, true] ?_
    exact (he _ rfl).2.2 rfl
  · rw [if_neg c2] at h
    refine aw_iload_n X dX12_readTalk_11 rfl ?_
    refine aw_bipush (v := 16) X dX12_readTalk_12 (by decide) ?_
    refine aw_icmp_ne (tgt := 23) X dX12_readTalk_14 (by decide) (fun c3 => ?_) (fun c3 => ?_)
    · rw [if_neg c3] at h
      refine aw_aload_n X dX12_readTalk_23 rfl ?_
      refine aw_bipush (v := 48) X dX12_readTalk_24 (by decide) ?_
      refine aw_iconst (v := 3) X dX12_readTalk_26 (by decide) ?_
      refine aw_iload_n X dX12_readTalk_27 rfl ?_
      refine aw_imul X dX12_readTalk_28 ?_
      refine aw_iadd X dX12_readTalk_29 ?_
      obtain ⟨r4, er4, h⟩ := bnd h
      refine aw_callV X dX12_readTalk_30 cv_RX12_260 (ok_X12_readTalkLine er4 _ _ _ _ _) iu_RX12 rfl (Nat.le_trans (by decide) hfr) (by decide) rfl rfl (Nat.le_of_ble_eq_true rfl) ?_
      refine aw_iconst (v := (-1)) X dX12_readTalk_33 (by decide) ?_
      refine aw_icmp_ne (tgt := 39) X dX12_readTalk_34 (by decide) (fun c5 => ?_) (fun c5 => ?_)
      · rw [if_neg c5] at h
        refine aw_iload_n X dX12_readTalk_39 rfl ?_
        refine aw_iconst (v := 1) X dX12_readTalk_40 (by decide) ?_
        refine aw_iadd X dX12_readTalk_41 ?_
        refine aw_istore_n (L' := [some (.ref (zr Z 0)), some (.int (x1 + 1))]) X dX12_readTalk_42 (by decide) rfl ?_
        refine aw_goto (tgt := 2) X dX12_readTalk_43 (by decide) ?_
        cases h
        refine aw_msk [true, true] ?_
        exact hi _ rfl
      · rw [if_pos c5] at h
        cases h
        refine aw_msk [false, false] ?_
        exact (he _ rfl).2.1 rfl
    · rw [if_pos c3] at h
      cases h
      refine aw_msk [true, false] ?_
      exact (he _ rfl).1 rfl
set_option maxRecDepth 100000 in
set_option maxHeartbeats 4000000 in
theorem w_X12_readTalk {fr : Nat} (hfr : 6 ≤ fr) (Z : AZ) (X : AX Z cX12_readTalk 2 RX12 (some .int) 1 fr) (s : Mem) (r : Int32 × Mem) (hz : zres Z = (some (.int r.1), r.2)) (h : f_X12_readTalk s = some r) : AW Z s 0 [some (.ref (zr Z 0)), none] [] := by
  unfold f_X12_readTalk at h
  refine aw_iconst (v := 0) X dX12_readTalk_0 (by decide) ?_
  refine aw_istore_n (L' := [some (.ref (zr Z 0)), some (.int 0)]) X dX12_readTalk_1 (by decide) rfl ?_
  obtain ⟨r6, er6, h⟩ := bnd h
  refine aw_msk [true, true] ?_
  refine it_ok (P := fun y : Int32 × Mem => AW Z y.2 2 [some (.ref (zr Z 0)), some (.int y.1)] []) (Q := fun b : Nat × Int32 × Mem => (b.1 = 0 → AW Z b.2.2 17 [some (.ref (zr Z 0)), none] []) ∧ (b.1 = 1 → AW Z b.2.2 37 [none, none] []) ∧ (b.1 = 2 → AW Z b.2.2 46 [some (.ref (zr Z 0)), some (.int b.2.1)] [])) (fun y q hq hi he => so_X12_readTalk_2 hfr Z X y.1 y.2 q hq hi he) FUEL _ _ er6 ?_
  refine ⟨fun c0 => ?_, fun c1 => ?_, fun c2 => ?_⟩
  · rw [if_pos c0] at h
    refine aw_aload_n X dX12_readTalk_17 rfl ?_
    refine aw_iconst (v := 3) X dX12_readTalk_18 (by decide) ?_
    obtain ⟨r7, er7, h⟩ := bnd h
    refine aw_callV X dX12_readTalk_19 cv_RX12_197 (ok_X12_errs er7 _ _ _ _ _) iu_RX12 rfl (Nat.le_trans (by decide) hfr) (by decide) rfl rfl (Nat.le_of_ble_eq_true rfl) ?_
    cases h
    exact aw_iret X dX12_readTalk_22 rfl hz.symm
  · rw [if_neg (by rw [c1]; decide)] at h
    rw [if_pos c1] at h
    refine aw_iconst (v := (-1)) X dX12_readTalk_37 (by decide) ?_
    cases h
    exact aw_iret X dX12_readTalk_38 rfl hz.symm
  · rw [if_neg (by rw [c2]; decide)] at h
    rw [if_neg (by rw [c2]; decide)] at h
    refine aw_aload_n X dX12_readTalk_46 rfl ?_
    refine aw_geti X dX12_readTalk_47 fl_RX12_166 iu_RX12 gu_RX12_12 ?_
    refine aw_if_ne (tgt := 57) X dX12_readTalk_50 (by decide) (fun c8 => ?_) (fun c8 => ?_)
    · rw [if_neg c8] at h
      refine aw_aload_n X dX12_readTalk_57 rfl ?_
      refine aw_iconst (v := 1) X dX12_readTalk_58 (by decide) ?_
      obtain ⟨r9, er9, h⟩ := bnd h
      refine aw_callV X dX12_readTalk_59 cv_RX12_197 (ok_X12_errs er9 _ _ _ _ _) iu_RX12 rfl (Nat.le_trans (by decide) hfr) (by decide) rfl rfl (Nat.le_of_ble_eq_true rfl) ?_
      cases h
      exact aw_iret X dX12_readTalk_62 rfl hz.symm
    · rw [if_pos c8] at h
      refine aw_iload_n X dX12_readTalk_53 rfl ?_
      refine aw_goto (tgt := 62) X dX12_readTalk_54 (by decide) ?_
      cases h
      exact aw_iret X dX12_readTalk_62 rfl hz.symm
set_option maxRecDepth 100000 in
set_option maxHeartbeats 4000000 in
theorem ok_X12_readTalk {s : Mem} {r : Int32 × Mem} (h : f_X12_readTalk s = some r) (l : Launch) (D : va_G) (ρ : Nat → Nat) (cA : ClassId × ClassId × ClassId) (τ : AT) : AM l D ρ cA 1 τ yX12_readTalk cX12_readTalk 2 (some .int) 6 [.ref (ρ 0)] (some (.int r.1)) s r.2 := by
  refine AM_of (L := [some (.ref (ρ 0)), none]) (by decide) (by simp [Value.category]) (Nat.le_of_ble_eq_true rfl) (fun j v q => ?_) (fun Z X hρ hz hτ => ?_)
  · exact aL_ok (n := 1) [.ref (ρ 0)] j v q
  · subst hρ
    subst hτ
    exact w_X12_readTalk (Nat.le_refl _) Z X s r hz h

theorem dX12_readCure_0 : decode cX12_readCure 0 = .ok (.aload_n 0, 1) := by decide +kernel
theorem dX12_readCure_1 : decode cX12_readCure 1 = .ok (.getfield 59, 3) := by decide +kernel
theorem dX12_readCure_4 : decode cX12_readCure 4 = .ok (.iload_n 1, 1) := by decide +kernel
theorem dX12_readCure_5 : decode cX12_readCure 5 = .ok (.aload_n 0, 1) := by decide +kernel
theorem dX12_readCure_6 : decode cX12_readCure 6 = .ok (.bipush 15, 2) := by decide +kernel
theorem dX12_readCure_8 : decode cX12_readCure 8 = .ok (.iconst 0, 1) := by decide +kernel
theorem dX12_readCure_9 : decode cX12_readCure 9 = .ok (.sipush 999, 3) := by decide +kernel
theorem dX12_readCure_12 : decode cX12_readCure 12 = .ok (.invokevirtual 250, 3) := by decide +kernel
theorem dX12_readCure_15 : decode cX12_readCure 15 = .ok (.iastore, 1) := by decide +kernel
theorem dX12_readCure_16 : decode cX12_readCure 16 = .ok (.aload_n 0, 1) := by decide +kernel
theorem dX12_readCure_17 : decode cX12_readCure 17 = .ok (.getfield 59, 3) := by decide +kernel
theorem dX12_readCure_20 : decode cX12_readCure 20 = .ok (.iload_n 1, 1) := by decide +kernel
theorem dX12_readCure_21 : decode cX12_readCure 21 = .ok (.iaload, 1) := by decide +kernel
theorem dX12_readCure_22 : decode cX12_readCure 22 = .ok (.iconst (-1), 1) := by decide +kernel
theorem dX12_readCure_23 : decode cX12_readCure 23 = .ok (.if_icmp .ne 5, 3) := by decide +kernel
theorem dX12_readCure_26 : decode cX12_readCure 26 = .ok (.iconst (-1), 1) := by decide +kernel
theorem dX12_readCure_27 : decode cX12_readCure 27 = .ok (.ireturn, 1) := by decide +kernel
theorem dX12_readCure_28 : decode cX12_readCure 28 = .ok (.aload_n 0, 1) := by decide +kernel
theorem dX12_readCure_29 : decode cX12_readCure 29 = .ok (.getfield 166, 3) := by decide +kernel
theorem dX12_readCure_32 : decode cX12_readCure 32 = .ok (.iconst 2, 1) := by decide +kernel
theorem dX12_readCure_33 : decode cX12_readCure 33 = .ok (.if_icmp .ne 18, 3) := by decide +kernel
theorem dX12_readCure_36 : decode cX12_readCure 36 = .ok (.aload_n 0, 1) := by decide +kernel
theorem dX12_readCure_37 : decode cX12_readCure 37 = .ok (.aload_n 0, 1) := by decide +kernel
theorem dX12_readCure_38 : decode cX12_readCure 38 = .ok (.getfield 169, 3) := by decide +kernel
theorem dX12_readCure_41 : decode cX12_readCure 41 = .ok (.bipush 18, 2) := by decide +kernel
theorem dX12_readCure_43 : decode cX12_readCure 43 = .ok (.bipush 21, 2) := by decide +kernel
theorem dX12_readCure_45 : decode cX12_readCure 45 = .ok (.invokevirtual 137, 3) := by decide +kernel
theorem dX12_readCure_48 : decode cX12_readCure 48 = .ok (.ifCond .ne 9, 3) := by decide +kernel
theorem dX12_readCure_51 : decode cX12_readCure 51 = .ok (.aload_n 0, 1) := by decide +kernel
theorem dX12_readCure_52 : decode cX12_readCure 52 = .ok (.iconst 1, 1) := by decide +kernel
theorem dX12_readCure_53 : decode cX12_readCure 53 = .ok (.invokevirtual 197, 3) := by decide +kernel
theorem dX12_readCure_56 : decode cX12_readCure 56 = .ok (.ireturn, 1) := by decide +kernel
theorem dX12_readCure_57 : decode cX12_readCure 57 = .ok (.aload_n 0, 1) := by decide +kernel
theorem dX12_readCure_58 : decode cX12_readCure 58 = .ok (.getfield 169, 3) := by decide +kernel
theorem dX12_readCure_61 : decode cX12_readCure 61 = .ok (.bipush 18, 2) := by decide +kernel
theorem dX12_readCure_63 : decode cX12_readCure 63 = .ok (.isub, 1) := by decide +kernel
theorem dX12_readCure_64 : decode cX12_readCure 64 = .ok (.istore_n 2, 1) := by decide +kernel
theorem dX12_readCure_65 : decode cX12_readCure 65 = .ok (.aload_n 0, 1) := by decide +kernel
theorem dX12_readCure_66 : decode cX12_readCure 66 = .ok (.invokevirtual 203, 3) := by decide +kernel
theorem dX12_readCure_69 : decode cX12_readCure 69 = .ok (.aload_n 0, 1) := by decide +kernel
theorem dX12_readCure_70 : decode cX12_readCure 70 = .ok (.getfield 59, 3) := by decide +kernel
theorem dX12_readCure_73 : decode cX12_readCure 73 = .ok (.iload_n 1, 1) := by decide +kernel
theorem dX12_readCure_74 : decode cX12_readCure 74 = .ok (.iconst 1, 1) := by decide +kernel
theorem dX12_readCure_75 : decode cX12_readCure 75 = .ok (.iadd, 1) := by decide +kernel
theorem dX12_readCure_76 : decode cX12_readCure 76 = .ok (.iload_n 2, 1) := by decide +kernel
theorem dX12_readCure_77 : decode cX12_readCure 77 = .ok (.iastore, 1) := by decide +kernel
theorem dX12_readCure_78 : decode cX12_readCure 78 = .ok (.aload_n 0, 1) := by decide +kernel
theorem dX12_readCure_79 : decode cX12_readCure 79 = .ok (.getfield 59, 3) := by decide +kernel
theorem dX12_readCure_82 : decode cX12_readCure 82 = .ok (.iload_n 1, 1) := by decide +kernel
theorem dX12_readCure_83 : decode cX12_readCure 83 = .ok (.iconst 2, 1) := by decide +kernel
theorem dX12_readCure_84 : decode cX12_readCure 84 = .ok (.iadd, 1) := by decide +kernel
theorem dX12_readCure_85 : decode cX12_readCure 85 = .ok (.aload_n 0, 1) := by decide +kernel
theorem dX12_readCure_86 : decode cX12_readCure 86 = .ok (.iconst 0, 1) := by decide +kernel
theorem dX12_readCure_87 : decode cX12_readCure 87 = .ok (.aload_n 0, 1) := by decide +kernel
theorem dX12_readCure_88 : decode cX12_readCure 88 = .ok (.getfield 134, 3) := by decide +kernel
theorem dX12_readCure_91 : decode cX12_readCure 91 = .ok (.iconst 1, 1) := by decide +kernel
theorem dX12_readCure_92 : decode cX12_readCure 92 = .ok (.isub, 1) := by decide +kernel
theorem dX12_readCure_93 : decode cX12_readCure 93 = .ok (.invokevirtual 247, 3) := by decide +kernel
theorem dX12_readCure_96 : decode cX12_readCure 96 = .ok (.iastore, 1) := by decide +kernel
theorem dX12_readCure_97 : decode cX12_readCure 97 = .ok (.aload_n 0, 1) := by decide +kernel
theorem dX12_readCure_98 : decode cX12_readCure 98 = .ok (.getfield 59, 3) := by decide +kernel
theorem dX12_readCure_101 : decode cX12_readCure 101 = .ok (.iload_n 1, 1) := by decide +kernel
theorem dX12_readCure_102 : decode cX12_readCure 102 = .ok (.iconst 2, 1) := by decide +kernel
theorem dX12_readCure_103 : decode cX12_readCure 103 = .ok (.iadd, 1) := by decide +kernel
theorem dX12_readCure_104 : decode cX12_readCure 104 = .ok (.iaload, 1) := by decide +kernel
theorem dX12_readCure_105 : decode cX12_readCure 105 = .ok (.iconst (-1), 1) := by decide +kernel
theorem dX12_readCure_106 : decode cX12_readCure 106 = .ok (.if_icmp .ne 5, 3) := by decide +kernel
theorem dX12_readCure_109 : decode cX12_readCure 109 = .ok (.iconst (-1), 1) := by decide +kernel
theorem dX12_readCure_110 : decode cX12_readCure 110 = .ok (.ireturn, 1) := by decide +kernel
theorem dX12_readCure_111 : decode cX12_readCure 111 = .ok (.aload_n 0, 1) := by decide +kernel
theorem dX12_readCure_112 : decode cX12_readCure 112 = .ok (.getfield 59, 3) := by decide +kernel
theorem dX12_readCure_115 : decode cX12_readCure 115 = .ok (.iload_n 1, 1) := by decide +kernel
theorem dX12_readCure_116 : decode cX12_readCure 116 = .ok (.iconst 3, 1) := by decide +kernel
theorem dX12_readCure_117 : decode cX12_readCure 117 = .ok (.iadd, 1) := by decide +kernel
theorem dX12_readCure_118 : decode cX12_readCure 118 = .ok (.iload_n 2, 1) := by decide +kernel
theorem dX12_readCure_119 : decode cX12_readCure 119 = .ok (.iconst 1, 1) := by decide +kernel
theorem dX12_readCure_120 : decode cX12_readCure 120 = .ok (.if_icmp .ne 13, 3) := by decide +kernel
theorem dX12_readCure_123 : decode cX12_readCure 123 = .ok (.aload_n 0, 1) := by decide +kernel
theorem dX12_readCure_124 : decode cX12_readCure 124 = .ok (.iconst 1, 1) := by decide +kernel
theorem dX12_readCure_125 : decode cX12_readCure 125 = .ok (.bipush 99, 2) := by decide +kernel
theorem dX12_readCure_127 : decode cX12_readCure 127 = .ok (.invokevirtual 247, 3) := by decide +kernel
theorem dX12_readCure_130 : decode cX12_readCure 130 = .ok (.goto 24, 3) := by decide +kernel
theorem dX12_readCure_133 : decode cX12_readCure 133 = .ok (.iload_n 2, 1) := by decide +kernel
theorem dX12_readCure_134 : decode cX12_readCure 134 = .ok (.iconst 2, 1) := by decide +kernel
theorem dX12_readCure_135 : decode cX12_readCure 135 = .ok (.if_icmp .ne 18, 3) := by decide +kernel
theorem dX12_readCure_138 : decode cX12_readCure 138 = .ok (.aload_n 0, 1) := by decide +kernel
theorem dX12_readCure_139 : decode cX12_readCure 139 = .ok (.aload_n 0, 1) := by decide +kernel
theorem dX12_readCure_140 : decode cX12_readCure 140 = .ok (.getfield 59, 3) := by decide +kernel
theorem dX12_readCure_143 : decode cX12_readCure 143 = .ok (.iload_n 1, 1) := by decide +kernel
theorem dX12_readCure_144 : decode cX12_readCure 144 = .ok (.iconst 2, 1) := by decide +kernel
theorem dX12_readCure_145 : decode cX12_readCure 145 = .ok (.iadd, 1) := by decide +kernel
theorem dX12_readCure_146 : decode cX12_readCure 146 = .ok (.iaload, 1) := by decide +kernel
theorem dX12_readCure_147 : decode cX12_readCure 147 = .ok (.invokevirtual 254, 3) := by decide +kernel
theorem dX12_readCure_150 : decode cX12_readCure 150 = .ok (.goto 4, 3) := by decide +kernel
theorem dX12_readCure_153 : decode cX12_readCure 153 = .ok (.iconst 0, 1) := by decide +kernel
theorem dX12_readCure_154 : decode cX12_readCure 154 = .ok (.iastore, 1) := by decide +kernel
theorem dX12_readCure_155 : decode cX12_readCure 155 = .ok (.aload_n 0, 1) := by decide +kernel
theorem dX12_readCure_156 : decode cX12_readCure 156 = .ok (.getfield 59, 3) := by decide +kernel
theorem dX12_readCure_159 : decode cX12_readCure 159 = .ok (.iload_n 1, 1) := by decide +kernel
theorem dX12_readCure_160 : decode cX12_readCure 160 = .ok (.iconst 3, 1) := by decide +kernel
theorem dX12_readCure_161 : decode cX12_readCure 161 = .ok (.iadd, 1) := by decide +kernel
theorem dX12_readCure_162 : decode cX12_readCure 162 = .ok (.iaload, 1) := by decide +kernel
theorem dX12_readCure_163 : decode cX12_readCure 163 = .ok (.iconst (-1), 1) := by decide +kernel
theorem dX12_readCure_164 : decode cX12_readCure 164 = .ok (.if_icmp .ne 7, 3) := by decide +kernel
theorem dX12_readCure_167 : decode cX12_readCure 167 = .ok (.iconst (-1), 1) := by decide +kernel
theorem dX12_readCure_168 : decode cX12_readCure 168 = .ok (.goto 9, 3) := by decide +kernel
theorem dX12_readCure_171 : decode cX12_readCure 171 = .ok (.aload_n 0, 1) := by decide +kernel
theorem dX12_readCure_172 : decode cX12_readCure 172 = .ok (.bipush 59, 2) := by decide +kernel
theorem dX12_readCure_174 : decode cX12_readCure 174 = .ok (.invokevirtual 257, 3) := by decide +kernel
theorem dX12_readCure_177 : decode cX12_readCure 177 = .ok (.ireturn, 1) := by decide +kernel
set_option maxRecDepth 100000 in
set_option maxHeartbeats 4000000 in
theorem jo_X12_readCure_51 {fr : Nat} (hfr : 5 ≤ fr) (Z : AZ) (X : AX Z cX12_readCure 3 RX12 (some .int) 1 fr) (s : Mem) (r : Int32 × Mem) (hz : zres Z = (some (.int r.1), r.2)) (h : jn_X12_readCure_51 s = some r) : AW Z s 51 [some (.ref (zr Z 0)), none, none] [] := by
  unfold jn_X12_readCure_51 at h
  refine aw_aload_n X dX12_readCure_51 rfl ?_
  refine aw_iconst (v := 1) X dX12_readCure_52 (by decide) ?_
  obtain ⟨r6, er6, h⟩ := bnd h
  refine aw_callV X dX12_readCure_53 cv_RX12_197 (ok_X12_errs er6 _ _ _ _ _) iu_RX12 rfl (Nat.le_trans (by decide) hfr) (by decide) rfl rfl (Nat.le_of_ble_eq_true rfl) ?_
  cases h
  exact aw_iret X dX12_readCure_56 rfl hz.symm
set_option maxRecDepth 100000 in
set_option maxHeartbeats 4000000 in
theorem jo_X12_readCure_154 {fr : Nat} (hfr : 5 ≤ fr) (Z : AZ) (X : AX Z cX12_readCure 3 RX12 (some .int) 1 fr) (x1 : Int32) (t1 : Int32) (t2 : Int32) (s : Mem) (r : Int32 × Mem) (hz : zres Z = (some (.int r.1), r.2)) (h : jn_X12_readCure_154 x1 t1 t2 s = some r) : AW Z s 154 [some (.ref (zr Z 0)), some (.int x1), none] [.int t2, .int t1, .ref (zr Z 16)] := by
  unfold jn_X12_readCure_154 at h
  obtain ⟨s17, es17, h⟩ := bnd h
  refine aw_iast X dX12_readCure_154 iu_RX12_34 es17 ?_
  refine aw_aload_n X dX12_readCure_155 rfl ?_
  refine aw_getr X dX12_readCure_156 fl_RX12_59 iu_RX12 gu_RX12_34 ?_
  refine aw_iload_n X dX12_readCure_159 rfl ?_
  refine aw_iconst (v := 3) X dX12_readCure_160 (by decide) ?_
  refine aw_iadd X dX12_readCure_161 ?_
  obtain ⟨v18, ev18, h⟩ := bnd h
  refine aw_iald X dX12_readCure_162 iu_RX12_34 ev18 ?_
  refine aw_iconst (v := (-1)) X dX12_readCure_163 (by decide) ?_
  refine aw_icmp_ne (tgt := 171) X dX12_readCure_164 (by decide) (fun c19 => ?_) (fun c19 => ?_)
  · rw [if_neg c19] at h
    refine aw_aload_n X dX12_readCure_171 rfl ?_
    refine aw_bipush (v := 59) X dX12_readCure_172 (by decide) ?_
    obtain ⟨r20, er20, h⟩ := bnd h
    refine aw_callV X dX12_readCure_174 cv_RX12_257 (ok_X12_readMark er20 _ _ _ _ _) iu_RX12 rfl (Nat.le_trans (by decide) hfr) (by decide) rfl rfl (Nat.le_of_ble_eq_true rfl) ?_
    cases h
    exact aw_iret X dX12_readCure_177 rfl hz.symm
  · rw [if_pos c19] at h
    refine aw_iconst (v := (-1)) X dX12_readCure_167 (by decide) ?_
    refine aw_goto (tgt := 177) X dX12_readCure_168 (by decide) ?_
    cases h
    exact aw_iret X dX12_readCure_177 rfl hz.symm
set_option maxRecDepth 100000 in
set_option maxHeartbeats 4000000 in
theorem w_X12_readCure {fr : Nat} (hfr : 5 ≤ fr) (Z : AZ) (X : AX Z cX12_readCure 3 RX12 (some .int) 1 fr) (x1 : Int32) (s : Mem) (r : Int32 × Mem) (hz : zres Z = (some (.int r.1), r.2)) (h : f_X12_readCure x1 s = some r) : AW Z s 0 [some (.ref (zr Z 0)), some (.int x1), none] [] := by
  unfold f_X12_readCure at h
  refine aw_aload_n X dX12_readCure_0 rfl ?_
  refine aw_getr X dX12_readCure_1 fl_RX12_59 iu_RX12 gu_RX12_34 ?_
  refine aw_iload_n X dX12_readCure_4 rfl ?_
  refine aw_aload_n X dX12_readCure_5 rfl ?_
  refine aw_bipush (v := 15) X dX12_readCure_6 (by decide) ?_
  refine aw_iconst (v := 0) X dX12_readCure_8 (by decide) ?_
  refine aw_sipush (v := 999) X dX12_readCure_9 (by decide) ?_
  obtain ⟨r1, er1, h⟩ := bnd h
  refine aw_callV X dX12_readCure_12 cv_RX12_250 (ok_X12_readTold er1 _ _ _ _ _) iu_RX12 rfl (Nat.le_trans (by decide) hfr) (by decide) rfl rfl (Nat.le_of_ble_eq_true rfl) ?_
  obtain ⟨s2, es2, h⟩ := bnd h
  refine aw_iast X dX12_readCure_15 iu_RX12_34 es2 ?_
  refine aw_aload_n X dX12_readCure_16 rfl ?_
  refine aw_getr X dX12_readCure_17 fl_RX12_59 iu_RX12 gu_RX12_34 ?_
  refine aw_iload_n X dX12_readCure_20 rfl ?_
  obtain ⟨v3, ev3, h⟩ := bnd h
  refine aw_iald X dX12_readCure_21 iu_RX12_34 ev3 ?_
  refine aw_iconst (v := (-1)) X dX12_readCure_22 (by decide) ?_
  refine aw_icmp_ne (tgt := 28) X dX12_readCure_23 (by decide) (fun c4 => ?_) (fun c4 => ?_)
  · rw [if_neg c4] at h
    refine aw_aload_n X dX12_readCure_28 rfl ?_
    refine aw_geti X dX12_readCure_29 fl_RX12_166 iu_RX12 gu_RX12_12 ?_
    refine aw_iconst (v := 2) X dX12_readCure_32 (by decide) ?_
    refine aw_icmp_ne (tgt := 51) X dX12_readCure_33 (by decide) (fun c5 => ?_) (fun c5 => ?_)
    · rw [if_neg c5] at h
      refine aw_msk [true, false, false] ?_
      exact jo_X12_readCure_51 hfr Z X _ _ hz h
    · rw [if_pos c5] at h
      refine aw_aload_n X dX12_readCure_36 rfl ?_
      refine aw_aload_n X dX12_readCure_37 rfl ?_
      refine aw_geti X dX12_readCure_38 fl_RX12_169 iu_RX12 gu_RX12_13 ?_
      refine aw_bipush (v := 18) X dX12_readCure_41 (by decide) ?_
      refine aw_bipush (v := 21) X dX12_readCure_43 (by decide) ?_
      obtain ⟨r7, er7, h⟩ := bnd h
      refine aw_callV X dX12_readCure_45 cv_RX12_137 (ok_X12_isIn er7 _ _ _ _ _) iu_RX12 rfl (Nat.le_trans (by decide) hfr) (by decide) rfl rfl (Nat.le_of_ble_eq_true rfl) ?_
      refine aw_if_ne (tgt := 57) X dX12_readCure_48 (by decide) (fun c8 => ?_) (fun c8 => ?_)
      · rw [if_neg c8] at h
        refine aw_aload_n X dX12_readCure_57 rfl ?_
        refine aw_geti X dX12_readCure_58 fl_RX12_169 iu_RX12 gu_RX12_13 ?_
        refine aw_bipush (v := 18) X dX12_readCure_61 (by decide) ?_
        refine aw_isub X dX12_readCure_63 ?_
        refine aw_istore_n (L' := [some (.ref (zr Z 0)), some (.int x1), some (.int ((r7.2 0 13) - 18))]) X dX12_readCure_64 (by decide) rfl ?_
        refine aw_aload_n X dX12_readCure_65 rfl ?_
        obtain ⟨r9, er9, h⟩ := bnd h
        refine aw_callV X dX12_readCure_66 cv_RX12_203 (ok_X12_reads er9 _ _ _ _ _) iu_RX12 rfl (Nat.le_trans (by decide) hfr) (by decide) rfl rfl (Nat.le_of_ble_eq_true rfl) ?_
        refine aw_aload_n X dX12_readCure_69 rfl ?_
        refine aw_getr X dX12_readCure_70 fl_RX12_59 iu_RX12 gu_RX12_34 ?_
        refine aw_iload_n X dX12_readCure_73 rfl ?_
        refine aw_iconst (v := 1) X dX12_readCure_74 (by decide) ?_
        refine aw_iadd X dX12_readCure_75 ?_
        refine aw_iload_n X dX12_readCure_76 rfl ?_
        obtain ⟨s10, es10, h⟩ := bnd h
        refine aw_iast X dX12_readCure_77 iu_RX12_34 es10 ?_
        refine aw_aload_n X dX12_readCure_78 rfl ?_
        refine aw_getr X dX12_readCure_79 fl_RX12_59 iu_RX12 gu_RX12_34 ?_
        refine aw_iload_n X dX12_readCure_82 rfl ?_
        refine aw_iconst (v := 2) X dX12_readCure_83 (by decide) ?_
        refine aw_iadd X dX12_readCure_84 ?_
        refine aw_aload_n X dX12_readCure_85 rfl ?_
        refine aw_iconst (v := 0) X dX12_readCure_86 (by decide) ?_
        refine aw_aload_n X dX12_readCure_87 rfl ?_
        refine aw_geti X dX12_readCure_88 fl_RX12_134 iu_RX12 gu_RX12_6 ?_
        refine aw_iconst (v := 1) X dX12_readCure_91 (by decide) ?_
        refine aw_isub X dX12_readCure_92 ?_
        obtain ⟨r11, er11, h⟩ := bnd h
        refine aw_callV X dX12_readCure_93 cv_RX12_247 (ok_X12_readNumber er11 _ _ _ _ _) iu_RX12 rfl (Nat.le_trans (by decide) hfr) (by decide) rfl rfl (Nat.le_of_ble_eq_true rfl) ?_
        obtain ⟨s12, es12, h⟩ := bnd h
        refine aw_iast X dX12_readCure_96 iu_RX12_34 es12 ?_
        refine aw_aload_n X dX12_readCure_97 rfl ?_
        refine aw_getr X dX12_readCure_98 fl_RX12_59 iu_RX12 gu_RX12_34 ?_
        refine aw_iload_n X dX12_readCure_101 rfl ?_
        refine aw_iconst (v := 2) X dX12_readCure_102 (by decide) ?_
        refine aw_iadd X dX12_readCure_103 ?_
        obtain ⟨v13, ev13, h⟩ := bnd h
        refine aw_iald X dX12_readCure_104 iu_RX12_34 ev13 ?_
        refine aw_iconst (v := (-1)) X dX12_readCure_105 (by decide) ?_
        refine aw_icmp_ne (tgt := 111) X dX12_readCure_106 (by decide) (fun c14 => ?_) (fun c14 => ?_)
        · rw [if_neg c14] at h
          refine aw_aload_n X dX12_readCure_111 rfl ?_
          refine aw_getr X dX12_readCure_112 fl_RX12_59 iu_RX12 gu_RX12_34 ?_
          refine aw_iload_n X dX12_readCure_115 rfl ?_
          refine aw_iconst (v := 3) X dX12_readCure_116 (by decide) ?_
          refine aw_iadd X dX12_readCure_117 ?_
          refine aw_iload_n X dX12_readCure_118 rfl ?_
          refine aw_iconst (v := 1) X dX12_readCure_119 (by decide) ?_
          refine aw_icmp_ne (tgt := 133) X dX12_readCure_120 (by decide) (fun c15 => ?_) (fun c15 => ?_)
          · rw [if_neg c15] at h
            refine aw_iload_n X dX12_readCure_133 rfl ?_
            refine aw_iconst (v := 2) X dX12_readCure_134 (by decide) ?_
            refine aw_icmp_ne (tgt := 153) X dX12_readCure_135 (by decide) (fun c16 => ?_) (fun c16 => ?_)
            · rw [if_neg c16] at h
              refine aw_iconst (v := 0) X dX12_readCure_153 (by decide) ?_
              refine aw_msk [true, true, false] ?_
              exact jo_X12_readCure_154 hfr Z X _ _ _ _ _ hz h
            · rw [if_pos c16] at h
              refine aw_aload_n X dX12_readCure_138 rfl ?_
              refine aw_aload_n X dX12_readCure_139 rfl ?_
              refine aw_getr X dX12_readCure_140 fl_RX12_59 iu_RX12 gu_RX12_34 ?_
              refine aw_iload_n X dX12_readCure_143 rfl ?_
              refine aw_iconst (v := 2) X dX12_readCure_144 (by decide) ?_
              refine aw_iadd X dX12_readCure_145 ?_
              obtain ⟨v21, ev21, h⟩ := bnd h
              refine aw_iald X dX12_readCure_146 iu_RX12_34 ev21 ?_
              obtain ⟨r22, er22, h⟩ := bnd h
              refine aw_callV X dX12_readCure_147 cv_RX12_254 (ok_X12_readOther er22 _ _ _ _ _) iu_RX12 rfl (Nat.le_trans (by decide) hfr) (by decide) rfl rfl (Nat.le_of_ble_eq_true rfl) ?_
              refine aw_goto (tgt := 154) X dX12_readCure_150 (by decide) ?_
              refine aw_msk [true, true, false] ?_
              exact jo_X12_readCure_154 hfr Z X _ _ _ _ _ hz h
          · rw [if_pos c15] at h
            refine aw_aload_n X dX12_readCure_123 rfl ?_
            refine aw_iconst (v := 1) X dX12_readCure_124 (by decide) ?_
            refine aw_bipush (v := 99) X dX12_readCure_125 (by decide) ?_
            obtain ⟨r23, er23, h⟩ := bnd h
            refine aw_callV X dX12_readCure_127 cv_RX12_247 (ok_X12_readNumber er23 _ _ _ _ _) iu_RX12 rfl (Nat.le_trans (by decide) hfr) (by decide) rfl rfl (Nat.le_of_ble_eq_true rfl) ?_
            refine aw_goto (tgt := 154) X dX12_readCure_130 (by decide) ?_
            refine aw_msk [true, true, false] ?_
            exact jo_X12_readCure_154 hfr Z X _ _ _ _ _ hz h
        · rw [if_pos c14] at h
          refine aw_iconst (v := (-1)) X dX12_readCure_109 (by decide) ?_
          cases h
          exact aw_iret X dX12_readCure_110 rfl hz.symm
      · rw [if_pos c8] at h
        refine aw_msk [true, false, false] ?_
        exact jo_X12_readCure_51 hfr Z X _ _ hz h
  · rw [if_pos c4] at h
    refine aw_iconst (v := (-1)) X dX12_readCure_26 (by decide) ?_
    cases h
    exact aw_iret X dX12_readCure_27 rfl hz.symm
set_option maxRecDepth 100000 in
set_option maxHeartbeats 4000000 in
theorem ok_X12_readCure {x1 : Int32} {s : Mem} {r : Int32 × Mem} (h : f_X12_readCure x1 s = some r) (l : Launch) (D : va_G) (ρ : Nat → Nat) (cA : ClassId × ClassId × ClassId) (τ : AT) : AM l D ρ cA 1 τ yX12_readCure cX12_readCure 3 (some .int) 5 [.ref (ρ 0), .int x1] (some (.int r.1)) s r.2 := by
  refine AM_of (L := [some (.ref (ρ 0)), some (.int x1), none]) (by decide) (by simp [Value.category]) (Nat.le_of_ble_eq_true rfl) (fun j v q => ?_) (fun Z X hρ hz hτ => ?_)
  · exact aL_ok (n := 1) [.ref (ρ 0), .int x1] j v q
  · subst hρ
    subst hτ
    exact w_X12_readCure (Nat.le_refl _) Z X x1 s r hz h

theorem dX12_readCures_0 : decode cX12_readCures 0 = .ok (.iconst 0, 1) := by decide +kernel
theorem dX12_readCures_1 : decode cX12_readCures 1 = .ok (.istore_n 1, 1) := by decide +kernel
theorem dX12_readCures_2 : decode cX12_readCures 2 = .ok (.aload_n 0, 1) := by decide +kernel
theorem dX12_readCures_3 : decode cX12_readCures 3 = .ok (.bipush 15, 2) := by decide +kernel
theorem dX12_readCures_5 : decode cX12_readCures 5 = .ok (.invokevirtual 225, 3) := by decide +kernel
theorem dX12_readCures_8 : decode cX12_readCures 8 = .ok (.ifCond .eq 38, 3) := by decide +kernel
theorem dX12_readCures_11 : decode cX12_readCures 11 = .ok (.iload_n 1, 1) := by decide +kernel
theorem dX12_readCures_12 : decode cX12_readCures 12 = .ok (.bipush 16, 2) := by decide +kernel
theorem dX12_readCures_14 : decode cX12_readCures 14 = .ok (.if_icmp .ne 9, 3) := by decide +kernel
theorem dX12_readCures_17 : decode cX12_readCures 17 = .ok (.aload_n 0, 1) := by decide +kernel
theorem dX12_readCures_18 : decode cX12_readCures 18 = .ok (.iconst 3, 1) := by decide +kernel
theorem dX12_readCures_19 : decode cX12_readCures 19 = .ok (.invokevirtual 197, 3) := by decide +kernel
theorem dX12_readCures_22 : decode cX12_readCures 22 = .ok (.ireturn, 1) := by decide +kernel
theorem dX12_readCures_23 : decode cX12_readCures 23 = .ok (.aload_n 0, 1) := by decide +kernel
theorem dX12_readCures_24 : decode cX12_readCures 24 = .ok (.bipush 64, 2) := by decide +kernel
theorem dX12_readCures_26 : decode cX12_readCures 26 = .ok (.iconst 4, 1) := by decide +kernel
theorem dX12_readCures_27 : decode cX12_readCures 27 = .ok (.iload_n 1, 1) := by decide +kernel
theorem dX12_readCures_28 : decode cX12_readCures 28 = .ok (.imul, 1) := by decide +kernel
theorem dX12_readCures_29 : decode cX12_readCures 29 = .ok (.iadd, 1) := by decide +kernel
theorem dX12_readCures_30 : decode cX12_readCures 30 = .ok (.invokevirtual 263, 3) := by decide +kernel
theorem dX12_readCures_33 : decode cX12_readCures 33 = .ok (.iconst (-1), 1) := by decide +kernel
theorem dX12_readCures_34 : decode cX12_readCures 34 = .ok (.if_icmp .ne 5, 3) := by decide +kernel
theorem dX12_readCures_37 : decode cX12_readCures 37 = .ok (.iconst (-1), 1) := by decide +kernel
theorem dX12_readCures_38 : decode cX12_readCures 38 = .ok (.ireturn, 1) := by decide +kernel
theorem dX12_readCures_39 : decode cX12_readCures 39 = .ok (.iload_n 1, 1) := by decide +kernel
theorem dX12_readCures_40 : decode cX12_readCures 40 = .ok (.iconst 1, 1) := by decide +kernel
theorem dX12_readCures_41 : decode cX12_readCures 41 = .ok (.iadd, 1) := by decide +kernel
theorem dX12_readCures_42 : decode cX12_readCures 42 = .ok (.istore_n 1, 1) := by decide +kernel
theorem dX12_readCures_43 : decode cX12_readCures 43 = .ok (.goto (-41), 3) := by decide +kernel
theorem dX12_readCures_46 : decode cX12_readCures 46 = .ok (.aload_n 0, 1) := by decide +kernel
theorem dX12_readCures_47 : decode cX12_readCures 47 = .ok (.getfield 166, 3) := by decide +kernel
theorem dX12_readCures_50 : decode cX12_readCures 50 = .ok (.ifCond .ne 7, 3) := by decide +kernel
theorem dX12_readCures_53 : decode cX12_readCures 53 = .ok (.iload_n 1, 1) := by decide +kernel
theorem dX12_readCures_54 : decode cX12_readCures 54 = .ok (.goto 8, 3) := by decide +kernel
theorem dX12_readCures_57 : decode cX12_readCures 57 = .ok (.aload_n 0, 1) := by decide +kernel
theorem dX12_readCures_58 : decode cX12_readCures 58 = .ok (.iconst 1, 1) := by decide +kernel
theorem dX12_readCures_59 : decode cX12_readCures 59 = .ok (.invokevirtual 197, 3) := by decide +kernel
theorem dX12_readCures_62 : decode cX12_readCures 62 = .ok (.ireturn, 1) := by decide +kernel
set_option maxRecDepth 100000 in
set_option maxHeartbeats 4000000 in
theorem so_X12_readCures_2 {fr : Nat} (hfr : 6 ≤ fr) (Z : AZ) (X : AX Z cX12_readCures 2 RX12 (some .int) 1 fr) (x1 : Int32) (s : Mem) (q : (Int32 × Mem) ⊕ (Nat × Int32 × Mem)) (h : st_X12_readCures_2 x1 s = some q) (hi : ∀ y : Int32 × Mem, q = .inl y → AW Z y.2 2 [some (.ref (zr Z 0)), some (.int y.1)] []) (he : ∀ b : Nat × Int32 × Mem, q = .inr b → (b.1 = 0 → AW Z b.2.2 17 [some (.ref (zr Z 0)), none] []) ∧ (b.1 = 1 → AW Z b.2.2 37 [none, none] []) ∧ (b.1 = 2 → AW Z b.2.2 46 [some (.ref (zr Z 0)), some (.int b.2.1)] [])) : AW Z s 2 [some (.ref (zr Z 0)), some (.int x1)] [] := by
  unfold st_X12_readCures_2 at h
  refine aw_aload_n X dX12_readCures_2 rfl ?_
  refine aw_bipush (v := 15) X dX12_readCures_3 (by decide) ?_
  obtain ⟨r1, er1, h⟩ := bnd h
  refine aw_callV X dX12_readCures_5 cv_RX12_225 (ok_X12_isWord er1 _ _ _ _ _) iu_RX12 rfl (Nat.le_trans (by decide) hfr) (by decide) rfl rfl (Nat.le_of_ble_eq_true rfl) ?_
  refine aw_if_eq (tgt := 46) X dX12_readCures_8 (by decide) (fun c2 => ?_) (fun c2 => ?_)
  · rw [if_pos c2] at h
    cases h
    refine aw_msk [true, true] ?_
    exact (he _ rfl).2.2 rfl
  · rw [if_neg c2] at h
    refine aw_iload_n X dX12_readCures_11 rfl ?_
    refine aw_bipush (v := 16) X dX12_readCures_12 (by decide) ?_
    refine aw_icmp_ne (tgt := 23) X dX12_readCures_14 (by decide) (fun c3 => ?_) (fun c3 => ?_)
    · rw [if_neg c3] at h
      refine aw_aload_n X dX12_readCures_23 rfl ?_
      refine aw_bipush (v := 64) X dX12_readCures_24 (by decide) ?_
      refine aw_iconst (v := 4) X dX12_readCures_26 (by decide) ?_
      refine aw_iload_n X dX12_readCures_27 rfl ?_
      refine aw_imul X dX12_readCures_28 ?_
      refine aw_iadd X dX12_readCures_29 ?_
      obtain ⟨r4, er4, h⟩ := bnd h
      refine aw_callV X dX12_readCures_30 cv_RX12_263 (ok_X12_readCure er4 _ _ _ _ _) iu_RX12 rfl (Nat.le_trans (by decide) hfr) (by decide) rfl rfl (Nat.le_of_ble_eq_true rfl) ?_
      refine aw_iconst (v := (-1)) X dX12_readCures_33 (by decide) ?_
      refine aw_icmp_ne (tgt := 39) X dX12_readCures_34 (by decide) (fun c5 => ?_) (fun c5 => ?_)
      · rw [if_neg c5] at h
        refine aw_iload_n X dX12_readCures_39 rfl ?_
        refine aw_iconst (v := 1) X dX12_readCures_40 (by decide) ?_
        refine aw_iadd X dX12_readCures_41 ?_
        refine aw_istore_n (L' := [some (.ref (zr Z 0)), some (.int (x1 + 1))]) X dX12_readCures_42 (by decide) rfl ?_
        refine aw_goto (tgt := 2) X dX12_readCures_43 (by decide) ?_
        cases h
        refine aw_msk [true, true] ?_
        exact hi _ rfl
      · rw [if_pos c5] at h
        cases h
        refine aw_msk [false, false] ?_
        exact (he _ rfl).2.1 rfl
    · rw [if_pos c3] at h
      cases h
      refine aw_msk [true, false] ?_
      exact (he _ rfl).1 rfl
set_option maxRecDepth 100000 in
set_option maxHeartbeats 4000000 in
theorem w_X12_readCures {fr : Nat} (hfr : 6 ≤ fr) (Z : AZ) (X : AX Z cX12_readCures 2 RX12 (some .int) 1 fr) (s : Mem) (r : Int32 × Mem) (hz : zres Z = (some (.int r.1), r.2)) (h : f_X12_readCures s = some r) : AW Z s 0 [some (.ref (zr Z 0)), none] [] := by
  unfold f_X12_readCures at h
  refine aw_iconst (v := 0) X dX12_readCures_0 (by decide) ?_
  refine aw_istore_n (L' := [some (.ref (zr Z 0)), some (.int 0)]) X dX12_readCures_1 (by decide) rfl ?_
  obtain ⟨r6, er6, h⟩ := bnd h
  refine aw_msk [true, true] ?_
  refine it_ok (P := fun y : Int32 × Mem => AW Z y.2 2 [some (.ref (zr Z 0)), some (.int y.1)] []) (Q := fun b : Nat × Int32 × Mem => (b.1 = 0 → AW Z b.2.2 17 [some (.ref (zr Z 0)), none] []) ∧ (b.1 = 1 → AW Z b.2.2 37 [none, none] []) ∧ (b.1 = 2 → AW Z b.2.2 46 [some (.ref (zr Z 0)), some (.int b.2.1)] [])) (fun y q hq hi he => so_X12_readCures_2 hfr Z X y.1 y.2 q hq hi he) FUEL _ _ er6 ?_
  refine ⟨fun c0 => ?_, fun c1 => ?_, fun c2 => ?_⟩
  · rw [if_pos c0] at h
    refine aw_aload_n X dX12_readCures_17 rfl ?_
    refine aw_iconst (v := 3) X dX12_readCures_18 (by decide) ?_
    obtain ⟨r7, er7, h⟩ := bnd h
    refine aw_callV X dX12_readCures_19 cv_RX12_197 (ok_X12_errs er7 _ _ _ _ _) iu_RX12 rfl (Nat.le_trans (by decide) hfr) (by decide) rfl rfl (Nat.le_of_ble_eq_true rfl) ?_
    cases h
    exact aw_iret X dX12_readCures_22 rfl hz.symm
  · rw [if_neg (by rw [c1]; decide)] at h
    rw [if_pos c1] at h
    refine aw_iconst (v := (-1)) X dX12_readCures_37 (by decide) ?_
    cases h
    exact aw_iret X dX12_readCures_38 rfl hz.symm
  · rw [if_neg (by rw [c2]; decide)] at h
    rw [if_neg (by rw [c2]; decide)] at h
    refine aw_aload_n X dX12_readCures_46 rfl ?_
    refine aw_geti X dX12_readCures_47 fl_RX12_166 iu_RX12 gu_RX12_12 ?_
    refine aw_if_ne (tgt := 57) X dX12_readCures_50 (by decide) (fun c8 => ?_) (fun c8 => ?_)
    · rw [if_neg c8] at h
      refine aw_aload_n X dX12_readCures_57 rfl ?_
      refine aw_iconst (v := 1) X dX12_readCures_58 (by decide) ?_
      obtain ⟨r9, er9, h⟩ := bnd h
      refine aw_callV X dX12_readCures_59 cv_RX12_197 (ok_X12_errs er9 _ _ _ _ _) iu_RX12 rfl (Nat.le_trans (by decide) hfr) (by decide) rfl rfl (Nat.le_of_ble_eq_true rfl) ?_
      cases h
      exact aw_iret X dX12_readCures_62 rfl hz.symm
    · rw [if_pos c8] at h
      refine aw_iload_n X dX12_readCures_53 rfl ?_
      refine aw_goto (tgt := 62) X dX12_readCures_54 (by decide) ?_
      cases h
      exact aw_iret X dX12_readCures_62 rfl hz.symm
set_option maxRecDepth 100000 in
set_option maxHeartbeats 4000000 in
theorem ok_X12_readCures {s : Mem} {r : Int32 × Mem} (h : f_X12_readCures s = some r) (l : Launch) (D : va_G) (ρ : Nat → Nat) (cA : ClassId × ClassId × ClassId) (τ : AT) : AM l D ρ cA 1 τ yX12_readCures cX12_readCures 2 (some .int) 6 [.ref (ρ 0)] (some (.int r.1)) s r.2 := by
  refine AM_of (L := [some (.ref (ρ 0)), none]) (by decide) (by simp [Value.category]) (Nat.le_of_ble_eq_true rfl) (fun j v q => ?_) (fun Z X hρ hz hτ => ?_)
  · exact aL_ok (n := 1) [.ref (ρ 0)] j v q
  · subst hρ
    subst hτ
    exact w_X12_readCures (Nat.le_refl _) Z X s r hz h

theorem dX12_readRow_0 : decode cX12_readRow 0 = .ok (.aload_n 0, 1) := by decide +kernel
theorem dX12_readRow_1 : decode cX12_readRow 1 = .ok (.bipush 16, 2) := by decide +kernel
theorem dX12_readRow_3 : decode cX12_readRow 3 = .ok (.iconst 0, 1) := by decide +kernel
theorem dX12_readRow_4 : decode cX12_readRow 4 = .ok (.aload_n 0, 1) := by decide +kernel
theorem dX12_readRow_5 : decode cX12_readRow 5 = .ok (.getfield 134, 3) := by decide +kernel
theorem dX12_readRow_8 : decode cX12_readRow 8 = .ok (.iconst 1, 1) := by decide +kernel
theorem dX12_readRow_9 : decode cX12_readRow 9 = .ok (.isub, 1) := by decide +kernel
theorem dX12_readRow_10 : decode cX12_readRow 10 = .ok (.invokevirtual 250, 3) := by decide +kernel
theorem dX12_readRow_13 : decode cX12_readRow 13 = .ok (.istore_n 1, 1) := by decide +kernel
theorem dX12_readRow_14 : decode cX12_readRow 14 = .ok (.iload_n 1, 1) := by decide +kernel
theorem dX12_readRow_15 : decode cX12_readRow 15 = .ok (.iconst (-1), 1) := by decide +kernel
theorem dX12_readRow_16 : decode cX12_readRow 16 = .ok (.if_icmp .ne 5, 3) := by decide +kernel
theorem dX12_readRow_19 : decode cX12_readRow 19 = .ok (.iconst (-1), 1) := by decide +kernel
theorem dX12_readRow_20 : decode cX12_readRow 20 = .ok (.ireturn, 1) := by decide +kernel
theorem dX12_readRow_21 : decode cX12_readRow 21 = .ok (.aload_n 0, 1) := by decide +kernel
theorem dX12_readRow_22 : decode cX12_readRow 22 = .ok (.bipush 22, 2) := by decide +kernel
theorem dX12_readRow_24 : decode cX12_readRow 24 = .ok (.invokevirtual 225, 3) := by decide +kernel
theorem dX12_readRow_27 : decode cX12_readRow 27 = .ok (.ifCond .ne 9, 3) := by decide +kernel
theorem dX12_readRow_30 : decode cX12_readRow 30 = .ok (.aload_n 0, 1) := by decide +kernel
theorem dX12_readRow_31 : decode cX12_readRow 31 = .ok (.iconst 1, 1) := by decide +kernel
theorem dX12_readRow_32 : decode cX12_readRow 32 = .ok (.invokevirtual 197, 3) := by decide +kernel
theorem dX12_readRow_35 : decode cX12_readRow 35 = .ok (.ireturn, 1) := by decide +kernel
theorem dX12_readRow_36 : decode cX12_readRow 36 = .ok (.aload_n 0, 1) := by decide +kernel
theorem dX12_readRow_37 : decode cX12_readRow 37 = .ok (.invokevirtual 203, 3) := by decide +kernel
theorem dX12_readRow_40 : decode cX12_readRow 40 = .ok (.iconst 0, 1) := by decide +kernel
theorem dX12_readRow_41 : decode cX12_readRow 41 = .ok (.istore_n 2, 1) := by decide +kernel
theorem dX12_readRow_42 : decode cX12_readRow 42 = .ok (.iload_n 2, 1) := by decide +kernel
theorem dX12_readRow_43 : decode cX12_readRow 43 = .ok (.ifCond .eq 11, 3) := by decide +kernel
theorem dX12_readRow_46 : decode cX12_readRow 46 = .ok (.aload_n 0, 1) := by decide +kernel
theorem dX12_readRow_47 : decode cX12_readRow 47 = .ok (.getfield 166, 3) := by decide +kernel
theorem dX12_readRow_50 : decode cX12_readRow 50 = .ok (.iconst 3, 1) := by decide +kernel
theorem dX12_readRow_51 : decode cX12_readRow 51 = .ok (.if_icmp .ne 64, 3) := by decide +kernel
theorem dX12_readRow_54 : decode cX12_readRow 54 = .ok (.aload_n 0, 1) := by decide +kernel
theorem dX12_readRow_55 : decode cX12_readRow 55 = .ok (.getfield 163, 3) := by decide +kernel
theorem dX12_readRow_58 : decode cX12_readRow 58 = .ok (.istore_n 3, 1) := by decide +kernel
theorem dX12_readRow_59 : decode cX12_readRow 59 = .ok (.aload_n 0, 1) := by decide +kernel
theorem dX12_readRow_60 : decode cX12_readRow 60 = .ok (.iload_n 1, 1) := by decide +kernel
theorem dX12_readRow_61 : decode cX12_readRow 61 = .ok (.invokevirtual 254, 3) := by decide +kernel
theorem dX12_readRow_64 : decode cX12_readRow 64 = .ok (.istore 4, 2) := by decide +kernel
theorem dX12_readRow_66 : decode cX12_readRow 66 = .ok (.iload 4, 2) := by decide +kernel
theorem dX12_readRow_68 : decode cX12_readRow 68 = .ok (.iconst (-1), 1) := by decide +kernel
theorem dX12_readRow_69 : decode cX12_readRow 69 = .ok (.if_icmp .ne 5, 3) := by decide +kernel
theorem dX12_readRow_72 : decode cX12_readRow 72 = .ok (.iconst (-1), 1) := by decide +kernel
theorem dX12_readRow_73 : decode cX12_readRow 73 = .ok (.ireturn, 1) := by decide +kernel
theorem dX12_readRow_74 : decode cX12_readRow 74 = .ok (.iload_n 2, 1) := by decide +kernel
theorem dX12_readRow_75 : decode cX12_readRow 75 = .ok (.bipush 6, 2) := by decide +kernel
theorem dX12_readRow_77 : decode cX12_readRow 77 = .ok (.if_icmp .ne 15, 3) := by decide +kernel
theorem dX12_readRow_80 : decode cX12_readRow 80 = .ok (.aload_n 0, 1) := by decide +kernel
theorem dX12_readRow_81 : decode cX12_readRow 81 = .ok (.iload_n 3, 1) := by decide +kernel
theorem dX12_readRow_82 : decode cX12_readRow 82 = .ok (.putfield 188, 3) := by decide +kernel
theorem dX12_readRow_85 : decode cX12_readRow 85 = .ok (.aload_n 0, 1) := by decide +kernel
theorem dX12_readRow_86 : decode cX12_readRow 86 = .ok (.iconst 3, 1) := by decide +kernel
theorem dX12_readRow_87 : decode cX12_readRow 87 = .ok (.putfield 185, 3) := by decide +kernel
theorem dX12_readRow_90 : decode cX12_readRow 90 = .ok (.iconst (-1), 1) := by decide +kernel
theorem dX12_readRow_91 : decode cX12_readRow 91 = .ok (.ireturn, 1) := by decide +kernel
theorem dX12_readRow_92 : decode cX12_readRow 92 = .ok (.aload_n 0, 1) := by decide +kernel
theorem dX12_readRow_93 : decode cX12_readRow 93 = .ok (.getfield 65, 3) := by decide +kernel
theorem dX12_readRow_96 : decode cX12_readRow 96 = .ok (.bipush 6, 2) := by decide +kernel
theorem dX12_readRow_98 : decode cX12_readRow 98 = .ok (.bipush 14, 2) := by decide +kernel
theorem dX12_readRow_100 : decode cX12_readRow 100 = .ok (.iload_n 1, 1) := by decide +kernel
theorem dX12_readRow_101 : decode cX12_readRow 101 = .ok (.iadd, 1) := by decide +kernel
theorem dX12_readRow_102 : decode cX12_readRow 102 = .ok (.imul, 1) := by decide +kernel
theorem dX12_readRow_103 : decode cX12_readRow 103 = .ok (.iload_n 2, 1) := by decide +kernel
theorem dX12_readRow_104 : decode cX12_readRow 104 = .ok (.iadd, 1) := by decide +kernel
theorem dX12_readRow_105 : decode cX12_readRow 105 = .ok (.iload 4, 2) := by decide +kernel
theorem dX12_readRow_107 : decode cX12_readRow 107 = .ok (.iastore, 1) := by decide +kernel
theorem dX12_readRow_108 : decode cX12_readRow 108 = .ok (.iload_n 2, 1) := by decide +kernel
theorem dX12_readRow_109 : decode cX12_readRow 109 = .ok (.iconst 1, 1) := by decide +kernel
theorem dX12_readRow_110 : decode cX12_readRow 110 = .ok (.iadd, 1) := by decide +kernel
theorem dX12_readRow_111 : decode cX12_readRow 111 = .ok (.istore_n 2, 1) := by decide +kernel
theorem dX12_readRow_112 : decode cX12_readRow 112 = .ok (.goto (-70), 3) := by decide +kernel
theorem dX12_readRow_115 : decode cX12_readRow 115 = .ok (.aload_n 0, 1) := by decide +kernel
theorem dX12_readRow_116 : decode cX12_readRow 116 = .ok (.getfield 62, 3) := by decide +kernel
theorem dX12_readRow_119 : decode cX12_readRow 119 = .ok (.bipush 14, 2) := by decide +kernel
theorem dX12_readRow_121 : decode cX12_readRow 121 = .ok (.iload_n 1, 1) := by decide +kernel
theorem dX12_readRow_122 : decode cX12_readRow 122 = .ok (.iadd, 1) := by decide +kernel
theorem dX12_readRow_123 : decode cX12_readRow 123 = .ok (.iload_n 2, 1) := by decide +kernel
theorem dX12_readRow_124 : decode cX12_readRow 124 = .ok (.iastore, 1) := by decide +kernel
theorem dX12_readRow_125 : decode cX12_readRow 125 = .ok (.aload_n 0, 1) := by decide +kernel
theorem dX12_readRow_126 : decode cX12_readRow 126 = .ok (.bipush 59, 2) := by decide +kernel
theorem dX12_readRow_128 : decode cX12_readRow 128 = .ok (.invokevirtual 257, 3) := by decide +kernel
theorem dX12_readRow_131 : decode cX12_readRow 131 = .ok (.ireturn, 1) := by decide +kernel
set_option maxRecDepth 100000 in
set_option maxHeartbeats 4000000 in
theorem jo_X12_readRow_54 {fr : Nat} (hfr : 5 ≤ fr) (Z : AZ) (X : AX Z cX12_readRow 5 RX12 (some .int) 1 fr) (x1 : Int32) (x2 : Int32) (s : Mem) (q : (Int32 × Mem) ⊕ (Nat × Int32 × Int32 × Mem)) (h : jn_X12_readRow_54 x1 x2 s = some q) (hi : ∀ y : Int32 × Mem, q = .inl y → AW Z y.2 42 [some (.ref (zr Z 0)), some (.int x1), some (.int y.1), none, none] []) (he : ∀ b : Nat × Int32 × Int32 × Mem, q = .inr b → (b.1 = 0 → AW Z b.2.2.2 72 [none, none, none, none, none] []) ∧ (b.1 = 1 → AW Z b.2.2.2 80 [some (.ref (zr Z 0)), none, none, some (.int b.2.2.1), none] []) ∧ (b.1 = 2 → AW Z b.2.2.2 115 [some (.ref (zr Z 0)), some (.int x1), some (.int b.2.1), none, none] [])) : AW Z s 54 [some (.ref (zr Z 0)), some (.int x1), some (.int x2), none, none] [] := by
  unfold jn_X12_readRow_54 at h
  refine aw_aload_n X dX12_readRow_54 rfl ?_
  refine aw_geti X dX12_readRow_55 fl_RX12_163 iu_RX12 gu_RX12_11 ?_
  refine aw_istore_n (L' := [some (.ref (zr Z 0)), some (.int x1), some (.int x2), some (.int (s 0 11)), none]) X dX12_readRow_58 (by decide) rfl ?_
  refine aw_aload_n X dX12_readRow_59 rfl ?_
  refine aw_iload_n X dX12_readRow_60 rfl ?_
  obtain ⟨r7, er7, h⟩ := bnd h
  refine aw_callV X dX12_readRow_61 cv_RX12_254 (ok_X12_readOther er7 _ _ _ _ _) iu_RX12 rfl (Nat.le_trans (by decide) hfr) (by decide) rfl rfl (Nat.le_of_ble_eq_true rfl) ?_
  refine aw_istore (L' := [some (.ref (zr Z 0)), some (.int x1), some (.int x2), some (.int (s 0 11)), some (.int r7.1)]) X dX12_readRow_64 (by decide) rfl ?_
  refine aw_iload X dX12_readRow_66 rfl ?_
  refine aw_iconst (v := (-1)) X dX12_readRow_68 (by decide) ?_
  refine aw_icmp_ne (tgt := 74) X dX12_readRow_69 (by decide) (fun c8 => ?_) (fun c8 => ?_)
  · rw [if_neg c8] at h
    refine aw_iload_n X dX12_readRow_74 rfl ?_
    refine aw_bipush (v := 6) X dX12_readRow_75 (by decide) ?_
    refine aw_icmp_ne (tgt := 92) X dX12_readRow_77 (by decide) (fun c9 => ?_) (fun c9 => ?_)
    · rw [if_neg c9] at h
      refine aw_aload_n X dX12_readRow_92 rfl ?_
      refine aw_getr X dX12_readRow_93 fl_RX12_65 iu_RX12 gu_RX12_37 ?_
      refine aw_bipush (v := 6) X dX12_readRow_96 (by decide) ?_
      refine aw_bipush (v := 14) X dX12_readRow_98 (by decide) ?_
      refine aw_iload_n X dX12_readRow_100 rfl ?_
      refine aw_iadd X dX12_readRow_101 ?_
      refine aw_imul X dX12_readRow_102 ?_
      refine aw_iload_n X dX12_readRow_103 rfl ?_
      refine aw_iadd X dX12_readRow_104 ?_
      refine aw_iload X dX12_readRow_105 rfl ?_
      obtain ⟨s10, es10, h⟩ := bnd h
      refine aw_iast X dX12_readRow_107 iu_RX12_37 es10 ?_
      refine aw_iload_n X dX12_readRow_108 rfl ?_
      refine aw_iconst (v := 1) X dX12_readRow_109 (by decide) ?_
      refine aw_iadd X dX12_readRow_110 ?_
      refine aw_istore_n (L' := [some (.ref (zr Z 0)), some (.int x1), some (.int (x2 + 1)), some (.int (s 0 11)), some (.int r7.1)]) X dX12_readRow_111 (by decide) rfl ?_
      refine aw_goto (tgt := 42) X dX12_readRow_112 (by decide) ?_
      cases h
      refine aw_msk [true, true, true, false, false] ?_
      exact hi _ rfl
    · rw [if_pos c9] at h
      cases h
      refine aw_msk [true, false, false, true, false] ?_
      exact (he _ rfl).2.1 rfl
  · rw [if_pos c8] at h
    cases h
    refine aw_msk [false, false, false, false, false] ?_
    exact (he _ rfl).1 rfl
set_option maxRecDepth 100000 in
set_option maxHeartbeats 4000000 in
theorem so_X12_readRow_42 {fr : Nat} (hfr : 5 ≤ fr) (Z : AZ) (X : AX Z cX12_readRow 5 RX12 (some .int) 1 fr) (x1 : Int32) (x2 : Int32) (s : Mem) (q : (Int32 × Mem) ⊕ (Nat × Int32 × Int32 × Mem)) (h : st_X12_readRow_42 x1 x2 s = some q) (hi : ∀ y : Int32 × Mem, q = .inl y → AW Z y.2 42 [some (.ref (zr Z 0)), some (.int x1), some (.int y.1), none, none] []) (he : ∀ b : Nat × Int32 × Int32 × Mem, q = .inr b → (b.1 = 0 → AW Z b.2.2.2 72 [none, none, none, none, none] []) ∧ (b.1 = 1 → AW Z b.2.2.2 80 [some (.ref (zr Z 0)), none, none, some (.int b.2.2.1), none] []) ∧ (b.1 = 2 → AW Z b.2.2.2 115 [some (.ref (zr Z 0)), some (.int x1), some (.int b.2.1), none, none] [])) : AW Z s 42 [some (.ref (zr Z 0)), some (.int x1), some (.int x2), none, none] [] := by
  unfold st_X12_readRow_42 at h
  refine aw_iload_n X dX12_readRow_42 rfl ?_
  refine aw_if_eq (tgt := 54) X dX12_readRow_43 (by decide) (fun c6 => ?_) (fun c6 => ?_)
  · rw [if_pos c6] at h
    refine aw_msk [true, true, true, false, false] ?_
    exact jo_X12_readRow_54 hfr Z X _ _ _ _ h hi he
  · rw [if_neg c6] at h
    refine aw_aload_n X dX12_readRow_46 rfl ?_
    refine aw_geti X dX12_readRow_47 fl_RX12_166 iu_RX12 gu_RX12_12 ?_
    refine aw_iconst (v := 3) X dX12_readRow_50 (by decide) ?_
    refine aw_icmp_ne (tgt := 115) X dX12_readRow_51 (by decide) (fun c11 => ?_) (fun c11 => ?_)
    · rw [if_neg c11] at h
      cases h
      refine aw_msk [true, true, true, false, false] ?_
      exact (he _ rfl).2.2 rfl
    · rw [if_pos c11] at h
      refine aw_msk [true, true, true, false, false] ?_
      exact jo_X12_readRow_54 hfr Z X _ _ _ _ h hi he
set_option maxRecDepth 100000 in
set_option maxHeartbeats 4000000 in
theorem w_X12_readRow {fr : Nat} (hfr : 5 ≤ fr) (Z : AZ) (X : AX Z cX12_readRow 5 RX12 (some .int) 1 fr) (s : Mem) (r : Int32 × Mem) (hz : zres Z = (some (.int r.1), r.2)) (h : f_X12_readRow s = some r) : AW Z s 0 [some (.ref (zr Z 0)), none, none, none, none] [] := by
  unfold f_X12_readRow at h
  refine aw_aload_n X dX12_readRow_0 rfl ?_
  refine aw_bipush (v := 16) X dX12_readRow_1 (by decide) ?_
  refine aw_iconst (v := 0) X dX12_readRow_3 (by decide) ?_
  refine aw_aload_n X dX12_readRow_4 rfl ?_
  refine aw_geti X dX12_readRow_5 fl_RX12_134 iu_RX12 gu_RX12_6 ?_
  refine aw_iconst (v := 1) X dX12_readRow_8 (by decide) ?_
  refine aw_isub X dX12_readRow_9 ?_
  obtain ⟨r1, er1, h⟩ := bnd h
  refine aw_callV X dX12_readRow_10 cv_RX12_250 (ok_X12_readTold er1 _ _ _ _ _) iu_RX12 rfl (Nat.le_trans (by decide) hfr) (by decide) rfl rfl (Nat.le_of_ble_eq_true rfl) ?_
  refine aw_istore_n (L' := [some (.ref (zr Z 0)), some (.int r1.1), none, none, none]) X dX12_readRow_13 (by decide) rfl ?_
  refine aw_iload_n X dX12_readRow_14 rfl ?_
  refine aw_iconst (v := (-1)) X dX12_readRow_15 (by decide) ?_
  refine aw_icmp_ne (tgt := 21) X dX12_readRow_16 (by decide) (fun c2 => ?_) (fun c2 => ?_)
  · rw [if_neg c2] at h
    refine aw_aload_n X dX12_readRow_21 rfl ?_
    refine aw_bipush (v := 22) X dX12_readRow_22 (by decide) ?_
    obtain ⟨r3, er3, h⟩ := bnd h
    refine aw_callV X dX12_readRow_24 cv_RX12_225 (ok_X12_isWord er3 _ _ _ _ _) iu_RX12 rfl (Nat.le_trans (by decide) hfr) (by decide) rfl rfl (Nat.le_of_ble_eq_true rfl) ?_
    refine aw_if_ne (tgt := 36) X dX12_readRow_27 (by decide) (fun c4 => ?_) (fun c4 => ?_)
    · rw [if_neg c4] at h
      refine aw_aload_n X dX12_readRow_36 rfl ?_
      obtain ⟨r5, er5, h⟩ := bnd h
      refine aw_callV X dX12_readRow_37 cv_RX12_203 (ok_X12_reads er5 _ _ _ _ _) iu_RX12 rfl (Nat.le_trans (by decide) hfr) (by decide) rfl rfl (Nat.le_of_ble_eq_true rfl) ?_
      refine aw_iconst (v := 0) X dX12_readRow_40 (by decide) ?_
      refine aw_istore_n (L' := [some (.ref (zr Z 0)), some (.int r1.1), some (.int 0), none, none]) X dX12_readRow_41 (by decide) rfl ?_
      obtain ⟨r12, er12, h⟩ := bnd h
      refine aw_msk [true, true, true, false, false] ?_
      refine it_ok (P := fun y : Int32 × Mem => AW Z y.2 42 [some (.ref (zr Z 0)), some (.int r1.1), some (.int y.1), none, none] []) (Q := fun b : Nat × Int32 × Int32 × Mem => (b.1 = 0 → AW Z b.2.2.2 72 [none, none, none, none, none] []) ∧ (b.1 = 1 → AW Z b.2.2.2 80 [some (.ref (zr Z 0)), none, none, some (.int b.2.2.1), none] []) ∧ (b.1 = 2 → AW Z b.2.2.2 115 [some (.ref (zr Z 0)), some (.int r1.1), some (.int b.2.1), none, none] [])) (fun y q hq hi he => so_X12_readRow_42 hfr Z X r1.1 y.1 y.2 q hq hi he) FUEL _ _ er12 ?_
      refine ⟨fun c0 => ?_, fun c1 => ?_, fun c2 => ?_⟩
      · rw [if_pos c0] at h
        refine aw_iconst (v := (-1)) X dX12_readRow_72 (by decide) ?_
        cases h
        exact aw_iret X dX12_readRow_73 rfl hz.symm
      · rw [if_neg (by rw [c1]; decide)] at h
        rw [if_pos c1] at h
        refine aw_aload_n X dX12_readRow_80 rfl ?_
        refine aw_iload_n X dX12_readRow_81 rfl ?_
        refine aw_put X dX12_readRow_82 fp_RX12_188 iu_RX12 gu_RX12_28 rfl rfl ?_
        refine aw_aload_n X dX12_readRow_85 rfl ?_
        refine aw_iconst (v := 3) X dX12_readRow_86 (by decide) ?_
        refine aw_put X dX12_readRow_87 fp_RX12_185 iu_RX12 gu_RX12_27 rfl rfl ?_
        refine aw_iconst (v := (-1)) X dX12_readRow_90 (by decide) ?_
        cases h
        exact aw_iret X dX12_readRow_91 rfl hz.symm
      · rw [if_neg (by rw [c2]; decide)] at h
        rw [if_neg (by rw [c2]; decide)] at h
        refine aw_aload_n X dX12_readRow_115 rfl ?_
        refine aw_getr X dX12_readRow_116 fl_RX12_62 iu_RX12 gu_RX12_36 ?_
        refine aw_bipush (v := 14) X dX12_readRow_119 (by decide) ?_
        refine aw_iload_n X dX12_readRow_121 rfl ?_
        refine aw_iadd X dX12_readRow_122 ?_
        refine aw_iload_n X dX12_readRow_123 rfl ?_
        obtain ⟨s13, es13, h⟩ := bnd h
        refine aw_iast X dX12_readRow_124 iu_RX12_36 es13 ?_
        refine aw_aload_n X dX12_readRow_125 rfl ?_
        refine aw_bipush (v := 59) X dX12_readRow_126 (by decide) ?_
        obtain ⟨r14, er14, h⟩ := bnd h
        refine aw_callV X dX12_readRow_128 cv_RX12_257 (ok_X12_readMark er14 _ _ _ _ _) iu_RX12 rfl (Nat.le_trans (by decide) hfr) (by decide) rfl rfl (Nat.le_of_ble_eq_true rfl) ?_
        cases h
        exact aw_iret X dX12_readRow_131 rfl hz.symm
    · rw [if_pos c4] at h
      refine aw_aload_n X dX12_readRow_30 rfl ?_
      refine aw_iconst (v := 1) X dX12_readRow_31 (by decide) ?_
      obtain ⟨r15, er15, h⟩ := bnd h
      refine aw_callV X dX12_readRow_32 cv_RX12_197 (ok_X12_errs er15 _ _ _ _ _) iu_RX12 rfl (Nat.le_trans (by decide) hfr) (by decide) rfl rfl (Nat.le_of_ble_eq_true rfl) ?_
      cases h
      exact aw_iret X dX12_readRow_35 rfl hz.symm
  · rw [if_pos c2] at h
    refine aw_iconst (v := (-1)) X dX12_readRow_19 (by decide) ?_
    cases h
    exact aw_iret X dX12_readRow_20 rfl hz.symm
set_option maxRecDepth 100000 in
set_option maxHeartbeats 4000000 in
theorem ok_X12_readRow {s : Mem} {r : Int32 × Mem} (h : f_X12_readRow s = some r) (l : Launch) (D : va_G) (ρ : Nat → Nat) (cA : ClassId × ClassId × ClassId) (τ : AT) : AM l D ρ cA 1 τ yX12_readRow cX12_readRow 5 (some .int) 5 [.ref (ρ 0)] (some (.int r.1)) s r.2 := by
  refine AM_of (L := [some (.ref (ρ 0)), none, none, none, none]) (by decide) (by simp [Value.category]) (Nat.le_of_ble_eq_true rfl) (fun j v q => ?_) (fun Z X hρ hz hτ => ?_)
  · exact aL_ok (n := 4) [.ref (ρ 0)] j v q
  · subst hρ
    subst hτ
    exact w_X12_readRow (Nat.le_refl _) Z X s r hz h

theorem dX12_readRows_0 : decode cX12_readRows 0 = .ok (.iconst 0, 1) := by decide +kernel
theorem dX12_readRows_1 : decode cX12_readRows 1 = .ok (.istore_n 1, 1) := by decide +kernel
theorem dX12_readRows_2 : decode cX12_readRows 2 = .ok (.iload_n 1, 1) := by decide +kernel
theorem dX12_readRows_3 : decode cX12_readRows 3 = .ok (.bipush 14, 2) := by decide +kernel
theorem dX12_readRows_5 : decode cX12_readRows 5 = .ok (.if_icmp .ge 19, 3) := by decide +kernel
theorem dX12_readRows_8 : decode cX12_readRows 8 = .ok (.aload_n 0, 1) := by decide +kernel
theorem dX12_readRows_9 : decode cX12_readRows 9 = .ok (.getfield 62, 3) := by decide +kernel
theorem dX12_readRows_12 : decode cX12_readRows 12 = .ok (.bipush 14, 2) := by decide +kernel
theorem dX12_readRows_14 : decode cX12_readRows 14 = .ok (.iload_n 1, 1) := by decide +kernel
theorem dX12_readRows_15 : decode cX12_readRows 15 = .ok (.iadd, 1) := by decide +kernel
theorem dX12_readRows_16 : decode cX12_readRows 16 = .ok (.iconst 0, 1) := by decide +kernel
theorem dX12_readRows_17 : decode cX12_readRows 17 = .ok (.iastore, 1) := by decide +kernel
theorem dX12_readRows_18 : decode cX12_readRows 18 = .ok (.iinc 1 1, 3) := by decide +kernel
theorem dX12_readRows_21 : decode cX12_readRows 21 = .ok (.goto (-19), 3) := by decide +kernel
theorem dX12_readRows_24 : decode cX12_readRows 24 = .ok (.iconst 0, 1) := by decide +kernel
theorem dX12_readRows_25 : decode cX12_readRows 25 = .ok (.istore_n 1, 1) := by decide +kernel
theorem dX12_readRows_26 : decode cX12_readRows 26 = .ok (.aload_n 0, 1) := by decide +kernel
theorem dX12_readRows_27 : decode cX12_readRows 27 = .ok (.bipush 16, 2) := by decide +kernel
theorem dX12_readRows_29 : decode cX12_readRows 29 = .ok (.invokevirtual 225, 3) := by decide +kernel
theorem dX12_readRows_32 : decode cX12_readRows 32 = .ok (.ifCond .eq 32, 3) := by decide +kernel
theorem dX12_readRows_35 : decode cX12_readRows 35 = .ok (.iload_n 1, 1) := by decide +kernel
theorem dX12_readRows_36 : decode cX12_readRows 36 = .ok (.bipush 16, 2) := by decide +kernel
theorem dX12_readRows_38 : decode cX12_readRows 38 = .ok (.if_icmp .ne 9, 3) := by decide +kernel
theorem dX12_readRows_41 : decode cX12_readRows 41 = .ok (.aload_n 0, 1) := by decide +kernel
theorem dX12_readRows_42 : decode cX12_readRows 42 = .ok (.iconst 3, 1) := by decide +kernel
theorem dX12_readRows_43 : decode cX12_readRows 43 = .ok (.invokevirtual 197, 3) := by decide +kernel
theorem dX12_readRows_46 : decode cX12_readRows 46 = .ok (.ireturn, 1) := by decide +kernel
theorem dX12_readRows_47 : decode cX12_readRows 47 = .ok (.aload_n 0, 1) := by decide +kernel
theorem dX12_readRows_48 : decode cX12_readRows 48 = .ok (.invokevirtual 266, 3) := by decide +kernel
theorem dX12_readRows_51 : decode cX12_readRows 51 = .ok (.iconst (-1), 1) := by decide +kernel
theorem dX12_readRows_52 : decode cX12_readRows 52 = .ok (.if_icmp .ne 5, 3) := by decide +kernel
theorem dX12_readRows_55 : decode cX12_readRows 55 = .ok (.iconst (-1), 1) := by decide +kernel
theorem dX12_readRows_56 : decode cX12_readRows 56 = .ok (.ireturn, 1) := by decide +kernel
theorem dX12_readRows_57 : decode cX12_readRows 57 = .ok (.iload_n 1, 1) := by decide +kernel
theorem dX12_readRows_58 : decode cX12_readRows 58 = .ok (.iconst 1, 1) := by decide +kernel
theorem dX12_readRows_59 : decode cX12_readRows 59 = .ok (.iadd, 1) := by decide +kernel
theorem dX12_readRows_60 : decode cX12_readRows 60 = .ok (.istore_n 1, 1) := by decide +kernel
theorem dX12_readRows_61 : decode cX12_readRows 61 = .ok (.goto (-35), 3) := by decide +kernel
theorem dX12_readRows_64 : decode cX12_readRows 64 = .ok (.aload_n 0, 1) := by decide +kernel
theorem dX12_readRows_65 : decode cX12_readRows 65 = .ok (.getfield 166, 3) := by decide +kernel
theorem dX12_readRows_68 : decode cX12_readRows 68 = .ok (.ifCond .ne 7, 3) := by decide +kernel
theorem dX12_readRows_71 : decode cX12_readRows 71 = .ok (.iload_n 1, 1) := by decide +kernel
theorem dX12_readRows_72 : decode cX12_readRows 72 = .ok (.goto 8, 3) := by decide +kernel
theorem dX12_readRows_75 : decode cX12_readRows 75 = .ok (.aload_n 0, 1) := by decide +kernel
theorem dX12_readRows_76 : decode cX12_readRows 76 = .ok (.iconst 1, 1) := by decide +kernel
theorem dX12_readRows_77 : decode cX12_readRows 77 = .ok (.invokevirtual 197, 3) := by decide +kernel
theorem dX12_readRows_80 : decode cX12_readRows 80 = .ok (.ireturn, 1) := by decide +kernel
set_option maxRecDepth 100000 in
set_option maxHeartbeats 4000000 in
theorem so_X12_readRows_2 {fr : Nat} (hfr : 6 ≤ fr) (Z : AZ) (X : AX Z cX12_readRows 2 RX12 (some .int) 1 fr) (x1 : Int32) (s : Mem) (q : (Int32 × Mem) ⊕ (Mem)) (h : st_X12_readRows_2 x1 s = some q) (hi : ∀ y : Int32 × Mem, q = .inl y → AW Z y.2 2 [some (.ref (zr Z 0)), some (.int y.1)] []) (he : ∀ b : Mem, q = .inr b → AW Z b 24 [some (.ref (zr Z 0)), none] []) : AW Z s 2 [some (.ref (zr Z 0)), some (.int x1)] [] := by
  unfold st_X12_readRows_2 at h
  refine aw_iload_n X dX12_readRows_2 rfl ?_
  refine aw_bipush (v := 14) X dX12_readRows_3 (by decide) ?_
  refine aw_icmp_ge (tgt := 24) X dX12_readRows_5 (by decide) (fun c1 => ?_) (fun c1 => ?_)
  · rw [if_pos c1] at h
    cases h
    refine aw_msk [true, false] ?_
    exact he _ rfl
  · rw [if_neg c1] at h
    refine aw_aload_n X dX12_readRows_8 rfl ?_
    refine aw_getr X dX12_readRows_9 fl_RX12_62 iu_RX12 gu_RX12_36 ?_
    refine aw_bipush (v := 14) X dX12_readRows_12 (by decide) ?_
    refine aw_iload_n X dX12_readRows_14 rfl ?_
    refine aw_iadd X dX12_readRows_15 ?_
    refine aw_iconst (v := 0) X dX12_readRows_16 (by decide) ?_
    obtain ⟨s2, es2, h⟩ := bnd h
    refine aw_iast X dX12_readRows_17 iu_RX12_36 es2 ?_
    refine aw_iinc (v := (x1 + 1)) (L' := [some (.ref (zr Z 0)), some (.int (x1 + 1))]) X dX12_readRows_18 rfl rfl (by decide) rfl ?_
    refine aw_goto (tgt := 2) X dX12_readRows_21 (by decide) ?_
    cases h
    refine aw_msk [true, true] ?_
    exact hi _ rfl
set_option maxRecDepth 100000 in
set_option maxHeartbeats 4000000 in
theorem so_X12_readRows_26 {fr : Nat} (hfr : 6 ≤ fr) (Z : AZ) (X : AX Z cX12_readRows 2 RX12 (some .int) 1 fr) (x1 : Int32) (s : Mem) (q : (Int32 × Mem) ⊕ (Nat × Int32 × Mem)) (h : st_X12_readRows_26 x1 s = some q) (hi : ∀ y : Int32 × Mem, q = .inl y → AW Z y.2 26 [some (.ref (zr Z 0)), some (.int y.1)] []) (he : ∀ b : Nat × Int32 × Mem, q = .inr b → (b.1 = 0 → AW Z b.2.2 41 [some (.ref (zr Z 0)), none] []) ∧ (b.1 = 1 → AW Z b.2.2 55 [none, none] []) ∧ (b.1 = 2 → AW Z b.2.2 64 [some (.ref (zr Z 0)), some (.int b.2.1)] [])) : AW Z s 26 [some (.ref (zr Z 0)), some (.int x1)] [] := by
  unfold st_X12_readRows_26 at h
  refine aw_aload_n X dX12_readRows_26 rfl ?_
  refine aw_bipush (v := 16) X dX12_readRows_27 (by decide) ?_
  obtain ⟨r4, er4, h⟩ := bnd h
  refine aw_callV X dX12_readRows_29 cv_RX12_225 (ok_X12_isWord er4 _ _ _ _ _) iu_RX12 rfl (Nat.le_trans (by decide) hfr) (by decide) rfl rfl (Nat.le_of_ble_eq_true rfl) ?_
  refine aw_if_eq (tgt := 64) X dX12_readRows_32 (by decide) (fun c5 => ?_) (fun c5 => ?_)
  · rw [if_pos c5] at h
    cases h
    refine aw_msk [true, true] ?_
    exact (he _ rfl).2.2 rfl
  · rw [if_neg c5] at h
    refine aw_iload_n X dX12_readRows_35 rfl ?_
    refine aw_bipush (v := 16) X dX12_readRows_36 (by decide) ?_
    refine aw_icmp_ne (tgt := 47) X dX12_readRows_38 (by decide) (fun c6 => ?_) (fun c6 => ?_)
    · rw [if_neg c6] at h
      refine aw_aload_n X dX12_readRows_47 rfl ?_
      obtain ⟨r7, er7, h⟩ := bnd h
      refine aw_callV X dX12_readRows_48 cv_RX12_266 (ok_X12_readRow er7 _ _ _ _ _) iu_RX12 rfl (Nat.le_trans (by decide) hfr) (by decide) rfl rfl (Nat.le_of_ble_eq_true rfl) ?_
      refine aw_iconst (v := (-1)) X dX12_readRows_51 (by decide) ?_
      refine aw_icmp_ne (tgt := 57) X dX12_readRows_52 (by decide) (fun c8 => ?_) (fun c8 => ?_)
      · rw [if_neg c8] at h
        refine aw_iload_n X dX12_readRows_57 rfl ?_
        refine aw_iconst (v := 1) X dX12_readRows_58 (by decide) ?_
        refine aw_iadd X dX12_readRows_59 ?_
        refine aw_istore_n (L' := [some (.ref (zr Z 0)), some (.int (x1 + 1))]) X dX12_readRows_60 (by decide) rfl ?_
        refine aw_goto (tgt := 26) X dX12_readRows_61 (by decide) ?_
        cases h
        refine aw_msk [true, true] ?_
        exact hi _ rfl
      · rw [if_pos c8] at h
        cases h
        refine aw_msk [false, false] ?_
        exact (he _ rfl).2.1 rfl
    · rw [if_pos c6] at h
      cases h
      refine aw_msk [true, false] ?_
      exact (he _ rfl).1 rfl
set_option maxRecDepth 100000 in
set_option maxHeartbeats 4000000 in
theorem w_X12_readRows {fr : Nat} (hfr : 6 ≤ fr) (Z : AZ) (X : AX Z cX12_readRows 2 RX12 (some .int) 1 fr) (s : Mem) (r : Int32 × Mem) (hz : zres Z = (some (.int r.1), r.2)) (h : f_X12_readRows s = some r) : AW Z s 0 [some (.ref (zr Z 0)), none] [] := by
  unfold f_X12_readRows at h
  refine aw_iconst (v := 0) X dX12_readRows_0 (by decide) ?_
  refine aw_istore_n (L' := [some (.ref (zr Z 0)), some (.int 0)]) X dX12_readRows_1 (by decide) rfl ?_
  obtain ⟨r3, er3, h⟩ := bnd h
  refine aw_msk [true, true] ?_
  refine it_ok (P := fun y : Int32 × Mem => AW Z y.2 2 [some (.ref (zr Z 0)), some (.int y.1)] []) (Q := fun b : Mem => AW Z b 24 [some (.ref (zr Z 0)), none] []) (fun y q hq hi he => so_X12_readRows_2 hfr Z X y.1 y.2 q hq hi he) FUEL _ _ er3 ?_
  refine aw_iconst (v := 0) X dX12_readRows_24 (by decide) ?_
  refine aw_istore_n (L' := [some (.ref (zr Z 0)), some (.int 0)]) X dX12_readRows_25 (by decide) rfl ?_
  obtain ⟨r9, er9, h⟩ := bnd h
  refine aw_msk [true, true] ?_
  refine it_ok (P := fun y : Int32 × Mem => AW Z y.2 26 [some (.ref (zr Z 0)), some (.int y.1)] []) (Q := fun b : Nat × Int32 × Mem => (b.1 = 0 → AW Z b.2.2 41 [some (.ref (zr Z 0)), none] []) ∧ (b.1 = 1 → AW Z b.2.2 55 [none, none] []) ∧ (b.1 = 2 → AW Z b.2.2 64 [some (.ref (zr Z 0)), some (.int b.2.1)] [])) (fun y q hq hi he => so_X12_readRows_26 hfr Z X y.1 y.2 q hq hi he) FUEL _ _ er9 ?_
  refine ⟨fun c0 => ?_, fun c1 => ?_, fun c2 => ?_⟩
  · rw [if_pos c0] at h
    refine aw_aload_n X dX12_readRows_41 rfl ?_
    refine aw_iconst (v := 3) X dX12_readRows_42 (by decide) ?_
    obtain ⟨r10, er10, h⟩ := bnd h
    refine aw_callV X dX12_readRows_43 cv_RX12_197 (ok_X12_errs er10 _ _ _ _ _) iu_RX12 rfl (Nat.le_trans (by decide) hfr) (by decide) rfl rfl (Nat.le_of_ble_eq_true rfl) ?_
    cases h
    exact aw_iret X dX12_readRows_46 rfl hz.symm
  · rw [if_neg (by rw [c1]; decide)] at h
    rw [if_pos c1] at h
    refine aw_iconst (v := (-1)) X dX12_readRows_55 (by decide) ?_
    cases h
    exact aw_iret X dX12_readRows_56 rfl hz.symm
  · rw [if_neg (by rw [c2]; decide)] at h
    rw [if_neg (by rw [c2]; decide)] at h
    refine aw_aload_n X dX12_readRows_64 rfl ?_
    refine aw_geti X dX12_readRows_65 fl_RX12_166 iu_RX12 gu_RX12_12 ?_
    refine aw_if_ne (tgt := 75) X dX12_readRows_68 (by decide) (fun c11 => ?_) (fun c11 => ?_)
    · rw [if_neg c11] at h
      refine aw_aload_n X dX12_readRows_75 rfl ?_
      refine aw_iconst (v := 1) X dX12_readRows_76 (by decide) ?_
      obtain ⟨r12, er12, h⟩ := bnd h
      refine aw_callV X dX12_readRows_77 cv_RX12_197 (ok_X12_errs er12 _ _ _ _ _) iu_RX12 rfl (Nat.le_trans (by decide) hfr) (by decide) rfl rfl (Nat.le_of_ble_eq_true rfl) ?_
      cases h
      exact aw_iret X dX12_readRows_80 rfl hz.symm
    · rw [if_pos c11] at h
      refine aw_iload_n X dX12_readRows_71 rfl ?_
      refine aw_goto (tgt := 80) X dX12_readRows_72 (by decide) ?_
      cases h
      exact aw_iret X dX12_readRows_80 rfl hz.symm
set_option maxRecDepth 100000 in
set_option maxHeartbeats 4000000 in
theorem ok_X12_readRows {s : Mem} {r : Int32 × Mem} (h : f_X12_readRows s = some r) (l : Launch) (D : va_G) (ρ : Nat → Nat) (cA : ClassId × ClassId × ClassId) (τ : AT) : AM l D ρ cA 1 τ yX12_readRows cX12_readRows 2 (some .int) 6 [.ref (ρ 0)] (some (.int r.1)) s r.2 := by
  refine AM_of (L := [some (.ref (ρ 0)), none]) (by decide) (by simp [Value.category]) (Nat.le_of_ble_eq_true rfl) (fun j v q => ?_) (fun Z X hρ hz hτ => ?_)
  · exact aL_ok (n := 1) [.ref (ρ 0)] j v q
  · subst hρ
    subst hτ
    exact w_X12_readRows (Nat.le_refl _) Z X s r hz h

theorem dX12_readsText_0 : decode cX12_readsText 0 = .ok (.aload_n 0, 1) := by decide +kernel
theorem dX12_readsText_1 : decode cX12_readsText 1 = .ok (.iconst 0, 1) := by decide +kernel
theorem dX12_readsText_2 : decode cX12_readsText 2 = .ok (.putfield 244, 3) := by decide +kernel
theorem dX12_readsText_5 : decode cX12_readsText 5 = .ok (.aload_n 0, 1) := by decide +kernel
theorem dX12_readsText_6 : decode cX12_readsText 6 = .ok (.invokevirtual 203, 3) := by decide +kernel
theorem dX12_readsText_9 : decode cX12_readsText 9 = .ok (.iload_n 1, 1) := by decide +kernel
theorem dX12_readsText_10 : decode cX12_readsText 10 = .ok (.iconst 1, 1) := by decide +kernel
theorem dX12_readsText_11 : decode cX12_readsText 11 = .ok (.if_icmp .ne 8, 3) := by decide +kernel
theorem dX12_readsText_14 : decode cX12_readsText 14 = .ok (.aload_n 0, 1) := by decide +kernel
theorem dX12_readsText_15 : decode cX12_readsText 15 = .ok (.invokevirtual 269, 3) := by decide +kernel
theorem dX12_readsText_18 : decode cX12_readsText 18 = .ok (.ireturn, 1) := by decide +kernel
theorem dX12_readsText_19 : decode cX12_readsText 19 = .ok (.iload_n 1, 1) := by decide +kernel
theorem dX12_readsText_20 : decode cX12_readsText 20 = .ok (.iconst 2, 1) := by decide +kernel
theorem dX12_readsText_21 : decode cX12_readsText 21 = .ok (.if_icmp .ne 8, 3) := by decide +kernel
theorem dX12_readsText_24 : decode cX12_readsText 24 = .ok (.aload_n 0, 1) := by decide +kernel
theorem dX12_readsText_25 : decode cX12_readsText 25 = .ok (.invokevirtual 272, 3) := by decide +kernel
theorem dX12_readsText_28 : decode cX12_readsText 28 = .ok (.ireturn, 1) := by decide +kernel
theorem dX12_readsText_29 : decode cX12_readsText 29 = .ok (.iload_n 1, 1) := by decide +kernel
theorem dX12_readsText_30 : decode cX12_readsText 30 = .ok (.iconst 3, 1) := by decide +kernel
theorem dX12_readsText_31 : decode cX12_readsText 31 = .ok (.if_icmp .ne 10, 3) := by decide +kernel
theorem dX12_readsText_34 : decode cX12_readsText 34 = .ok (.aload_n 0, 1) := by decide +kernel
theorem dX12_readsText_35 : decode cX12_readsText 35 = .ok (.invokevirtual 275, 3) := by decide +kernel
theorem dX12_readsText_38 : decode cX12_readsText 38 = .ok (.goto 7, 3) := by decide +kernel
theorem dX12_readsText_41 : decode cX12_readsText 41 = .ok (.aload_n 0, 1) := by decide +kernel
theorem dX12_readsText_42 : decode cX12_readsText 42 = .ok (.invokevirtual 278, 3) := by decide +kernel
theorem dX12_readsText_45 : decode cX12_readsText 45 = .ok (.ireturn, 1) := by decide +kernel
set_option maxRecDepth 100000 in
set_option maxHeartbeats 4000000 in
theorem w_X12_readsText {fr : Nat} (hfr : 9 ≤ fr) (Z : AZ) (X : AX Z cX12_readsText 2 RX12 (some .int) 1 fr) (x1 : Int32) (s : Mem) (r : Int32 × Mem) (hz : zres Z = (some (.int r.1), r.2)) (h : f_X12_readsText x1 s = some r) : AW Z s 0 [some (.ref (zr Z 0)), some (.int x1)] [] := by
  unfold f_X12_readsText at h
  refine aw_aload_n X dX12_readsText_0 rfl ?_
  refine aw_iconst (v := 0) X dX12_readsText_1 (by decide) ?_
  refine aw_put X dX12_readsText_2 fp_RX12_244 iu_RX12 gu_RX12_22 rfl rfl ?_
  refine aw_aload_n X dX12_readsText_5 rfl ?_
  obtain ⟨r1, er1, h⟩ := bnd h
  refine aw_callV X dX12_readsText_6 cv_RX12_203 (ok_X12_reads er1 _ _ _ _ _) iu_RX12 rfl (Nat.le_trans (by decide) hfr) (by decide) rfl rfl (Nat.le_of_ble_eq_true rfl) ?_
  refine aw_iload_n X dX12_readsText_9 rfl ?_
  refine aw_iconst (v := 1) X dX12_readsText_10 (by decide) ?_
  refine aw_icmp_ne (tgt := 19) X dX12_readsText_11 (by decide) (fun c2 => ?_) (fun c2 => ?_)
  · rw [if_neg c2] at h
    refine aw_iload_n X dX12_readsText_19 rfl ?_
    refine aw_iconst (v := 2) X dX12_readsText_20 (by decide) ?_
    refine aw_icmp_ne (tgt := 29) X dX12_readsText_21 (by decide) (fun c3 => ?_) (fun c3 => ?_)
    · rw [if_neg c3] at h
      refine aw_iload_n X dX12_readsText_29 rfl ?_
      refine aw_iconst (v := 3) X dX12_readsText_30 (by decide) ?_
      refine aw_icmp_ne (tgt := 41) X dX12_readsText_31 (by decide) (fun c4 => ?_) (fun c4 => ?_)
      · rw [if_neg c4] at h
        refine aw_aload_n X dX12_readsText_41 rfl ?_
        obtain ⟨r5, er5, h⟩ := bnd h
        refine aw_callV X dX12_readsText_42 cv_RX12_278 (ok_X12_readLaw er5 _ _ _ _ _) iu_RX12 rfl (Nat.le_trans (by decide) hfr) (by decide) rfl rfl (Nat.le_of_ble_eq_true rfl) ?_
        cases h
        exact aw_iret X dX12_readsText_45 rfl hz.symm
      · rw [if_pos c4] at h
        refine aw_aload_n X dX12_readsText_34 rfl ?_
        obtain ⟨r6, er6, h⟩ := bnd h
        refine aw_callV X dX12_readsText_35 cv_RX12_275 (ok_X12_readRows er6 _ _ _ _ _) iu_RX12 rfl (Nat.le_trans (by decide) hfr) (by decide) rfl rfl (Nat.le_of_ble_eq_true rfl) ?_
        refine aw_goto (tgt := 45) X dX12_readsText_38 (by decide) ?_
        cases h
        exact aw_iret X dX12_readsText_45 rfl hz.symm
    · rw [if_pos c3] at h
      refine aw_aload_n X dX12_readsText_24 rfl ?_
      obtain ⟨r7, er7, h⟩ := bnd h
      refine aw_callV X dX12_readsText_25 cv_RX12_272 (ok_X12_readCures er7 _ _ _ _ _) iu_RX12 rfl (Nat.le_trans (by decide) hfr) (by decide) rfl rfl (Nat.le_of_ble_eq_true rfl) ?_
      cases h
      exact aw_iret X dX12_readsText_28 rfl hz.symm
  · rw [if_pos c2] at h
    refine aw_aload_n X dX12_readsText_14 rfl ?_
    obtain ⟨r8, er8, h⟩ := bnd h
    refine aw_callV X dX12_readsText_15 cv_RX12_269 (ok_X12_readTalk er8 _ _ _ _ _) iu_RX12 rfl (Nat.le_trans (by decide) hfr) (by decide) rfl rfl (Nat.le_of_ble_eq_true rfl) ?_
    cases h
    exact aw_iret X dX12_readsText_18 rfl hz.symm
set_option maxRecDepth 100000 in
set_option maxHeartbeats 4000000 in
theorem ok_X12_readsText {x1 : Int32} {s : Mem} {r : Int32 × Mem} (h : f_X12_readsText x1 s = some r) (l : Launch) (D : va_G) (ρ : Nat → Nat) (cA : ClassId × ClassId × ClassId) (τ : AT) : AM l D ρ cA 1 τ yX12_readsText cX12_readsText 2 (some .int) 9 [.ref (ρ 0), .int x1] (some (.int r.1)) s r.2 := by
  refine AM_of (L := [some (.ref (ρ 0)), some (.int x1)]) (by decide) (by simp [Value.category]) (Nat.le_of_ble_eq_true rfl) (fun j v q => ?_) (fun Z X hρ hz hτ => ?_)
  · exact aL_ok (n := 0) [.ref (ρ 0), .int x1] j v q
  · subst hρ
    subst hτ
    exact w_X12_readsText (Nat.le_refl _) Z X x1 s r hz h

theorem dX12_takesOther_0 : decode cX12_takesOther 0 = .ok (.iload_n 1, 1) := by decide +kernel
theorem dX12_takesOther_1 : decode cX12_takesOther 1 = .ok (.iconst 3, 1) := by decide +kernel
theorem dX12_takesOther_2 : decode cX12_takesOther 2 = .ok (.if_icmp .ne 67, 3) := by decide +kernel
theorem dX12_takesOther_5 : decode cX12_takesOther 5 = .ok (.iconst 0, 1) := by decide +kernel
theorem dX12_takesOther_6 : decode cX12_takesOther 6 = .ok (.istore_n 3, 1) := by decide +kernel
theorem dX12_takesOther_7 : decode cX12_takesOther 7 = .ok (.iload_n 3, 1) := by decide +kernel
theorem dX12_takesOther_8 : decode cX12_takesOther 8 = .ok (.bipush 14, 2) := by decide +kernel
theorem dX12_takesOther_10 : decode cX12_takesOther 10 = .ok (.if_icmp .ge 24, 3) := by decide +kernel
theorem dX12_takesOther_13 : decode cX12_takesOther 13 = .ok (.aload_n 0, 1) := by decide +kernel
theorem dX12_takesOther_14 : decode cX12_takesOther 14 = .ok (.getfield 62, 3) := by decide +kernel
theorem dX12_takesOther_17 : decode cX12_takesOther 17 = .ok (.iload_n 3, 1) := by decide +kernel
theorem dX12_takesOther_18 : decode cX12_takesOther 18 = .ok (.aload_n 0, 1) := by decide +kernel
theorem dX12_takesOther_19 : decode cX12_takesOther 19 = .ok (.getfield 62, 3) := by decide +kernel
theorem dX12_takesOther_22 : decode cX12_takesOther 22 = .ok (.bipush 14, 2) := by decide +kernel
theorem dX12_takesOther_24 : decode cX12_takesOther 24 = .ok (.iload_n 3, 1) := by decide +kernel
theorem dX12_takesOther_25 : decode cX12_takesOther 25 = .ok (.iadd, 1) := by decide +kernel
theorem dX12_takesOther_26 : decode cX12_takesOther 26 = .ok (.iaload, 1) := by decide +kernel
theorem dX12_takesOther_27 : decode cX12_takesOther 27 = .ok (.iastore, 1) := by decide +kernel
theorem dX12_takesOther_28 : decode cX12_takesOther 28 = .ok (.iinc 3 1, 3) := by decide +kernel
theorem dX12_takesOther_31 : decode cX12_takesOther 31 = .ok (.goto (-24), 3) := by decide +kernel
theorem dX12_takesOther_34 : decode cX12_takesOther 34 = .ok (.iconst 0, 1) := by decide +kernel
theorem dX12_takesOther_35 : decode cX12_takesOther 35 = .ok (.istore_n 3, 1) := by decide +kernel
theorem dX12_takesOther_36 : decode cX12_takesOther 36 = .ok (.iload_n 3, 1) := by decide +kernel
theorem dX12_takesOther_37 : decode cX12_takesOther 37 = .ok (.bipush 84, 2) := by decide +kernel
theorem dX12_takesOther_39 : decode cX12_takesOther 39 = .ok (.if_icmp .ge 24, 3) := by decide +kernel
theorem dX12_takesOther_42 : decode cX12_takesOther 42 = .ok (.aload_n 0, 1) := by decide +kernel
theorem dX12_takesOther_43 : decode cX12_takesOther 43 = .ok (.getfield 65, 3) := by decide +kernel
theorem dX12_takesOther_46 : decode cX12_takesOther 46 = .ok (.iload_n 3, 1) := by decide +kernel
theorem dX12_takesOther_47 : decode cX12_takesOther 47 = .ok (.aload_n 0, 1) := by decide +kernel
theorem dX12_takesOther_48 : decode cX12_takesOther 48 = .ok (.getfield 65, 3) := by decide +kernel
theorem dX12_takesOther_51 : decode cX12_takesOther 51 = .ok (.bipush 84, 2) := by decide +kernel
theorem dX12_takesOther_53 : decode cX12_takesOther 53 = .ok (.iload_n 3, 1) := by decide +kernel
theorem dX12_takesOther_54 : decode cX12_takesOther 54 = .ok (.iadd, 1) := by decide +kernel
theorem dX12_takesOther_55 : decode cX12_takesOther 55 = .ok (.iaload, 1) := by decide +kernel
theorem dX12_takesOther_56 : decode cX12_takesOther 56 = .ok (.iastore, 1) := by decide +kernel
theorem dX12_takesOther_57 : decode cX12_takesOther 57 = .ok (.iinc 3 1, 3) := by decide +kernel
theorem dX12_takesOther_60 : decode cX12_takesOther 60 = .ok (.goto (-24), 3) := by decide +kernel
theorem dX12_takesOther_63 : decode cX12_takesOther 63 = .ok (.aload_n 0, 1) := by decide +kernel
theorem dX12_takesOther_64 : decode cX12_takesOther 64 = .ok (.iload_n 2, 1) := by decide +kernel
theorem dX12_takesOther_65 : decode cX12_takesOther 65 = .ok (.putfield 281, 3) := by decide +kernel
theorem dX12_takesOther_68 : decode cX12_takesOther 68 = .ok (.return_, 1) := by decide +kernel
theorem dX12_takesOther_69 : decode cX12_takesOther 69 = .ok (.iconst 0, 1) := by decide +kernel
theorem dX12_takesOther_70 : decode cX12_takesOther 70 = .ok (.istore_n 3, 1) := by decide +kernel
theorem dX12_takesOther_71 : decode cX12_takesOther 71 = .ok (.iload_n 3, 1) := by decide +kernel
theorem dX12_takesOther_72 : decode cX12_takesOther 72 = .ok (.iconst 3, 1) := by decide +kernel
theorem dX12_takesOther_73 : decode cX12_takesOther 73 = .ok (.iload_n 2, 1) := by decide +kernel
theorem dX12_takesOther_74 : decode cX12_takesOther 74 = .ok (.imul, 1) := by decide +kernel
theorem dX12_takesOther_75 : decode cX12_takesOther 75 = .ok (.if_icmp .ge 29, 3) := by decide +kernel
theorem dX12_takesOther_78 : decode cX12_takesOther 78 = .ok (.iload_n 1, 1) := by decide +kernel
theorem dX12_takesOther_79 : decode cX12_takesOther 79 = .ok (.iconst 1, 1) := by decide +kernel
theorem dX12_takesOther_80 : decode cX12_takesOther 80 = .ok (.if_icmp .ne 24, 3) := by decide +kernel
theorem dX12_takesOther_83 : decode cX12_takesOther 83 = .ok (.aload_n 0, 1) := by decide +kernel
theorem dX12_takesOther_84 : decode cX12_takesOther 84 = .ok (.getfield 56, 3) := by decide +kernel
theorem dX12_takesOther_87 : decode cX12_takesOther 87 = .ok (.iload_n 3, 1) := by decide +kernel
theorem dX12_takesOther_88 : decode cX12_takesOther 88 = .ok (.aload_n 0, 1) := by decide +kernel
theorem dX12_takesOther_89 : decode cX12_takesOther 89 = .ok (.getfield 56, 3) := by decide +kernel
theorem dX12_takesOther_92 : decode cX12_takesOther 92 = .ok (.bipush 48, 2) := by decide +kernel
theorem dX12_takesOther_94 : decode cX12_takesOther 94 = .ok (.iload_n 3, 1) := by decide +kernel
theorem dX12_takesOther_95 : decode cX12_takesOther 95 = .ok (.iadd, 1) := by decide +kernel
theorem dX12_takesOther_96 : decode cX12_takesOther 96 = .ok (.iaload, 1) := by decide +kernel
theorem dX12_takesOther_97 : decode cX12_takesOther 97 = .ok (.iastore, 1) := by decide +kernel
theorem dX12_takesOther_98 : decode cX12_takesOther 98 = .ok (.iinc 3 1, 3) := by decide +kernel
theorem dX12_takesOther_101 : decode cX12_takesOther 101 = .ok (.goto (-30), 3) := by decide +kernel
theorem dX12_takesOther_104 : decode cX12_takesOther 104 = .ok (.iconst 0, 1) := by decide +kernel
theorem dX12_takesOther_105 : decode cX12_takesOther 105 = .ok (.istore_n 3, 1) := by decide +kernel
theorem dX12_takesOther_106 : decode cX12_takesOther 106 = .ok (.iload_n 3, 1) := by decide +kernel
theorem dX12_takesOther_107 : decode cX12_takesOther 107 = .ok (.iconst 4, 1) := by decide +kernel
theorem dX12_takesOther_108 : decode cX12_takesOther 108 = .ok (.iload_n 2, 1) := by decide +kernel
theorem dX12_takesOther_109 : decode cX12_takesOther 109 = .ok (.imul, 1) := by decide +kernel
theorem dX12_takesOther_110 : decode cX12_takesOther 110 = .ok (.if_icmp .ge 29, 3) := by decide +kernel
theorem dX12_takesOther_113 : decode cX12_takesOther 113 = .ok (.iload_n 1, 1) := by decide +kernel
theorem dX12_takesOther_114 : decode cX12_takesOther 114 = .ok (.iconst 2, 1) := by decide +kernel
theorem dX12_takesOther_115 : decode cX12_takesOther 115 = .ok (.if_icmp .ne 24, 3) := by decide +kernel
theorem dX12_takesOther_118 : decode cX12_takesOther 118 = .ok (.aload_n 0, 1) := by decide +kernel
theorem dX12_takesOther_119 : decode cX12_takesOther 119 = .ok (.getfield 59, 3) := by decide +kernel
theorem dX12_takesOther_122 : decode cX12_takesOther 122 = .ok (.iload_n 3, 1) := by decide +kernel
theorem dX12_takesOther_123 : decode cX12_takesOther 123 = .ok (.aload_n 0, 1) := by decide +kernel
theorem dX12_takesOther_124 : decode cX12_takesOther 124 = .ok (.getfield 59, 3) := by decide +kernel
theorem dX12_takesOther_127 : decode cX12_takesOther 127 = .ok (.bipush 64, 2) := by decide +kernel
theorem dX12_takesOther_129 : decode cX12_takesOther 129 = .ok (.iload_n 3, 1) := by decide +kernel
theorem dX12_takesOther_130 : decode cX12_takesOther 130 = .ok (.iadd, 1) := by decide +kernel
theorem dX12_takesOther_131 : decode cX12_takesOther 131 = .ok (.iaload, 1) := by decide +kernel
theorem dX12_takesOther_132 : decode cX12_takesOther 132 = .ok (.iastore, 1) := by decide +kernel
theorem dX12_takesOther_133 : decode cX12_takesOther 133 = .ok (.iinc 3 1, 3) := by decide +kernel
theorem dX12_takesOther_136 : decode cX12_takesOther 136 = .ok (.goto (-30), 3) := by decide +kernel
theorem dX12_takesOther_139 : decode cX12_takesOther 139 = .ok (.iload_n 1, 1) := by decide +kernel
theorem dX12_takesOther_140 : decode cX12_takesOther 140 = .ok (.iconst 1, 1) := by decide +kernel
theorem dX12_takesOther_141 : decode cX12_takesOther 141 = .ok (.if_icmp .ne 8, 3) := by decide +kernel
theorem dX12_takesOther_144 : decode cX12_takesOther 144 = .ok (.aload_n 0, 1) := by decide +kernel
theorem dX12_takesOther_145 : decode cX12_takesOther 145 = .ok (.iload_n 2, 1) := by decide +kernel
theorem dX12_takesOther_146 : decode cX12_takesOther 146 = .ok (.putfield 284, 3) := by decide +kernel
theorem dX12_takesOther_149 : decode cX12_takesOther 149 = .ok (.iload_n 1, 1) := by decide +kernel
theorem dX12_takesOther_150 : decode cX12_takesOther 150 = .ok (.iconst 2, 1) := by decide +kernel
theorem dX12_takesOther_151 : decode cX12_takesOther 151 = .ok (.if_icmp .ne 8, 3) := by decide +kernel
theorem dX12_takesOther_154 : decode cX12_takesOther 154 = .ok (.aload_n 0, 1) := by decide +kernel
theorem dX12_takesOther_155 : decode cX12_takesOther 155 = .ok (.iload_n 2, 1) := by decide +kernel
theorem dX12_takesOther_156 : decode cX12_takesOther 156 = .ok (.putfield 287, 3) := by decide +kernel
theorem dX12_takesOther_159 : decode cX12_takesOther 159 = .ok (.aload_n 0, 1) := by decide +kernel
theorem dX12_takesOther_160 : decode cX12_takesOther 160 = .ok (.iconst 0, 1) := by decide +kernel
theorem dX12_takesOther_161 : decode cX12_takesOther 161 = .ok (.putfield 125, 3) := by decide +kernel
theorem dX12_takesOther_164 : decode cX12_takesOther 164 = .ok (.return_, 1) := by decide +kernel
set_option maxRecDepth 100000 in
set_option maxHeartbeats 4000000 in
theorem so_X12_takesOther_71 {fr : Nat} (hfr : 0 ≤ fr) (Z : AZ) (X : AX Z cX12_takesOther 4 RX12 none 1 fr) (x1 : Int32) (x2 : Int32) (x3 : Int32) (s : Mem) (q : (Int32 × Mem) ⊕ (Mem)) (h : st_X12_takesOther_71 x1 x2 x3 s = some q) (hi : ∀ y : Int32 × Mem, q = .inl y → AW Z y.2 71 [some (.ref (zr Z 0)), some (.int x1), some (.int x2), some (.int y.1)] []) (he : ∀ b : Mem, q = .inr b → AW Z b 104 [some (.ref (zr Z 0)), some (.int x1), some (.int x2), none] []) : AW Z s 71 [some (.ref (zr Z 0)), some (.int x1), some (.int x2), some (.int x3)] [] := by
  unfold st_X12_takesOther_71 at h
  refine aw_iload_n X dX12_takesOther_71 rfl ?_
  refine aw_iconst (v := 3) X dX12_takesOther_72 (by decide) ?_
  refine aw_iload_n X dX12_takesOther_73 rfl ?_
  refine aw_imul X dX12_takesOther_74 ?_
  refine aw_icmp_ge (tgt := 104) X dX12_takesOther_75 (by decide) (fun c2 => ?_) (fun c2 => ?_)
  · rw [if_pos c2] at h
    cases h
    refine aw_msk [true, true, true, false] ?_
    exact he _ rfl
  · rw [if_neg c2] at h
    refine aw_iload_n X dX12_takesOther_78 rfl ?_
    refine aw_iconst (v := 1) X dX12_takesOther_79 (by decide) ?_
    refine aw_icmp_ne (tgt := 104) X dX12_takesOther_80 (by decide) (fun c3 => ?_) (fun c3 => ?_)
    · rw [if_neg c3] at h
      cases h
      refine aw_msk [true, true, true, false] ?_
      exact he _ rfl
    · rw [if_pos c3] at h
      refine aw_aload_n X dX12_takesOther_83 rfl ?_
      refine aw_getr X dX12_takesOther_84 fl_RX12_56 iu_RX12 gu_RX12_32 ?_
      refine aw_iload_n X dX12_takesOther_87 rfl ?_
      refine aw_aload_n X dX12_takesOther_88 rfl ?_
      refine aw_getr X dX12_takesOther_89 fl_RX12_56 iu_RX12 gu_RX12_32 ?_
      refine aw_bipush (v := 48) X dX12_takesOther_92 (by decide) ?_
      refine aw_iload_n X dX12_takesOther_94 rfl ?_
      refine aw_iadd X dX12_takesOther_95 ?_
      obtain ⟨v4, ev4, h⟩ := bnd h
      refine aw_iald X dX12_takesOther_96 iu_RX12_32 ev4 ?_
      obtain ⟨s5, es5, h⟩ := bnd h
      refine aw_iast X dX12_takesOther_97 iu_RX12_32 es5 ?_
      refine aw_iinc (v := (x3 + 1)) (L' := [some (.ref (zr Z 0)), some (.int x1), some (.int x2), some (.int (x3 + 1))]) X dX12_takesOther_98 rfl rfl (by decide) rfl ?_
      refine aw_goto (tgt := 71) X dX12_takesOther_101 (by decide) ?_
      cases h
      refine aw_msk [true, true, true, true] ?_
      exact hi _ rfl
set_option maxRecDepth 100000 in
set_option maxHeartbeats 4000000 in
theorem so_X12_takesOther_106 {fr : Nat} (hfr : 0 ≤ fr) (Z : AZ) (X : AX Z cX12_takesOther 4 RX12 none 1 fr) (x1 : Int32) (x2 : Int32) (x3 : Int32) (s : Mem) (q : (Int32 × Mem) ⊕ (Mem)) (h : st_X12_takesOther_106 x1 x2 x3 s = some q) (hi : ∀ y : Int32 × Mem, q = .inl y → AW Z y.2 106 [some (.ref (zr Z 0)), some (.int x1), some (.int x2), some (.int y.1)] []) (he : ∀ b : Mem, q = .inr b → AW Z b 139 [some (.ref (zr Z 0)), some (.int x1), some (.int x2), none] []) : AW Z s 106 [some (.ref (zr Z 0)), some (.int x1), some (.int x2), some (.int x3)] [] := by
  unfold st_X12_takesOther_106 at h
  refine aw_iload_n X dX12_takesOther_106 rfl ?_
  refine aw_iconst (v := 4) X dX12_takesOther_107 (by decide) ?_
  refine aw_iload_n X dX12_takesOther_108 rfl ?_
  refine aw_imul X dX12_takesOther_109 ?_
  refine aw_icmp_ge (tgt := 139) X dX12_takesOther_110 (by decide) (fun c7 => ?_) (fun c7 => ?_)
  · rw [if_pos c7] at h
    cases h
    refine aw_msk [true, true, true, false] ?_
    exact he _ rfl
  · rw [if_neg c7] at h
    refine aw_iload_n X dX12_takesOther_113 rfl ?_
    refine aw_iconst (v := 2) X dX12_takesOther_114 (by decide) ?_
    refine aw_icmp_ne (tgt := 139) X dX12_takesOther_115 (by decide) (fun c8 => ?_) (fun c8 => ?_)
    · rw [if_neg c8] at h
      cases h
      refine aw_msk [true, true, true, false] ?_
      exact he _ rfl
    · rw [if_pos c8] at h
      refine aw_aload_n X dX12_takesOther_118 rfl ?_
      refine aw_getr X dX12_takesOther_119 fl_RX12_59 iu_RX12 gu_RX12_34 ?_
      refine aw_iload_n X dX12_takesOther_122 rfl ?_
      refine aw_aload_n X dX12_takesOther_123 rfl ?_
      refine aw_getr X dX12_takesOther_124 fl_RX12_59 iu_RX12 gu_RX12_34 ?_
      refine aw_bipush (v := 64) X dX12_takesOther_127 (by decide) ?_
      refine aw_iload_n X dX12_takesOther_129 rfl ?_
      refine aw_iadd X dX12_takesOther_130 ?_
      obtain ⟨v9, ev9, h⟩ := bnd h
      refine aw_iald X dX12_takesOther_131 iu_RX12_34 ev9 ?_
      obtain ⟨s10, es10, h⟩ := bnd h
      refine aw_iast X dX12_takesOther_132 iu_RX12_34 es10 ?_
      refine aw_iinc (v := (x3 + 1)) (L' := [some (.ref (zr Z 0)), some (.int x1), some (.int x2), some (.int (x3 + 1))]) X dX12_takesOther_133 rfl rfl (by decide) rfl ?_
      refine aw_goto (tgt := 106) X dX12_takesOther_136 (by decide) ?_
      cases h
      refine aw_msk [true, true, true, true] ?_
      exact hi _ rfl
set_option maxRecDepth 100000 in
set_option maxHeartbeats 4000000 in
theorem jo_X12_takesOther_149 {fr : Nat} (hfr : 0 ≤ fr) (Z : AZ) (X : AX Z cX12_takesOther 4 RX12 none 1 fr) (x1 : Int32) (x2 : Int32) (s : Mem) (r : Mem) (hz : zres Z = (none, r)) (h : jn_X12_takesOther_149 x1 x2 s = some r) : AW Z s 149 [some (.ref (zr Z 0)), some (.int x1), some (.int x2), none] [] := by
  unfold jn_X12_takesOther_149 at h
  refine aw_iload_n X dX12_takesOther_149 rfl ?_
  refine aw_iconst (v := 2) X dX12_takesOther_150 (by decide) ?_
  refine aw_icmp_ne (tgt := 159) X dX12_takesOther_151 (by decide) (fun c13 => ?_) (fun c13 => ?_)
  · rw [if_neg c13] at h
    refine aw_aload_n X dX12_takesOther_159 rfl ?_
    refine aw_iconst (v := 0) X dX12_takesOther_160 (by decide) ?_
    refine aw_put X dX12_takesOther_161 fp_RX12_125 iu_RX12 gu_RX12_3 rfl rfl ?_
    cases h
    exact aw_vret X dX12_takesOther_164 rfl hz.symm
  · rw [if_pos c13] at h
    refine aw_aload_n X dX12_takesOther_154 rfl ?_
    refine aw_iload_n X dX12_takesOther_155 rfl ?_
    refine aw_put X dX12_takesOther_156 fp_RX12_287 iu_RX12 gu_RX12_33 rfl rfl ?_
    refine aw_aload_n X dX12_takesOther_159 rfl ?_
    refine aw_iconst (v := 0) X dX12_takesOther_160 (by decide) ?_
    refine aw_put X dX12_takesOther_161 fp_RX12_125 iu_RX12 gu_RX12_3 rfl rfl ?_
    cases h
    exact aw_vret X dX12_takesOther_164 rfl hz.symm
set_option maxRecDepth 100000 in
set_option maxHeartbeats 4000000 in
theorem jo_X12_takesOther_139 {fr : Nat} (hfr : 0 ≤ fr) (Z : AZ) (X : AX Z cX12_takesOther 4 RX12 none 1 fr) (x1 : Int32) (x2 : Int32) (s : Mem) (r : Mem) (hz : zres Z = (none, r)) (h : jn_X12_takesOther_139 x1 x2 s = some r) : AW Z s 139 [some (.ref (zr Z 0)), some (.int x1), some (.int x2), none] [] := by
  unfold jn_X12_takesOther_139 at h
  refine aw_iload_n X dX12_takesOther_139 rfl ?_
  refine aw_iconst (v := 1) X dX12_takesOther_140 (by decide) ?_
  refine aw_icmp_ne (tgt := 149) X dX12_takesOther_141 (by decide) (fun c12 => ?_) (fun c12 => ?_)
  · rw [if_neg c12] at h
    refine aw_msk [true, true, true, false] ?_
    exact jo_X12_takesOther_149 hfr Z X _ _ _ _ hz h
  · rw [if_pos c12] at h
    refine aw_aload_n X dX12_takesOther_144 rfl ?_
    refine aw_iload_n X dX12_takesOther_145 rfl ?_
    refine aw_put X dX12_takesOther_146 fp_RX12_284 iu_RX12 gu_RX12_31 rfl rfl ?_
    refine aw_msk [true, true, true, false] ?_
    exact jo_X12_takesOther_149 hfr Z X _ _ _ _ hz h
set_option maxRecDepth 100000 in
set_option maxHeartbeats 4000000 in
theorem jo_X12_takesOther_104 {fr : Nat} (hfr : 0 ≤ fr) (Z : AZ) (X : AX Z cX12_takesOther 4 RX12 none 1 fr) (x1 : Int32) (x2 : Int32) (s : Mem) (r : Mem) (hz : zres Z = (none, r)) (h : jn_X12_takesOther_104 x1 x2 s = some r) : AW Z s 104 [some (.ref (zr Z 0)), some (.int x1), some (.int x2), none] [] := by
  unfold jn_X12_takesOther_104 at h
  refine aw_iconst (v := 0) X dX12_takesOther_104 (by decide) ?_
  refine aw_istore_n (L' := [some (.ref (zr Z 0)), some (.int x1), some (.int x2), some (.int 0)]) X dX12_takesOther_105 (by decide) rfl ?_
  obtain ⟨r11, er11, h⟩ := bnd h
  refine aw_msk [true, true, true, true] ?_
  refine it_ok (P := fun y : Int32 × Mem => AW Z y.2 106 [some (.ref (zr Z 0)), some (.int x1), some (.int x2), some (.int y.1)] []) (Q := fun b : Mem => AW Z b 139 [some (.ref (zr Z 0)), some (.int x1), some (.int x2), none] []) (fun y q hq hi he => so_X12_takesOther_106 hfr Z X x1 x2 y.1 y.2 q hq hi he) FUEL _ _ er11 ?_
  refine aw_msk [true, true, true, false] ?_
  exact jo_X12_takesOther_139 hfr Z X _ _ _ _ hz h
set_option maxRecDepth 100000 in
set_option maxHeartbeats 4000000 in
theorem so_X12_takesOther_7 {fr : Nat} (hfr : 0 ≤ fr) (Z : AZ) (X : AX Z cX12_takesOther 4 RX12 none 1 fr) (x2 : Int32) (x3 : Int32) (s : Mem) (q : (Int32 × Mem) ⊕ (Mem)) (h : st_X12_takesOther_7 x2 x3 s = some q) (hi : ∀ y : Int32 × Mem, q = .inl y → AW Z y.2 7 [some (.ref (zr Z 0)), none, some (.int x2), some (.int y.1)] []) (he : ∀ b : Mem, q = .inr b → AW Z b 34 [some (.ref (zr Z 0)), none, some (.int x2), none] []) : AW Z s 7 [some (.ref (zr Z 0)), none, some (.int x2), some (.int x3)] [] := by
  unfold st_X12_takesOther_7 at h
  refine aw_iload_n X dX12_takesOther_7 rfl ?_
  refine aw_bipush (v := 14) X dX12_takesOther_8 (by decide) ?_
  refine aw_icmp_ge (tgt := 34) X dX12_takesOther_10 (by decide) (fun c14 => ?_) (fun c14 => ?_)
  · rw [if_pos c14] at h
    cases h
    refine aw_msk [true, false, true, false] ?_
    exact he _ rfl
  · rw [if_neg c14] at h
    refine aw_aload_n X dX12_takesOther_13 rfl ?_
    refine aw_getr X dX12_takesOther_14 fl_RX12_62 iu_RX12 gu_RX12_36 ?_
    refine aw_iload_n X dX12_takesOther_17 rfl ?_
    refine aw_aload_n X dX12_takesOther_18 rfl ?_
    refine aw_getr X dX12_takesOther_19 fl_RX12_62 iu_RX12 gu_RX12_36 ?_
    refine aw_bipush (v := 14) X dX12_takesOther_22 (by decide) ?_
    refine aw_iload_n X dX12_takesOther_24 rfl ?_
    refine aw_iadd X dX12_takesOther_25 ?_
    obtain ⟨v15, ev15, h⟩ := bnd h
    refine aw_iald X dX12_takesOther_26 iu_RX12_36 ev15 ?_
    obtain ⟨s16, es16, h⟩ := bnd h
    refine aw_iast X dX12_takesOther_27 iu_RX12_36 es16 ?_
    refine aw_iinc (v := (x3 + 1)) (L' := [some (.ref (zr Z 0)), none, some (.int x2), some (.int (x3 + 1))]) X dX12_takesOther_28 rfl rfl (by decide) rfl ?_
    refine aw_goto (tgt := 7) X dX12_takesOther_31 (by decide) ?_
    cases h
    refine aw_msk [true, false, true, true] ?_
    exact hi _ rfl
set_option maxRecDepth 100000 in
set_option maxHeartbeats 4000000 in
theorem so_X12_takesOther_36 {fr : Nat} (hfr : 0 ≤ fr) (Z : AZ) (X : AX Z cX12_takesOther 4 RX12 none 1 fr) (x2 : Int32) (x3 : Int32) (s : Mem) (q : (Int32 × Mem) ⊕ (Mem)) (h : st_X12_takesOther_36 x2 x3 s = some q) (hi : ∀ y : Int32 × Mem, q = .inl y → AW Z y.2 36 [some (.ref (zr Z 0)), none, some (.int x2), some (.int y.1)] []) (he : ∀ b : Mem, q = .inr b → AW Z b 63 [some (.ref (zr Z 0)), none, some (.int x2), none] []) : AW Z s 36 [some (.ref (zr Z 0)), none, some (.int x2), some (.int x3)] [] := by
  unfold st_X12_takesOther_36 at h
  refine aw_iload_n X dX12_takesOther_36 rfl ?_
  refine aw_bipush (v := 84) X dX12_takesOther_37 (by decide) ?_
  refine aw_icmp_ge (tgt := 63) X dX12_takesOther_39 (by decide) (fun c18 => ?_) (fun c18 => ?_)
  · rw [if_pos c18] at h
    cases h
    refine aw_msk [true, false, true, false] ?_
    exact he _ rfl
  · rw [if_neg c18] at h
    refine aw_aload_n X dX12_takesOther_42 rfl ?_
    refine aw_getr X dX12_takesOther_43 fl_RX12_65 iu_RX12 gu_RX12_37 ?_
    refine aw_iload_n X dX12_takesOther_46 rfl ?_
    refine aw_aload_n X dX12_takesOther_47 rfl ?_
    refine aw_getr X dX12_takesOther_48 fl_RX12_65 iu_RX12 gu_RX12_37 ?_
    refine aw_bipush (v := 84) X dX12_takesOther_51 (by decide) ?_
    refine aw_iload_n X dX12_takesOther_53 rfl ?_
    refine aw_iadd X dX12_takesOther_54 ?_
    obtain ⟨v19, ev19, h⟩ := bnd h
    refine aw_iald X dX12_takesOther_55 iu_RX12_37 ev19 ?_
    obtain ⟨s20, es20, h⟩ := bnd h
    refine aw_iast X dX12_takesOther_56 iu_RX12_37 es20 ?_
    refine aw_iinc (v := (x3 + 1)) (L' := [some (.ref (zr Z 0)), none, some (.int x2), some (.int (x3 + 1))]) X dX12_takesOther_57 rfl rfl (by decide) rfl ?_
    refine aw_goto (tgt := 36) X dX12_takesOther_60 (by decide) ?_
    cases h
    refine aw_msk [true, false, true, true] ?_
    exact hi _ rfl
set_option maxRecDepth 100000 in
set_option maxHeartbeats 4000000 in
theorem w_X12_takesOther {fr : Nat} (hfr : 0 ≤ fr) (Z : AZ) (X : AX Z cX12_takesOther 4 RX12 none 1 fr) (x1 : Int32) (x2 : Int32) (s : Mem) (r : Mem) (hz : zres Z = (none, r)) (h : f_X12_takesOther x1 x2 s = some r) : AW Z s 0 [some (.ref (zr Z 0)), some (.int x1), some (.int x2), none] [] := by
  unfold f_X12_takesOther at h
  refine aw_iload_n X dX12_takesOther_0 rfl ?_
  refine aw_iconst (v := 3) X dX12_takesOther_1 (by decide) ?_
  refine aw_icmp_ne (tgt := 69) X dX12_takesOther_2 (by decide) (fun c1 => ?_) (fun c1 => ?_)
  · rw [if_neg c1] at h
    refine aw_iconst (v := 0) X dX12_takesOther_69 (by decide) ?_
    refine aw_istore_n (L' := [some (.ref (zr Z 0)), some (.int x1), some (.int x2), some (.int 0)]) X dX12_takesOther_70 (by decide) rfl ?_
    obtain ⟨r6, er6, h⟩ := bnd h
    refine aw_msk [true, true, true, true] ?_
    refine it_ok (P := fun y : Int32 × Mem => AW Z y.2 71 [some (.ref (zr Z 0)), some (.int x1), some (.int x2), some (.int y.1)] []) (Q := fun b : Mem => AW Z b 104 [some (.ref (zr Z 0)), some (.int x1), some (.int x2), none] []) (fun y q hq hi he => so_X12_takesOther_71 hfr Z X x1 x2 y.1 y.2 q hq hi he) FUEL _ _ er6 ?_
    refine aw_msk [true, true, true, false] ?_
    exact jo_X12_takesOther_104 hfr Z X _ _ _ _ hz h
  · rw [if_pos c1] at h
    refine aw_iconst (v := 0) X dX12_takesOther_5 (by decide) ?_
    refine aw_istore_n (L' := [some (.ref (zr Z 0)), some (.int x1), some (.int x2), some (.int 0)]) X dX12_takesOther_6 (by decide) rfl ?_
    obtain ⟨r17, er17, h⟩ := bnd h
    refine aw_msk [true, false, true, true] ?_
    refine it_ok (P := fun y : Int32 × Mem => AW Z y.2 7 [some (.ref (zr Z 0)), none, some (.int x2), some (.int y.1)] []) (Q := fun b : Mem => AW Z b 34 [some (.ref (zr Z 0)), none, some (.int x2), none] []) (fun y q hq hi he => so_X12_takesOther_7 hfr Z X x2 y.1 y.2 q hq hi he) FUEL _ _ er17 ?_
    refine aw_iconst (v := 0) X dX12_takesOther_34 (by decide) ?_
    refine aw_istore_n (L' := [some (.ref (zr Z 0)), none, some (.int x2), some (.int 0)]) X dX12_takesOther_35 (by decide) rfl ?_
    obtain ⟨r21, er21, h⟩ := bnd h
    refine aw_msk [true, false, true, true] ?_
    refine it_ok (P := fun y : Int32 × Mem => AW Z y.2 36 [some (.ref (zr Z 0)), none, some (.int x2), some (.int y.1)] []) (Q := fun b : Mem => AW Z b 63 [some (.ref (zr Z 0)), none, some (.int x2), none] []) (fun y q hq hi he => so_X12_takesOther_36 hfr Z X x2 y.1 y.2 q hq hi he) FUEL _ _ er21 ?_
    refine aw_aload_n X dX12_takesOther_63 rfl ?_
    refine aw_iload_n X dX12_takesOther_64 rfl ?_
    refine aw_put X dX12_takesOther_65 fp_RX12_281 iu_RX12 gu_RX12_35 rfl rfl ?_
    cases h
    exact aw_vret X dX12_takesOther_68 rfl hz.symm
set_option maxRecDepth 100000 in
set_option maxHeartbeats 4000000 in
theorem ok_X12_takesOther {x1 x2 : Int32} {s : Mem} {r : Mem} (h : f_X12_takesOther x1 x2 s = some r) (l : Launch) (D : va_G) (ρ : Nat → Nat) (cA : ClassId × ClassId × ClassId) (τ : AT) : AM l D ρ cA 1 τ yX12_takesOther cX12_takesOther 4 none 0 [.ref (ρ 0), .int x1, .int x2] none s r := by
  refine AM_of (L := [some (.ref (ρ 0)), some (.int x1), some (.int x2), none]) (by decide) (by simp [Value.category]) (Nat.le_of_ble_eq_true rfl) (fun j v q => ?_) (fun Z X hρ hz hτ => ?_)
  · exact aL_ok (n := 1) [.ref (ρ 0), .int x1, .int x2] j v q
  · subst hρ
    subst hτ
    exact w_X12_takesOther (Nat.le_refl _) Z X x1 x2 s r hz h

theorem dX12_text_0 : decode cX12_text 0 = .ok (.aload_n 0, 1) := by decide +kernel
theorem dX12_text_1 : decode cX12_text 1 = .ok (.iconst 0, 1) := by decide +kernel
theorem dX12_text_2 : decode cX12_text 2 = .ok (.putfield 122, 3) := by decide +kernel
theorem dX12_text_5 : decode cX12_text 5 = .ok (.aload_n 0, 1) := by decide +kernel
theorem dX12_text_6 : decode cX12_text 6 = .ok (.iconst 0, 1) := by decide +kernel
theorem dX12_text_7 : decode cX12_text 7 = .ok (.putfield 290, 3) := by decide +kernel
theorem dX12_text_10 : decode cX12_text 10 = .ok (.aload_n 0, 1) := by decide +kernel
theorem dX12_text_11 : decode cX12_text 11 = .ok (.iconst (-1), 1) := by decide +kernel
theorem dX12_text_12 : decode cX12_text 12 = .ok (.putfield 52, 3) := by decide +kernel
theorem dX12_text_15 : decode cX12_text 15 = .ok (.aload_n 0, 1) := by decide +kernel
theorem dX12_text_16 : decode cX12_text 16 = .ok (.iconst 0, 1) := by decide +kernel
theorem dX12_text_17 : decode cX12_text 17 = .ok (.putfield 156, 3) := by decide +kernel
theorem dX12_text_20 : decode cX12_text 20 = .ok (.aload_n 0, 1) := by decide +kernel
theorem dX12_text_21 : decode cX12_text 21 = .ok (.iconst 0, 1) := by decide +kernel
theorem dX12_text_22 : decode cX12_text 22 = .ok (.putfield 191, 3) := by decide +kernel
theorem dX12_text_25 : decode cX12_text 25 = .ok (.aload_n 0, 1) := by decide +kernel
theorem dX12_text_26 : decode cX12_text 26 = .ok (.iconst 0, 1) := by decide +kernel
theorem dX12_text_27 : decode cX12_text 27 = .ok (.putfield 222, 3) := by decide +kernel
theorem dX12_text_30 : decode cX12_text 30 = .ok (.iconst (-1), 1) := by decide +kernel
theorem dX12_text_31 : decode cX12_text 31 = .ok (.istore_n 2, 1) := by decide +kernel
theorem dX12_text_32 : decode cX12_text 32 = .ok (.aload_n 0, 1) := by decide +kernel
theorem dX12_text_33 : decode cX12_text 33 = .ok (.iload_n 1, 1) := by decide +kernel
theorem dX12_text_34 : decode cX12_text 34 = .ok (.iconst 0, 1) := by decide +kernel
theorem dX12_text_35 : decode cX12_text 35 = .ok (.iconst 3, 1) := by decide +kernel
theorem dX12_text_36 : decode cX12_text 36 = .ok (.invokevirtual 137, 3) := by decide +kernel
theorem dX12_text_39 : decode cX12_text 39 = .ok (.ifCond .eq 30, 3) := by decide +kernel
theorem dX12_text_42 : decode cX12_text 42 = .ok (.aload_n 0, 1) := by decide +kernel
theorem dX12_text_43 : decode cX12_text 43 = .ok (.iload_n 1, 1) := by decide +kernel
theorem dX12_text_44 : decode cX12_text 44 = .ok (.invokevirtual 293, 3) := by decide +kernel
theorem dX12_text_47 : decode cX12_text 47 = .ok (.istore_n 2, 1) := by decide +kernel
theorem dX12_text_48 : decode cX12_text 48 = .ok (.iload_n 2, 1) := by decide +kernel
theorem dX12_text_49 : decode cX12_text 49 = .ok (.iconst (-1), 1) := by decide +kernel
theorem dX12_text_50 : decode cX12_text 50 = .ok (.if_icmp .ne 19, 3) := by decide +kernel
theorem dX12_text_53 : decode cX12_text 53 = .ok (.aload_n 0, 1) := by decide +kernel
theorem dX12_text_54 : decode cX12_text 54 = .ok (.aload_n 0, 1) := by decide +kernel
theorem dX12_text_55 : decode cX12_text 55 = .ok (.getfield 185, 3) := by decide +kernel
theorem dX12_text_58 : decode cX12_text 58 = .ok (.putfield 290, 3) := by decide +kernel
theorem dX12_text_61 : decode cX12_text 61 = .ok (.aload_n 0, 1) := by decide +kernel
theorem dX12_text_62 : decode cX12_text 62 = .ok (.aload_n 0, 1) := by decide +kernel
theorem dX12_text_63 : decode cX12_text 63 = .ok (.getfield 188, 3) := by decide +kernel
theorem dX12_text_66 : decode cX12_text 66 = .ok (.putfield 52, 3) := by decide +kernel
theorem dX12_text_69 : decode cX12_text 69 = .ok (.aload_n 0, 1) := by decide +kernel
theorem dX12_text_70 : decode cX12_text 70 = .ok (.iconst 0, 1) := by decide +kernel
theorem dX12_text_71 : decode cX12_text 71 = .ok (.putfield 149, 3) := by decide +kernel
theorem dX12_text_74 : decode cX12_text 74 = .ok (.iload_n 2, 1) := by decide +kernel
theorem dX12_text_75 : decode cX12_text 75 = .ok (.iconst (-1), 1) := by decide +kernel
theorem dX12_text_76 : decode cX12_text 76 = .ok (.if_icmp .ne 5, 3) := by decide +kernel
theorem dX12_text_79 : decode cX12_text 79 = .ok (.iconst (-1), 1) := by decide +kernel
theorem dX12_text_80 : decode cX12_text 80 = .ok (.ireturn, 1) := by decide +kernel
theorem dX12_text_81 : decode cX12_text 81 = .ok (.iload_n 1, 1) := by decide +kernel
theorem dX12_text_82 : decode cX12_text 82 = .ok (.ifCond .ne 11, 3) := by decide +kernel
theorem dX12_text_85 : decode cX12_text 85 = .ok (.aload_n 0, 1) := by decide +kernel
theorem dX12_text_86 : decode cX12_text 86 = .ok (.iload_n 2, 1) := by decide +kernel
theorem dX12_text_87 : decode cX12_text 87 = .ok (.invokevirtual 296, 3) := by decide +kernel
theorem dX12_text_90 : decode cX12_text 90 = .ok (.goto 9, 3) := by decide +kernel
theorem dX12_text_93 : decode cX12_text 93 = .ok (.aload_n 0, 1) := by decide +kernel
theorem dX12_text_94 : decode cX12_text 94 = .ok (.iload_n 1, 1) := by decide +kernel
theorem dX12_text_95 : decode cX12_text 95 = .ok (.iload_n 2, 1) := by decide +kernel
theorem dX12_text_96 : decode cX12_text 96 = .ok (.invokevirtual 299, 3) := by decide +kernel
theorem dX12_text_99 : decode cX12_text 99 = .ok (.iload_n 2, 1) := by decide +kernel
theorem dX12_text_100 : decode cX12_text 100 = .ok (.ireturn, 1) := by decide +kernel
set_option maxRecDepth 100000 in
set_option maxHeartbeats 4000000 in
theorem jo_X12_text_69 {fr : Nat} (hfr : 10 ≤ fr) (Z : AZ) (X : AX Z cX12_text 3 RX12 (some .int) 1 fr) (x1 : Int32) (x2 : Int32) (s : Mem) (r : Int32 × Mem) (hz : zres Z = (some (.int r.1), r.2)) (h : jn_X12_text_69 x1 x2 s = some r) : AW Z s 69 [some (.ref (zr Z 0)), some (.int x1), some (.int x2)] [] := by
  unfold jn_X12_text_69 at h
  refine aw_aload_n X dX12_text_69 rfl ?_
  refine aw_iconst (v := 0) X dX12_text_70 (by decide) ?_
  refine aw_put X dX12_text_71 fp_RX12_149 iu_RX12 gu_RX12_9 rfl rfl ?_
  refine aw_iload_n X dX12_text_74 rfl ?_
  refine aw_iconst (v := (-1)) X dX12_text_75 (by decide) ?_
  refine aw_icmp_ne (tgt := 81) X dX12_text_76 (by decide) (fun c3 => ?_) (fun c3 => ?_)
  · rw [if_neg c3] at h
    refine aw_iload_n X dX12_text_81 rfl ?_
    refine aw_if_ne (tgt := 93) X dX12_text_82 (by decide) (fun c4 => ?_) (fun c4 => ?_)
    · rw [if_neg c4] at h
      refine aw_aload_n X dX12_text_93 rfl ?_
      refine aw_iload_n X dX12_text_94 rfl ?_
      refine aw_iload_n X dX12_text_95 rfl ?_
      obtain ⟨r5, er5, h⟩ := bnd h
      refine aw_callV X dX12_text_96 cv_RX12_299 (ok_X12_takesOther er5 _ _ _ _ _) iu_RX12 rfl (Nat.le_trans (by decide) hfr) (by decide) rfl rfl (Nat.le_of_ble_eq_true rfl) ?_
      refine aw_iload_n X dX12_text_99 rfl ?_
      cases h
      exact aw_iret X dX12_text_100 rfl hz.symm
    · rw [if_pos c4] at h
      refine aw_aload_n X dX12_text_85 rfl ?_
      refine aw_iload_n X dX12_text_86 rfl ?_
      obtain ⟨r6, er6, h⟩ := bnd h
      refine aw_callV X dX12_text_87 cv_RX12_296 (ok_X12_takesLaw er6 _ _ _ _ _) iu_RX12 rfl (Nat.le_trans (by decide) hfr) (by decide) rfl rfl (Nat.le_of_ble_eq_true rfl) ?_
      refine aw_goto (tgt := 99) X dX12_text_90 (by decide) ?_
      refine aw_iload_n X dX12_text_99 rfl ?_
      cases h
      exact aw_iret X dX12_text_100 rfl hz.symm
  · rw [if_pos c3] at h
    refine aw_iconst (v := (-1)) X dX12_text_79 (by decide) ?_
    cases h
    exact aw_iret X dX12_text_80 rfl hz.symm
set_option maxRecDepth 100000 in
set_option maxHeartbeats 4000000 in
theorem w_X12_text {fr : Nat} (hfr : 10 ≤ fr) (Z : AZ) (X : AX Z cX12_text 3 RX12 (some .int) 1 fr) (x1 : Int32) (s : Mem) (r : Int32 × Mem) (hz : zres Z = (some (.int r.1), r.2)) (h : f_X12_text x1 s = some r) : AW Z s 0 [some (.ref (zr Z 0)), some (.int x1), none] [] := by
  unfold f_X12_text at h
  refine aw_aload_n X dX12_text_0 rfl ?_
  refine aw_iconst (v := 0) X dX12_text_1 (by decide) ?_
  refine aw_put X dX12_text_2 fp_RX12_122 iu_RX12 gu_RX12_0 rfl rfl ?_
  refine aw_aload_n X dX12_text_5 rfl ?_
  refine aw_iconst (v := 0) X dX12_text_6 (by decide) ?_
  refine aw_put X dX12_text_7 fp_RX12_290 iu_RX12 gu_RX12_29 rfl rfl ?_
  refine aw_aload_n X dX12_text_10 rfl ?_
  refine aw_iconst (v := (-1)) X dX12_text_11 (by decide) ?_
  refine aw_put X dX12_text_12 fp_RX12_52 iu_RX12 gu_RX12_30 rfl rfl ?_
  refine aw_aload_n X dX12_text_15 rfl ?_
  refine aw_iconst (v := 0) X dX12_text_16 (by decide) ?_
  refine aw_put X dX12_text_17 fp_RX12_156 iu_RX12 gu_RX12_10 rfl rfl ?_
  refine aw_aload_n X dX12_text_20 rfl ?_
  refine aw_iconst (v := 0) X dX12_text_21 (by decide) ?_
  refine aw_put X dX12_text_22 fp_RX12_191 iu_RX12 gu_RX12_23 rfl rfl ?_
  refine aw_aload_n X dX12_text_25 rfl ?_
  refine aw_iconst (v := 0) X dX12_text_26 (by decide) ?_
  refine aw_put X dX12_text_27 fp_RX12_222 iu_RX12 gu_RX12_24 rfl rfl ?_
  refine aw_iconst (v := (-1)) X dX12_text_30 (by decide) ?_
  refine aw_istore_n (L' := [some (.ref (zr Z 0)), some (.int x1), some (.int (-1))]) X dX12_text_31 (by decide) rfl ?_
  refine aw_aload_n X dX12_text_32 rfl ?_
  refine aw_iload_n X dX12_text_33 rfl ?_
  refine aw_iconst (v := 0) X dX12_text_34 (by decide) ?_
  refine aw_iconst (v := 3) X dX12_text_35 (by decide) ?_
  obtain ⟨r1, er1, h⟩ := bnd h
  refine aw_callV X dX12_text_36 cv_RX12_137 (ok_X12_isIn er1 _ _ _ _ _) iu_RX12 rfl (Nat.le_trans (by decide) hfr) (by decide) rfl rfl (Nat.le_of_ble_eq_true rfl) ?_
  refine aw_if_eq (tgt := 69) X dX12_text_39 (by decide) (fun c2 => ?_) (fun c2 => ?_)
  · rw [if_pos c2] at h
    refine aw_msk [true, true, true] ?_
    exact jo_X12_text_69 hfr Z X _ _ _ _ hz h
  · rw [if_neg c2] at h
    refine aw_aload_n X dX12_text_42 rfl ?_
    refine aw_iload_n X dX12_text_43 rfl ?_
    obtain ⟨r7, er7, h⟩ := bnd h
    refine aw_callV X dX12_text_44 cv_RX12_293 (ok_X12_readsText er7 _ _ _ _ _) iu_RX12 rfl (Nat.le_trans (by decide) hfr) (by decide) rfl rfl (Nat.le_of_ble_eq_true rfl) ?_
    refine aw_istore_n (L' := [some (.ref (zr Z 0)), some (.int x1), some (.int r7.1)]) X dX12_text_47 (by decide) rfl ?_
    refine aw_iload_n X dX12_text_48 rfl ?_
    refine aw_iconst (v := (-1)) X dX12_text_49 (by decide) ?_
    refine aw_icmp_ne (tgt := 69) X dX12_text_50 (by decide) (fun c8 => ?_) (fun c8 => ?_)
    · rw [if_neg c8] at h
      refine aw_msk [true, true, true] ?_
      exact jo_X12_text_69 hfr Z X _ _ _ _ hz h
    · rw [if_pos c8] at h
      refine aw_aload_n X dX12_text_53 rfl ?_
      refine aw_aload_n X dX12_text_54 rfl ?_
      refine aw_geti X dX12_text_55 fl_RX12_185 iu_RX12 gu_RX12_27 ?_
      refine aw_put X dX12_text_58 fp_RX12_290 iu_RX12 gu_RX12_29 rfl rfl ?_
      refine aw_aload_n X dX12_text_61 rfl ?_
      refine aw_aload_n X dX12_text_62 rfl ?_
      refine aw_geti X dX12_text_63 fl_RX12_188 iu_RX12 gu_RX12_28 ?_
      refine aw_put X dX12_text_66 fp_RX12_52 iu_RX12 gu_RX12_30 rfl rfl ?_
      refine aw_msk [true, true, true] ?_
      exact jo_X12_text_69 hfr Z X _ _ _ _ hz h
set_option maxRecDepth 100000 in
set_option maxHeartbeats 4000000 in
theorem ok_X12_text {x1 : Int32} {s : Mem} {r : Int32 × Mem} (h : f_X12_text x1 s = some r) (l : Launch) (D : va_G) (ρ : Nat → Nat) (cA : ClassId × ClassId × ClassId) (τ : AT) : AM l D ρ cA 1 τ yX12_text cX12_text 3 (some .int) 10 [.ref (ρ 0), .int x1] (some (.int r.1)) s r.2 := by
  refine AM_of (L := [some (.ref (ρ 0)), some (.int x1), none]) (by decide) (by simp [Value.category]) (Nat.le_of_ble_eq_true rfl) (fun j v q => ?_) (fun Z X hρ hz hτ => ?_)
  · exact aL_ok (n := 1) [.ref (ρ 0), .int x1] j v q
  · subst hρ
    subst hτ
    exact w_X12_text (Nat.le_refl _) Z X x1 s r hz h

theorem dX12_fault_0 : decode cX12_fault 0 = .ok (.aload_n 0, 1) := by decide +kernel
theorem dX12_fault_1 : decode cX12_fault 1 = .ok (.iconst 0, 1) := by decide +kernel
theorem dX12_fault_2 : decode cX12_fault 2 = .ok (.putfield 122, 3) := by decide +kernel
theorem dX12_fault_5 : decode cX12_fault 5 = .ok (.iload_n 1, 1) := by decide +kernel
theorem dX12_fault_6 : decode cX12_fault 6 = .ok (.ifCond .ne 10, 3) := by decide +kernel
theorem dX12_fault_9 : decode cX12_fault 9 = .ok (.aload_n 0, 1) := by decide +kernel
theorem dX12_fault_10 : decode cX12_fault 10 = .ok (.getfield 290, 3) := by decide +kernel
theorem dX12_fault_13 : decode cX12_fault 13 = .ok (.goto 16, 3) := by decide +kernel
theorem dX12_fault_16 : decode cX12_fault 16 = .ok (.iload_n 1, 1) := by decide +kernel
theorem dX12_fault_17 : decode cX12_fault 17 = .ok (.iconst 1, 1) := by decide +kernel
theorem dX12_fault_18 : decode cX12_fault 18 = .ok (.if_icmp .ne 10, 3) := by decide +kernel
theorem dX12_fault_21 : decode cX12_fault 21 = .ok (.aload_n 0, 1) := by decide +kernel
theorem dX12_fault_22 : decode cX12_fault 22 = .ok (.getfield 52, 3) := by decide +kernel
theorem dX12_fault_25 : decode cX12_fault 25 = .ok (.goto 4, 3) := by decide +kernel
theorem dX12_fault_28 : decode cX12_fault 28 = .ok (.iconst (-1), 1) := by decide +kernel
theorem dX12_fault_29 : decode cX12_fault 29 = .ok (.ireturn, 1) := by decide +kernel
set_option maxRecDepth 100000 in
set_option maxHeartbeats 4000000 in
theorem w_X12_fault {fr : Nat} (hfr : 0 ≤ fr) (Z : AZ) (X : AX Z cX12_fault 2 RX12 (some .int) 1 fr) (x1 : Int32) (s : Mem) (r : Int32 × Mem) (hz : zres Z = (some (.int r.1), r.2)) (h : f_X12_fault x1 s = some r) : AW Z s 0 [some (.ref (zr Z 0)), some (.int x1)] [] := by
  unfold f_X12_fault at h
  refine aw_aload_n X dX12_fault_0 rfl ?_
  refine aw_iconst (v := 0) X dX12_fault_1 (by decide) ?_
  refine aw_put X dX12_fault_2 fp_RX12_122 iu_RX12 gu_RX12_0 rfl rfl ?_
  refine aw_iload_n X dX12_fault_5 rfl ?_
  refine aw_if_ne (tgt := 16) X dX12_fault_6 (by decide) (fun c1 => ?_) (fun c1 => ?_)
  · rw [if_neg c1] at h
    refine aw_iload_n X dX12_fault_16 rfl ?_
    refine aw_iconst (v := 1) X dX12_fault_17 (by decide) ?_
    refine aw_icmp_ne (tgt := 28) X dX12_fault_18 (by decide) (fun c2 => ?_) (fun c2 => ?_)
    · rw [if_neg c2] at h
      refine aw_iconst (v := (-1)) X dX12_fault_28 (by decide) ?_
      cases h
      exact aw_iret X dX12_fault_29 rfl hz.symm
    · rw [if_pos c2] at h
      refine aw_aload_n X dX12_fault_21 rfl ?_
      refine aw_geti X dX12_fault_22 fl_RX12_52 iu_RX12 gu_RX12_30 ?_
      refine aw_goto (tgt := 29) X dX12_fault_25 (by decide) ?_
      cases h
      exact aw_iret X dX12_fault_29 rfl hz.symm
  · rw [if_pos c1] at h
    refine aw_aload_n X dX12_fault_9 rfl ?_
    refine aw_geti X dX12_fault_10 fl_RX12_290 iu_RX12 gu_RX12_29 ?_
    refine aw_goto (tgt := 29) X dX12_fault_13 (by decide) ?_
    cases h
    exact aw_iret X dX12_fault_29 rfl hz.symm
set_option maxRecDepth 100000 in
set_option maxHeartbeats 4000000 in
theorem ok_X12_fault {x1 : Int32} {s : Mem} {r : Int32 × Mem} (h : f_X12_fault x1 s = some r) (l : Launch) (D : va_G) (ρ : Nat → Nat) (cA : ClassId × ClassId × ClassId) (τ : AT) : AM l D ρ cA 1 τ yX12_fault cX12_fault 2 (some .int) 0 [.ref (ρ 0), .int x1] (some (.int r.1)) s r.2 := by
  refine AM_of (L := [some (.ref (ρ 0)), some (.int x1)]) (by decide) (by simp [Value.category]) (Nat.le_of_ble_eq_true rfl) (fun j v q => ?_) (fun Z X hρ hz hτ => ?_)
  · exact aL_ok (n := 0) [.ref (ρ 0), .int x1] j v q
  · subst hρ
    subst hτ
    exact w_X12_fault (Nat.le_refl _) Z X x1 s r hz h

theorem dX12_twoOf_0 : decode cX12_twoOf 0 = .ok (.iload_n 1, 1) := by decide +kernel
theorem dX12_twoOf_1 : decode cX12_twoOf 1 = .ok (.iconst 2, 1) := by decide +kernel
theorem dX12_twoOf_2 : decode cX12_twoOf 2 = .ok (.if_icmp .ne 7, 3) := by decide +kernel
theorem dX12_twoOf_5 : decode cX12_twoOf 5 = .ok (.iload_n 2, 1) := by decide +kernel
theorem dX12_twoOf_6 : decode cX12_twoOf 6 = .ok (.iload_n 3, 1) := by decide +kernel
theorem dX12_twoOf_7 : decode cX12_twoOf 7 = .ok (.iadd, 1) := by decide +kernel
theorem dX12_twoOf_8 : decode cX12_twoOf 8 = .ok (.ireturn, 1) := by decide +kernel
theorem dX12_twoOf_9 : decode cX12_twoOf 9 = .ok (.iload_n 1, 1) := by decide +kernel
theorem dX12_twoOf_10 : decode cX12_twoOf 10 = .ok (.iconst 3, 1) := by decide +kernel
theorem dX12_twoOf_11 : decode cX12_twoOf 11 = .ok (.if_icmp .ne 7, 3) := by decide +kernel
theorem dX12_twoOf_14 : decode cX12_twoOf 14 = .ok (.iload_n 2, 1) := by decide +kernel
theorem dX12_twoOf_15 : decode cX12_twoOf 15 = .ok (.iload_n 3, 1) := by decide +kernel
theorem dX12_twoOf_16 : decode cX12_twoOf 16 = .ok (.isub, 1) := by decide +kernel
theorem dX12_twoOf_17 : decode cX12_twoOf 17 = .ok (.ireturn, 1) := by decide +kernel
theorem dX12_twoOf_18 : decode cX12_twoOf 18 = .ok (.iload_n 1, 1) := by decide +kernel
theorem dX12_twoOf_19 : decode cX12_twoOf 19 = .ok (.iconst 4, 1) := by decide +kernel
theorem dX12_twoOf_20 : decode cX12_twoOf 20 = .ok (.if_icmp .ne 7, 3) := by decide +kernel
theorem dX12_twoOf_23 : decode cX12_twoOf 23 = .ok (.iload_n 2, 1) := by decide +kernel
theorem dX12_twoOf_24 : decode cX12_twoOf 24 = .ok (.iload_n 3, 1) := by decide +kernel
theorem dX12_twoOf_25 : decode cX12_twoOf 25 = .ok (.imul, 1) := by decide +kernel
theorem dX12_twoOf_26 : decode cX12_twoOf 26 = .ok (.ireturn, 1) := by decide +kernel
theorem dX12_twoOf_27 : decode cX12_twoOf 27 = .ok (.iload_n 1, 1) := by decide +kernel
theorem dX12_twoOf_28 : decode cX12_twoOf 28 = .ok (.iconst 5, 1) := by decide +kernel
theorem dX12_twoOf_29 : decode cX12_twoOf 29 = .ok (.if_icmp .ne 7, 3) := by decide +kernel
theorem dX12_twoOf_32 : decode cX12_twoOf 32 = .ok (.iload_n 2, 1) := by decide +kernel
theorem dX12_twoOf_33 : decode cX12_twoOf 33 = .ok (.iload_n 3, 1) := by decide +kernel
theorem dX12_twoOf_34 : decode cX12_twoOf 34 = .ok (.idiv, 1) := by decide +kernel
theorem dX12_twoOf_35 : decode cX12_twoOf 35 = .ok (.ireturn, 1) := by decide +kernel
theorem dX12_twoOf_36 : decode cX12_twoOf 36 = .ok (.iload_n 1, 1) := by decide +kernel
theorem dX12_twoOf_37 : decode cX12_twoOf 37 = .ok (.bipush 6, 2) := by decide +kernel
theorem dX12_twoOf_39 : decode cX12_twoOf 39 = .ok (.if_icmp .ne 14, 3) := by decide +kernel
theorem dX12_twoOf_42 : decode cX12_twoOf 42 = .ok (.iload_n 2, 1) := by decide +kernel
theorem dX12_twoOf_43 : decode cX12_twoOf 43 = .ok (.iload_n 3, 1) := by decide +kernel
theorem dX12_twoOf_44 : decode cX12_twoOf 44 = .ok (.if_icmp .ge 7, 3) := by decide +kernel
theorem dX12_twoOf_47 : decode cX12_twoOf 47 = .ok (.iconst 1, 1) := by decide +kernel
theorem dX12_twoOf_48 : decode cX12_twoOf 48 = .ok (.goto 4, 3) := by decide +kernel
theorem dX12_twoOf_51 : decode cX12_twoOf 51 = .ok (.iconst 0, 1) := by decide +kernel
theorem dX12_twoOf_52 : decode cX12_twoOf 52 = .ok (.ireturn, 1) := by decide +kernel
theorem dX12_twoOf_53 : decode cX12_twoOf 53 = .ok (.iload_n 1, 1) := by decide +kernel
theorem dX12_twoOf_54 : decode cX12_twoOf 54 = .ok (.bipush 7, 2) := by decide +kernel
theorem dX12_twoOf_56 : decode cX12_twoOf 56 = .ok (.if_icmp .ne 14, 3) := by decide +kernel
theorem dX12_twoOf_59 : decode cX12_twoOf 59 = .ok (.iload_n 2, 1) := by decide +kernel
theorem dX12_twoOf_60 : decode cX12_twoOf 60 = .ok (.iload_n 3, 1) := by decide +kernel
theorem dX12_twoOf_61 : decode cX12_twoOf 61 = .ok (.if_icmp .ne 7, 3) := by decide +kernel
theorem dX12_twoOf_64 : decode cX12_twoOf 64 = .ok (.iconst 1, 1) := by decide +kernel
theorem dX12_twoOf_65 : decode cX12_twoOf 65 = .ok (.goto 4, 3) := by decide +kernel
theorem dX12_twoOf_68 : decode cX12_twoOf 68 = .ok (.iconst 0, 1) := by decide +kernel
theorem dX12_twoOf_69 : decode cX12_twoOf 69 = .ok (.ireturn, 1) := by decide +kernel
theorem dX12_twoOf_70 : decode cX12_twoOf 70 = .ok (.iload_n 1, 1) := by decide +kernel
theorem dX12_twoOf_71 : decode cX12_twoOf 71 = .ok (.bipush 8, 2) := by decide +kernel
theorem dX12_twoOf_73 : decode cX12_twoOf 73 = .ok (.if_icmp .ne 14, 3) := by decide +kernel
theorem dX12_twoOf_76 : decode cX12_twoOf 76 = .ok (.iload_n 2, 1) := by decide +kernel
theorem dX12_twoOf_77 : decode cX12_twoOf 77 = .ok (.iload_n 3, 1) := by decide +kernel
theorem dX12_twoOf_78 : decode cX12_twoOf 78 = .ok (.if_icmp .le 7, 3) := by decide +kernel
theorem dX12_twoOf_81 : decode cX12_twoOf 81 = .ok (.iconst 1, 1) := by decide +kernel
theorem dX12_twoOf_82 : decode cX12_twoOf 82 = .ok (.goto 4, 3) := by decide +kernel
theorem dX12_twoOf_85 : decode cX12_twoOf 85 = .ok (.iconst 0, 1) := by decide +kernel
theorem dX12_twoOf_86 : decode cX12_twoOf 86 = .ok (.ireturn, 1) := by decide +kernel
theorem dX12_twoOf_87 : decode cX12_twoOf 87 = .ok (.iload_n 1, 1) := by decide +kernel
theorem dX12_twoOf_88 : decode cX12_twoOf 88 = .ok (.bipush 10, 2) := by decide +kernel
theorem dX12_twoOf_90 : decode cX12_twoOf 90 = .ok (.if_icmp .ne 9, 3) := by decide +kernel
theorem dX12_twoOf_93 : decode cX12_twoOf 93 = .ok (.iload_n 2, 1) := by decide +kernel
theorem dX12_twoOf_94 : decode cX12_twoOf 94 = .ok (.iload_n 3, 1) := by decide +kernel
theorem dX12_twoOf_95 : decode cX12_twoOf 95 = .ok (.imul, 1) := by decide +kernel
theorem dX12_twoOf_96 : decode cX12_twoOf 96 = .ok (.goto 14, 3) := by decide +kernel
theorem dX12_twoOf_99 : decode cX12_twoOf 99 = .ok (.iload_n 2, 1) := by decide +kernel
theorem dX12_twoOf_100 : decode cX12_twoOf 100 = .ok (.iload_n 3, 1) := by decide +kernel
theorem dX12_twoOf_101 : decode cX12_twoOf 101 = .ok (.iadd, 1) := by decide +kernel
theorem dX12_twoOf_102 : decode cX12_twoOf 102 = .ok (.ifCond .le 7, 3) := by decide +kernel
theorem dX12_twoOf_105 : decode cX12_twoOf 105 = .ok (.iconst 1, 1) := by decide +kernel
theorem dX12_twoOf_106 : decode cX12_twoOf 106 = .ok (.goto 4, 3) := by decide +kernel
theorem dX12_twoOf_109 : decode cX12_twoOf 109 = .ok (.iconst 0, 1) := by decide +kernel
theorem dX12_twoOf_110 : decode cX12_twoOf 110 = .ok (.ireturn, 1) := by decide +kernel
set_option maxRecDepth 100000 in
set_option maxHeartbeats 4000000 in
theorem w_X12_twoOf {fr : Nat} (hfr : 0 ≤ fr) (Z : AZ) (X : AX Z cX12_twoOf 4 RX12 (some .int) 1 fr) (x1 : Int32) (x2 : Int32) (x3 : Int32) (s : Mem) (r : Int32 × Mem) (hz : zres Z = (some (.int r.1), r.2)) (h : f_X12_twoOf x1 x2 x3 s = some r) : AW Z s 0 [some (.ref (zr Z 0)), some (.int x1), some (.int x2), some (.int x3)] [] := by
  unfold f_X12_twoOf at h
  refine aw_iload_n X dX12_twoOf_0 rfl ?_
  refine aw_iconst (v := 2) X dX12_twoOf_1 (by decide) ?_
  refine aw_icmp_ne (tgt := 9) X dX12_twoOf_2 (by decide) (fun c1 => ?_) (fun c1 => ?_)
  · rw [if_neg c1] at h
    refine aw_iload_n X dX12_twoOf_9 rfl ?_
    refine aw_iconst (v := 3) X dX12_twoOf_10 (by decide) ?_
    refine aw_icmp_ne (tgt := 18) X dX12_twoOf_11 (by decide) (fun c2 => ?_) (fun c2 => ?_)
    · rw [if_neg c2] at h
      refine aw_iload_n X dX12_twoOf_18 rfl ?_
      refine aw_iconst (v := 4) X dX12_twoOf_19 (by decide) ?_
      refine aw_icmp_ne (tgt := 27) X dX12_twoOf_20 (by decide) (fun c3 => ?_) (fun c3 => ?_)
      · rw [if_neg c3] at h
        refine aw_iload_n X dX12_twoOf_27 rfl ?_
        refine aw_iconst (v := 5) X dX12_twoOf_28 (by decide) ?_
        refine aw_icmp_ne (tgt := 36) X dX12_twoOf_29 (by decide) (fun c4 => ?_) (fun c4 => ?_)
        · rw [if_neg c4] at h
          refine aw_iload_n X dX12_twoOf_36 rfl ?_
          refine aw_bipush (v := 6) X dX12_twoOf_37 (by decide) ?_
          refine aw_icmp_ne (tgt := 53) X dX12_twoOf_39 (by decide) (fun c5 => ?_) (fun c5 => ?_)
          · rw [if_neg c5] at h
            refine aw_iload_n X dX12_twoOf_53 rfl ?_
            refine aw_bipush (v := 7) X dX12_twoOf_54 (by decide) ?_
            refine aw_icmp_ne (tgt := 70) X dX12_twoOf_56 (by decide) (fun c6 => ?_) (fun c6 => ?_)
            · rw [if_neg c6] at h
              refine aw_iload_n X dX12_twoOf_70 rfl ?_
              refine aw_bipush (v := 8) X dX12_twoOf_71 (by decide) ?_
              refine aw_icmp_ne (tgt := 87) X dX12_twoOf_73 (by decide) (fun c7 => ?_) (fun c7 => ?_)
              · rw [if_neg c7] at h
                refine aw_iload_n X dX12_twoOf_87 rfl ?_
                refine aw_bipush (v := 10) X dX12_twoOf_88 (by decide) ?_
                refine aw_icmp_ne (tgt := 99) X dX12_twoOf_90 (by decide) (fun c8 => ?_) (fun c8 => ?_)
                · rw [if_neg c8] at h
                  refine aw_iload_n X dX12_twoOf_99 rfl ?_
                  refine aw_iload_n X dX12_twoOf_100 rfl ?_
                  refine aw_iadd X dX12_twoOf_101 ?_
                  refine aw_if_le (tgt := 109) X dX12_twoOf_102 (by decide) (fun c9 => ?_) (fun c9 => ?_)
                  · rw [if_pos c9] at h
                    refine aw_iconst (v := 0) X dX12_twoOf_109 (by decide) ?_
                    cases h
                    exact aw_iret X dX12_twoOf_110 rfl hz.symm
                  · rw [if_neg c9] at h
                    refine aw_iconst (v := 1) X dX12_twoOf_105 (by decide) ?_
                    refine aw_goto (tgt := 110) X dX12_twoOf_106 (by decide) ?_
                    cases h
                    exact aw_iret X dX12_twoOf_110 rfl hz.symm
                · rw [if_pos c8] at h
                  refine aw_iload_n X dX12_twoOf_93 rfl ?_
                  refine aw_iload_n X dX12_twoOf_94 rfl ?_
                  refine aw_imul X dX12_twoOf_95 ?_
                  refine aw_goto (tgt := 110) X dX12_twoOf_96 (by decide) ?_
                  cases h
                  exact aw_iret X dX12_twoOf_110 rfl hz.symm
              · rw [if_pos c7] at h
                refine aw_iload_n X dX12_twoOf_76 rfl ?_
                refine aw_iload_n X dX12_twoOf_77 rfl ?_
                refine aw_icmp_le (tgt := 85) X dX12_twoOf_78 (by decide) (fun c10 => ?_) (fun c10 => ?_)
                · rw [if_pos c10] at h
                  refine aw_iconst (v := 0) X dX12_twoOf_85 (by decide) ?_
                  cases h
                  exact aw_iret X dX12_twoOf_86 rfl hz.symm
                · rw [if_neg c10] at h
                  refine aw_iconst (v := 1) X dX12_twoOf_81 (by decide) ?_
                  refine aw_goto (tgt := 86) X dX12_twoOf_82 (by decide) ?_
                  cases h
                  exact aw_iret X dX12_twoOf_86 rfl hz.symm
            · rw [if_pos c6] at h
              refine aw_iload_n X dX12_twoOf_59 rfl ?_
              refine aw_iload_n X dX12_twoOf_60 rfl ?_
              refine aw_icmp_ne (tgt := 68) X dX12_twoOf_61 (by decide) (fun c11 => ?_) (fun c11 => ?_)
              · rw [if_neg c11] at h
                refine aw_iconst (v := 0) X dX12_twoOf_68 (by decide) ?_
                cases h
                exact aw_iret X dX12_twoOf_69 rfl hz.symm
              · rw [if_pos c11] at h
                refine aw_iconst (v := 1) X dX12_twoOf_64 (by decide) ?_
                refine aw_goto (tgt := 69) X dX12_twoOf_65 (by decide) ?_
                cases h
                exact aw_iret X dX12_twoOf_69 rfl hz.symm
          · rw [if_pos c5] at h
            refine aw_iload_n X dX12_twoOf_42 rfl ?_
            refine aw_iload_n X dX12_twoOf_43 rfl ?_
            refine aw_icmp_ge (tgt := 51) X dX12_twoOf_44 (by decide) (fun c12 => ?_) (fun c12 => ?_)
            · rw [if_pos c12] at h
              refine aw_iconst (v := 0) X dX12_twoOf_51 (by decide) ?_
              cases h
              exact aw_iret X dX12_twoOf_52 rfl hz.symm
            · rw [if_neg c12] at h
              refine aw_iconst (v := 1) X dX12_twoOf_47 (by decide) ?_
              refine aw_goto (tgt := 52) X dX12_twoOf_48 (by decide) ?_
              cases h
              exact aw_iret X dX12_twoOf_52 rfl hz.symm
        · rw [if_pos c4] at h
          refine aw_iload_n X dX12_twoOf_32 rfl ?_
          refine aw_iload_n X dX12_twoOf_33 rfl ?_
          by_cases c13 : x3 = 0
          · rw [if_pos c13] at h
            cases h
          rw [if_neg c13] at h
          refine aw_idiv X dX12_twoOf_34 c13 ?_
          cases h
          exact aw_iret X dX12_twoOf_35 rfl hz.symm
      · rw [if_pos c3] at h
        refine aw_iload_n X dX12_twoOf_23 rfl ?_
        refine aw_iload_n X dX12_twoOf_24 rfl ?_
        refine aw_imul X dX12_twoOf_25 ?_
        cases h
        exact aw_iret X dX12_twoOf_26 rfl hz.symm
    · rw [if_pos c2] at h
      refine aw_iload_n X dX12_twoOf_14 rfl ?_
      refine aw_iload_n X dX12_twoOf_15 rfl ?_
      refine aw_isub X dX12_twoOf_16 ?_
      cases h
      exact aw_iret X dX12_twoOf_17 rfl hz.symm
  · rw [if_pos c1] at h
    refine aw_iload_n X dX12_twoOf_5 rfl ?_
    refine aw_iload_n X dX12_twoOf_6 rfl ?_
    refine aw_iadd X dX12_twoOf_7 ?_
    cases h
    exact aw_iret X dX12_twoOf_8 rfl hz.symm
set_option maxRecDepth 100000 in
set_option maxHeartbeats 4000000 in
theorem ok_X12_twoOf {x1 x2 x3 : Int32} {s : Mem} {r : Int32 × Mem} (h : f_X12_twoOf x1 x2 x3 s = some r) (l : Launch) (D : va_G) (ρ : Nat → Nat) (cA : ClassId × ClassId × ClassId) (τ : AT) : AM l D ρ cA 1 τ yX12_twoOf cX12_twoOf 4 (some .int) 0 [.ref (ρ 0), .int x1, .int x2, .int x3] (some (.int r.1)) s r.2 := by
  refine AM_of (L := [some (.ref (ρ 0)), some (.int x1), some (.int x2), some (.int x3)]) (by decide) (by simp [Value.category]) (Nat.le_of_ble_eq_true rfl) (fun j v q => ?_) (fun Z X hρ hz hτ => ?_)
  · exact aL_ok (n := 0) [.ref (ρ 0), .int x1, .int x2, .int x3] j v q
  · subst hρ
    subst hτ
    exact w_X12_twoOf (Nat.le_refl _) Z X x1 x2 x3 s r hz h

theorem dX12_runs_0 : decode cX12_runs 0 = .ok (.iconst 0, 1) := by decide +kernel
theorem dX12_runs_1 : decode cX12_runs 1 = .ok (.istore 4, 2) := by decide +kernel
theorem dX12_runs_3 : decode cX12_runs 3 = .ok (.sipush 400, 3) := by decide +kernel
theorem dX12_runs_6 : decode cX12_runs 6 = .ok (.iload_n 1, 1) := by decide +kernel
theorem dX12_runs_7 : decode cX12_runs 7 = .ok (.imul, 1) := by decide +kernel
theorem dX12_runs_8 : decode cX12_runs 8 = .ok (.iload_n 2, 1) := by decide +kernel
theorem dX12_runs_9 : decode cX12_runs 9 = .ok (.iadd, 1) := by decide +kernel
theorem dX12_runs_10 : decode cX12_runs 10 = .ok (.istore 5, 2) := by decide +kernel
theorem dX12_runs_12 : decode cX12_runs 12 = .ok (.iload 5, 2) := by decide +kernel
theorem dX12_runs_14 : decode cX12_runs 14 = .ok (.sipush 400, 3) := by decide +kernel
theorem dX12_runs_17 : decode cX12_runs 17 = .ok (.iload_n 1, 1) := by decide +kernel
theorem dX12_runs_18 : decode cX12_runs 18 = .ok (.imul, 1) := by decide +kernel
theorem dX12_runs_19 : decode cX12_runs 19 = .ok (.iload_n 3, 1) := by decide +kernel
theorem dX12_runs_20 : decode cX12_runs 20 = .ok (.iadd, 1) := by decide +kernel
theorem dX12_runs_21 : decode cX12_runs 21 = .ok (.if_icmp .ge 155, 3) := by decide +kernel
theorem dX12_runs_24 : decode cX12_runs 24 = .ok (.aload_n 0, 1) := by decide +kernel
theorem dX12_runs_25 : decode cX12_runs 25 = .ok (.getfield 43, 3) := by decide +kernel
theorem dX12_runs_28 : decode cX12_runs 28 = .ok (.iload 5, 2) := by decide +kernel
theorem dX12_runs_30 : decode cX12_runs 30 = .ok (.iaload, 1) := by decide +kernel
theorem dX12_runs_31 : decode cX12_runs 31 = .ok (.ifCond .eq 14, 3) := by decide +kernel
theorem dX12_runs_34 : decode cX12_runs 34 = .ok (.aload_n 0, 1) := by decide +kernel
theorem dX12_runs_35 : decode cX12_runs 35 = .ok (.getfield 43, 3) := by decide +kernel
theorem dX12_runs_38 : decode cX12_runs 38 = .ok (.iload 5, 2) := by decide +kernel
theorem dX12_runs_40 : decode cX12_runs 40 = .ok (.iaload, 1) := by decide +kernel
theorem dX12_runs_41 : decode cX12_runs 41 = .ok (.iconst 1, 1) := by decide +kernel
theorem dX12_runs_42 : decode cX12_runs 42 = .ok (.if_icmp .ne 51, 3) := by decide +kernel
theorem dX12_runs_45 : decode cX12_runs 45 = .ok (.aload_n 0, 1) := by decide +kernel
theorem dX12_runs_46 : decode cX12_runs 46 = .ok (.getfield 71, 3) := by decide +kernel
theorem dX12_runs_49 : decode cX12_runs 49 = .ok (.iload 4, 2) := by decide +kernel
theorem dX12_runs_51 : decode cX12_runs 51 = .ok (.aload_n 0, 1) := by decide +kernel
theorem dX12_runs_52 : decode cX12_runs 52 = .ok (.getfield 43, 3) := by decide +kernel
theorem dX12_runs_55 : decode cX12_runs 55 = .ok (.iload 5, 2) := by decide +kernel
theorem dX12_runs_57 : decode cX12_runs 57 = .ok (.iaload, 1) := by decide +kernel
theorem dX12_runs_58 : decode cX12_runs 58 = .ok (.ifCond .ne 13, 3) := by decide +kernel
theorem dX12_runs_61 : decode cX12_runs 61 = .ok (.aload_n 0, 1) := by decide +kernel
theorem dX12_runs_62 : decode cX12_runs 62 = .ok (.getfield 46, 3) := by decide +kernel
theorem dX12_runs_65 : decode cX12_runs 65 = .ok (.iload 5, 2) := by decide +kernel
theorem dX12_runs_67 : decode cX12_runs 67 = .ok (.iaload, 1) := by decide +kernel
theorem dX12_runs_68 : decode cX12_runs 68 = .ok (.goto 15, 3) := by decide +kernel
theorem dX12_runs_71 : decode cX12_runs 71 = .ok (.aload_n 0, 1) := by decide +kernel
theorem dX12_runs_72 : decode cX12_runs 72 = .ok (.getfield 68, 3) := by decide +kernel
theorem dX12_runs_75 : decode cX12_runs 75 = .ok (.aload_n 0, 1) := by decide +kernel
theorem dX12_runs_76 : decode cX12_runs 76 = .ok (.getfield 46, 3) := by decide +kernel
theorem dX12_runs_79 : decode cX12_runs 79 = .ok (.iload 5, 2) := by decide +kernel
theorem dX12_runs_81 : decode cX12_runs 81 = .ok (.iaload, 1) := by decide +kernel
theorem dX12_runs_82 : decode cX12_runs 82 = .ok (.iaload, 1) := by decide +kernel
theorem dX12_runs_83 : decode cX12_runs 83 = .ok (.iastore, 1) := by decide +kernel
theorem dX12_runs_84 : decode cX12_runs 84 = .ok (.iload 4, 2) := by decide +kernel
theorem dX12_runs_86 : decode cX12_runs 86 = .ok (.iconst 1, 1) := by decide +kernel
theorem dX12_runs_87 : decode cX12_runs 87 = .ok (.iadd, 1) := by decide +kernel
theorem dX12_runs_88 : decode cX12_runs 88 = .ok (.istore 4, 2) := by decide +kernel
theorem dX12_runs_90 : decode cX12_runs 90 = .ok (.goto 80, 3) := by decide +kernel
theorem dX12_runs_93 : decode cX12_runs 93 = .ok (.aload_n 0, 1) := by decide +kernel
theorem dX12_runs_94 : decode cX12_runs 94 = .ok (.getfield 43, 3) := by decide +kernel
theorem dX12_runs_97 : decode cX12_runs 97 = .ok (.iload 5, 2) := by decide +kernel
theorem dX12_runs_99 : decode cX12_runs 99 = .ok (.iaload, 1) := by decide +kernel
theorem dX12_runs_100 : decode cX12_runs 100 = .ok (.bipush 9, 2) := by decide +kernel
theorem dX12_runs_102 : decode cX12_runs 102 = .ok (.if_icmp .ne 26, 3) := by decide +kernel
theorem dX12_runs_105 : decode cX12_runs 105 = .ok (.aload_n 0, 1) := by decide +kernel
theorem dX12_runs_106 : decode cX12_runs 106 = .ok (.getfield 71, 3) := by decide +kernel
theorem dX12_runs_109 : decode cX12_runs 109 = .ok (.iload 4, 2) := by decide +kernel
theorem dX12_runs_111 : decode cX12_runs 111 = .ok (.iconst 1, 1) := by decide +kernel
theorem dX12_runs_112 : decode cX12_runs 112 = .ok (.isub, 1) := by decide +kernel
theorem dX12_runs_113 : decode cX12_runs 113 = .ok (.iconst 1, 1) := by decide +kernel
theorem dX12_runs_114 : decode cX12_runs 114 = .ok (.aload_n 0, 1) := by decide +kernel
theorem dX12_runs_115 : decode cX12_runs 115 = .ok (.getfield 71, 3) := by decide +kernel
theorem dX12_runs_118 : decode cX12_runs 118 = .ok (.iload 4, 2) := by decide +kernel
theorem dX12_runs_120 : decode cX12_runs 120 = .ok (.iconst 1, 1) := by decide +kernel
theorem dX12_runs_121 : decode cX12_runs 121 = .ok (.isub, 1) := by decide +kernel
theorem dX12_runs_122 : decode cX12_runs 122 = .ok (.iaload, 1) := by decide +kernel
theorem dX12_runs_123 : decode cX12_runs 123 = .ok (.isub, 1) := by decide +kernel
theorem dX12_runs_124 : decode cX12_runs 124 = .ok (.iastore, 1) := by decide +kernel
theorem dX12_runs_125 : decode cX12_runs 125 = .ok (.goto 45, 3) := by decide +kernel
theorem dX12_runs_128 : decode cX12_runs 128 = .ok (.iload 4, 2) := by decide +kernel
theorem dX12_runs_130 : decode cX12_runs 130 = .ok (.iconst 1, 1) := by decide +kernel
theorem dX12_runs_131 : decode cX12_runs 131 = .ok (.isub, 1) := by decide +kernel
theorem dX12_runs_132 : decode cX12_runs 132 = .ok (.istore 4, 2) := by decide +kernel
theorem dX12_runs_134 : decode cX12_runs 134 = .ok (.aload_n 0, 1) := by decide +kernel
theorem dX12_runs_135 : decode cX12_runs 135 = .ok (.getfield 71, 3) := by decide +kernel
theorem dX12_runs_138 : decode cX12_runs 138 = .ok (.iload 4, 2) := by decide +kernel
theorem dX12_runs_140 : decode cX12_runs 140 = .ok (.iconst 1, 1) := by decide +kernel
theorem dX12_runs_141 : decode cX12_runs 141 = .ok (.isub, 1) := by decide +kernel
theorem dX12_runs_142 : decode cX12_runs 142 = .ok (.aload_n 0, 1) := by decide +kernel
theorem dX12_runs_143 : decode cX12_runs 143 = .ok (.aload_n 0, 1) := by decide +kernel
theorem dX12_runs_144 : decode cX12_runs 144 = .ok (.getfield 43, 3) := by decide +kernel
theorem dX12_runs_147 : decode cX12_runs 147 = .ok (.iload 5, 2) := by decide +kernel
theorem dX12_runs_149 : decode cX12_runs 149 = .ok (.iaload, 1) := by decide +kernel
theorem dX12_runs_150 : decode cX12_runs 150 = .ok (.aload_n 0, 1) := by decide +kernel
theorem dX12_runs_151 : decode cX12_runs 151 = .ok (.getfield 71, 3) := by decide +kernel
theorem dX12_runs_154 : decode cX12_runs 154 = .ok (.iload 4, 2) := by decide +kernel
theorem dX12_runs_156 : decode cX12_runs 156 = .ok (.iconst 1, 1) := by decide +kernel
theorem dX12_runs_157 : decode cX12_runs 157 = .ok (.isub, 1) := by decide +kernel
theorem dX12_runs_158 : decode cX12_runs 158 = .ok (.iaload, 1) := by decide +kernel
theorem dX12_runs_159 : decode cX12_runs 159 = .ok (.aload_n 0, 1) := by decide +kernel
theorem dX12_runs_160 : decode cX12_runs 160 = .ok (.getfield 71, 3) := by decide +kernel
theorem dX12_runs_163 : decode cX12_runs 163 = .ok (.iload 4, 2) := by decide +kernel
theorem dX12_runs_165 : decode cX12_runs 165 = .ok (.iaload, 1) := by decide +kernel
theorem dX12_runs_166 : decode cX12_runs 166 = .ok (.invokevirtual 302, 3) := by decide +kernel
theorem dX12_runs_169 : decode cX12_runs 169 = .ok (.iastore, 1) := by decide +kernel
theorem dX12_runs_170 : decode cX12_runs 170 = .ok (.iinc 5 1, 3) := by decide +kernel
theorem dX12_runs_173 : decode cX12_runs 173 = .ok (.goto (-161), 3) := by decide +kernel
theorem dX12_runs_176 : decode cX12_runs 176 = .ok (.aload_n 0, 1) := by decide +kernel
theorem dX12_runs_177 : decode cX12_runs 177 = .ok (.getfield 71, 3) := by decide +kernel
theorem dX12_runs_180 : decode cX12_runs 180 = .ok (.iconst 0, 1) := by decide +kernel
theorem dX12_runs_181 : decode cX12_runs 181 = .ok (.iaload, 1) := by decide +kernel
theorem dX12_runs_182 : decode cX12_runs 182 = .ok (.ireturn, 1) := by decide +kernel
set_option maxRecDepth 100000 in
set_option maxHeartbeats 4000000 in
theorem jo_X12_runs_83 {fr : Nat} (hfr : 1 ≤ fr) (Z : AZ) (X : AX Z cX12_runs 6 RX12 (some .int) 1 fr) (x1 : Int32) (x3 : Int32) (x4 : Int32) (x5 : Int32) (t1 : Int32) (t2 : Int32) (s : Mem) (q : (Int32 × Int32 × Mem) ⊕ (Mem)) (h : jn_X12_runs_83 x1 x3 x4 x5 t1 t2 s = some q) (hi : ∀ y : Int32 × Int32 × Mem, q = .inl y → AW Z y.2.2 12 [some (.ref (zr Z 0)), some (.int x1), none, some (.int x3), some (.int y.1), some (.int y.2.1)] []) (he : ∀ b : Mem, q = .inr b → AW Z b 176 [some (.ref (zr Z 0)), none, none, none, none, none] []) : AW Z s 83 [some (.ref (zr Z 0)), some (.int x1), none, some (.int x3), some (.int x4), some (.int x5)] [.int t2, .int t1, .ref (zr Z 20)] := by
  unfold jn_X12_runs_83 at h
  obtain ⟨s8, es8, h⟩ := bnd h
  refine aw_iast X dX12_runs_83 iu_RX12_39 es8 ?_
  refine aw_iload X dX12_runs_84 rfl ?_
  refine aw_iconst (v := 1) X dX12_runs_86 (by decide) ?_
  refine aw_iadd X dX12_runs_87 ?_
  refine aw_istore (L' := [some (.ref (zr Z 0)), some (.int x1), none, some (.int x3), some (.int (x4 + 1)), some (.int x5)]) X dX12_runs_88 (by decide) rfl ?_
  refine aw_goto (tgt := 170) X dX12_runs_90 (by decide) ?_
  refine aw_iinc (v := (x5 + 1)) (L' := [some (.ref (zr Z 0)), some (.int x1), none, some (.int x3), some (.int (x4 + 1)), some (.int (x5 + 1))]) X dX12_runs_170 rfl rfl (by decide) rfl ?_
  refine aw_goto (tgt := 12) X dX12_runs_173 (by decide) ?_
  cases h
  refine aw_msk [true, true, false, true, true, true] ?_
  exact hi _ rfl
set_option maxRecDepth 100000 in
set_option maxHeartbeats 4000000 in
theorem jo_X12_runs_45 {fr : Nat} (hfr : 1 ≤ fr) (Z : AZ) (X : AX Z cX12_runs 6 RX12 (some .int) 1 fr) (x1 : Int32) (x3 : Int32) (x4 : Int32) (x5 : Int32) (s : Mem) (q : (Int32 × Int32 × Mem) ⊕ (Mem)) (h : jn_X12_runs_45 x1 x3 x4 x5 s = some q) (hi : ∀ y : Int32 × Int32 × Mem, q = .inl y → AW Z y.2.2 12 [some (.ref (zr Z 0)), some (.int x1), none, some (.int x3), some (.int y.1), some (.int y.2.1)] []) (he : ∀ b : Mem, q = .inr b → AW Z b 176 [some (.ref (zr Z 0)), none, none, none, none, none] []) : AW Z s 45 [some (.ref (zr Z 0)), some (.int x1), none, some (.int x3), some (.int x4), some (.int x5)] [] := by
  unfold jn_X12_runs_45 at h
  refine aw_aload_n X dX12_runs_45 rfl ?_
  refine aw_getr X dX12_runs_46 fl_RX12_71 iu_RX12 gu_RX12_39 ?_
  refine aw_iload X dX12_runs_49 rfl ?_
  refine aw_aload_n X dX12_runs_51 rfl ?_
  refine aw_getr X dX12_runs_52 fl_RX12_43 iu_RX12 gu_RX12_20 ?_
  refine aw_iload X dX12_runs_55 rfl ?_
  obtain ⟨v4, ev4, h⟩ := bnd h
  refine aw_iald X dX12_runs_57 iu_RX12_20 ev4 ?_
  refine aw_if_ne (tgt := 71) X dX12_runs_58 (by decide) (fun c5 => ?_) (fun c5 => ?_)
  · rw [if_neg c5] at h
    refine aw_aload_n X dX12_runs_71 rfl ?_
    refine aw_getr X dX12_runs_72 fl_RX12_68 iu_RX12 gu_RX12_38 ?_
    refine aw_aload_n X dX12_runs_75 rfl ?_
    refine aw_getr X dX12_runs_76 fl_RX12_46 iu_RX12 gu_RX12_21 ?_
    refine aw_iload X dX12_runs_79 rfl ?_
    obtain ⟨v6, ev6, h⟩ := bnd h
    refine aw_iald X dX12_runs_81 iu_RX12_21 ev6 ?_
    obtain ⟨v7, ev7, h⟩ := bnd h
    refine aw_iald X dX12_runs_82 iu_RX12_38 ev7 ?_
    refine aw_msk [true, true, false, true, true, true] ?_
    exact jo_X12_runs_83 hfr Z X _ _ _ _ _ _ _ _ h hi he
  · rw [if_pos c5] at h
    refine aw_aload_n X dX12_runs_61 rfl ?_
    refine aw_getr X dX12_runs_62 fl_RX12_46 iu_RX12 gu_RX12_21 ?_
    refine aw_iload X dX12_runs_65 rfl ?_
    obtain ⟨v9, ev9, h⟩ := bnd h
    refine aw_iald X dX12_runs_67 iu_RX12_21 ev9 ?_
    refine aw_goto (tgt := 83) X dX12_runs_68 (by decide) ?_
    refine aw_msk [true, true, false, true, true, true] ?_
    exact jo_X12_runs_83 hfr Z X _ _ _ _ _ _ _ _ h hi he
set_option maxRecDepth 100000 in
set_option maxHeartbeats 4000000 in
theorem so_X12_runs_12 {fr : Nat} (hfr : 1 ≤ fr) (Z : AZ) (X : AX Z cX12_runs 6 RX12 (some .int) 1 fr) (x1 : Int32) (x3 : Int32) (x4 : Int32) (x5 : Int32) (s : Mem) (q : (Int32 × Int32 × Mem) ⊕ (Mem)) (h : st_X12_runs_12 x1 x3 x4 x5 s = some q) (hi : ∀ y : Int32 × Int32 × Mem, q = .inl y → AW Z y.2.2 12 [some (.ref (zr Z 0)), some (.int x1), none, some (.int x3), some (.int y.1), some (.int y.2.1)] []) (he : ∀ b : Mem, q = .inr b → AW Z b 176 [some (.ref (zr Z 0)), none, none, none, none, none] []) : AW Z s 12 [some (.ref (zr Z 0)), some (.int x1), none, some (.int x3), some (.int x4), some (.int x5)] [] := by
  unfold st_X12_runs_12 at h
  refine aw_iload X dX12_runs_12 rfl ?_
  refine aw_sipush (v := 400) X dX12_runs_14 (by decide) ?_
  refine aw_iload_n X dX12_runs_17 rfl ?_
  refine aw_imul X dX12_runs_18 ?_
  refine aw_iload_n X dX12_runs_19 rfl ?_
  refine aw_iadd X dX12_runs_20 ?_
  refine aw_icmp_ge (tgt := 176) X dX12_runs_21 (by decide) (fun c1 => ?_) (fun c1 => ?_)
  · rw [if_pos c1] at h
    cases h
    refine aw_msk [true, false, false, false, false, false] ?_
    exact he _ rfl
  · rw [if_neg c1] at h
    refine aw_aload_n X dX12_runs_24 rfl ?_
    refine aw_getr X dX12_runs_25 fl_RX12_43 iu_RX12 gu_RX12_20 ?_
    refine aw_iload X dX12_runs_28 rfl ?_
    obtain ⟨v2, ev2, h⟩ := bnd h
    refine aw_iald X dX12_runs_30 iu_RX12_20 ev2 ?_
    refine aw_if_eq (tgt := 45) X dX12_runs_31 (by decide) (fun c3 => ?_) (fun c3 => ?_)
    · rw [if_pos c3] at h
      refine aw_msk [true, true, false, true, true, true] ?_
      exact jo_X12_runs_45 hfr Z X _ _ _ _ _ _ h hi he
    · rw [if_neg c3] at h
      refine aw_aload_n X dX12_runs_34 rfl ?_
      refine aw_getr X dX12_runs_35 fl_RX12_43 iu_RX12 gu_RX12_20 ?_
      refine aw_iload X dX12_runs_38 rfl ?_
      obtain ⟨v10, ev10, h⟩ := bnd h
      refine aw_iald X dX12_runs_40 iu_RX12_20 ev10 ?_
      refine aw_iconst (v := 1) X dX12_runs_41 (by decide) ?_
      refine aw_icmp_ne (tgt := 93) X dX12_runs_42 (by decide) (fun c11 => ?_) (fun c11 => ?_)
      · rw [if_neg c11] at h
        refine aw_aload_n X dX12_runs_93 rfl ?_
        refine aw_getr X dX12_runs_94 fl_RX12_43 iu_RX12 gu_RX12_20 ?_
        refine aw_iload X dX12_runs_97 rfl ?_
        obtain ⟨v12, ev12, h⟩ := bnd h
        refine aw_iald X dX12_runs_99 iu_RX12_20 ev12 ?_
        refine aw_bipush (v := 9) X dX12_runs_100 (by decide) ?_
        refine aw_icmp_ne (tgt := 128) X dX12_runs_102 (by decide) (fun c13 => ?_) (fun c13 => ?_)
        · rw [if_neg c13] at h
          refine aw_iload X dX12_runs_128 rfl ?_
          refine aw_iconst (v := 1) X dX12_runs_130 (by decide) ?_
          refine aw_isub X dX12_runs_131 ?_
          refine aw_istore (L' := [some (.ref (zr Z 0)), some (.int x1), none, some (.int x3), some (.int (x4 - 1)), some (.int x5)]) X dX12_runs_132 (by decide) rfl ?_
          refine aw_aload_n X dX12_runs_134 rfl ?_
          refine aw_getr X dX12_runs_135 fl_RX12_71 iu_RX12 gu_RX12_39 ?_
          refine aw_iload X dX12_runs_138 rfl ?_
          refine aw_iconst (v := 1) X dX12_runs_140 (by decide) ?_
          refine aw_isub X dX12_runs_141 ?_
          refine aw_aload_n X dX12_runs_142 rfl ?_
          refine aw_aload_n X dX12_runs_143 rfl ?_
          refine aw_getr X dX12_runs_144 fl_RX12_43 iu_RX12 gu_RX12_20 ?_
          refine aw_iload X dX12_runs_147 rfl ?_
          obtain ⟨v14, ev14, h⟩ := bnd h
          refine aw_iald X dX12_runs_149 iu_RX12_20 ev14 ?_
          refine aw_aload_n X dX12_runs_150 rfl ?_
          refine aw_getr X dX12_runs_151 fl_RX12_71 iu_RX12 gu_RX12_39 ?_
          refine aw_iload X dX12_runs_154 rfl ?_
          refine aw_iconst (v := 1) X dX12_runs_156 (by decide) ?_
          refine aw_isub X dX12_runs_157 ?_
          obtain ⟨v15, ev15, h⟩ := bnd h
          refine aw_iald X dX12_runs_158 iu_RX12_39 ev15 ?_
          refine aw_aload_n X dX12_runs_159 rfl ?_
          refine aw_getr X dX12_runs_160 fl_RX12_71 iu_RX12 gu_RX12_39 ?_
          refine aw_iload X dX12_runs_163 rfl ?_
          obtain ⟨v16, ev16, h⟩ := bnd h
          refine aw_iald X dX12_runs_165 iu_RX12_39 ev16 ?_
          obtain ⟨r17, er17, h⟩ := bnd h
          refine aw_callV X dX12_runs_166 cv_RX12_302 (ok_X12_twoOf er17 _ _ _ _ _) iu_RX12 rfl (Nat.le_trans (by decide) hfr) (by decide) rfl rfl (Nat.le_of_ble_eq_true rfl) ?_
          obtain ⟨s18, es18, h⟩ := bnd h
          refine aw_iast X dX12_runs_169 iu_RX12_39 es18 ?_
          refine aw_iinc (v := (x5 + 1)) (L' := [some (.ref (zr Z 0)), some (.int x1), none, some (.int x3), some (.int (x4 - 1)), some (.int (x5 + 1))]) X dX12_runs_170 rfl rfl (by decide) rfl ?_
          refine aw_goto (tgt := 12) X dX12_runs_173 (by decide) ?_
          cases h
          refine aw_msk [true, true, false, true, true, true] ?_
          exact hi _ rfl
        · rw [if_pos c13] at h
          refine aw_aload_n X dX12_runs_105 rfl ?_
          refine aw_getr X dX12_runs_106 fl_RX12_71 iu_RX12 gu_RX12_39 ?_
          refine aw_iload X dX12_runs_109 rfl ?_
          refine aw_iconst (v := 1) X dX12_runs_111 (by decide) ?_
          refine aw_isub X dX12_runs_112 ?_
          refine aw_iconst (v := 1) X dX12_runs_113 (by decide) ?_
          refine aw_aload_n X dX12_runs_114 rfl ?_
          refine aw_getr X dX12_runs_115 fl_RX12_71 iu_RX12 gu_RX12_39 ?_
          refine aw_iload X dX12_runs_118 rfl ?_
          refine aw_iconst (v := 1) X dX12_runs_120 (by decide) ?_
          refine aw_isub X dX12_runs_121 ?_
          obtain ⟨v19, ev19, h⟩ := bnd h
          refine aw_iald X dX12_runs_122 iu_RX12_39 ev19 ?_
          refine aw_isub X dX12_runs_123 ?_
          obtain ⟨s20, es20, h⟩ := bnd h
          refine aw_iast X dX12_runs_124 iu_RX12_39 es20 ?_
          refine aw_goto (tgt := 170) X dX12_runs_125 (by decide) ?_
          refine aw_iinc (v := (x5 + 1)) (L' := [some (.ref (zr Z 0)), some (.int x1), none, some (.int x3), some (.int x4), some (.int (x5 + 1))]) X dX12_runs_170 rfl rfl (by decide) rfl ?_
          refine aw_goto (tgt := 12) X dX12_runs_173 (by decide) ?_
          cases h
          refine aw_msk [true, true, false, true, true, true] ?_
          exact hi _ rfl
      · rw [if_pos c11] at h
        refine aw_msk [true, true, false, true, true, true] ?_
        exact jo_X12_runs_45 hfr Z X _ _ _ _ _ _ h hi he
set_option maxRecDepth 100000 in
set_option maxHeartbeats 4000000 in
theorem w_X12_runs {fr : Nat} (hfr : 1 ≤ fr) (Z : AZ) (X : AX Z cX12_runs 6 RX12 (some .int) 1 fr) (x1 : Int32) (x2 : Int32) (x3 : Int32) (s : Mem) (r : Int32 × Mem) (hz : zres Z = (some (.int r.1), r.2)) (h : f_X12_runs x1 x2 x3 s = some r) : AW Z s 0 [some (.ref (zr Z 0)), some (.int x1), some (.int x2), some (.int x3), none, none] [] := by
  unfold f_X12_runs at h
  refine aw_iconst (v := 0) X dX12_runs_0 (by decide) ?_
  refine aw_istore (L' := [some (.ref (zr Z 0)), some (.int x1), some (.int x2), some (.int x3), some (.int 0), none]) X dX12_runs_1 (by decide) rfl ?_
  refine aw_sipush (v := 400) X dX12_runs_3 (by decide) ?_
  refine aw_iload_n X dX12_runs_6 rfl ?_
  refine aw_imul X dX12_runs_7 ?_
  refine aw_iload_n X dX12_runs_8 rfl ?_
  refine aw_iadd X dX12_runs_9 ?_
  refine aw_istore (L' := [some (.ref (zr Z 0)), some (.int x1), some (.int x2), some (.int x3), some (.int 0), some (.int ((400 * x1) + x2))]) X dX12_runs_10 (by decide) rfl ?_
  obtain ⟨r21, er21, h⟩ := bnd h
  refine aw_msk [true, true, false, true, true, true] ?_
  refine it_ok (P := fun y : Int32 × Int32 × Mem => AW Z y.2.2 12 [some (.ref (zr Z 0)), some (.int x1), none, some (.int x3), some (.int y.1), some (.int y.2.1)] []) (Q := fun b : Mem => AW Z b 176 [some (.ref (zr Z 0)), none, none, none, none, none] []) (fun y q hq hi he => so_X12_runs_12 hfr Z X x1 x3 y.1 y.2.1 y.2.2 q hq hi he) FUEL _ _ er21 ?_
  refine aw_aload_n X dX12_runs_176 rfl ?_
  refine aw_getr X dX12_runs_177 fl_RX12_71 iu_RX12 gu_RX12_39 ?_
  refine aw_iconst (v := 0) X dX12_runs_180 (by decide) ?_
  obtain ⟨v22, ev22, h⟩ := bnd h
  refine aw_iald X dX12_runs_181 iu_RX12_39 ev22 ?_
  cases h
  exact aw_iret X dX12_runs_182 rfl hz.symm
set_option maxRecDepth 100000 in
set_option maxHeartbeats 4000000 in
theorem ok_X12_runs {x1 x2 x3 : Int32} {s : Mem} {r : Int32 × Mem} (h : f_X12_runs x1 x2 x3 s = some r) (l : Launch) (D : va_G) (ρ : Nat → Nat) (cA : ClassId × ClassId × ClassId) (τ : AT) : AM l D ρ cA 1 τ yX12_runs cX12_runs 6 (some .int) 1 [.ref (ρ 0), .int x1, .int x2, .int x3] (some (.int r.1)) s r.2 := by
  refine AM_of (L := [some (.ref (ρ 0)), some (.int x1), some (.int x2), some (.int x3), none, none]) (by decide) (by simp [Value.category]) (Nat.le_of_ble_eq_true rfl) (fun j v q => ?_) (fun Z X hρ hz hτ => ?_)
  · exact aL_ok (n := 2) [.ref (ρ 0), .int x1, .int x2, .int x3] j v q
  · subst hρ
    subst hτ
    exact w_X12_runs (Nat.le_refl _) Z X x1 x2 x3 s r hz h

theorem dX12_lineOf_0 : decode cX12_lineOf 0 = .ok (.iconst 0, 1) := by decide +kernel
theorem dX12_lineOf_1 : decode cX12_lineOf 1 = .ok (.istore_n 2, 1) := by decide +kernel
theorem dX12_lineOf_2 : decode cX12_lineOf 2 = .ok (.iload_n 2, 1) := by decide +kernel
theorem dX12_lineOf_3 : decode cX12_lineOf 3 = .ok (.aload_n 0, 1) := by decide +kernel
theorem dX12_lineOf_4 : decode cX12_lineOf 4 = .ok (.getfield 28, 3) := by decide +kernel
theorem dX12_lineOf_7 : decode cX12_lineOf 7 = .ok (.iconst 0, 1) := by decide +kernel
theorem dX12_lineOf_8 : decode cX12_lineOf 8 = .ok (.iaload, 1) := by decide +kernel
theorem dX12_lineOf_9 : decode cX12_lineOf 9 = .ok (.if_icmp .ge 56, 3) := by decide +kernel
theorem dX12_lineOf_12 : decode cX12_lineOf 12 = .ok (.aload_n 0, 1) := by decide +kernel
theorem dX12_lineOf_13 : decode cX12_lineOf 13 = .ok (.getfield 31, 3) := by decide +kernel
theorem dX12_lineOf_16 : decode cX12_lineOf 16 = .ok (.iload_n 2, 1) := by decide +kernel
theorem dX12_lineOf_17 : decode cX12_lineOf 17 = .ok (.iaload, 1) := by decide +kernel
theorem dX12_lineOf_18 : decode cX12_lineOf 18 = .ok (.iload_n 1, 1) := by decide +kernel
theorem dX12_lineOf_19 : decode cX12_lineOf 19 = .ok (.if_icmp .ne 40, 3) := by decide +kernel
theorem dX12_lineOf_22 : decode cX12_lineOf 22 = .ok (.aload_n 0, 1) := by decide +kernel
theorem dX12_lineOf_23 : decode cX12_lineOf 23 = .ok (.getfield 37, 3) := by decide +kernel
theorem dX12_lineOf_26 : decode cX12_lineOf 26 = .ok (.iload_n 2, 1) := by decide +kernel
theorem dX12_lineOf_27 : decode cX12_lineOf 27 = .ok (.iaload, 1) := by decide +kernel
theorem dX12_lineOf_28 : decode cX12_lineOf 28 = .ok (.aload_n 0, 1) := by decide +kernel
theorem dX12_lineOf_29 : decode cX12_lineOf 29 = .ok (.getfield 40, 3) := by decide +kernel
theorem dX12_lineOf_32 : decode cX12_lineOf 32 = .ok (.iload_n 2, 1) := by decide +kernel
theorem dX12_lineOf_33 : decode cX12_lineOf 33 = .ok (.iaload, 1) := by decide +kernel
theorem dX12_lineOf_34 : decode cX12_lineOf 34 = .ok (.if_icmp .eq 23, 3) := by decide +kernel
theorem dX12_lineOf_37 : decode cX12_lineOf 37 = .ok (.aload_n 0, 1) := by decide +kernel
theorem dX12_lineOf_38 : decode cX12_lineOf 38 = .ok (.iconst 0, 1) := by decide +kernel
theorem dX12_lineOf_39 : decode cX12_lineOf 39 = .ok (.aload_n 0, 1) := by decide +kernel
theorem dX12_lineOf_40 : decode cX12_lineOf 40 = .ok (.getfield 37, 3) := by decide +kernel
theorem dX12_lineOf_43 : decode cX12_lineOf 43 = .ok (.iload_n 2, 1) := by decide +kernel
theorem dX12_lineOf_44 : decode cX12_lineOf 44 = .ok (.iaload, 1) := by decide +kernel
theorem dX12_lineOf_45 : decode cX12_lineOf 45 = .ok (.aload_n 0, 1) := by decide +kernel
theorem dX12_lineOf_46 : decode cX12_lineOf 46 = .ok (.getfield 40, 3) := by decide +kernel
theorem dX12_lineOf_49 : decode cX12_lineOf 49 = .ok (.iload_n 2, 1) := by decide +kernel
theorem dX12_lineOf_50 : decode cX12_lineOf 50 = .ok (.iaload, 1) := by decide +kernel
theorem dX12_lineOf_51 : decode cX12_lineOf 51 = .ok (.invokevirtual 305, 3) := by decide +kernel
theorem dX12_lineOf_54 : decode cX12_lineOf 54 = .ok (.ifCond .eq 5, 3) := by decide +kernel
theorem dX12_lineOf_57 : decode cX12_lineOf 57 = .ok (.iload_n 2, 1) := by decide +kernel
theorem dX12_lineOf_58 : decode cX12_lineOf 58 = .ok (.ireturn, 1) := by decide +kernel
theorem dX12_lineOf_59 : decode cX12_lineOf 59 = .ok (.iinc 2 1, 3) := by decide +kernel
theorem dX12_lineOf_62 : decode cX12_lineOf 62 = .ok (.goto (-60), 3) := by decide +kernel
theorem dX12_lineOf_65 : decode cX12_lineOf 65 = .ok (.iconst (-1), 1) := by decide +kernel
theorem dX12_lineOf_66 : decode cX12_lineOf 66 = .ok (.ireturn, 1) := by decide +kernel
set_option maxRecDepth 100000 in
set_option maxHeartbeats 4000000 in
theorem so_X12_lineOf_2 {fr : Nat} (hfr : 2 ≤ fr) (Z : AZ) (X : AX Z cX12_lineOf 3 RX12 (some .int) 1 fr) (x1 : Int32) (x2 : Int32) (s : Mem) (q : (Int32 × Mem) ⊕ (Nat × Int32 × Mem)) (h : st_X12_lineOf_2 x1 x2 s = some q) (hi : ∀ y : Int32 × Mem, q = .inl y → AW Z y.2 2 [some (.ref (zr Z 0)), some (.int x1), some (.int y.1)] []) (he : ∀ b : Nat × Int32 × Mem, q = .inr b → (b.1 = 0 → AW Z b.2.2 57 [none, none, some (.int b.2.1)] []) ∧ (b.1 = 1 → AW Z b.2.2 65 [none, none, none] [])) : AW Z s 2 [some (.ref (zr Z 0)), some (.int x1), some (.int x2)] [] := by
  unfold st_X12_lineOf_2 at h
  refine aw_iload_n X dX12_lineOf_2 rfl ?_
  refine aw_aload_n X dX12_lineOf_3 rfl ?_
  refine aw_getr X dX12_lineOf_4 fl_RX12_28 iu_RX12 gu_RX12_15 ?_
  refine aw_iconst (v := 0) X dX12_lineOf_7 (by decide) ?_
  obtain ⟨v1, ev1, h⟩ := bnd h
  refine aw_iald X dX12_lineOf_8 iu_RX12_15 ev1 ?_
  refine aw_icmp_ge (tgt := 65) X dX12_lineOf_9 (by decide) (fun c2 => ?_) (fun c2 => ?_)
  · rw [if_pos c2] at h
    cases h
    refine aw_msk [false, false, false] ?_
    exact (he _ rfl).2 rfl
  · rw [if_neg c2] at h
    refine aw_aload_n X dX12_lineOf_12 rfl ?_
    refine aw_getr X dX12_lineOf_13 fl_RX12_31 iu_RX12 gu_RX12_16 ?_
    refine aw_iload_n X dX12_lineOf_16 rfl ?_
    obtain ⟨v3, ev3, h⟩ := bnd h
    refine aw_iald X dX12_lineOf_17 iu_RX12_16 ev3 ?_
    refine aw_iload_n X dX12_lineOf_18 rfl ?_
    refine aw_icmp_ne (tgt := 59) X dX12_lineOf_19 (by decide) (fun c4 => ?_) (fun c4 => ?_)
    · rw [if_neg c4] at h
      refine aw_iinc (v := (x2 + 1)) (L' := [some (.ref (zr Z 0)), some (.int x1), some (.int (x2 + 1))]) X dX12_lineOf_59 rfl rfl (by decide) rfl ?_
      refine aw_goto (tgt := 2) X dX12_lineOf_62 (by decide) ?_
      cases h
      refine aw_msk [true, true, true] ?_
      exact hi _ rfl
    · rw [if_pos c4] at h
      refine aw_aload_n X dX12_lineOf_22 rfl ?_
      refine aw_getr X dX12_lineOf_23 fl_RX12_37 iu_RX12 gu_RX12_18 ?_
      refine aw_iload_n X dX12_lineOf_26 rfl ?_
      obtain ⟨v5, ev5, h⟩ := bnd h
      refine aw_iald X dX12_lineOf_27 iu_RX12_18 ev5 ?_
      refine aw_aload_n X dX12_lineOf_28 rfl ?_
      refine aw_getr X dX12_lineOf_29 fl_RX12_40 iu_RX12 gu_RX12_19 ?_
      refine aw_iload_n X dX12_lineOf_32 rfl ?_
      obtain ⟨v6, ev6, h⟩ := bnd h
      refine aw_iald X dX12_lineOf_33 iu_RX12_19 ev6 ?_
      refine aw_icmp_eq (tgt := 57) X dX12_lineOf_34 (by decide) (fun c7 => ?_) (fun c7 => ?_)
      · rw [if_pos c7] at h
        cases h
        refine aw_msk [false, false, true] ?_
        exact (he _ rfl).1 rfl
      · rw [if_neg c7] at h
        refine aw_aload_n X dX12_lineOf_37 rfl ?_
        refine aw_iconst (v := 0) X dX12_lineOf_38 (by decide) ?_
        refine aw_aload_n X dX12_lineOf_39 rfl ?_
        refine aw_getr X dX12_lineOf_40 fl_RX12_37 iu_RX12 gu_RX12_18 ?_
        refine aw_iload_n X dX12_lineOf_43 rfl ?_
        obtain ⟨v8, ev8, h⟩ := bnd h
        refine aw_iald X dX12_lineOf_44 iu_RX12_18 ev8 ?_
        refine aw_aload_n X dX12_lineOf_45 rfl ?_
        refine aw_getr X dX12_lineOf_46 fl_RX12_40 iu_RX12 gu_RX12_19 ?_
        refine aw_iload_n X dX12_lineOf_49 rfl ?_
        obtain ⟨v9, ev9, h⟩ := bnd h
        refine aw_iald X dX12_lineOf_50 iu_RX12_19 ev9 ?_
        obtain ⟨r10, er10, h⟩ := bnd h
        refine aw_callV X dX12_lineOf_51 cv_RX12_305 (ok_X12_runs er10 _ _ _ _ _) iu_RX12 rfl (Nat.le_trans (by decide) hfr) (by decide) rfl rfl (Nat.le_of_ble_eq_true rfl) ?_
        refine aw_if_eq (tgt := 59) X dX12_lineOf_54 (by decide) (fun c11 => ?_) (fun c11 => ?_)
        · rw [if_pos c11] at h
          refine aw_iinc (v := (x2 + 1)) (L' := [some (.ref (zr Z 0)), some (.int x1), some (.int (x2 + 1))]) X dX12_lineOf_59 rfl rfl (by decide) rfl ?_
          refine aw_goto (tgt := 2) X dX12_lineOf_62 (by decide) ?_
          cases h
          refine aw_msk [true, true, true] ?_
          exact hi _ rfl
        · rw [if_neg c11] at h
          cases h
          refine aw_msk [false, false, true] ?_
          exact (he _ rfl).1 rfl
set_option maxRecDepth 100000 in
set_option maxHeartbeats 4000000 in
theorem w_X12_lineOf {fr : Nat} (hfr : 2 ≤ fr) (Z : AZ) (X : AX Z cX12_lineOf 3 RX12 (some .int) 1 fr) (x1 : Int32) (s : Mem) (r : Int32 × Mem) (hz : zres Z = (some (.int r.1), r.2)) (h : f_X12_lineOf x1 s = some r) : AW Z s 0 [some (.ref (zr Z 0)), some (.int x1), none] [] := by
  unfold f_X12_lineOf at h
  refine aw_iconst (v := 0) X dX12_lineOf_0 (by decide) ?_
  refine aw_istore_n (L' := [some (.ref (zr Z 0)), some (.int x1), some (.int 0)]) X dX12_lineOf_1 (by decide) rfl ?_
  obtain ⟨r12, er12, h⟩ := bnd h
  refine aw_msk [true, true, true] ?_
  refine it_ok (P := fun y : Int32 × Mem => AW Z y.2 2 [some (.ref (zr Z 0)), some (.int x1), some (.int y.1)] []) (Q := fun b : Nat × Int32 × Mem => (b.1 = 0 → AW Z b.2.2 57 [none, none, some (.int b.2.1)] []) ∧ (b.1 = 1 → AW Z b.2.2 65 [none, none, none] [])) (fun y q hq hi he => so_X12_lineOf_2 hfr Z X x1 y.1 y.2 q hq hi he) FUEL _ _ er12 ?_
  refine ⟨fun c0 => ?_, fun c1 => ?_⟩
  · rw [if_pos c0] at h
    refine aw_iload_n X dX12_lineOf_57 rfl ?_
    cases h
    exact aw_iret X dX12_lineOf_58 rfl hz.symm
  · rw [if_neg (by rw [c1]; decide)] at h
    refine aw_iconst (v := (-1)) X dX12_lineOf_65 (by decide) ?_
    cases h
    exact aw_iret X dX12_lineOf_66 rfl hz.symm
set_option maxRecDepth 100000 in
set_option maxHeartbeats 4000000 in
theorem ok_X12_lineOf {x1 : Int32} {s : Mem} {r : Int32 × Mem} (h : f_X12_lineOf x1 s = some r) (l : Launch) (D : va_G) (ρ : Nat → Nat) (cA : ClassId × ClassId × ClassId) (τ : AT) : AM l D ρ cA 1 τ yX12_lineOf cX12_lineOf 3 (some .int) 2 [.ref (ρ 0), .int x1] (some (.int r.1)) s r.2 := by
  refine AM_of (L := [some (.ref (ρ 0)), some (.int x1), none]) (by decide) (by simp [Value.category]) (Nat.le_of_ble_eq_true rfl) (fun j v q => ?_) (fun Z X hρ hz hτ => ?_)
  · exact aL_ok (n := 1) [.ref (ρ 0), .int x1] j v q
  · subst hρ
    subst hτ
    exact w_X12_lineOf (Nat.le_refl _) Z X x1 s r hz h

theorem dX12_nameOf_0 : decode cX12_nameOf 0 = .ok (.aload_n 0, 1) := by decide +kernel
theorem dX12_nameOf_1 : decode cX12_nameOf 1 = .ok (.getfield 65, 3) := by decide +kernel
theorem dX12_nameOf_4 : decode cX12_nameOf 4 = .ok (.bipush 6, 2) := by decide +kernel
theorem dX12_nameOf_6 : decode cX12_nameOf 6 = .ok (.iload_n 1, 1) := by decide +kernel
theorem dX12_nameOf_7 : decode cX12_nameOf 7 = .ok (.imul, 1) := by decide +kernel
theorem dX12_nameOf_8 : decode cX12_nameOf 8 = .ok (.iload_n 2, 1) := by decide +kernel
theorem dX12_nameOf_9 : decode cX12_nameOf 9 = .ok (.iadd, 1) := by decide +kernel
theorem dX12_nameOf_10 : decode cX12_nameOf 10 = .ok (.iaload, 1) := by decide +kernel
theorem dX12_nameOf_11 : decode cX12_nameOf 11 = .ok (.ireturn, 1) := by decide +kernel
set_option maxRecDepth 100000 in
set_option maxHeartbeats 4000000 in
theorem w_X12_nameOf {fr : Nat} (hfr : 0 ≤ fr) (Z : AZ) (X : AX Z cX12_nameOf 3 RX12 (some .int) 1 fr) (x1 : Int32) (x2 : Int32) (s : Mem) (r : Int32 × Mem) (hz : zres Z = (some (.int r.1), r.2)) (h : f_X12_nameOf x1 x2 s = some r) : AW Z s 0 [some (.ref (zr Z 0)), some (.int x1), some (.int x2)] [] := by
  unfold f_X12_nameOf at h
  refine aw_aload_n X dX12_nameOf_0 rfl ?_
  refine aw_getr X dX12_nameOf_1 fl_RX12_65 iu_RX12 gu_RX12_37 ?_
  refine aw_bipush (v := 6) X dX12_nameOf_4 (by decide) ?_
  refine aw_iload_n X dX12_nameOf_6 rfl ?_
  refine aw_imul X dX12_nameOf_7 ?_
  refine aw_iload_n X dX12_nameOf_8 rfl ?_
  refine aw_iadd X dX12_nameOf_9 ?_
  obtain ⟨v1, ev1, h⟩ := bnd h
  refine aw_iald X dX12_nameOf_10 iu_RX12_37 ev1 ?_
  cases h
  exact aw_iret X dX12_nameOf_11 rfl hz.symm
set_option maxRecDepth 100000 in
set_option maxHeartbeats 4000000 in
theorem ok_X12_nameOf {x1 x2 : Int32} {s : Mem} {r : Int32 × Mem} (h : f_X12_nameOf x1 x2 s = some r) (l : Launch) (D : va_G) (ρ : Nat → Nat) (cA : ClassId × ClassId × ClassId) (τ : AT) : AM l D ρ cA 1 τ yX12_nameOf cX12_nameOf 3 (some .int) 0 [.ref (ρ 0), .int x1, .int x2] (some (.int r.1)) s r.2 := by
  refine AM_of (L := [some (.ref (ρ 0)), some (.int x1), some (.int x2)]) (by decide) (by simp [Value.category]) (Nat.le_of_ble_eq_true rfl) (fun j v q => ?_) (fun Z X hρ hz hτ => ?_)
  · exact aL_ok (n := 0) [.ref (ρ 0), .int x1, .int x2] j v q
  · subst hρ
    subst hτ
    exact w_X12_nameOf (Nat.le_refl _) Z X x1 x2 s r hz h

theorem dX12_isToldAhead_0 : decode cX12_isToldAhead 0 = .ok (.iconst 0, 1) := by decide +kernel
theorem dX12_isToldAhead_1 : decode cX12_isToldAhead 1 = .ok (.istore 4, 2) := by decide +kernel
theorem dX12_isToldAhead_3 : decode cX12_isToldAhead 3 = .ok (.iload 4, 2) := by decide +kernel
theorem dX12_isToldAhead_5 : decode cX12_isToldAhead 5 = .ok (.iload_n 3, 1) := by decide +kernel
theorem dX12_isToldAhead_6 : decode cX12_isToldAhead 6 = .ok (.if_icmp .ge 22, 3) := by decide +kernel
theorem dX12_isToldAhead_9 : decode cX12_isToldAhead 9 = .ok (.aload_n 0, 1) := by decide +kernel
theorem dX12_isToldAhead_10 : decode cX12_isToldAhead 10 = .ok (.iload_n 1, 1) := by decide +kernel
theorem dX12_isToldAhead_11 : decode cX12_isToldAhead 11 = .ok (.iload 4, 2) := by decide +kernel
theorem dX12_isToldAhead_13 : decode cX12_isToldAhead 13 = .ok (.invokevirtual 308, 3) := by decide +kernel
theorem dX12_isToldAhead_16 : decode cX12_isToldAhead 16 = .ok (.iload_n 2, 1) := by decide +kernel
theorem dX12_isToldAhead_17 : decode cX12_isToldAhead 17 = .ok (.if_icmp .ne 5, 3) := by decide +kernel
theorem dX12_isToldAhead_20 : decode cX12_isToldAhead 20 = .ok (.iconst 1, 1) := by decide +kernel
theorem dX12_isToldAhead_21 : decode cX12_isToldAhead 21 = .ok (.ireturn, 1) := by decide +kernel
theorem dX12_isToldAhead_22 : decode cX12_isToldAhead 22 = .ok (.iinc 4 1, 3) := by decide +kernel
theorem dX12_isToldAhead_25 : decode cX12_isToldAhead 25 = .ok (.goto (-22), 3) := by decide +kernel
theorem dX12_isToldAhead_28 : decode cX12_isToldAhead 28 = .ok (.iconst 0, 1) := by decide +kernel
theorem dX12_isToldAhead_29 : decode cX12_isToldAhead 29 = .ok (.ireturn, 1) := by decide +kernel
set_option maxRecDepth 100000 in
set_option maxHeartbeats 4000000 in
theorem so_X12_isToldAhead_3 {fr : Nat} (hfr : 1 ≤ fr) (Z : AZ) (X : AX Z cX12_isToldAhead 5 RX12 (some .boolean) 1 fr) (x1 : Int32) (x2 : Int32) (x3 : Int32) (x4 : Int32) (s : Mem) (q : (Int32 × Mem) ⊕ (Nat × Mem)) (h : st_X12_isToldAhead_3 x1 x2 x3 x4 s = some q) (hi : ∀ y : Int32 × Mem, q = .inl y → AW Z y.2 3 [some (.ref (zr Z 0)), some (.int x1), some (.int x2), some (.int x3), some (.int y.1)] []) (he : ∀ b : Nat × Mem, q = .inr b → (b.1 = 0 → AW Z b.2 20 [none, none, none, none, none] []) ∧ (b.1 = 1 → AW Z b.2 28 [none, none, none, none, none] [])) : AW Z s 3 [some (.ref (zr Z 0)), some (.int x1), some (.int x2), some (.int x3), some (.int x4)] [] := by
  unfold st_X12_isToldAhead_3 at h
  refine aw_iload X dX12_isToldAhead_3 rfl ?_
  refine aw_iload_n X dX12_isToldAhead_5 rfl ?_
  refine aw_icmp_ge (tgt := 28) X dX12_isToldAhead_6 (by decide) (fun c1 => ?_) (fun c1 => ?_)
  · rw [if_pos c1] at h
    cases h
    refine aw_msk [false, false, false, false, false] ?_
    exact (he _ rfl).2 rfl
  · rw [if_neg c1] at h
    refine aw_aload_n X dX12_isToldAhead_9 rfl ?_
    refine aw_iload_n X dX12_isToldAhead_10 rfl ?_
    refine aw_iload X dX12_isToldAhead_11 rfl ?_
    obtain ⟨r2, er2, h⟩ := bnd h
    refine aw_callV X dX12_isToldAhead_13 cv_RX12_308 (ok_X12_nameOf er2 _ _ _ _ _) iu_RX12 rfl (Nat.le_trans (by decide) hfr) (by decide) rfl rfl (Nat.le_of_ble_eq_true rfl) ?_
    refine aw_iload_n X dX12_isToldAhead_16 rfl ?_
    refine aw_icmp_ne (tgt := 22) X dX12_isToldAhead_17 (by decide) (fun c3 => ?_) (fun c3 => ?_)
    · rw [if_neg c3] at h
      refine aw_iinc (v := (x4 + 1)) (L' := [some (.ref (zr Z 0)), some (.int x1), some (.int x2), some (.int x3), some (.int (x4 + 1))]) X dX12_isToldAhead_22 rfl rfl (by decide) rfl ?_
      refine aw_goto (tgt := 3) X dX12_isToldAhead_25 (by decide) ?_
      cases h
      refine aw_msk [true, true, true, true, true] ?_
      exact hi _ rfl
    · rw [if_pos c3] at h
      cases h
      refine aw_msk [false, false, false, false, false] ?_
      exact (he _ rfl).1 rfl
set_option maxRecDepth 100000 in
set_option maxHeartbeats 4000000 in
theorem w_X12_isToldAhead {fr : Nat} (hfr : 1 ≤ fr) (Z : AZ) (X : AX Z cX12_isToldAhead 5 RX12 (some .boolean) 1 fr) (x1 : Int32) (x2 : Int32) (x3 : Int32) (s : Mem) (r : Int32 × Mem) (hz : zres Z = (some (.int r.1), r.2)) (h : f_X12_isToldAhead x1 x2 x3 s = some r) : AW Z s 0 [some (.ref (zr Z 0)), some (.int x1), some (.int x2), some (.int x3), none] [] := by
  unfold f_X12_isToldAhead at h
  refine aw_iconst (v := 0) X dX12_isToldAhead_0 (by decide) ?_
  refine aw_istore (L' := [some (.ref (zr Z 0)), some (.int x1), some (.int x2), some (.int x3), some (.int 0)]) X dX12_isToldAhead_1 (by decide) rfl ?_
  obtain ⟨r4, er4, h⟩ := bnd h
  refine aw_msk [true, true, true, true, true] ?_
  refine it_ok (P := fun y : Int32 × Mem => AW Z y.2 3 [some (.ref (zr Z 0)), some (.int x1), some (.int x2), some (.int x3), some (.int y.1)] []) (Q := fun b : Nat × Mem => (b.1 = 0 → AW Z b.2 20 [none, none, none, none, none] []) ∧ (b.1 = 1 → AW Z b.2 28 [none, none, none, none, none] [])) (fun y q hq hi he => so_X12_isToldAhead_3 hfr Z X x1 x2 x3 y.1 y.2 q hq hi he) FUEL _ _ er4 ?_
  refine ⟨fun c0 => ?_, fun c1 => ?_⟩
  · rw [if_pos c0] at h
    refine aw_iconst (v := 1) X dX12_isToldAhead_20 (by decide) ?_
    cases h
    exact aw_zret X dX12_isToldAhead_21 rfl rfl hz.symm
  · rw [if_neg (by rw [c1]; decide)] at h
    refine aw_iconst (v := 0) X dX12_isToldAhead_28 (by decide) ?_
    cases h
    exact aw_zret X dX12_isToldAhead_29 rfl rfl hz.symm
set_option maxRecDepth 100000 in
set_option maxHeartbeats 4000000 in
theorem ok_X12_isToldAhead {x1 x2 x3 : Int32} {s : Mem} {r : Int32 × Mem} (h : f_X12_isToldAhead x1 x2 x3 s = some r) (l : Launch) (D : va_G) (ρ : Nat → Nat) (cA : ClassId × ClassId × ClassId) (τ : AT) : AM l D ρ cA 1 τ yX12_isToldAhead cX12_isToldAhead 5 (some .boolean) 1 [.ref (ρ 0), .int x1, .int x2, .int x3] (some (.int r.1)) s r.2 := by
  refine AM_of (L := [some (.ref (ρ 0)), some (.int x1), some (.int x2), some (.int x3), none]) (by decide) (by simp [Value.category]) (Nat.le_of_ble_eq_true rfl) (fun j v q => ?_) (fun Z X hρ hz hτ => ?_)
  · exact aL_ok (n := 1) [.ref (ρ 0), .int x1, .int x2, .int x3] j v q
  · subst hρ
    subst hτ
    exact w_X12_isToldAhead (Nat.le_refl _) Z X x1 x2 x3 s r hz h

theorem dX12_nameBy_0 : decode cX12_nameBy 0 = .ok (.iconst 0, 1) := by decide +kernel
theorem dX12_nameBy_1 : decode cX12_nameBy 1 = .ok (.istore 4, 2) := by decide +kernel
theorem dX12_nameBy_3 : decode cX12_nameBy 3 = .ok (.iconst 0, 1) := by decide +kernel
theorem dX12_nameBy_4 : decode cX12_nameBy 4 = .ok (.istore 5, 2) := by decide +kernel
theorem dX12_nameBy_6 : decode cX12_nameBy 6 = .ok (.iload 5, 2) := by decide +kernel
theorem dX12_nameBy_8 : decode cX12_nameBy 8 = .ok (.aload_n 0, 1) := by decide +kernel
theorem dX12_nameBy_9 : decode cX12_nameBy 9 = .ok (.getfield 62, 3) := by decide +kernel
theorem dX12_nameBy_12 : decode cX12_nameBy 12 = .ok (.iload_n 1, 1) := by decide +kernel
theorem dX12_nameBy_13 : decode cX12_nameBy 13 = .ok (.iaload, 1) := by decide +kernel
theorem dX12_nameBy_14 : decode cX12_nameBy 14 = .ok (.aload_n 0, 1) := by decide +kernel
theorem dX12_nameBy_15 : decode cX12_nameBy 15 = .ok (.getfield 134, 3) := by decide +kernel
theorem dX12_nameBy_18 : decode cX12_nameBy 18 = .ok (.iadd, 1) := by decide +kernel
theorem dX12_nameBy_19 : decode cX12_nameBy 19 = .ok (.if_icmp .ge 121, 3) := by decide +kernel
theorem dX12_nameBy_22 : decode cX12_nameBy 22 = .ok (.iload 5, 2) := by decide +kernel
theorem dX12_nameBy_24 : decode cX12_nameBy 24 = .ok (.aload_n 0, 1) := by decide +kernel
theorem dX12_nameBy_25 : decode cX12_nameBy 25 = .ok (.getfield 62, 3) := by decide +kernel
theorem dX12_nameBy_28 : decode cX12_nameBy 28 = .ok (.iload_n 1, 1) := by decide +kernel
theorem dX12_nameBy_29 : decode cX12_nameBy 29 = .ok (.iaload, 1) := by decide +kernel
theorem dX12_nameBy_30 : decode cX12_nameBy 30 = .ok (.if_icmp .ge 7, 3) := by decide +kernel
theorem dX12_nameBy_33 : decode cX12_nameBy 33 = .ok (.iconst 1, 1) := by decide +kernel
theorem dX12_nameBy_34 : decode cX12_nameBy 34 = .ok (.goto 4, 3) := by decide +kernel
theorem dX12_nameBy_37 : decode cX12_nameBy 37 = .ok (.iconst 0, 1) := by decide +kernel
theorem dX12_nameBy_38 : decode cX12_nameBy 38 = .ok (.istore 6, 2) := by decide +kernel
theorem dX12_nameBy_40 : decode cX12_nameBy 40 = .ok (.iload 6, 2) := by decide +kernel
theorem dX12_nameBy_42 : decode cX12_nameBy 42 = .ok (.ifCond .eq 13, 3) := by decide +kernel
theorem dX12_nameBy_45 : decode cX12_nameBy 45 = .ok (.aload_n 0, 1) := by decide +kernel
theorem dX12_nameBy_46 : decode cX12_nameBy 46 = .ok (.iload_n 1, 1) := by decide +kernel
theorem dX12_nameBy_47 : decode cX12_nameBy 47 = .ok (.iload 5, 2) := by decide +kernel
theorem dX12_nameBy_49 : decode cX12_nameBy 49 = .ok (.invokevirtual 308, 3) := by decide +kernel
theorem dX12_nameBy_52 : decode cX12_nameBy 52 = .ok (.goto 12, 3) := by decide +kernel
theorem dX12_nameBy_55 : decode cX12_nameBy 55 = .ok (.iload 5, 2) := by decide +kernel
theorem dX12_nameBy_57 : decode cX12_nameBy 57 = .ok (.aload_n 0, 1) := by decide +kernel
theorem dX12_nameBy_58 : decode cX12_nameBy 58 = .ok (.getfield 62, 3) := by decide +kernel
theorem dX12_nameBy_61 : decode cX12_nameBy 61 = .ok (.iload_n 1, 1) := by decide +kernel
theorem dX12_nameBy_62 : decode cX12_nameBy 62 = .ok (.iaload, 1) := by decide +kernel
theorem dX12_nameBy_63 : decode cX12_nameBy 63 = .ok (.isub, 1) := by decide +kernel
theorem dX12_nameBy_64 : decode cX12_nameBy 64 = .ok (.istore 7, 2) := by decide +kernel
theorem dX12_nameBy_66 : decode cX12_nameBy 66 = .ok (.iload 7, 2) := by decide +kernel
theorem dX12_nameBy_68 : decode cX12_nameBy 68 = .ok (.iload_n 1, 1) := by decide +kernel
theorem dX12_nameBy_69 : decode cX12_nameBy 69 = .ok (.if_icmp .eq 65, 3) := by decide +kernel
theorem dX12_nameBy_72 : decode cX12_nameBy 72 = .ok (.aload_n 0, 1) := by decide +kernel
theorem dX12_nameBy_73 : decode cX12_nameBy 73 = .ok (.iload_n 1, 1) := by decide +kernel
theorem dX12_nameBy_74 : decode cX12_nameBy 74 = .ok (.iload 7, 2) := by decide +kernel
theorem dX12_nameBy_76 : decode cX12_nameBy 76 = .ok (.iload 6, 2) := by decide +kernel
theorem dX12_nameBy_78 : decode cX12_nameBy 78 = .ok (.ifCond .eq 8, 3) := by decide +kernel
theorem dX12_nameBy_81 : decode cX12_nameBy 81 = .ok (.iload 5, 2) := by decide +kernel
theorem dX12_nameBy_83 : decode cX12_nameBy 83 = .ok (.goto 9, 3) := by decide +kernel
theorem dX12_nameBy_86 : decode cX12_nameBy 86 = .ok (.aload_n 0, 1) := by decide +kernel
theorem dX12_nameBy_87 : decode cX12_nameBy 87 = .ok (.getfield 62, 3) := by decide +kernel
theorem dX12_nameBy_90 : decode cX12_nameBy 90 = .ok (.iload_n 1, 1) := by decide +kernel
theorem dX12_nameBy_91 : decode cX12_nameBy 91 = .ok (.iaload, 1) := by decide +kernel
theorem dX12_nameBy_92 : decode cX12_nameBy 92 = .ok (.invokevirtual 311, 3) := by decide +kernel
theorem dX12_nameBy_95 : decode cX12_nameBy 95 = .ok (.ifCond .eq 6, 3) := by decide +kernel
theorem dX12_nameBy_98 : decode cX12_nameBy 98 = .ok (.goto 36, 3) := by decide +kernel
theorem dX12_nameBy_101 : decode cX12_nameBy 101 = .ok (.iload_n 2, 1) := by decide +kernel
theorem dX12_nameBy_102 : decode cX12_nameBy 102 = .ok (.iconst (-1), 1) := by decide +kernel
theorem dX12_nameBy_103 : decode cX12_nameBy 103 = .ok (.if_icmp .ne 16, 3) := by decide +kernel
theorem dX12_nameBy_106 : decode cX12_nameBy 106 = .ok (.aload_n 0, 1) := by decide +kernel
theorem dX12_nameBy_107 : decode cX12_nameBy 107 = .ok (.iload_n 3, 1) := by decide +kernel
theorem dX12_nameBy_108 : decode cX12_nameBy 108 = .ok (.iload 7, 2) := by decide +kernel
theorem dX12_nameBy_110 : decode cX12_nameBy 110 = .ok (.invokevirtual 314, 3) := by decide +kernel
theorem dX12_nameBy_113 : decode cX12_nameBy 113 = .ok (.ifCond .ne 15, 3) := by decide +kernel
theorem dX12_nameBy_116 : decode cX12_nameBy 116 = .ok (.goto 9, 3) := by decide +kernel
theorem dX12_nameBy_119 : decode cX12_nameBy 119 = .ok (.iload 4, 2) := by decide +kernel
theorem dX12_nameBy_121 : decode cX12_nameBy 121 = .ok (.iload_n 2, 1) := by decide +kernel
theorem dX12_nameBy_122 : decode cX12_nameBy 122 = .ok (.if_icmp .ne 6, 3) := by decide +kernel
theorem dX12_nameBy_125 : decode cX12_nameBy 125 = .ok (.iload 7, 2) := by decide +kernel
theorem dX12_nameBy_127 : decode cX12_nameBy 127 = .ok (.ireturn, 1) := by decide +kernel
theorem dX12_nameBy_128 : decode cX12_nameBy 128 = .ok (.iload 4, 2) := by decide +kernel
theorem dX12_nameBy_130 : decode cX12_nameBy 130 = .ok (.iconst 1, 1) := by decide +kernel
theorem dX12_nameBy_131 : decode cX12_nameBy 131 = .ok (.iadd, 1) := by decide +kernel
theorem dX12_nameBy_132 : decode cX12_nameBy 132 = .ok (.istore 4, 2) := by decide +kernel
theorem dX12_nameBy_134 : decode cX12_nameBy 134 = .ok (.iinc 5 1, 3) := by decide +kernel
theorem dX12_nameBy_137 : decode cX12_nameBy 137 = .ok (.goto (-131), 3) := by decide +kernel
theorem dX12_nameBy_140 : decode cX12_nameBy 140 = .ok (.iconst (-1), 1) := by decide +kernel
theorem dX12_nameBy_141 : decode cX12_nameBy 141 = .ok (.ireturn, 1) := by decide +kernel
set_option maxRecDepth 100000 in
set_option maxHeartbeats 4000000 in
theorem jo_X12_nameBy_128 {fr : Nat} (hfr : 2 ≤ fr) (Z : AZ) (X : AX Z cX12_nameBy 8 RX12 (some .int) 1 fr) (x1 : Int32) (x2 : Int32) (x3 : Int32) (x4 : Int32) (x5 : Int32) (s : Mem) (q : (Int32 × Int32 × Mem) ⊕ (Nat × Int32 × Mem)) (h : jn_X12_nameBy_128 x1 x2 x3 x4 x5 s = some q) (hi : ∀ y : Int32 × Int32 × Mem, q = .inl y → AW Z y.2.2 6 [some (.ref (zr Z 0)), some (.int x1), some (.int x2), some (.int x3), some (.int y.1), some (.int y.2.1), none, none] []) (he : ∀ b : Nat × Int32 × Mem, q = .inr b → (b.1 = 0 → AW Z b.2.2 116 [none, none, none, none, none, none, none, some (.int b.2.1)] []) ∧ (b.1 = 1 → AW Z b.2.2 125 [none, none, none, none, none, none, none, some (.int b.2.1)] []) ∧ (b.1 = 2 → AW Z b.2.2 140 [none, none, none, none, none, none, none, none] [])) : AW Z s 128 [some (.ref (zr Z 0)), some (.int x1), some (.int x2), some (.int x3), some (.int x4), some (.int x5), none, none] [] := by
  unfold jn_X12_nameBy_128 at h
  refine aw_iload X dX12_nameBy_128 rfl ?_
  refine aw_iconst (v := 1) X dX12_nameBy_130 (by decide) ?_
  refine aw_iadd X dX12_nameBy_131 ?_
  refine aw_istore (L' := [some (.ref (zr Z 0)), some (.int x1), some (.int x2), some (.int x3), some (.int (x4 + 1)), some (.int x5), none, none]) X dX12_nameBy_132 (by decide) rfl ?_
  refine aw_iinc (v := (x5 + 1)) (L' := [some (.ref (zr Z 0)), some (.int x1), some (.int x2), some (.int x3), some (.int (x4 + 1)), some (.int (x5 + 1)), none, none]) X dX12_nameBy_134 rfl rfl (by decide) rfl ?_
  refine aw_goto (tgt := 6) X dX12_nameBy_137 (by decide) ?_
  cases h
  refine aw_msk [true, true, true, true, true, true, false, false] ?_
  exact hi _ rfl
set_option maxRecDepth 100000 in
set_option maxHeartbeats 4000000 in
theorem jo_X12_nameBy_92 {fr : Nat} (hfr : 2 ≤ fr) (Z : AZ) (X : AX Z cX12_nameBy 8 RX12 (some .int) 1 fr) (x1 : Int32) (x2 : Int32) (x3 : Int32) (x4 : Int32) (x5 : Int32) (x7 : Int32) (t1 : Int32) (t2 : Int32) (t3 : Int32) (s : Mem) (q : (Int32 × Int32 × Mem) ⊕ (Nat × Int32 × Mem)) (h : jn_X12_nameBy_92 x1 x2 x3 x4 x5 x7 t1 t2 t3 s = some q) (hi : ∀ y : Int32 × Int32 × Mem, q = .inl y → AW Z y.2.2 6 [some (.ref (zr Z 0)), some (.int x1), some (.int x2), some (.int x3), some (.int y.1), some (.int y.2.1), none, none] []) (he : ∀ b : Nat × Int32 × Mem, q = .inr b → (b.1 = 0 → AW Z b.2.2 116 [none, none, none, none, none, none, none, some (.int b.2.1)] []) ∧ (b.1 = 1 → AW Z b.2.2 125 [none, none, none, none, none, none, none, some (.int b.2.1)] []) ∧ (b.1 = 2 → AW Z b.2.2 140 [none, none, none, none, none, none, none, none] [])) : AW Z s 92 [some (.ref (zr Z 0)), some (.int x1), some (.int x2), some (.int x3), some (.int x4), some (.int x5), none, some (.int x7)] [.int t3, .int t2, .int t1, .ref (zr Z 0)] := by
  unfold jn_X12_nameBy_92 at h
  obtain ⟨r10, er10, h⟩ := bnd h
  refine aw_callV X dX12_nameBy_92 cv_RX12_311 (ok_X12_isToldAhead er10 _ _ _ _ _) iu_RX12 rfl (Nat.le_trans (by decide) hfr) (by decide) rfl rfl (Nat.le_of_ble_eq_true rfl) ?_
  refine aw_if_eq (tgt := 101) X dX12_nameBy_95 (by decide) (fun c11 => ?_) (fun c11 => ?_)
  · rw [if_pos c11] at h
    refine aw_iload_n X dX12_nameBy_101 rfl ?_
    refine aw_iconst (v := (-1)) X dX12_nameBy_102 (by decide) ?_
    refine aw_icmp_ne (tgt := 119) X dX12_nameBy_103 (by decide) (fun c12 => ?_) (fun c12 => ?_)
    · rw [if_neg c12] at h
      refine aw_iload X dX12_nameBy_119 rfl ?_
      refine aw_iload_n X dX12_nameBy_121 rfl ?_
      refine aw_icmp_ne (tgt := 128) X dX12_nameBy_122 (by decide) (fun c13 => ?_) (fun c13 => ?_)
      · rw [if_neg c13] at h
        refine aw_msk [true, true, true, true, true, true, false, false] ?_
        exact jo_X12_nameBy_128 hfr Z X _ _ _ _ _ _ _ h hi he
      · rw [if_pos c13] at h
        cases h
        refine aw_msk [false, false, false, false, false, false, false, true] ?_
        exact (he _ rfl).2.1 rfl
    · rw [if_pos c12] at h
      refine aw_aload_n X dX12_nameBy_106 rfl ?_
      refine aw_iload_n X dX12_nameBy_107 rfl ?_
      refine aw_iload X dX12_nameBy_108 rfl ?_
      obtain ⟨r14, er14, h⟩ := bnd h
      refine aw_callV X dX12_nameBy_110 cv_RX12_314 (ok_X12_has er14 _ _ _ _ _) iu_RX12 rfl (Nat.le_trans (by decide) hfr) (by decide) rfl rfl (Nat.le_of_ble_eq_true rfl) ?_
      refine aw_if_ne (tgt := 128) X dX12_nameBy_113 (by decide) (fun c15 => ?_) (fun c15 => ?_)
      · rw [if_neg c15] at h
        refine aw_msk [true, true, true, true, true, true, false, false] ?_
        exact jo_X12_nameBy_128 hfr Z X _ _ _ _ _ _ _ h hi he
      · rw [if_pos c15] at h
        cases h
        refine aw_msk [false, false, false, false, false, false, false, true] ?_
        exact (he _ rfl).1 rfl
  · rw [if_neg c11] at h
    refine aw_goto (tgt := 134) X dX12_nameBy_98 (by decide) ?_
    refine aw_iinc (v := (x5 + 1)) (L' := [some (.ref (zr Z 0)), some (.int x1), some (.int x2), some (.int x3), some (.int x4), some (.int (x5 + 1)), none, some (.int x7)]) X dX12_nameBy_134 rfl rfl (by decide) rfl ?_
    refine aw_goto (tgt := 6) X dX12_nameBy_137 (by decide) ?_
    cases h
    refine aw_msk [true, true, true, true, true, true, false, false] ?_
    exact hi _ rfl
set_option maxRecDepth 100000 in
set_option maxHeartbeats 4000000 in
theorem jo_X12_nameBy_64 {fr : Nat} (hfr : 2 ≤ fr) (Z : AZ) (X : AX Z cX12_nameBy 8 RX12 (some .int) 1 fr) (x1 : Int32) (x2 : Int32) (x3 : Int32) (x4 : Int32) (x5 : Int32) (x6 : Int32) (t0 : Int32) (s : Mem) (q : (Int32 × Int32 × Mem) ⊕ (Nat × Int32 × Mem)) (h : jn_X12_nameBy_64 x1 x2 x3 x4 x5 x6 t0 s = some q) (hi : ∀ y : Int32 × Int32 × Mem, q = .inl y → AW Z y.2.2 6 [some (.ref (zr Z 0)), some (.int x1), some (.int x2), some (.int x3), some (.int y.1), some (.int y.2.1), none, none] []) (he : ∀ b : Nat × Int32 × Mem, q = .inr b → (b.1 = 0 → AW Z b.2.2 116 [none, none, none, none, none, none, none, some (.int b.2.1)] []) ∧ (b.1 = 1 → AW Z b.2.2 125 [none, none, none, none, none, none, none, some (.int b.2.1)] []) ∧ (b.1 = 2 → AW Z b.2.2 140 [none, none, none, none, none, none, none, none] [])) : AW Z s 64 [some (.ref (zr Z 0)), some (.int x1), some (.int x2), some (.int x3), some (.int x4), some (.int x5), some (.int x6), none] [.int t0] := by
  unfold jn_X12_nameBy_64 at h
  refine aw_istore (L' := [some (.ref (zr Z 0)), some (.int x1), some (.int x2), some (.int x3), some (.int x4), some (.int x5), some (.int x6), some (.int t0)]) X dX12_nameBy_64 (by decide) rfl ?_
  refine aw_iload X dX12_nameBy_66 rfl ?_
  refine aw_iload_n X dX12_nameBy_68 rfl ?_
  refine aw_icmp_eq (tgt := 134) X dX12_nameBy_69 (by decide) (fun c7 => ?_) (fun c7 => ?_)
  · rw [if_pos c7] at h
    refine aw_iinc (v := (x5 + 1)) (L' := [some (.ref (zr Z 0)), some (.int x1), some (.int x2), some (.int x3), some (.int x4), some (.int (x5 + 1)), some (.int x6), some (.int t0)]) X dX12_nameBy_134 rfl rfl (by decide) rfl ?_
    refine aw_goto (tgt := 6) X dX12_nameBy_137 (by decide) ?_
    cases h
    refine aw_msk [true, true, true, true, true, true, false, false] ?_
    exact hi _ rfl
  · rw [if_neg c7] at h
    refine aw_aload_n X dX12_nameBy_72 rfl ?_
    refine aw_iload_n X dX12_nameBy_73 rfl ?_
    refine aw_iload X dX12_nameBy_74 rfl ?_
    refine aw_iload X dX12_nameBy_76 rfl ?_
    refine aw_if_eq (tgt := 86) X dX12_nameBy_78 (by decide) (fun c8 => ?_) (fun c8 => ?_)
    · rw [if_pos c8] at h
      refine aw_aload_n X dX12_nameBy_86 rfl ?_
      refine aw_getr X dX12_nameBy_87 fl_RX12_62 iu_RX12 gu_RX12_36 ?_
      refine aw_iload_n X dX12_nameBy_90 rfl ?_
      obtain ⟨v9, ev9, h⟩ := bnd h
      refine aw_iald X dX12_nameBy_91 iu_RX12_36 ev9 ?_
      refine aw_msk [true, true, true, true, true, true, false, true] ?_
      exact jo_X12_nameBy_92 hfr Z X _ _ _ _ _ _ _ _ _ _ _ h hi he
    · rw [if_neg c8] at h
      refine aw_iload X dX12_nameBy_81 rfl ?_
      refine aw_goto (tgt := 92) X dX12_nameBy_83 (by decide) ?_
      refine aw_msk [true, true, true, true, true, true, false, true] ?_
      exact jo_X12_nameBy_92 hfr Z X _ _ _ _ _ _ _ _ _ _ _ h hi he
set_option maxRecDepth 100000 in
set_option maxHeartbeats 4000000 in
theorem jo_X12_nameBy_38 {fr : Nat} (hfr : 2 ≤ fr) (Z : AZ) (X : AX Z cX12_nameBy 8 RX12 (some .int) 1 fr) (x1 : Int32) (x2 : Int32) (x3 : Int32) (x4 : Int32) (x5 : Int32) (t0 : Int32) (s : Mem) (q : (Int32 × Int32 × Mem) ⊕ (Nat × Int32 × Mem)) (h : jn_X12_nameBy_38 x1 x2 x3 x4 x5 t0 s = some q) (hi : ∀ y : Int32 × Int32 × Mem, q = .inl y → AW Z y.2.2 6 [some (.ref (zr Z 0)), some (.int x1), some (.int x2), some (.int x3), some (.int y.1), some (.int y.2.1), none, none] []) (he : ∀ b : Nat × Int32 × Mem, q = .inr b → (b.1 = 0 → AW Z b.2.2 116 [none, none, none, none, none, none, none, some (.int b.2.1)] []) ∧ (b.1 = 1 → AW Z b.2.2 125 [none, none, none, none, none, none, none, some (.int b.2.1)] []) ∧ (b.1 = 2 → AW Z b.2.2 140 [none, none, none, none, none, none, none, none] [])) : AW Z s 38 [some (.ref (zr Z 0)), some (.int x1), some (.int x2), some (.int x3), some (.int x4), some (.int x5), none, none] [.int t0] := by
  unfold jn_X12_nameBy_38 at h
  refine aw_istore (L' := [some (.ref (zr Z 0)), some (.int x1), some (.int x2), some (.int x3), some (.int x4), some (.int x5), some (.int t0), none]) X dX12_nameBy_38 (by decide) rfl ?_
  refine aw_iload X dX12_nameBy_40 rfl ?_
  refine aw_if_eq (tgt := 55) X dX12_nameBy_42 (by decide) (fun c5 => ?_) (fun c5 => ?_)
  · rw [if_pos c5] at h
    refine aw_iload X dX12_nameBy_55 rfl ?_
    refine aw_aload_n X dX12_nameBy_57 rfl ?_
    refine aw_getr X dX12_nameBy_58 fl_RX12_62 iu_RX12 gu_RX12_36 ?_
    refine aw_iload_n X dX12_nameBy_61 rfl ?_
    obtain ⟨v6, ev6, h⟩ := bnd h
    refine aw_iald X dX12_nameBy_62 iu_RX12_36 ev6 ?_
    refine aw_isub X dX12_nameBy_63 ?_
    refine aw_msk [true, true, true, true, true, true, true, false] ?_
    exact jo_X12_nameBy_64 hfr Z X _ _ _ _ _ _ _ _ _ h hi he
  · rw [if_neg c5] at h
    refine aw_aload_n X dX12_nameBy_45 rfl ?_
    refine aw_iload_n X dX12_nameBy_46 rfl ?_
    refine aw_iload X dX12_nameBy_47 rfl ?_
    obtain ⟨r16, er16, h⟩ := bnd h
    refine aw_callV X dX12_nameBy_49 cv_RX12_308 (ok_X12_nameOf er16 _ _ _ _ _) iu_RX12 rfl (Nat.le_trans (by decide) hfr) (by decide) rfl rfl (Nat.le_of_ble_eq_true rfl) ?_
    refine aw_goto (tgt := 64) X dX12_nameBy_52 (by decide) ?_
    refine aw_msk [true, true, true, true, true, true, true, false] ?_
    exact jo_X12_nameBy_64 hfr Z X _ _ _ _ _ _ _ _ _ h hi he
set_option maxRecDepth 100000 in
set_option maxHeartbeats 4000000 in
theorem so_X12_nameBy_6 {fr : Nat} (hfr : 2 ≤ fr) (Z : AZ) (X : AX Z cX12_nameBy 8 RX12 (some .int) 1 fr) (x1 : Int32) (x2 : Int32) (x3 : Int32) (x4 : Int32) (x5 : Int32) (s : Mem) (q : (Int32 × Int32 × Mem) ⊕ (Nat × Int32 × Mem)) (h : st_X12_nameBy_6 x1 x2 x3 x4 x5 s = some q) (hi : ∀ y : Int32 × Int32 × Mem, q = .inl y → AW Z y.2.2 6 [some (.ref (zr Z 0)), some (.int x1), some (.int x2), some (.int x3), some (.int y.1), some (.int y.2.1), none, none] []) (he : ∀ b : Nat × Int32 × Mem, q = .inr b → (b.1 = 0 → AW Z b.2.2 116 [none, none, none, none, none, none, none, some (.int b.2.1)] []) ∧ (b.1 = 1 → AW Z b.2.2 125 [none, none, none, none, none, none, none, some (.int b.2.1)] []) ∧ (b.1 = 2 → AW Z b.2.2 140 [none, none, none, none, none, none, none, none] [])) : AW Z s 6 [some (.ref (zr Z 0)), some (.int x1), some (.int x2), some (.int x3), some (.int x4), some (.int x5), none, none] [] := by
  unfold st_X12_nameBy_6 at h
  refine aw_iload X dX12_nameBy_6 rfl ?_
  refine aw_aload_n X dX12_nameBy_8 rfl ?_
  refine aw_getr X dX12_nameBy_9 fl_RX12_62 iu_RX12 gu_RX12_36 ?_
  refine aw_iload_n X dX12_nameBy_12 rfl ?_
  obtain ⟨v1, ev1, h⟩ := bnd h
  refine aw_iald X dX12_nameBy_13 iu_RX12_36 ev1 ?_
  refine aw_aload_n X dX12_nameBy_14 rfl ?_
  refine aw_geti X dX12_nameBy_15 fl_RX12_134 iu_RX12 gu_RX12_6 ?_
  refine aw_iadd X dX12_nameBy_18 ?_
  refine aw_icmp_ge (tgt := 140) X dX12_nameBy_19 (by decide) (fun c2 => ?_) (fun c2 => ?_)
  · rw [if_pos c2] at h
    cases h
    refine aw_msk [false, false, false, false, false, false, false, false] ?_
    exact (he _ rfl).2.2 rfl
  · rw [if_neg c2] at h
    refine aw_iload X dX12_nameBy_22 rfl ?_
    refine aw_aload_n X dX12_nameBy_24 rfl ?_
    refine aw_getr X dX12_nameBy_25 fl_RX12_62 iu_RX12 gu_RX12_36 ?_
    refine aw_iload_n X dX12_nameBy_28 rfl ?_
    obtain ⟨v3, ev3, h⟩ := bnd h
    refine aw_iald X dX12_nameBy_29 iu_RX12_36 ev3 ?_
    refine aw_icmp_ge (tgt := 37) X dX12_nameBy_30 (by decide) (fun c4 => ?_) (fun c4 => ?_)
    · rw [if_pos c4] at h
      refine aw_iconst (v := 0) X dX12_nameBy_37 (by decide) ?_
      refine aw_msk [true, true, true, true, true, true, false, false] ?_
      exact jo_X12_nameBy_38 hfr Z X _ _ _ _ _ _ _ _ h hi he
    · rw [if_neg c4] at h
      refine aw_iconst (v := 1) X dX12_nameBy_33 (by decide) ?_
      refine aw_goto (tgt := 38) X dX12_nameBy_34 (by decide) ?_
      refine aw_msk [true, true, true, true, true, true, false, false] ?_
      exact jo_X12_nameBy_38 hfr Z X _ _ _ _ _ _ _ _ h hi he
set_option maxRecDepth 100000 in
set_option maxHeartbeats 4000000 in
theorem w_X12_nameBy {fr : Nat} (hfr : 2 ≤ fr) (Z : AZ) (X : AX Z cX12_nameBy 8 RX12 (some .int) 1 fr) (x1 : Int32) (x2 : Int32) (x3 : Int32) (s : Mem) (r : Int32 × Mem) (hz : zres Z = (some (.int r.1), r.2)) (h : f_X12_nameBy x1 x2 x3 s = some r) : AW Z s 0 [some (.ref (zr Z 0)), some (.int x1), some (.int x2), some (.int x3), none, none, none, none] [] := by
  unfold f_X12_nameBy at h
  refine aw_iconst (v := 0) X dX12_nameBy_0 (by decide) ?_
  refine aw_istore (L' := [some (.ref (zr Z 0)), some (.int x1), some (.int x2), some (.int x3), some (.int 0), none, none, none]) X dX12_nameBy_1 (by decide) rfl ?_
  refine aw_iconst (v := 0) X dX12_nameBy_3 (by decide) ?_
  refine aw_istore (L' := [some (.ref (zr Z 0)), some (.int x1), some (.int x2), some (.int x3), some (.int 0), some (.int 0), none, none]) X dX12_nameBy_4 (by decide) rfl ?_
  obtain ⟨r17, er17, h⟩ := bnd h
  refine aw_msk [true, true, true, true, true, true, false, false] ?_
  refine it_ok (P := fun y : Int32 × Int32 × Mem => AW Z y.2.2 6 [some (.ref (zr Z 0)), some (.int x1), some (.int x2), some (.int x3), some (.int y.1), some (.int y.2.1), none, none] []) (Q := fun b : Nat × Int32 × Mem => (b.1 = 0 → AW Z b.2.2 116 [none, none, none, none, none, none, none, some (.int b.2.1)] []) ∧ (b.1 = 1 → AW Z b.2.2 125 [none, none, none, none, none, none, none, some (.int b.2.1)] []) ∧ (b.1 = 2 → AW Z b.2.2 140 [none, none, none, none, none, none, none, none] [])) (fun y q hq hi he => so_X12_nameBy_6 hfr Z X x1 x2 x3 y.1 y.2.1 y.2.2 q hq hi he) FUEL _ _ er17 ?_
  refine ⟨fun c0 => ?_, fun c1 => ?_, fun c2 => ?_⟩
  · rw [if_pos c0] at h
    refine aw_goto (tgt := 125) X dX12_nameBy_116 (by decide) ?_
    refine aw_iload X dX12_nameBy_125 rfl ?_
    cases h
    exact aw_iret X dX12_nameBy_127 rfl hz.symm
  · rw [if_neg (by rw [c1]; decide)] at h
    rw [if_pos c1] at h
    refine aw_iload X dX12_nameBy_125 rfl ?_
    cases h
    exact aw_iret X dX12_nameBy_127 rfl hz.symm
  · rw [if_neg (by rw [c2]; decide)] at h
    rw [if_neg (by rw [c2]; decide)] at h
    refine aw_iconst (v := (-1)) X dX12_nameBy_140 (by decide) ?_
    cases h
    exact aw_iret X dX12_nameBy_141 rfl hz.symm
set_option maxRecDepth 100000 in
set_option maxHeartbeats 4000000 in
theorem ok_X12_nameBy {x1 x2 x3 : Int32} {s : Mem} {r : Int32 × Mem} (h : f_X12_nameBy x1 x2 x3 s = some r) (l : Launch) (D : va_G) (ρ : Nat → Nat) (cA : ClassId × ClassId × ClassId) (τ : AT) : AM l D ρ cA 1 τ yX12_nameBy cX12_nameBy 8 (some .int) 2 [.ref (ρ 0), .int x1, .int x2, .int x3] (some (.int r.1)) s r.2 := by
  refine AM_of (L := [some (.ref (ρ 0)), some (.int x1), some (.int x2), some (.int x3), none, none, none, none]) (by decide) (by simp [Value.category]) (Nat.le_of_ble_eq_true rfl) (fun j v q => ?_) (fun Z X hρ hz hτ => ?_)
  · exact aL_ok (n := 4) [.ref (ρ 0), .int x1, .int x2, .int x3] j v q
  · subst hρ
    subst hτ
    exact w_X12_nameBy (Nat.le_refl _) Z X x1 x2 x3 s r hz h

theorem dX12_nextName_0 : decode cX12_nextName 0 = .ok (.aload_n 0, 1) := by decide +kernel
theorem dX12_nextName_1 : decode cX12_nextName 1 = .ok (.iload_n 1, 1) := by decide +kernel
theorem dX12_nextName_2 : decode cX12_nextName 2 = .ok (.iconst (-1), 1) := by decide +kernel
theorem dX12_nextName_3 : decode cX12_nextName 3 = .ok (.aload_n 0, 1) := by decide +kernel
theorem dX12_nextName_4 : decode cX12_nextName 4 = .ok (.getfield 7, 3) := by decide +kernel
theorem dX12_nextName_7 : decode cX12_nextName 7 = .ok (.bipush 46, 2) := by decide +kernel
theorem dX12_nextName_9 : decode cX12_nextName 9 = .ok (.iload_n 1, 1) := by decide +kernel
theorem dX12_nextName_10 : decode cX12_nextName 10 = .ok (.iadd, 1) := by decide +kernel
theorem dX12_nextName_11 : decode cX12_nextName 11 = .ok (.iaload, 1) := by decide +kernel
theorem dX12_nextName_12 : decode cX12_nextName 12 = .ok (.invokevirtual 318, 3) := by decide +kernel
theorem dX12_nextName_15 : decode cX12_nextName 15 = .ok (.ireturn, 1) := by decide +kernel
set_option maxRecDepth 100000 in
set_option maxHeartbeats 4000000 in
theorem w_X12_nextName {fr : Nat} (hfr : 3 ≤ fr) (Z : AZ) (X : AX Z cX12_nextName 2 RX12 (some .int) 1 fr) (x1 : Int32) (s : Mem) (r : Int32 × Mem) (hz : zres Z = (some (.int r.1), r.2)) (h : f_X12_nextName x1 s = some r) : AW Z s 0 [some (.ref (zr Z 0)), some (.int x1)] [] := by
  unfold f_X12_nextName at h
  refine aw_aload_n X dX12_nextName_0 rfl ?_
  refine aw_iload_n X dX12_nextName_1 rfl ?_
  refine aw_iconst (v := (-1)) X dX12_nextName_2 (by decide) ?_
  refine aw_aload_n X dX12_nextName_3 rfl ?_
  refine aw_getr X dX12_nextName_4 fl_RX12_7 iu_RX12 gu_RX12_1 ?_
  refine aw_bipush (v := 46) X dX12_nextName_7 (by decide) ?_
  refine aw_iload_n X dX12_nextName_9 rfl ?_
  refine aw_iadd X dX12_nextName_10 ?_
  obtain ⟨v1, ev1, h⟩ := bnd h
  refine aw_iald X dX12_nextName_11 iu_RX12_1 ev1 ?_
  obtain ⟨r2, er2, h⟩ := bnd h
  refine aw_callV X dX12_nextName_12 cv_RX12_318 (ok_X12_nameBy er2 _ _ _ _ _) iu_RX12 rfl (Nat.le_trans (by decide) hfr) (by decide) rfl rfl (Nat.le_of_ble_eq_true rfl) ?_
  cases h
  exact aw_iret X dX12_nextName_15 rfl hz.symm
set_option maxRecDepth 100000 in
set_option maxHeartbeats 4000000 in
theorem ok_X12_nextName {x1 : Int32} {s : Mem} {r : Int32 × Mem} (h : f_X12_nextName x1 s = some r) (l : Launch) (D : va_G) (ρ : Nat → Nat) (cA : ClassId × ClassId × ClassId) (τ : AT) : AM l D ρ cA 1 τ yX12_nextName cX12_nextName 2 (some .int) 3 [.ref (ρ 0), .int x1] (some (.int r.1)) s r.2 := by
  refine AM_of (L := [some (.ref (ρ 0)), some (.int x1)]) (by decide) (by simp [Value.category]) (Nat.le_of_ble_eq_true rfl) (fun j v q => ?_) (fun Z X hρ hz hτ => ?_)
  · exact aL_ok (n := 0) [.ref (ρ 0), .int x1] j v q
  · subst hρ
    subst hτ
    exact w_X12_nextName (Nat.le_refl _) Z X x1 s r hz h

theorem dX12_asks_0 : decode cX12_asks 0 = .ok (.aload_n 0, 1) := by decide +kernel
theorem dX12_asks_1 : decode cX12_asks 1 = .ok (.getfield 68, 3) := by decide +kernel
theorem dX12_asks_4 : decode cX12_asks 4 = .ok (.iconst 0, 1) := by decide +kernel
theorem dX12_asks_5 : decode cX12_asks 5 = .ok (.aload_n 0, 1) := by decide +kernel
theorem dX12_asks_6 : decode cX12_asks 6 = .ok (.getfield 7, 3) := by decide +kernel
theorem dX12_asks_9 : decode cX12_asks 9 = .ok (.iconst 4, 1) := by decide +kernel
theorem dX12_asks_10 : decode cX12_asks 10 = .ok (.iload_n 1, 1) := by decide +kernel
theorem dX12_asks_11 : decode cX12_asks 11 = .ok (.iadd, 1) := by decide +kernel
theorem dX12_asks_12 : decode cX12_asks 12 = .ok (.iaload, 1) := by decide +kernel
theorem dX12_asks_13 : decode cX12_asks 13 = .ok (.iastore, 1) := by decide +kernel
theorem dX12_asks_14 : decode cX12_asks 14 = .ok (.aload_n 0, 1) := by decide +kernel
theorem dX12_asks_15 : decode cX12_asks 15 = .ok (.getfield 68, 3) := by decide +kernel
theorem dX12_asks_18 : decode cX12_asks 18 = .ok (.iconst 1, 1) := by decide +kernel
theorem dX12_asks_19 : decode cX12_asks 19 = .ok (.aload_n 0, 1) := by decide +kernel
theorem dX12_asks_20 : decode cX12_asks 20 = .ok (.getfield 7, 3) := by decide +kernel
theorem dX12_asks_23 : decode cX12_asks 23 = .ok (.bipush 18, 2) := by decide +kernel
theorem dX12_asks_25 : decode cX12_asks 25 = .ok (.iload_n 1, 1) := by decide +kernel
theorem dX12_asks_26 : decode cX12_asks 26 = .ok (.iadd, 1) := by decide +kernel
theorem dX12_asks_27 : decode cX12_asks 27 = .ok (.iaload, 1) := by decide +kernel
theorem dX12_asks_28 : decode cX12_asks 28 = .ok (.iastore, 1) := by decide +kernel
theorem dX12_asks_29 : decode cX12_asks 29 = .ok (.aload_n 0, 1) := by decide +kernel
theorem dX12_asks_30 : decode cX12_asks 30 = .ok (.getfield 68, 3) := by decide +kernel
theorem dX12_asks_33 : decode cX12_asks 33 = .ok (.iconst 2, 1) := by decide +kernel
theorem dX12_asks_34 : decode cX12_asks 34 = .ok (.aload_n 0, 1) := by decide +kernel
theorem dX12_asks_35 : decode cX12_asks 35 = .ok (.aload_n 0, 1) := by decide +kernel
theorem dX12_asks_36 : decode cX12_asks 36 = .ok (.getfield 7, 3) := by decide +kernel
theorem dX12_asks_39 : decode cX12_asks 39 = .ok (.bipush 46, 2) := by decide +kernel
theorem dX12_asks_41 : decode cX12_asks 41 = .ok (.iload_n 1, 1) := by decide +kernel
theorem dX12_asks_42 : decode cX12_asks 42 = .ok (.iadd, 1) := by decide +kernel
theorem dX12_asks_43 : decode cX12_asks 43 = .ok (.iaload, 1) := by decide +kernel
theorem dX12_asks_44 : decode cX12_asks 44 = .ok (.invokevirtual 321, 3) := by decide +kernel
theorem dX12_asks_47 : decode cX12_asks 47 = .ok (.iastore, 1) := by decide +kernel
theorem dX12_asks_48 : decode cX12_asks 48 = .ok (.aload_n 0, 1) := by decide +kernel
theorem dX12_asks_49 : decode cX12_asks 49 = .ok (.getfield 68, 3) := by decide +kernel
theorem dX12_asks_52 : decode cX12_asks 52 = .ok (.iconst 3, 1) := by decide +kernel
theorem dX12_asks_53 : decode cX12_asks 53 = .ok (.aload_n 0, 1) := by decide +kernel
theorem dX12_asks_54 : decode cX12_asks 54 = .ok (.getfield 7, 3) := by decide +kernel
theorem dX12_asks_57 : decode cX12_asks 57 = .ok (.bipush 60, 2) := by decide +kernel
theorem dX12_asks_59 : decode cX12_asks 59 = .ok (.iload_n 1, 1) := by decide +kernel
theorem dX12_asks_60 : decode cX12_asks 60 = .ok (.iadd, 1) := by decide +kernel
theorem dX12_asks_61 : decode cX12_asks 61 = .ok (.iaload, 1) := by decide +kernel
theorem dX12_asks_62 : decode cX12_asks 62 = .ok (.iastore, 1) := by decide +kernel
theorem dX12_asks_63 : decode cX12_asks 63 = .ok (.aload_n 0, 1) := by decide +kernel
theorem dX12_asks_64 : decode cX12_asks 64 = .ok (.getfield 68, 3) := by decide +kernel
theorem dX12_asks_67 : decode cX12_asks 67 = .ok (.iconst 4, 1) := by decide +kernel
theorem dX12_asks_68 : decode cX12_asks 68 = .ok (.aload_n 0, 1) := by decide +kernel
theorem dX12_asks_69 : decode cX12_asks 69 = .ok (.getfield 7, 3) := by decide +kernel
theorem dX12_asks_72 : decode cX12_asks 72 = .ok (.bipush 74, 2) := by decide +kernel
theorem dX12_asks_74 : decode cX12_asks 74 = .ok (.iload_n 1, 1) := by decide +kernel
theorem dX12_asks_75 : decode cX12_asks 75 = .ok (.iadd, 1) := by decide +kernel
theorem dX12_asks_76 : decode cX12_asks 76 = .ok (.iaload, 1) := by decide +kernel
theorem dX12_asks_77 : decode cX12_asks 77 = .ok (.iastore, 1) := by decide +kernel
theorem dX12_asks_78 : decode cX12_asks 78 = .ok (.aload_n 0, 1) := by decide +kernel
theorem dX12_asks_79 : decode cX12_asks 79 = .ok (.getfield 68, 3) := by decide +kernel
theorem dX12_asks_82 : decode cX12_asks 82 = .ok (.iconst 5, 1) := by decide +kernel
theorem dX12_asks_83 : decode cX12_asks 83 = .ok (.aload_n 0, 1) := by decide +kernel
theorem dX12_asks_84 : decode cX12_asks 84 = .ok (.getfield 7, 3) := by decide +kernel
theorem dX12_asks_87 : decode cX12_asks 87 = .ok (.bipush 88, 2) := by decide +kernel
theorem dX12_asks_89 : decode cX12_asks 89 = .ok (.iload_n 1, 1) := by decide +kernel
theorem dX12_asks_90 : decode cX12_asks 90 = .ok (.iadd, 1) := by decide +kernel
theorem dX12_asks_91 : decode cX12_asks 91 = .ok (.iaload, 1) := by decide +kernel
theorem dX12_asks_92 : decode cX12_asks 92 = .ok (.iastore, 1) := by decide +kernel
theorem dX12_asks_93 : decode cX12_asks 93 = .ok (.aload_n 0, 1) := by decide +kernel
theorem dX12_asks_94 : decode cX12_asks 94 = .ok (.getfield 68, 3) := by decide +kernel
theorem dX12_asks_97 : decode cX12_asks 97 = .ok (.bipush 6, 2) := by decide +kernel
theorem dX12_asks_99 : decode cX12_asks 99 = .ok (.aload_n 0, 1) := by decide +kernel
theorem dX12_asks_100 : decode cX12_asks 100 = .ok (.iload_n 1, 1) := by decide +kernel
theorem dX12_asks_101 : decode cX12_asks 101 = .ok (.invokevirtual 324, 3) := by decide +kernel
theorem dX12_asks_104 : decode cX12_asks 104 = .ok (.iconst (-1), 1) := by decide +kernel
theorem dX12_asks_105 : decode cX12_asks 105 = .ok (.if_icmp .ne 7, 3) := by decide +kernel
theorem dX12_asks_108 : decode cX12_asks 108 = .ok (.iconst 0, 1) := by decide +kernel
theorem dX12_asks_109 : decode cX12_asks 109 = .ok (.goto 14, 3) := by decide +kernel
theorem dX12_asks_112 : decode cX12_asks 112 = .ok (.aload_n 0, 1) := by decide +kernel
theorem dX12_asks_113 : decode cX12_asks 113 = .ok (.aload_n 0, 1) := by decide +kernel
theorem dX12_asks_114 : decode cX12_asks 114 = .ok (.iload_n 1, 1) := by decide +kernel
theorem dX12_asks_115 : decode cX12_asks 115 = .ok (.invokevirtual 324, 3) := by decide +kernel
theorem dX12_asks_118 : decode cX12_asks 118 = .ok (.iload_n 1, 1) := by decide +kernel
theorem dX12_asks_119 : decode cX12_asks 119 = .ok (.isub, 1) := by decide +kernel
theorem dX12_asks_120 : decode cX12_asks 120 = .ok (.invokevirtual 327, 3) := by decide +kernel
theorem dX12_asks_123 : decode cX12_asks 123 = .ok (.iastore, 1) := by decide +kernel
theorem dX12_asks_124 : decode cX12_asks 124 = .ok (.aload_n 0, 1) := by decide +kernel
theorem dX12_asks_125 : decode cX12_asks 125 = .ok (.getfield 68, 3) := by decide +kernel
theorem dX12_asks_128 : decode cX12_asks 128 = .ok (.bipush 7, 2) := by decide +kernel
theorem dX12_asks_130 : decode cX12_asks 130 = .ok (.aload_n 0, 1) := by decide +kernel
theorem dX12_asks_131 : decode cX12_asks 131 = .ok (.getfield 7, 3) := by decide +kernel
theorem dX12_asks_134 : decode cX12_asks 134 = .ok (.iconst 0, 1) := by decide +kernel
theorem dX12_asks_135 : decode cX12_asks 135 = .ok (.iaload, 1) := by decide +kernel
theorem dX12_asks_136 : decode cX12_asks 136 = .ok (.iastore, 1) := by decide +kernel
theorem dX12_asks_137 : decode cX12_asks 137 = .ok (.return_, 1) := by decide +kernel
set_option maxRecDepth 100000 in
set_option maxHeartbeats 4000000 in
theorem jo_X12_asks_123 {fr : Nat} (hfr : 1 ≤ fr) (Z : AZ) (X : AX Z cX12_asks 2 RX12 none 1 fr) (t1 : Int32) (t2 : Int32) (s : Mem) (r : Mem) (hz : zres Z = (none, r)) (h : jn_X12_asks_123 t1 t2 s = some r) : AW Z s 123 [some (.ref (zr Z 0)), none] [.int t2, .int t1, .ref (zr Z 19)] := by
  unfold jn_X12_asks_123 at h
  obtain ⟨s18, es18, h⟩ := bnd h
  refine aw_iast X dX12_asks_123 iu_RX12_38 es18 ?_
  refine aw_aload_n X dX12_asks_124 rfl ?_
  refine aw_getr X dX12_asks_125 fl_RX12_68 iu_RX12 gu_RX12_38 ?_
  refine aw_bipush (v := 7) X dX12_asks_128 (by decide) ?_
  refine aw_aload_n X dX12_asks_130 rfl ?_
  refine aw_getr X dX12_asks_131 fl_RX12_7 iu_RX12 gu_RX12_1 ?_
  refine aw_iconst (v := 0) X dX12_asks_134 (by decide) ?_
  obtain ⟨v19, ev19, h⟩ := bnd h
  refine aw_iald X dX12_asks_135 iu_RX12_1 ev19 ?_
  obtain ⟨s20, es20, h⟩ := bnd h
  refine aw_iast X dX12_asks_136 iu_RX12_38 es20 ?_
  cases h
  exact aw_vret X dX12_asks_137 rfl hz.symm
set_option maxRecDepth 100000 in
set_option maxHeartbeats 4000000 in
theorem w_X12_asks {fr : Nat} (hfr : 1 ≤ fr) (Z : AZ) (X : AX Z cX12_asks 2 RX12 none 1 fr) (x1 : Int32) (s : Mem) (r : Mem) (hz : zres Z = (none, r)) (h : f_X12_asks x1 s = some r) : AW Z s 0 [some (.ref (zr Z 0)), some (.int x1)] [] := by
  unfold f_X12_asks at h
  refine aw_aload_n X dX12_asks_0 rfl ?_
  refine aw_getr X dX12_asks_1 fl_RX12_68 iu_RX12 gu_RX12_38 ?_
  refine aw_iconst (v := 0) X dX12_asks_4 (by decide) ?_
  refine aw_aload_n X dX12_asks_5 rfl ?_
  refine aw_getr X dX12_asks_6 fl_RX12_7 iu_RX12 gu_RX12_1 ?_
  refine aw_iconst (v := 4) X dX12_asks_9 (by decide) ?_
  refine aw_iload_n X dX12_asks_10 rfl ?_
  refine aw_iadd X dX12_asks_11 ?_
  obtain ⟨v1, ev1, h⟩ := bnd h
  refine aw_iald X dX12_asks_12 iu_RX12_1 ev1 ?_
  obtain ⟨s2, es2, h⟩ := bnd h
  refine aw_iast X dX12_asks_13 iu_RX12_38 es2 ?_
  refine aw_aload_n X dX12_asks_14 rfl ?_
  refine aw_getr X dX12_asks_15 fl_RX12_68 iu_RX12 gu_RX12_38 ?_
  refine aw_iconst (v := 1) X dX12_asks_18 (by decide) ?_
  refine aw_aload_n X dX12_asks_19 rfl ?_
  refine aw_getr X dX12_asks_20 fl_RX12_7 iu_RX12 gu_RX12_1 ?_
  refine aw_bipush (v := 18) X dX12_asks_23 (by decide) ?_
  refine aw_iload_n X dX12_asks_25 rfl ?_
  refine aw_iadd X dX12_asks_26 ?_
  obtain ⟨v3, ev3, h⟩ := bnd h
  refine aw_iald X dX12_asks_27 iu_RX12_1 ev3 ?_
  obtain ⟨s4, es4, h⟩ := bnd h
  refine aw_iast X dX12_asks_28 iu_RX12_38 es4 ?_
  refine aw_aload_n X dX12_asks_29 rfl ?_
  refine aw_getr X dX12_asks_30 fl_RX12_68 iu_RX12 gu_RX12_38 ?_
  refine aw_iconst (v := 2) X dX12_asks_33 (by decide) ?_
  refine aw_aload_n X dX12_asks_34 rfl ?_
  refine aw_aload_n X dX12_asks_35 rfl ?_
  refine aw_getr X dX12_asks_36 fl_RX12_7 iu_RX12 gu_RX12_1 ?_
  refine aw_bipush (v := 46) X dX12_asks_39 (by decide) ?_
  refine aw_iload_n X dX12_asks_41 rfl ?_
  refine aw_iadd X dX12_asks_42 ?_
  obtain ⟨v5, ev5, h⟩ := bnd h
  refine aw_iald X dX12_asks_43 iu_RX12_1 ev5 ?_
  obtain ⟨r6, er6, h⟩ := bnd h
  refine aw_callV X dX12_asks_44 cv_RX12_321 (ok_X12_onesOf er6 _ _ _ _ _) iu_RX12 rfl (Nat.le_trans (by decide) hfr) (by decide) rfl rfl (Nat.le_of_ble_eq_true rfl) ?_
  obtain ⟨s7, es7, h⟩ := bnd h
  refine aw_iast X dX12_asks_47 iu_RX12_38 es7 ?_
  refine aw_aload_n X dX12_asks_48 rfl ?_
  refine aw_getr X dX12_asks_49 fl_RX12_68 iu_RX12 gu_RX12_38 ?_
  refine aw_iconst (v := 3) X dX12_asks_52 (by decide) ?_
  refine aw_aload_n X dX12_asks_53 rfl ?_
  refine aw_getr X dX12_asks_54 fl_RX12_7 iu_RX12 gu_RX12_1 ?_
  refine aw_bipush (v := 60) X dX12_asks_57 (by decide) ?_
  refine aw_iload_n X dX12_asks_59 rfl ?_
  refine aw_iadd X dX12_asks_60 ?_
  obtain ⟨v8, ev8, h⟩ := bnd h
  refine aw_iald X dX12_asks_61 iu_RX12_1 ev8 ?_
  obtain ⟨s9, es9, h⟩ := bnd h
  refine aw_iast X dX12_asks_62 iu_RX12_38 es9 ?_
  refine aw_aload_n X dX12_asks_63 rfl ?_
  refine aw_getr X dX12_asks_64 fl_RX12_68 iu_RX12 gu_RX12_38 ?_
  refine aw_iconst (v := 4) X dX12_asks_67 (by decide) ?_
  refine aw_aload_n X dX12_asks_68 rfl ?_
  refine aw_getr X dX12_asks_69 fl_RX12_7 iu_RX12 gu_RX12_1 ?_
  refine aw_bipush (v := 74) X dX12_asks_72 (by decide) ?_
  refine aw_iload_n X dX12_asks_74 rfl ?_
  refine aw_iadd X dX12_asks_75 ?_
  obtain ⟨v10, ev10, h⟩ := bnd h
  refine aw_iald X dX12_asks_76 iu_RX12_1 ev10 ?_
  obtain ⟨s11, es11, h⟩ := bnd h
  refine aw_iast X dX12_asks_77 iu_RX12_38 es11 ?_
  refine aw_aload_n X dX12_asks_78 rfl ?_
  refine aw_getr X dX12_asks_79 fl_RX12_68 iu_RX12 gu_RX12_38 ?_
  refine aw_iconst (v := 5) X dX12_asks_82 (by decide) ?_
  refine aw_aload_n X dX12_asks_83 rfl ?_
  refine aw_getr X dX12_asks_84 fl_RX12_7 iu_RX12 gu_RX12_1 ?_
  refine aw_bipush (v := 88) X dX12_asks_87 (by decide) ?_
  refine aw_iload_n X dX12_asks_89 rfl ?_
  refine aw_iadd X dX12_asks_90 ?_
  obtain ⟨v12, ev12, h⟩ := bnd h
  refine aw_iald X dX12_asks_91 iu_RX12_1 ev12 ?_
  obtain ⟨s13, es13, h⟩ := bnd h
  refine aw_iast X dX12_asks_92 iu_RX12_38 es13 ?_
  refine aw_aload_n X dX12_asks_93 rfl ?_
  refine aw_getr X dX12_asks_94 fl_RX12_68 iu_RX12 gu_RX12_38 ?_
  refine aw_bipush (v := 6) X dX12_asks_97 (by decide) ?_
  refine aw_aload_n X dX12_asks_99 rfl ?_
  refine aw_iload_n X dX12_asks_100 rfl ?_
  obtain ⟨r14, er14, h⟩ := bnd h
  refine aw_callV X dX12_asks_101 cv_RX12_324 (ok_X12_byOf er14 _ _ _ _ _) iu_RX12 rfl (Nat.le_trans (by decide) hfr) (by decide) rfl rfl (Nat.le_of_ble_eq_true rfl) ?_
  refine aw_iconst (v := (-1)) X dX12_asks_104 (by decide) ?_
  refine aw_icmp_ne (tgt := 112) X dX12_asks_105 (by decide) (fun c15 => ?_) (fun c15 => ?_)
  · rw [if_neg c15] at h
    refine aw_aload_n X dX12_asks_112 rfl ?_
    refine aw_aload_n X dX12_asks_113 rfl ?_
    refine aw_iload_n X dX12_asks_114 rfl ?_
    obtain ⟨r16, er16, h⟩ := bnd h
    refine aw_callV X dX12_asks_115 cv_RX12_324 (ok_X12_byOf er16 _ _ _ _ _) iu_RX12 rfl (Nat.le_trans (by decide) hfr) (by decide) rfl rfl (Nat.le_of_ble_eq_true rfl) ?_
    refine aw_iload_n X dX12_asks_118 rfl ?_
    refine aw_isub X dX12_asks_119 ?_
    obtain ⟨r17, er17, h⟩ := bnd h
    refine aw_callV X dX12_asks_120 cv_RX12_327 (ok_X12_plain er17 _ _ _ _ _) iu_RX12 rfl (Nat.le_trans (by decide) hfr) (by decide) rfl rfl (Nat.le_of_ble_eq_true rfl) ?_
    refine aw_msk [true, false] ?_
    exact jo_X12_asks_123 hfr Z X _ _ _ _ hz h
  · rw [if_pos c15] at h
    refine aw_iconst (v := 0) X dX12_asks_108 (by decide) ?_
    refine aw_goto (tgt := 123) X dX12_asks_109 (by decide) ?_
    refine aw_msk [true, false] ?_
    exact jo_X12_asks_123 hfr Z X _ _ _ _ hz h
set_option maxRecDepth 100000 in
set_option maxHeartbeats 4000000 in
theorem ok_X12_asks {x1 : Int32} {s : Mem} {r : Mem} (h : f_X12_asks x1 s = some r) (l : Launch) (D : va_G) (ρ : Nat → Nat) (cA : ClassId × ClassId × ClassId) (τ : AT) : AM l D ρ cA 1 τ yX12_asks cX12_asks 2 none 1 [.ref (ρ 0), .int x1] none s r := by
  refine AM_of (L := [some (.ref (ρ 0)), some (.int x1)]) (by decide) (by simp [Value.category]) (Nat.le_of_ble_eq_true rfl) (fun j v q => ?_) (fun Z X hρ hz hτ => ?_)
  · exact aL_ok (n := 0) [.ref (ρ 0), .int x1] j v q
  · subst hρ
    subst hτ
    exact w_X12_asks (Nat.le_refl _) Z X x1 s r hz h
