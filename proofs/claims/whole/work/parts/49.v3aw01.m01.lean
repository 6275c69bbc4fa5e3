/-! ===== walks: X2_evenTurnedUpTo .. J1_indexOf_4cfef ===== -/
theorem dX2_evenTurnedUpTo_0 : decode cX2_evenTurnedUpTo 0 = .ok (.iconst 0, 1) := by decide +kernel
theorem dX2_evenTurnedUpTo_1 : decode cX2_evenTurnedUpTo 1 = .ok (.istore_n 1, 1) := by decide +kernel
theorem dX2_evenTurnedUpTo_2 : decode cX2_evenTurnedUpTo 2 = .ok (.iconst 0, 1) := by decide +kernel
theorem dX2_evenTurnedUpTo_3 : decode cX2_evenTurnedUpTo 3 = .ok (.istore_n 2, 1) := by decide +kernel
theorem dX2_evenTurnedUpTo_4 : decode cX2_evenTurnedUpTo 4 = .ok (.iload_n 2, 1) := by decide +kernel
theorem dX2_evenTurnedUpTo_5 : decode cX2_evenTurnedUpTo 5 = .ok (.sipush 1000, 3) := by decide +kernel
theorem dX2_evenTurnedUpTo_8 : decode cX2_evenTurnedUpTo 8 = .ok (.if_icmp .ge 54, 3) := by decide +kernel
theorem dX2_evenTurnedUpTo_11 : decode cX2_evenTurnedUpTo 11 = .ok (.iload_n 2, 1) := by decide +kernel
theorem dX2_evenTurnedUpTo_12 : decode cX2_evenTurnedUpTo 12 = .ok (.iconst 1, 1) := by decide +kernel
theorem dX2_evenTurnedUpTo_13 : decode cX2_evenTurnedUpTo 13 = .ok (.invokestatic 15, 3) := by decide +kernel
theorem dX2_evenTurnedUpTo_16 : decode cX2_evenTurnedUpTo 16 = .ok (.istore_n 3, 1) := by decide +kernel
theorem dX2_evenTurnedUpTo_17 : decode cX2_evenTurnedUpTo 17 = .ok (.iload_n 3, 1) := by decide +kernel
theorem dX2_evenTurnedUpTo_18 : decode cX2_evenTurnedUpTo 18 = .ok (.iconst (-1), 1) := by decide +kernel
theorem dX2_evenTurnedUpTo_19 : decode cX2_evenTurnedUpTo 19 = .ok (.if_icmp .eq 11, 3) := by decide +kernel
theorem dX2_evenTurnedUpTo_22 : decode cX2_evenTurnedUpTo 22 = .ok (.iload_n 3, 1) := by decide +kernel
theorem dX2_evenTurnedUpTo_23 : decode cX2_evenTurnedUpTo 23 = .ok (.iload_n 0, 1) := by decide +kernel
theorem dX2_evenTurnedUpTo_24 : decode cX2_evenTurnedUpTo 24 = .ok (.if_icmp .gt 6, 3) := by decide +kernel
theorem dX2_evenTurnedUpTo_27 : decode cX2_evenTurnedUpTo 27 = .ok (.iinc 1 1, 3) := by decide +kernel
theorem dX2_evenTurnedUpTo_30 : decode cX2_evenTurnedUpTo 30 = .ok (.iload_n 2, 1) := by decide +kernel
theorem dX2_evenTurnedUpTo_31 : decode cX2_evenTurnedUpTo 31 = .ok (.iconst 0, 1) := by decide +kernel
theorem dX2_evenTurnedUpTo_32 : decode cX2_evenTurnedUpTo 32 = .ok (.invokestatic 15, 3) := by decide +kernel
theorem dX2_evenTurnedUpTo_35 : decode cX2_evenTurnedUpTo 35 = .ok (.istore 4, 2) := by decide +kernel
theorem dX2_evenTurnedUpTo_37 : decode cX2_evenTurnedUpTo 37 = .ok (.iload 4, 2) := by decide +kernel
theorem dX2_evenTurnedUpTo_39 : decode cX2_evenTurnedUpTo 39 = .ok (.iconst (-1), 1) := by decide +kernel
theorem dX2_evenTurnedUpTo_40 : decode cX2_evenTurnedUpTo 40 = .ok (.if_icmp .eq 16, 3) := by decide +kernel
theorem dX2_evenTurnedUpTo_43 : decode cX2_evenTurnedUpTo 43 = .ok (.iload 4, 2) := by decide +kernel
theorem dX2_evenTurnedUpTo_45 : decode cX2_evenTurnedUpTo 45 = .ok (.iload_n 0, 1) := by decide +kernel
theorem dX2_evenTurnedUpTo_46 : decode cX2_evenTurnedUpTo 46 = .ok (.if_icmp .gt 10, 3) := by decide +kernel
theorem dX2_evenTurnedUpTo_49 : decode cX2_evenTurnedUpTo 49 = .ok (.iload_n 2, 1) := by decide +kernel
theorem dX2_evenTurnedUpTo_50 : decode cX2_evenTurnedUpTo 50 = .ok (.ifCond .le 6, 3) := by decide +kernel
theorem dX2_evenTurnedUpTo_53 : decode cX2_evenTurnedUpTo 53 = .ok (.iinc 1 1, 3) := by decide +kernel
theorem dX2_evenTurnedUpTo_56 : decode cX2_evenTurnedUpTo 56 = .ok (.iinc 2 1, 3) := by decide +kernel
theorem dX2_evenTurnedUpTo_59 : decode cX2_evenTurnedUpTo 59 = .ok (.goto (-55), 3) := by decide +kernel
theorem dX2_evenTurnedUpTo_62 : decode cX2_evenTurnedUpTo 62 = .ok (.iload_n 1, 1) := by decide +kernel
theorem dX2_evenTurnedUpTo_63 : decode cX2_evenTurnedUpTo 63 = .ok (.ireturn, 1) := by decide +kernel
set_option maxRecDepth 100000 in
set_option maxHeartbeats 4000000 in
theorem jo_X2_evenTurnedUpTo_30 {fr : Nat} (hfr : 1 ≤ fr) (Z : AZ) (X : AX Z cX2_evenTurnedUpTo 5 RX2 (some .int) 0 fr) (x0 : Int32) (x1 : Int32) (x2 : Int32) (s : Mem) (q : (Int32 × Int32 × Mem) ⊕ (Int32 × Mem)) (h : jn_X2_evenTurnedUpTo_30 x0 x1 x2 s = some q) (hi : ∀ y : Int32 × Int32 × Mem, q = .inl y → AW Z y.2.2 4 [some (.int x0), some (.int y.1), some (.int y.2.1), none, none] []) (he : ∀ b : Int32 × Mem, q = .inr b → AW Z b.2 62 [none, some (.int b.1), none, none, none] []) : AW Z s 30 [some (.int x0), some (.int x1), some (.int x2), none, none] [] := by
  unfold jn_X2_evenTurnedUpTo_30 at h
  refine aw_iload_n X dX2_evenTurnedUpTo_30 rfl ?_
  refine aw_iconst (v := 0) X dX2_evenTurnedUpTo_31 (by decide) ?_
  obtain ⟨r4, er4, h⟩ := bnd h
  refine aw_callS X dX2_evenTurnedUpTo_32 cv_RX2_15 (ok_X2_mirrored er4 _ _ _ _ _) (Nat.le_trans (by decide) hfr) (by decide) rfl rfl (Nat.le_of_ble_eq_true rfl) ?_
  refine aw_istore (L' := [some (.int x0), some (.int x1), some (.int x2), none, some (.int r4.1)]) X dX2_evenTurnedUpTo_35 (by decide) rfl ?_
  refine aw_iload X dX2_evenTurnedUpTo_37 rfl ?_
  refine aw_iconst (v := (-1)) X dX2_evenTurnedUpTo_39 (by decide) ?_
  refine aw_icmp_eq (tgt := 56) X dX2_evenTurnedUpTo_40 (by decide) (fun c5 => ?_) (fun c5 => ?_)
  · rw [if_pos c5] at h
    refine aw_iinc (v := (x2 + 1)) (L' := [some (.int x0), some (.int x1), some (.int (x2 + 1)), none, some (.int r4.1)]) X dX2_evenTurnedUpTo_56 rfl rfl (by decide) rfl ?_
    refine aw_goto (tgt := 4) X dX2_evenTurnedUpTo_59 (by decide) ?_
    cases h
    refine aw_msk [true, true, true, false, false] ?_
    exact hi _ rfl
  · rw [if_neg c5] at h
    refine aw_iload X dX2_evenTurnedUpTo_43 rfl ?_
    refine aw_iload_n X dX2_evenTurnedUpTo_45 rfl ?_
    refine aw_icmp_gt (tgt := 56) X dX2_evenTurnedUpTo_46 (by decide) (fun c6 => ?_) (fun c6 => ?_)
    · rw [if_pos c6] at h
      refine aw_iinc (v := (x2 + 1)) (L' := [some (.int x0), some (.int x1), some (.int (x2 + 1)), none, some (.int r4.1)]) X dX2_evenTurnedUpTo_56 rfl rfl (by decide) rfl ?_
      refine aw_goto (tgt := 4) X dX2_evenTurnedUpTo_59 (by decide) ?_
      cases h
      refine aw_msk [true, true, true, false, false] ?_
      exact hi _ rfl
    · rw [if_neg c6] at h
      refine aw_iload_n X dX2_evenTurnedUpTo_49 rfl ?_
      refine aw_if_le (tgt := 56) X dX2_evenTurnedUpTo_50 (by decide) (fun c7 => ?_) (fun c7 => ?_)
      · rw [if_pos c7] at h
        refine aw_iinc (v := (x2 + 1)) (L' := [some (.int x0), some (.int x1), some (.int (x2 + 1)), none, some (.int r4.1)]) X dX2_evenTurnedUpTo_56 rfl rfl (by decide) rfl ?_
        refine aw_goto (tgt := 4) X dX2_evenTurnedUpTo_59 (by decide) ?_
        cases h
        refine aw_msk [true, true, true, false, false] ?_
        exact hi _ rfl
      · rw [if_neg c7] at h
        refine aw_iinc (v := (x1 + 1)) (L' := [some (.int x0), some (.int (x1 + 1)), some (.int x2), none, some (.int r4.1)]) X dX2_evenTurnedUpTo_53 rfl rfl (by decide) rfl ?_
        refine aw_iinc (v := (x2 + 1)) (L' := [some (.int x0), some (.int (x1 + 1)), some (.int (x2 + 1)), none, some (.int r4.1)]) X dX2_evenTurnedUpTo_56 rfl rfl (by decide) rfl ?_
        refine aw_goto (tgt := 4) X dX2_evenTurnedUpTo_59 (by decide) ?_
        cases h
        refine aw_msk [true, true, true, false, false] ?_
        exact hi _ rfl
set_option maxRecDepth 100000 in
set_option maxHeartbeats 4000000 in
theorem so_X2_evenTurnedUpTo_4 {fr : Nat} (hfr : 1 ≤ fr) (Z : AZ) (X : AX Z cX2_evenTurnedUpTo 5 RX2 (some .int) 0 fr) (x0 : Int32) (x1 : Int32) (x2 : Int32) (s : Mem) (q : (Int32 × Int32 × Mem) ⊕ (Int32 × Mem)) (h : st_X2_evenTurnedUpTo_4 x0 x1 x2 s = some q) (hi : ∀ y : Int32 × Int32 × Mem, q = .inl y → AW Z y.2.2 4 [some (.int x0), some (.int y.1), some (.int y.2.1), none, none] []) (he : ∀ b : Int32 × Mem, q = .inr b → AW Z b.2 62 [none, some (.int b.1), none, none, none] []) : AW Z s 4 [some (.int x0), some (.int x1), some (.int x2), none, none] [] := by
  unfold st_X2_evenTurnedUpTo_4 at h
  refine aw_iload_n X dX2_evenTurnedUpTo_4 rfl ?_
  refine aw_sipush (v := 1000) X dX2_evenTurnedUpTo_5 (by decide) ?_
  refine aw_icmp_ge (tgt := 62) X dX2_evenTurnedUpTo_8 (by decide) (fun c1 => ?_) (fun c1 => ?_)
  · rw [if_pos c1] at h
    cases h
    refine aw_msk [false, true, false, false, false] ?_
    exact he _ rfl
  · rw [if_neg c1] at h
    refine aw_iload_n X dX2_evenTurnedUpTo_11 rfl ?_
    refine aw_iconst (v := 1) X dX2_evenTurnedUpTo_12 (by decide) ?_
    obtain ⟨r2, er2, h⟩ := bnd h
    refine aw_callS X dX2_evenTurnedUpTo_13 cv_RX2_15 (ok_X2_mirrored er2 _ _ _ _ _) (Nat.le_trans (by decide) hfr) (by decide) rfl rfl (Nat.le_of_ble_eq_true rfl) ?_
    refine aw_istore_n (L' := [some (.int x0), some (.int x1), some (.int x2), some (.int r2.1), none]) X dX2_evenTurnedUpTo_16 (by decide) rfl ?_
    refine aw_iload_n X dX2_evenTurnedUpTo_17 rfl ?_
    refine aw_iconst (v := (-1)) X dX2_evenTurnedUpTo_18 (by decide) ?_
    refine aw_icmp_eq (tgt := 30) X dX2_evenTurnedUpTo_19 (by decide) (fun c3 => ?_) (fun c3 => ?_)
    · rw [if_pos c3] at h
      refine aw_msk [true, true, true, false, false] ?_
      exact jo_X2_evenTurnedUpTo_30 hfr Z X _ _ _ _ _ h hi he
    · rw [if_neg c3] at h
      refine aw_iload_n X dX2_evenTurnedUpTo_22 rfl ?_
      refine aw_iload_n X dX2_evenTurnedUpTo_23 rfl ?_
      refine aw_icmp_gt (tgt := 30) X dX2_evenTurnedUpTo_24 (by decide) (fun c8 => ?_) (fun c8 => ?_)
      · rw [if_pos c8] at h
        refine aw_msk [true, true, true, false, false] ?_
        exact jo_X2_evenTurnedUpTo_30 hfr Z X _ _ _ _ _ h hi he
      · rw [if_neg c8] at h
        refine aw_iinc (v := (x1 + 1)) (L' := [some (.int x0), some (.int (x1 + 1)), some (.int x2), some (.int r2.1), none]) X dX2_evenTurnedUpTo_27 rfl rfl (by decide) rfl ?_
        refine aw_msk [true, true, true, false, false] ?_
        exact jo_X2_evenTurnedUpTo_30 hfr Z X _ _ _ _ _ h hi he
set_option maxRecDepth 100000 in
set_option maxHeartbeats 4000000 in
theorem w_X2_evenTurnedUpTo {fr : Nat} (hfr : 1 ≤ fr) (Z : AZ) (X : AX Z cX2_evenTurnedUpTo 5 RX2 (some .int) 0 fr) (x0 : Int32) (s : Mem) (r : Int32 × Mem) (hz : zres Z = (some (.int r.1), r.2)) (h : f_X2_evenTurnedUpTo x0 s = some r) : AW Z s 0 [some (.int x0), none, none, none, none] [] := by
  unfold f_X2_evenTurnedUpTo at h
  refine aw_iconst (v := 0) X dX2_evenTurnedUpTo_0 (by decide) ?_
  refine aw_istore_n (L' := [some (.int x0), some (.int 0), none, none, none]) X dX2_evenTurnedUpTo_1 (by decide) rfl ?_
  refine aw_iconst (v := 0) X dX2_evenTurnedUpTo_2 (by decide) ?_
  refine aw_istore_n (L' := [some (.int x0), some (.int 0), some (.int 0), none, none]) X dX2_evenTurnedUpTo_3 (by decide) rfl ?_
  obtain ⟨r9, er9, h⟩ := bnd h
  refine aw_msk [true, true, true, false, false] ?_
  refine it_ok (P := fun y : Int32 × Int32 × Mem => AW Z y.2.2 4 [some (.int x0), some (.int y.1), some (.int y.2.1), none, none] []) (Q := fun b : Int32 × Mem => AW Z b.2 62 [none, some (.int b.1), none, none, none] []) (fun y q hq hi he => so_X2_evenTurnedUpTo_4 hfr Z X x0 y.1 y.2.1 y.2.2 q hq hi he) FUEL _ _ er9 ?_
  refine aw_iload_n X dX2_evenTurnedUpTo_62 rfl ?_
  cases h
  exact aw_iret X dX2_evenTurnedUpTo_63 rfl hz.symm
set_option maxRecDepth 100000 in
set_option maxHeartbeats 4000000 in
theorem ok_X2_evenTurnedUpTo {x0 : Int32} {s : Mem} {r : Int32 × Mem} (h : f_X2_evenTurnedUpTo x0 s = some r) (l : Launch) (D : va_G) (ρ : Nat → Nat) (cA : ClassId × ClassId × ClassId) (τ : AT) : AM l D ρ cA 0 τ yX2_evenTurnedUpTo cX2_evenTurnedUpTo 5 (some .int) 1 [.int x0] (some (.int r.1)) s r.2 := by
  refine AM_of (L := [some (.int x0), none, none, none, none]) (by decide) (by simp [Value.category]) (Nat.le_of_ble_eq_true rfl) (fun j v q => ?_) (fun Z X hρ hz hτ => ?_)
  · exact aL_ok (n := 4) [.int x0] j v q
  · subst hρ
    subst hτ
    exact w_X2_evenTurnedUpTo (Nat.le_refl _) Z X x0 s r hz h

theorem dX2_digitCount_0 : decode cX2_digitCount 0 = .ok (.iconst 0, 1) := by decide +kernel
theorem dX2_digitCount_1 : decode cX2_digitCount 1 = .ok (.istore_n 2, 1) := by decide +kernel
theorem dX2_digitCount_2 : decode cX2_digitCount 2 = .ok (.iconst 1, 1) := by decide +kernel
theorem dX2_digitCount_3 : decode cX2_digitCount 3 = .ok (.istore_n 3, 1) := by decide +kernel
theorem dX2_digitCount_4 : decode cX2_digitCount 4 = .ok (.iload_n 3, 1) := by decide +kernel
theorem dX2_digitCount_5 : decode cX2_digitCount 5 = .ok (.sipush 1000, 3) := by decide +kernel
theorem dX2_digitCount_8 : decode cX2_digitCount 8 = .ok (.if_icmp .gt 84, 3) := by decide +kernel
theorem dX2_digitCount_11 : decode cX2_digitCount 11 = .ok (.iload_n 0, 1) := by decide +kernel
theorem dX2_digitCount_12 : decode cX2_digitCount 12 = .ok (.iload_n 3, 1) := by decide +kernel
theorem dX2_digitCount_13 : decode cX2_digitCount 13 = .ok (.idiv, 1) := by decide +kernel
theorem dX2_digitCount_14 : decode cX2_digitCount 14 = .ok (.bipush 10, 2) := by decide +kernel
theorem dX2_digitCount_16 : decode cX2_digitCount 16 = .ok (.idiv, 1) := by decide +kernel
theorem dX2_digitCount_17 : decode cX2_digitCount 17 = .ok (.istore 4, 2) := by decide +kernel
theorem dX2_digitCount_19 : decode cX2_digitCount 19 = .ok (.iload_n 0, 1) := by decide +kernel
theorem dX2_digitCount_20 : decode cX2_digitCount 20 = .ok (.iload_n 3, 1) := by decide +kernel
theorem dX2_digitCount_21 : decode cX2_digitCount 21 = .ok (.idiv, 1) := by decide +kernel
theorem dX2_digitCount_22 : decode cX2_digitCount 22 = .ok (.bipush 10, 2) := by decide +kernel
theorem dX2_digitCount_24 : decode cX2_digitCount 24 = .ok (.irem, 1) := by decide +kernel
theorem dX2_digitCount_25 : decode cX2_digitCount 25 = .ok (.istore 5, 2) := by decide +kernel
theorem dX2_digitCount_27 : decode cX2_digitCount 27 = .ok (.iload_n 0, 1) := by decide +kernel
theorem dX2_digitCount_28 : decode cX2_digitCount 28 = .ok (.iload_n 3, 1) := by decide +kernel
theorem dX2_digitCount_29 : decode cX2_digitCount 29 = .ok (.irem, 1) := by decide +kernel
theorem dX2_digitCount_30 : decode cX2_digitCount 30 = .ok (.istore 6, 2) := by decide +kernel
theorem dX2_digitCount_32 : decode cX2_digitCount 32 = .ok (.iload_n 1, 1) := by decide +kernel
theorem dX2_digitCount_33 : decode cX2_digitCount 33 = .ok (.ifCond .ne 10, 3) := by decide +kernel
theorem dX2_digitCount_36 : decode cX2_digitCount 36 = .ok (.iload 4, 2) := by decide +kernel
theorem dX2_digitCount_38 : decode cX2_digitCount 38 = .ok (.iconst 1, 1) := by decide +kernel
theorem dX2_digitCount_39 : decode cX2_digitCount 39 = .ok (.isub, 1) := by decide +kernel
theorem dX2_digitCount_40 : decode cX2_digitCount 40 = .ok (.goto 5, 3) := by decide +kernel
theorem dX2_digitCount_43 : decode cX2_digitCount 43 = .ok (.iload 4, 2) := by decide +kernel
theorem dX2_digitCount_45 : decode cX2_digitCount 45 = .ok (.istore 7, 2) := by decide +kernel
theorem dX2_digitCount_47 : decode cX2_digitCount 47 = .ok (.iload 7, 2) := by decide +kernel
theorem dX2_digitCount_49 : decode cX2_digitCount 49 = .ok (.ifCond .lt 35, 3) := by decide +kernel
theorem dX2_digitCount_52 : decode cX2_digitCount 52 = .ok (.iload_n 2, 1) := by decide +kernel
theorem dX2_digitCount_53 : decode cX2_digitCount 53 = .ok (.iload 7, 2) := by decide +kernel
theorem dX2_digitCount_55 : decode cX2_digitCount 55 = .ok (.iload_n 3, 1) := by decide +kernel
theorem dX2_digitCount_56 : decode cX2_digitCount 56 = .ok (.imul, 1) := by decide +kernel
theorem dX2_digitCount_57 : decode cX2_digitCount 57 = .ok (.iload 5, 2) := by decide +kernel
theorem dX2_digitCount_59 : decode cX2_digitCount 59 = .ok (.iload_n 1, 1) := by decide +kernel
theorem dX2_digitCount_60 : decode cX2_digitCount 60 = .ok (.if_icmp .le 7, 3) := by decide +kernel
theorem dX2_digitCount_63 : decode cX2_digitCount 63 = .ok (.iload_n 3, 1) := by decide +kernel
theorem dX2_digitCount_64 : decode cX2_digitCount 64 = .ok (.goto 17, 3) := by decide +kernel
theorem dX2_digitCount_67 : decode cX2_digitCount 67 = .ok (.iload 5, 2) := by decide +kernel
theorem dX2_digitCount_69 : decode cX2_digitCount 69 = .ok (.iload_n 1, 1) := by decide +kernel
theorem dX2_digitCount_70 : decode cX2_digitCount 70 = .ok (.if_icmp .ne 10, 3) := by decide +kernel
theorem dX2_digitCount_73 : decode cX2_digitCount 73 = .ok (.iload 6, 2) := by decide +kernel
theorem dX2_digitCount_75 : decode cX2_digitCount 75 = .ok (.iconst 1, 1) := by decide +kernel
theorem dX2_digitCount_76 : decode cX2_digitCount 76 = .ok (.iadd, 1) := by decide +kernel
theorem dX2_digitCount_77 : decode cX2_digitCount 77 = .ok (.goto 4, 3) := by decide +kernel
theorem dX2_digitCount_80 : decode cX2_digitCount 80 = .ok (.iconst 0, 1) := by decide +kernel
theorem dX2_digitCount_81 : decode cX2_digitCount 81 = .ok (.iadd, 1) := by decide +kernel
theorem dX2_digitCount_82 : decode cX2_digitCount 82 = .ok (.iadd, 1) := by decide +kernel
theorem dX2_digitCount_83 : decode cX2_digitCount 83 = .ok (.istore_n 2, 1) := by decide +kernel
theorem dX2_digitCount_84 : decode cX2_digitCount 84 = .ok (.iload_n 3, 1) := by decide +kernel
theorem dX2_digitCount_85 : decode cX2_digitCount 85 = .ok (.bipush 10, 2) := by decide +kernel
theorem dX2_digitCount_87 : decode cX2_digitCount 87 = .ok (.imul, 1) := by decide +kernel
theorem dX2_digitCount_88 : decode cX2_digitCount 88 = .ok (.istore_n 3, 1) := by decide +kernel
theorem dX2_digitCount_89 : decode cX2_digitCount 89 = .ok (.goto (-85), 3) := by decide +kernel
theorem dX2_digitCount_92 : decode cX2_digitCount 92 = .ok (.iload_n 2, 1) := by decide +kernel
theorem dX2_digitCount_93 : decode cX2_digitCount 93 = .ok (.ireturn, 1) := by decide +kernel
set_option maxRecDepth 100000 in
set_option maxHeartbeats 4000000 in
theorem jo_X2_digitCount_81 {fr : Nat} (hfr : 0 ≤ fr) (Z : AZ) (X : AX Z cX2_digitCount 8 RX2 (some .int) 0 fr) (x0 : Int32) (x1 : Int32) (x3 : Int32) (t0 : Int32) (t1 : Int32) (t2 : Int32) (s : Mem) (q : (Int32 × Int32 × Mem) ⊕ (Int32 × Mem)) (h : jn_X2_digitCount_81 x0 x1 x3 t0 t1 t2 s = some q) (hi : ∀ y : Int32 × Int32 × Mem, q = .inl y → AW Z y.2.2 4 [some (.int x0), some (.int x1), some (.int y.1), some (.int y.2.1), none, none, none, none] []) (he : ∀ b : Int32 × Mem, q = .inr b → AW Z b.2 92 [none, none, some (.int b.1), none, none, none, none, none] []) : AW Z s 81 [some (.int x0), some (.int x1), none, some (.int x3), none, none, none, none] [.int t2, .int t1, .int t0] := by
  unfold jn_X2_digitCount_81 at h
  refine aw_iadd X dX2_digitCount_81 ?_
  refine aw_iadd X dX2_digitCount_82 ?_
  refine aw_istore_n (L' := [some (.int x0), some (.int x1), some (.int (t0 + (t1 + t2))), some (.int x3), none, none, none, none]) X dX2_digitCount_83 (by decide) rfl ?_
  refine aw_iload_n X dX2_digitCount_84 rfl ?_
  refine aw_bipush (v := 10) X dX2_digitCount_85 (by decide) ?_
  refine aw_imul X dX2_digitCount_87 ?_
  refine aw_istore_n (L' := [some (.int x0), some (.int x1), some (.int (t0 + (t1 + t2))), some (.int (x3 * 10)), none, none, none, none]) X dX2_digitCount_88 (by decide) rfl ?_
  refine aw_goto (tgt := 4) X dX2_digitCount_89 (by decide) ?_
  cases h
  refine aw_msk [true, true, true, true, false, false, false, false] ?_
  exact hi _ rfl
set_option maxRecDepth 100000 in
set_option maxHeartbeats 4000000 in
theorem jo_X2_digitCount_45 {fr : Nat} (hfr : 0 ≤ fr) (Z : AZ) (X : AX Z cX2_digitCount 8 RX2 (some .int) 0 fr) (x0 : Int32) (x1 : Int32) (x2 : Int32) (x3 : Int32) (x5 : Int32) (x6 : Int32) (t0 : Int32) (s : Mem) (q : (Int32 × Int32 × Mem) ⊕ (Int32 × Mem)) (h : jn_X2_digitCount_45 x0 x1 x2 x3 x5 x6 t0 s = some q) (hi : ∀ y : Int32 × Int32 × Mem, q = .inl y → AW Z y.2.2 4 [some (.int x0), some (.int x1), some (.int y.1), some (.int y.2.1), none, none, none, none] []) (he : ∀ b : Int32 × Mem, q = .inr b → AW Z b.2 92 [none, none, some (.int b.1), none, none, none, none, none] []) : AW Z s 45 [some (.int x0), some (.int x1), some (.int x2), some (.int x3), none, some (.int x5), some (.int x6), none] [.int t0] := by
  unfold jn_X2_digitCount_45 at h
  refine aw_istore (L' := [some (.int x0), some (.int x1), some (.int x2), some (.int x3), none, some (.int x5), some (.int x6), some (.int t0)]) X dX2_digitCount_45 (by decide) rfl ?_
  refine aw_iload X dX2_digitCount_47 rfl ?_
  refine aw_if_lt (tgt := 84) X dX2_digitCount_49 (by decide) (fun c6 => ?_) (fun c6 => ?_)
  · rw [if_pos c6] at h
    refine aw_iload_n X dX2_digitCount_84 rfl ?_
    refine aw_bipush (v := 10) X dX2_digitCount_85 (by decide) ?_
    refine aw_imul X dX2_digitCount_87 ?_
    refine aw_istore_n (L' := [some (.int x0), some (.int x1), some (.int x2), some (.int (x3 * 10)), none, some (.int x5), some (.int x6), some (.int t0)]) X dX2_digitCount_88 (by decide) rfl ?_
    refine aw_goto (tgt := 4) X dX2_digitCount_89 (by decide) ?_
    cases h
    refine aw_msk [true, true, true, true, false, false, false, false] ?_
    exact hi _ rfl
  · rw [if_neg c6] at h
    refine aw_iload_n X dX2_digitCount_52 rfl ?_
    refine aw_iload X dX2_digitCount_53 rfl ?_
    refine aw_iload_n X dX2_digitCount_55 rfl ?_
    refine aw_imul X dX2_digitCount_56 ?_
    refine aw_iload X dX2_digitCount_57 rfl ?_
    refine aw_iload_n X dX2_digitCount_59 rfl ?_
    refine aw_icmp_le (tgt := 67) X dX2_digitCount_60 (by decide) (fun c7 => ?_) (fun c7 => ?_)
    · rw [if_pos c7] at h
      refine aw_iload X dX2_digitCount_67 rfl ?_
      refine aw_iload_n X dX2_digitCount_69 rfl ?_
      refine aw_icmp_ne (tgt := 80) X dX2_digitCount_70 (by decide) (fun c8 => ?_) (fun c8 => ?_)
      · rw [if_neg c8] at h
        refine aw_iconst (v := 0) X dX2_digitCount_80 (by decide) ?_
        refine aw_msk [true, true, false, true, false, false, false, false] ?_
        exact jo_X2_digitCount_81 hfr Z X _ _ _ _ _ _ _ _ h hi he
      · rw [if_pos c8] at h
        refine aw_iload X dX2_digitCount_73 rfl ?_
        refine aw_iconst (v := 1) X dX2_digitCount_75 (by decide) ?_
        refine aw_iadd X dX2_digitCount_76 ?_
        refine aw_goto (tgt := 81) X dX2_digitCount_77 (by decide) ?_
        refine aw_msk [true, true, false, true, false, false, false, false] ?_
        exact jo_X2_digitCount_81 hfr Z X _ _ _ _ _ _ _ _ h hi he
    · rw [if_neg c7] at h
      refine aw_iload_n X dX2_digitCount_63 rfl ?_
      refine aw_goto (tgt := 81) X dX2_digitCount_64 (by decide) ?_
      refine aw_msk [true, true, false, true, false, false, false, false] ?_
      exact jo_X2_digitCount_81 hfr Z X _ _ _ _ _ _ _ _ h hi he
set_option maxRecDepth 100000 in
set_option maxHeartbeats 4000000 in
theorem so_X2_digitCount_4 {fr : Nat} (hfr : 0 ≤ fr) (Z : AZ) (X : AX Z cX2_digitCount 8 RX2 (some .int) 0 fr) (x0 : Int32) (x1 : Int32) (x2 : Int32) (x3 : Int32) (s : Mem) (q : (Int32 × Int32 × Mem) ⊕ (Int32 × Mem)) (h : st_X2_digitCount_4 x0 x1 x2 x3 s = some q) (hi : ∀ y : Int32 × Int32 × Mem, q = .inl y → AW Z y.2.2 4 [some (.int x0), some (.int x1), some (.int y.1), some (.int y.2.1), none, none, none, none] []) (he : ∀ b : Int32 × Mem, q = .inr b → AW Z b.2 92 [none, none, some (.int b.1), none, none, none, none, none] []) : AW Z s 4 [some (.int x0), some (.int x1), some (.int x2), some (.int x3), none, none, none, none] [] := by
  unfold st_X2_digitCount_4 at h
  refine aw_iload_n X dX2_digitCount_4 rfl ?_
  refine aw_sipush (v := 1000) X dX2_digitCount_5 (by decide) ?_
  refine aw_icmp_gt (tgt := 92) X dX2_digitCount_8 (by decide) (fun c1 => ?_) (fun c1 => ?_)
  · rw [if_pos c1] at h
    cases h
    refine aw_msk [false, false, true, false, false, false, false, false] ?_
    exact he _ rfl
  · rw [if_neg c1] at h
    refine aw_iload_n X dX2_digitCount_11 rfl ?_
    refine aw_iload_n X dX2_digitCount_12 rfl ?_
    by_cases c2 : x3 = 0
    · rw [if_pos c2] at h
      cases h
    rw [if_neg c2] at h
    refine aw_idiv X dX2_digitCount_13 c2 ?_
    refine aw_bipush (v := 10) X dX2_digitCount_14 (by decide) ?_
    refine aw_idiv X dX2_digitCount_16 (by decide) ?_
    refine aw_istore (L' := [some (.int x0), some (.int x1), some (.int x2), some (.int x3), some (.int ((x0 / x3) / 10)), none, none, none]) X dX2_digitCount_17 (by decide) rfl ?_
    refine aw_iload_n X dX2_digitCount_19 rfl ?_
    refine aw_iload_n X dX2_digitCount_20 rfl ?_
    by_cases c3 : x3 = 0
    · rw [if_pos c3] at h
      cases h
    rw [if_neg c3] at h
    refine aw_idiv X dX2_digitCount_21 c3 ?_
    refine aw_bipush (v := 10) X dX2_digitCount_22 (by decide) ?_
    refine aw_irem X dX2_digitCount_24 (by decide) ?_
    refine aw_istore (L' := [some (.int x0), some (.int x1), some (.int x2), some (.int x3), some (.int ((x0 / x3) / 10)), some (.int ((x0 / x3) % 10)), none, none]) X dX2_digitCount_25 (by decide) rfl ?_
    refine aw_iload_n X dX2_digitCount_27 rfl ?_
    refine aw_iload_n X dX2_digitCount_28 rfl ?_
    by_cases c4 : x3 = 0
    · rw [if_pos c4] at h
      cases h
    rw [if_neg c4] at h
    refine aw_irem X dX2_digitCount_29 c4 ?_
    refine aw_istore (L' := [some (.int x0), some (.int x1), some (.int x2), some (.int x3), some (.int ((x0 / x3) / 10)), some (.int ((x0 / x3) % 10)), some (.int (x0 % x3)), none]) X dX2_digitCount_30 (by decide) rfl ?_
    refine aw_iload_n X dX2_digitCount_32 rfl ?_
    refine aw_if_ne (tgt := 43) X dX2_digitCount_33 (by decide) (fun c5 => ?_) (fun c5 => ?_)
    · rw [if_neg c5] at h
      refine aw_iload X dX2_digitCount_43 rfl ?_
      refine aw_msk [true, true, true, true, false, true, true, false] ?_
      exact jo_X2_digitCount_45 hfr Z X _ _ _ _ _ _ _ _ _ h hi he
    · rw [if_pos c5] at h
      refine aw_iload X dX2_digitCount_36 rfl ?_
      refine aw_iconst (v := 1) X dX2_digitCount_38 (by decide) ?_
      refine aw_isub X dX2_digitCount_39 ?_
      refine aw_goto (tgt := 45) X dX2_digitCount_40 (by decide) ?_
      refine aw_msk [true, true, true, true, false, true, true, false] ?_
      exact jo_X2_digitCount_45 hfr Z X _ _ _ _ _ _ _ _ _ h hi he
set_option maxRecDepth 100000 in
set_option maxHeartbeats 4000000 in
theorem w_X2_digitCount {fr : Nat} (hfr : 0 ≤ fr) (Z : AZ) (X : AX Z cX2_digitCount 8 RX2 (some .int) 0 fr) (x0 : Int32) (x1 : Int32) (s : Mem) (r : Int32 × Mem) (hz : zres Z = (some (.int r.1), r.2)) (h : f_X2_digitCount x0 x1 s = some r) : AW Z s 0 [some (.int x0), some (.int x1), none, none, none, none, none, none] [] := by
  unfold f_X2_digitCount at h
  refine aw_iconst (v := 0) X dX2_digitCount_0 (by decide) ?_
  refine aw_istore_n (L' := [some (.int x0), some (.int x1), some (.int 0), none, none, none, none, none]) X dX2_digitCount_1 (by decide) rfl ?_
  refine aw_iconst (v := 1) X dX2_digitCount_2 (by decide) ?_
  refine aw_istore_n (L' := [some (.int x0), some (.int x1), some (.int 0), some (.int 1), none, none, none, none]) X dX2_digitCount_3 (by decide) rfl ?_
  obtain ⟨r9, er9, h⟩ := bnd h
  refine aw_msk [true, true, true, true, false, false, false, false] ?_
  refine it_ok (P := fun y : Int32 × Int32 × Mem => AW Z y.2.2 4 [some (.int x0), some (.int x1), some (.int y.1), some (.int y.2.1), none, none, none, none] []) (Q := fun b : Int32 × Mem => AW Z b.2 92 [none, none, some (.int b.1), none, none, none, none, none] []) (fun y q hq hi he => so_X2_digitCount_4 hfr Z X x0 x1 y.1 y.2.1 y.2.2 q hq hi he) FUEL _ _ er9 ?_
  refine aw_iload_n X dX2_digitCount_92 rfl ?_
  cases h
  exact aw_iret X dX2_digitCount_93 rfl hz.symm
set_option maxRecDepth 100000 in
set_option maxHeartbeats 4000000 in
theorem ok_X2_digitCount {x0 x1 : Int32} {s : Mem} {r : Int32 × Mem} (h : f_X2_digitCount x0 x1 s = some r) (l : Launch) (D : va_G) (ρ : Nat → Nat) (cA : ClassId × ClassId × ClassId) (τ : AT) : AM l D ρ cA 0 τ yX2_digitCount cX2_digitCount 8 (some .int) 0 [.int x0, .int x1] (some (.int r.1)) s r.2 := by
  refine AM_of (L := [some (.int x0), some (.int x1), none, none, none, none, none, none]) (by decide) (by simp [Value.category]) (Nat.le_of_ble_eq_true rfl) (fun j v q => ?_) (fun Z X hρ hz hτ => ?_)
  · exact aL_ok (n := 6) [.int x0, .int x1] j v q
  · subst hρ
    subst hτ
    exact w_X2_digitCount (Nat.le_refl _) Z X x0 x1 s r hz h

theorem dX2_digitOf_0 : decode cX2_digitOf 0 = .ok (.iload_n 0, 1) := by decide +kernel
theorem dX2_digitOf_1 : decode cX2_digitOf 1 = .ok (.istore_n 2, 1) := by decide +kernel
theorem dX2_digitOf_2 : decode cX2_digitOf 2 = .ok (.iconst 0, 1) := by decide +kernel
theorem dX2_digitOf_3 : decode cX2_digitOf 3 = .ok (.istore_n 3, 1) := by decide +kernel
theorem dX2_digitOf_4 : decode cX2_digitOf 4 = .ok (.iload_n 3, 1) := by decide +kernel
theorem dX2_digitOf_5 : decode cX2_digitOf 5 = .ok (.iload_n 1, 1) := by decide +kernel
theorem dX2_digitOf_6 : decode cX2_digitOf 6 = .ok (.if_icmp .ge 14, 3) := by decide +kernel
theorem dX2_digitOf_9 : decode cX2_digitOf 9 = .ok (.iload_n 2, 1) := by decide +kernel
theorem dX2_digitOf_10 : decode cX2_digitOf 10 = .ok (.bipush 10, 2) := by decide +kernel
theorem dX2_digitOf_12 : decode cX2_digitOf 12 = .ok (.idiv, 1) := by decide +kernel
theorem dX2_digitOf_13 : decode cX2_digitOf 13 = .ok (.istore_n 2, 1) := by decide +kernel
theorem dX2_digitOf_14 : decode cX2_digitOf 14 = .ok (.iinc 3 1, 3) := by decide +kernel
theorem dX2_digitOf_17 : decode cX2_digitOf 17 = .ok (.goto (-13), 3) := by decide +kernel
theorem dX2_digitOf_20 : decode cX2_digitOf 20 = .ok (.iload_n 2, 1) := by decide +kernel
theorem dX2_digitOf_21 : decode cX2_digitOf 21 = .ok (.bipush 10, 2) := by decide +kernel
theorem dX2_digitOf_23 : decode cX2_digitOf 23 = .ok (.irem, 1) := by decide +kernel
theorem dX2_digitOf_24 : decode cX2_digitOf 24 = .ok (.ireturn, 1) := by decide +kernel
set_option maxRecDepth 100000 in
set_option maxHeartbeats 4000000 in
theorem so_X2_digitOf_4 {fr : Nat} (hfr : 0 ≤ fr) (Z : AZ) (X : AX Z cX2_digitOf 4 RX2 (some .int) 0 fr) (x1 : Int32) (x2 : Int32) (x3 : Int32) (s : Mem) (q : (Int32 × Int32 × Mem) ⊕ (Int32 × Mem)) (h : st_X2_digitOf_4 x1 x2 x3 s = some q) (hi : ∀ y : Int32 × Int32 × Mem, q = .inl y → AW Z y.2.2 4 [none, some (.int x1), some (.int y.1), some (.int y.2.1)] []) (he : ∀ b : Int32 × Mem, q = .inr b → AW Z b.2 20 [none, none, some (.int b.1), none] []) : AW Z s 4 [none, some (.int x1), some (.int x2), some (.int x3)] [] := by
  unfold st_X2_digitOf_4 at h
  refine aw_iload_n X dX2_digitOf_4 rfl ?_
  refine aw_iload_n X dX2_digitOf_5 rfl ?_
  refine aw_icmp_ge (tgt := 20) X dX2_digitOf_6 (by decide) (fun c1 => ?_) (fun c1 => ?_)
  · rw [if_pos c1] at h
    cases h
    refine aw_msk [false, false, true, false] ?_
    exact he _ rfl
  · rw [if_neg c1] at h
    refine aw_iload_n X dX2_digitOf_9 rfl ?_
    refine aw_bipush (v := 10) X dX2_digitOf_10 (by decide) ?_
    refine aw_idiv X dX2_digitOf_12 (by decide) ?_
    refine aw_istore_n (L' := [none, some (.int x1), some (.int (x2 / 10)), some (.int x3)]) X dX2_digitOf_13 (by decide) rfl ?_
    refine aw_iinc (v := (x3 + 1)) (L' := [none, some (.int x1), some (.int (x2 / 10)), some (.int (x3 + 1))]) X dX2_digitOf_14 rfl rfl (by decide) rfl ?_
    refine aw_goto (tgt := 4) X dX2_digitOf_17 (by decide) ?_
    cases h
    refine aw_msk [false, true, true, true] ?_
    exact hi _ rfl
set_option maxRecDepth 100000 in
set_option maxHeartbeats 4000000 in
theorem w_X2_digitOf {fr : Nat} (hfr : 0 ≤ fr) (Z : AZ) (X : AX Z cX2_digitOf 4 RX2 (some .int) 0 fr) (x0 : Int32) (x1 : Int32) (s : Mem) (r : Int32 × Mem) (hz : zres Z = (some (.int r.1), r.2)) (h : f_X2_digitOf x0 x1 s = some r) : AW Z s 0 [some (.int x0), some (.int x1), none, none] [] := by
  unfold f_X2_digitOf at h
  refine aw_iload_n X dX2_digitOf_0 rfl ?_
  refine aw_istore_n (L' := [some (.int x0), some (.int x1), some (.int x0), none]) X dX2_digitOf_1 (by decide) rfl ?_
  refine aw_iconst (v := 0) X dX2_digitOf_2 (by decide) ?_
  refine aw_istore_n (L' := [some (.int x0), some (.int x1), some (.int x0), some (.int 0)]) X dX2_digitOf_3 (by decide) rfl ?_
  obtain ⟨r2, er2, h⟩ := bnd h
  refine aw_msk [false, true, true, true] ?_
  refine it_ok (P := fun y : Int32 × Int32 × Mem => AW Z y.2.2 4 [none, some (.int x1), some (.int y.1), some (.int y.2.1)] []) (Q := fun b : Int32 × Mem => AW Z b.2 20 [none, none, some (.int b.1), none] []) (fun y q hq hi he => so_X2_digitOf_4 hfr Z X x1 y.1 y.2.1 y.2.2 q hq hi he) FUEL _ _ er2 ?_
  refine aw_iload_n X dX2_digitOf_20 rfl ?_
  refine aw_bipush (v := 10) X dX2_digitOf_21 (by decide) ?_
  refine aw_irem X dX2_digitOf_23 (by decide) ?_
  cases h
  exact aw_iret X dX2_digitOf_24 rfl hz.symm
set_option maxRecDepth 100000 in
set_option maxHeartbeats 4000000 in
theorem ok_X2_digitOf {x0 x1 : Int32} {s : Mem} {r : Int32 × Mem} (h : f_X2_digitOf x0 x1 s = some r) (l : Launch) (D : va_G) (ρ : Nat → Nat) (cA : ClassId × ClassId × ClassId) (τ : AT) : AM l D ρ cA 0 τ yX2_digitOf cX2_digitOf 4 (some .int) 0 [.int x0, .int x1] (some (.int r.1)) s r.2 := by
  refine AM_of (L := [some (.int x0), some (.int x1), none, none]) (by decide) (by simp [Value.category]) (Nat.le_of_ble_eq_true rfl) (fun j v q => ?_) (fun Z X hρ hz hτ => ?_)
  · exact aL_ok (n := 2) [.int x0, .int x1] j v q
  · subst hρ
    subst hτ
    exact w_X2_digitOf (Nat.le_refl _) Z X x0 x1 s r hz h

theorem dX2_digitAt_0 : decode cX2_digitAt 0 = .ok (.iload_n 1, 1) := by decide +kernel
theorem dX2_digitAt_1 : decode cX2_digitAt 1 = .ok (.istore_n 2, 1) := by decide +kernel
theorem dX2_digitAt_2 : decode cX2_digitAt 2 = .ok (.iconst 1, 1) := by decide +kernel
theorem dX2_digitAt_3 : decode cX2_digitAt 3 = .ok (.istore_n 3, 1) := by decide +kernel
theorem dX2_digitAt_4 : decode cX2_digitAt 4 = .ok (.iconst 1, 1) := by decide +kernel
theorem dX2_digitAt_5 : decode cX2_digitAt 5 = .ok (.istore 4, 2) := by decide +kernel
theorem dX2_digitAt_7 : decode cX2_digitAt 7 = .ok (.iload 4, 2) := by decide +kernel
theorem dX2_digitAt_9 : decode cX2_digitAt 9 = .ok (.iconst 4, 1) := by decide +kernel
theorem dX2_digitAt_10 : decode cX2_digitAt 10 = .ok (.if_icmp .gt 72, 3) := by decide +kernel
theorem dX2_digitAt_13 : decode cX2_digitAt 13 = .ok (.iload_n 3, 1) := by decide +kernel
theorem dX2_digitAt_14 : decode cX2_digitAt 14 = .ok (.iload_n 0, 1) := by decide +kernel
theorem dX2_digitAt_15 : decode cX2_digitAt 15 = .ok (.if_icmp .gt 67, 3) := by decide +kernel
theorem dX2_digitAt_18 : decode cX2_digitAt 18 = .ok (.iload_n 0, 1) := by decide +kernel
theorem dX2_digitAt_19 : decode cX2_digitAt 19 = .ok (.iload_n 3, 1) := by decide +kernel
theorem dX2_digitAt_20 : decode cX2_digitAt 20 = .ok (.bipush 10, 2) := by decide +kernel
theorem dX2_digitAt_22 : decode cX2_digitAt 22 = .ok (.imul, 1) := by decide +kernel
theorem dX2_digitAt_23 : decode cX2_digitAt 23 = .ok (.iconst 1, 1) := by decide +kernel
theorem dX2_digitAt_24 : decode cX2_digitAt 24 = .ok (.isub, 1) := by decide +kernel
theorem dX2_digitAt_25 : decode cX2_digitAt 25 = .ok (.invokestatic 19, 3) := by decide +kernel
theorem dX2_digitAt_28 : decode cX2_digitAt 28 = .ok (.istore 5, 2) := by decide +kernel
theorem dX2_digitAt_30 : decode cX2_digitAt 30 = .ok (.iload 5, 2) := by decide +kernel
theorem dX2_digitAt_32 : decode cX2_digitAt 32 = .ok (.iload_n 3, 1) := by decide +kernel
theorem dX2_digitAt_33 : decode cX2_digitAt 33 = .ok (.isub, 1) := by decide +kernel
theorem dX2_digitAt_34 : decode cX2_digitAt 34 = .ok (.iconst 1, 1) := by decide +kernel
theorem dX2_digitAt_35 : decode cX2_digitAt 35 = .ok (.iadd, 1) := by decide +kernel
theorem dX2_digitAt_36 : decode cX2_digitAt 36 = .ok (.iload 4, 2) := by decide +kernel
theorem dX2_digitAt_38 : decode cX2_digitAt 38 = .ok (.imul, 1) := by decide +kernel
theorem dX2_digitAt_39 : decode cX2_digitAt 39 = .ok (.istore 6, 2) := by decide +kernel
theorem dX2_digitAt_41 : decode cX2_digitAt 41 = .ok (.iload_n 2, 1) := by decide +kernel
theorem dX2_digitAt_42 : decode cX2_digitAt 42 = .ok (.iload 6, 2) := by decide +kernel
theorem dX2_digitAt_44 : decode cX2_digitAt 44 = .ok (.if_icmp .ge 22, 3) := by decide +kernel
theorem dX2_digitAt_47 : decode cX2_digitAt 47 = .ok (.iload_n 3, 1) := by decide +kernel
theorem dX2_digitAt_48 : decode cX2_digitAt 48 = .ok (.iload_n 2, 1) := by decide +kernel
theorem dX2_digitAt_49 : decode cX2_digitAt 49 = .ok (.iload 4, 2) := by decide +kernel
theorem dX2_digitAt_51 : decode cX2_digitAt 51 = .ok (.idiv, 1) := by decide +kernel
theorem dX2_digitAt_52 : decode cX2_digitAt 52 = .ok (.iadd, 1) := by decide +kernel
theorem dX2_digitAt_53 : decode cX2_digitAt 53 = .ok (.iload 4, 2) := by decide +kernel
theorem dX2_digitAt_55 : decode cX2_digitAt 55 = .ok (.iconst 1, 1) := by decide +kernel
theorem dX2_digitAt_56 : decode cX2_digitAt 56 = .ok (.isub, 1) := by decide +kernel
theorem dX2_digitAt_57 : decode cX2_digitAt 57 = .ok (.iload_n 2, 1) := by decide +kernel
theorem dX2_digitAt_58 : decode cX2_digitAt 58 = .ok (.iload 4, 2) := by decide +kernel
theorem dX2_digitAt_60 : decode cX2_digitAt 60 = .ok (.irem, 1) := by decide +kernel
theorem dX2_digitAt_61 : decode cX2_digitAt 61 = .ok (.isub, 1) := by decide +kernel
theorem dX2_digitAt_62 : decode cX2_digitAt 62 = .ok (.invokestatic 25, 3) := by decide +kernel
theorem dX2_digitAt_65 : decode cX2_digitAt 65 = .ok (.ireturn, 1) := by decide +kernel
theorem dX2_digitAt_66 : decode cX2_digitAt 66 = .ok (.iload_n 2, 1) := by decide +kernel
theorem dX2_digitAt_67 : decode cX2_digitAt 67 = .ok (.iload 6, 2) := by decide +kernel
theorem dX2_digitAt_69 : decode cX2_digitAt 69 = .ok (.isub, 1) := by decide +kernel
theorem dX2_digitAt_70 : decode cX2_digitAt 70 = .ok (.istore_n 2, 1) := by decide +kernel
theorem dX2_digitAt_71 : decode cX2_digitAt 71 = .ok (.iload_n 3, 1) := by decide +kernel
theorem dX2_digitAt_72 : decode cX2_digitAt 72 = .ok (.bipush 10, 2) := by decide +kernel
theorem dX2_digitAt_74 : decode cX2_digitAt 74 = .ok (.imul, 1) := by decide +kernel
theorem dX2_digitAt_75 : decode cX2_digitAt 75 = .ok (.istore_n 3, 1) := by decide +kernel
theorem dX2_digitAt_76 : decode cX2_digitAt 76 = .ok (.iinc 4 1, 3) := by decide +kernel
theorem dX2_digitAt_79 : decode cX2_digitAt 79 = .ok (.goto (-72), 3) := by decide +kernel
theorem dX2_digitAt_82 : decode cX2_digitAt 82 = .ok (.iconst (-1), 1) := by decide +kernel
theorem dX2_digitAt_83 : decode cX2_digitAt 83 = .ok (.ireturn, 1) := by decide +kernel
set_option maxRecDepth 100000 in
set_option maxHeartbeats 4000000 in
theorem so_X2_digitAt_7 {fr : Nat} (hfr : 1 ≤ fr) (Z : AZ) (X : AX Z cX2_digitAt 7 RX2 (some .int) 0 fr) (x0 : Int32) (x2 : Int32) (x3 : Int32) (x4 : Int32) (s : Mem) (q : (Int32 × Int32 × Int32 × Mem) ⊕ (Nat × Int32 × Int32 × Int32 × Mem)) (h : st_X2_digitAt_7 x0 x2 x3 x4 s = some q) (hi : ∀ y : Int32 × Int32 × Int32 × Mem, q = .inl y → AW Z y.2.2.2 7 [some (.int x0), none, some (.int y.1), some (.int y.2.1), some (.int y.2.2.1), none, none] []) (he : ∀ b : Nat × Int32 × Int32 × Int32 × Mem, q = .inr b → (b.1 = 0 → AW Z b.2.2.2.2 47 [none, none, some (.int b.2.1), some (.int b.2.2.1), some (.int b.2.2.2.1), none, none] []) ∧ (b.1 = 1 → AW Z b.2.2.2.2 82 [none, none, none, none, none, none, none] [])) : AW Z s 7 [some (.int x0), none, some (.int x2), some (.int x3), some (.int x4), none, none] [] := by
  unfold st_X2_digitAt_7 at h
  refine aw_iload X dX2_digitAt_7 rfl ?_
  refine aw_iconst (v := 4) X dX2_digitAt_9 (by decide) ?_
  refine aw_icmp_gt (tgt := 82) X dX2_digitAt_10 (by decide) (fun c1 => ?_) (fun c1 => ?_)
  · rw [if_pos c1] at h
    cases h
    refine aw_msk [false, false, false, false, false, false, false] ?_
    exact (he _ rfl).2 rfl
  · rw [if_neg c1] at h
    refine aw_iload_n X dX2_digitAt_13 rfl ?_
    refine aw_iload_n X dX2_digitAt_14 rfl ?_
    refine aw_icmp_gt (tgt := 82) X dX2_digitAt_15 (by decide) (fun c2 => ?_) (fun c2 => ?_)
    · rw [if_pos c2] at h
      cases h
      refine aw_msk [false, false, false, false, false, false, false] ?_
      exact (he _ rfl).2 rfl
    · rw [if_neg c2] at h
      refine aw_iload_n X dX2_digitAt_18 rfl ?_
      refine aw_iload_n X dX2_digitAt_19 rfl ?_
      refine aw_bipush (v := 10) X dX2_digitAt_20 (by decide) ?_
      refine aw_imul X dX2_digitAt_22 ?_
      refine aw_iconst (v := 1) X dX2_digitAt_23 (by decide) ?_
      refine aw_isub X dX2_digitAt_24 ?_
      refine aw_mmin X (Nat.le_trans (by decide) hfr) dX2_digitAt_25 mc_RX2_19 rfl ?_
      refine aw_istore (L' := [some (.int x0), none, some (.int x2), some (.int x3), some (.int x4), some (.int (jmmin x0 ((x3 * 10) - 1))), none]) X dX2_digitAt_28 (by decide) rfl ?_
      refine aw_iload X dX2_digitAt_30 rfl ?_
      refine aw_iload_n X dX2_digitAt_32 rfl ?_
      refine aw_isub X dX2_digitAt_33 ?_
      refine aw_iconst (v := 1) X dX2_digitAt_34 (by decide) ?_
      refine aw_iadd X dX2_digitAt_35 ?_
      refine aw_iload X dX2_digitAt_36 rfl ?_
      refine aw_imul X dX2_digitAt_38 ?_
      refine aw_istore (L' := [some (.int x0), none, some (.int x2), some (.int x3), some (.int x4), some (.int (jmmin x0 ((x3 * 10) - 1))), some (.int ((((jmmin x0 ((x3 * 10) - 1)) - x3) + 1) * x4))]) X dX2_digitAt_39 (by decide) rfl ?_
      refine aw_iload_n X dX2_digitAt_41 rfl ?_
      refine aw_iload X dX2_digitAt_42 rfl ?_
      refine aw_icmp_ge (tgt := 66) X dX2_digitAt_44 (by decide) (fun c3 => ?_) (fun c3 => ?_)
      · rw [if_pos c3] at h
        refine aw_iload_n X dX2_digitAt_66 rfl ?_
        refine aw_iload X dX2_digitAt_67 rfl ?_
        refine aw_isub X dX2_digitAt_69 ?_
        refine aw_istore_n (L' := [some (.int x0), none, some (.int (x2 - ((((jmmin x0 ((x3 * 10) - 1)) - x3) + 1) * x4))), some (.int x3), some (.int x4), some (.int (jmmin x0 ((x3 * 10) - 1))), some (.int ((((jmmin x0 ((x3 * 10) - 1)) - x3) + 1) * x4))]) X dX2_digitAt_70 (by decide) rfl ?_
        refine aw_iload_n X dX2_digitAt_71 rfl ?_
        refine aw_bipush (v := 10) X dX2_digitAt_72 (by decide) ?_
        refine aw_imul X dX2_digitAt_74 ?_
        refine aw_istore_n (L' := [some (.int x0), none, some (.int (x2 - ((((jmmin x0 ((x3 * 10) - 1)) - x3) + 1) * x4))), some (.int (x3 * 10)), some (.int x4), some (.int (jmmin x0 ((x3 * 10) - 1))), some (.int ((((jmmin x0 ((x3 * 10) - 1)) - x3) + 1) * x4))]) X dX2_digitAt_75 (by decide) rfl ?_
        refine aw_iinc (v := (x4 + 1)) (L' := [some (.int x0), none, some (.int (x2 - ((((jmmin x0 ((x3 * 10) - 1)) - x3) + 1) * x4))), some (.int (x3 * 10)), some (.int (x4 + 1)), some (.int (jmmin x0 ((x3 * 10) - 1))), some (.int ((((jmmin x0 ((x3 * 10) - 1)) - x3) + 1) * x4))]) X dX2_digitAt_76 rfl rfl (by decide) rfl ?_
        refine aw_goto (tgt := 7) X dX2_digitAt_79 (by decide) ?_
        cases h
        refine aw_msk [true, false, true, true, true, false, false] ?_
        exact hi _ rfl
      · rw [if_neg c3] at h
        cases h
        refine aw_msk [false, false, true, true, true, false, false] ?_
        exact (he _ rfl).1 rfl
set_option maxRecDepth 100000 in
set_option maxHeartbeats 4000000 in
theorem w_X2_digitAt {fr : Nat} (hfr : 1 ≤ fr) (Z : AZ) (X : AX Z cX2_digitAt 7 RX2 (some .int) 0 fr) (x0 : Int32) (x1 : Int32) (s : Mem) (r : Int32 × Mem) (hz : zres Z = (some (.int r.1), r.2)) (h : f_X2_digitAt x0 x1 s = some r) : AW Z s 0 [some (.int x0), some (.int x1), none, none, none, none, none] [] := by
  unfold f_X2_digitAt at h
  refine aw_iload_n X dX2_digitAt_0 rfl ?_
  refine aw_istore_n (L' := [some (.int x0), some (.int x1), some (.int x1), none, none, none, none]) X dX2_digitAt_1 (by decide) rfl ?_
  refine aw_iconst (v := 1) X dX2_digitAt_2 (by decide) ?_
  refine aw_istore_n (L' := [some (.int x0), some (.int x1), some (.int x1), some (.int 1), none, none, none]) X dX2_digitAt_3 (by decide) rfl ?_
  refine aw_iconst (v := 1) X dX2_digitAt_4 (by decide) ?_
  refine aw_istore (L' := [some (.int x0), some (.int x1), some (.int x1), some (.int 1), some (.int 1), none, none]) X dX2_digitAt_5 (by decide) rfl ?_
  obtain ⟨r4, er4, h⟩ := bnd h
  refine aw_msk [true, false, true, true, true, false, false] ?_
  refine it_ok (P := fun y : Int32 × Int32 × Int32 × Mem => AW Z y.2.2.2 7 [some (.int x0), none, some (.int y.1), some (.int y.2.1), some (.int y.2.2.1), none, none] []) (Q := fun b : Nat × Int32 × Int32 × Int32 × Mem => (b.1 = 0 → AW Z b.2.2.2.2 47 [none, none, some (.int b.2.1), some (.int b.2.2.1), some (.int b.2.2.2.1), none, none] []) ∧ (b.1 = 1 → AW Z b.2.2.2.2 82 [none, none, none, none, none, none, none] [])) (fun y q hq hi he => so_X2_digitAt_7 hfr Z X x0 y.1 y.2.1 y.2.2.1 y.2.2.2 q hq hi he) FUEL _ _ er4 ?_
  refine ⟨fun c0 => ?_, fun c1 => ?_⟩
  · rw [if_pos c0] at h
    refine aw_iload_n X dX2_digitAt_47 rfl ?_
    refine aw_iload_n X dX2_digitAt_48 rfl ?_
    refine aw_iload X dX2_digitAt_49 rfl ?_
    by_cases c5 : r4.2.2.2.1 = 0
    · rw [if_pos c5] at h
      cases h
    rw [if_neg c5] at h
    refine aw_idiv X dX2_digitAt_51 c5 ?_
    refine aw_iadd X dX2_digitAt_52 ?_
    refine aw_iload X dX2_digitAt_53 rfl ?_
    refine aw_iconst (v := 1) X dX2_digitAt_55 (by decide) ?_
    refine aw_isub X dX2_digitAt_56 ?_
    refine aw_iload_n X dX2_digitAt_57 rfl ?_
    refine aw_iload X dX2_digitAt_58 rfl ?_
    by_cases c6 : r4.2.2.2.1 = 0
    · rw [if_pos c6] at h
      cases h
    rw [if_neg c6] at h
    refine aw_irem X dX2_digitAt_60 c6 ?_
    refine aw_isub X dX2_digitAt_61 ?_
    obtain ⟨r7, er7, h⟩ := bnd h
    refine aw_callS X dX2_digitAt_62 cv_RX2_25 (ok_X2_digitOf er7 _ _ _ _ _) (Nat.le_trans (by decide) hfr) (by decide) rfl rfl (Nat.le_of_ble_eq_true rfl) ?_
    cases h
    exact aw_iret X dX2_digitAt_65 rfl hz.symm
  · rw [if_neg (by rw [c1]; decide)] at h
    refine aw_iconst (v := (-1)) X dX2_digitAt_82 (by decide) ?_
    cases h
    exact aw_iret X dX2_digitAt_83 rfl hz.symm
set_option maxRecDepth 100000 in
set_option maxHeartbeats 4000000 in
theorem ok_X2_digitAt {x0 x1 : Int32} {s : Mem} {r : Int32 × Mem} (h : f_X2_digitAt x0 x1 s = some r) (l : Launch) (D : va_G) (ρ : Nat → Nat) (cA : ClassId × ClassId × ClassId) (τ : AT) : AM l D ρ cA 0 τ yX2_digitAt cX2_digitAt 7 (some .int) 1 [.int x0, .int x1] (some (.int r.1)) s r.2 := by
  refine AM_of (L := [some (.int x0), some (.int x1), none, none, none, none, none]) (by decide) (by simp [Value.category]) (Nat.le_of_ble_eq_true rfl) (fun j v q => ?_) (fun Z X hρ hz hτ => ?_)
  · exact aL_ok (n := 5) [.int x0, .int x1] j v q
  · subst hρ
    subst hτ
    exact w_X2_digitAt (Nat.le_refl _) Z X x0 x1 s r hz h

theorem dX2_hasBeat_0 : decode cX2_hasBeat 0 = .ok (.iload_n 1, 1) := by decide +kernel
theorem dX2_hasBeat_1 : decode cX2_hasBeat 1 = .ok (.ifCond .le 16, 3) := by decide +kernel
theorem dX2_hasBeat_4 : decode cX2_hasBeat 4 = .ok (.iload_n 2, 1) := by decide +kernel
theorem dX2_hasBeat_5 : decode cX2_hasBeat 5 = .ok (.iload_n 0, 1) := by decide +kernel
theorem dX2_hasBeat_6 : decode cX2_hasBeat 6 = .ok (.imul, 1) := by decide +kernel
theorem dX2_hasBeat_7 : decode cX2_hasBeat 7 = .ok (.iload_n 1, 1) := by decide +kernel
theorem dX2_hasBeat_8 : decode cX2_hasBeat 8 = .ok (.irem, 1) := by decide +kernel
theorem dX2_hasBeat_9 : decode cX2_hasBeat 9 = .ok (.iload_n 0, 1) := by decide +kernel
theorem dX2_hasBeat_10 : decode cX2_hasBeat 10 = .ok (.if_icmp .ge 7, 3) := by decide +kernel
theorem dX2_hasBeat_13 : decode cX2_hasBeat 13 = .ok (.iconst 1, 1) := by decide +kernel
theorem dX2_hasBeat_14 : decode cX2_hasBeat 14 = .ok (.goto 4, 3) := by decide +kernel
theorem dX2_hasBeat_17 : decode cX2_hasBeat 17 = .ok (.iconst 0, 1) := by decide +kernel
theorem dX2_hasBeat_18 : decode cX2_hasBeat 18 = .ok (.ireturn, 1) := by decide +kernel
set_option maxRecDepth 100000 in
set_option maxHeartbeats 4000000 in
theorem w_X2_hasBeat {fr : Nat} (hfr : 0 ≤ fr) (Z : AZ) (X : AX Z cX2_hasBeat 3 RX2 (some .boolean) 0 fr) (x0 : Int32) (x1 : Int32) (x2 : Int32) (s : Mem) (r : Int32 × Mem) (hz : zres Z = (some (.int r.1), r.2)) (h : f_X2_hasBeat x0 x1 x2 s = some r) : AW Z s 0 [some (.int x0), some (.int x1), some (.int x2)] [] := by
  unfold f_X2_hasBeat at h
  refine aw_iload_n X dX2_hasBeat_0 rfl ?_
  refine aw_if_le (tgt := 17) X dX2_hasBeat_1 (by decide) (fun c1 => ?_) (fun c1 => ?_)
  · rw [if_pos c1] at h
    refine aw_iconst (v := 0) X dX2_hasBeat_17 (by decide) ?_
    cases h
    exact aw_zret X dX2_hasBeat_18 rfl rfl hz.symm
  · rw [if_neg c1] at h
    refine aw_iload_n X dX2_hasBeat_4 rfl ?_
    refine aw_iload_n X dX2_hasBeat_5 rfl ?_
    refine aw_imul X dX2_hasBeat_6 ?_
    refine aw_iload_n X dX2_hasBeat_7 rfl ?_
    by_cases c2 : x1 = 0
    · rw [if_pos c2] at h
      cases h
    rw [if_neg c2] at h
    refine aw_irem X dX2_hasBeat_8 c2 ?_
    refine aw_iload_n X dX2_hasBeat_9 rfl ?_
    refine aw_icmp_ge (tgt := 17) X dX2_hasBeat_10 (by decide) (fun c3 => ?_) (fun c3 => ?_)
    · rw [if_pos c3] at h
      refine aw_iconst (v := 0) X dX2_hasBeat_17 (by decide) ?_
      cases h
      exact aw_zret X dX2_hasBeat_18 rfl rfl hz.symm
    · rw [if_neg c3] at h
      refine aw_iconst (v := 1) X dX2_hasBeat_13 (by decide) ?_
      refine aw_goto (tgt := 18) X dX2_hasBeat_14 (by decide) ?_
      cases h
      exact aw_zret X dX2_hasBeat_18 rfl rfl hz.symm
set_option maxRecDepth 100000 in
set_option maxHeartbeats 4000000 in
theorem ok_X2_hasBeat {x0 x1 x2 : Int32} {s : Mem} {r : Int32 × Mem} (h : f_X2_hasBeat x0 x1 x2 s = some r) (l : Launch) (D : va_G) (ρ : Nat → Nat) (cA : ClassId × ClassId × ClassId) (τ : AT) : AM l D ρ cA 0 τ yX2_hasBeat cX2_hasBeat 3 (some .boolean) 0 [.int x0, .int x1, .int x2] (some (.int r.1)) s r.2 := by
  refine AM_of (L := [some (.int x0), some (.int x1), some (.int x2)]) (by decide) (by simp [Value.category]) (Nat.le_of_ble_eq_true rfl) (fun j v q => ?_) (fun Z X hρ hz hτ => ?_)
  · exact aL_ok (n := 0) [.int x0, .int x1, .int x2] j v q
  · subst hρ
    subst hτ
    exact w_X2_hasBeat (Nat.le_refl _) Z X x0 x1 x2 s r hz h

theorem dX2_longestWay_0 : decode cX2_longestWay 0 = .ok (.iload_n 0, 1) := by decide +kernel
theorem dX2_longestWay_1 : decode cX2_longestWay 1 = .ok (.ifCond .ne 5, 3) := by decide +kernel
theorem dX2_longestWay_4 : decode cX2_longestWay 4 = .ok (.iconst 0, 1) := by decide +kernel
theorem dX2_longestWay_5 : decode cX2_longestWay 5 = .ok (.ireturn, 1) := by decide +kernel
theorem dX2_longestWay_6 : decode cX2_longestWay 6 = .ok (.iconst 0, 1) := by decide +kernel
theorem dX2_longestWay_7 : decode cX2_longestWay 7 = .ok (.istore_n 2, 1) := by decide +kernel
theorem dX2_longestWay_8 : decode cX2_longestWay 8 = .ok (.iconst 0, 1) := by decide +kernel
theorem dX2_longestWay_9 : decode cX2_longestWay 9 = .ok (.istore_n 3, 1) := by decide +kernel
theorem dX2_longestWay_10 : decode cX2_longestWay 10 = .ok (.iconst 1, 1) := by decide +kernel
theorem dX2_longestWay_11 : decode cX2_longestWay 11 = .ok (.istore 4, 2) := by decide +kernel
theorem dX2_longestWay_13 : decode cX2_longestWay 13 = .ok (.iload 4, 2) := by decide +kernel
theorem dX2_longestWay_15 : decode cX2_longestWay 15 = .ok (.iload_n 1, 1) := by decide +kernel
theorem dX2_longestWay_16 : decode cX2_longestWay 16 = .ok (.if_icmp .gt 31, 3) := by decide +kernel
theorem dX2_longestWay_19 : decode cX2_longestWay 19 = .ok (.iload_n 0, 1) := by decide +kernel
theorem dX2_longestWay_20 : decode cX2_longestWay 20 = .ok (.iload_n 1, 1) := by decide +kernel
theorem dX2_longestWay_21 : decode cX2_longestWay 21 = .ok (.iload 4, 2) := by decide +kernel
theorem dX2_longestWay_23 : decode cX2_longestWay 23 = .ok (.invokestatic 28, 3) := by decide +kernel
theorem dX2_longestWay_26 : decode cX2_longestWay 26 = .ok (.ifCond .eq 15, 3) := by decide +kernel
theorem dX2_longestWay_29 : decode cX2_longestWay 29 = .ok (.iload_n 2, 1) := by decide +kernel
theorem dX2_longestWay_30 : decode cX2_longestWay 30 = .ok (.iload 4, 2) := by decide +kernel
theorem dX2_longestWay_32 : decode cX2_longestWay 32 = .ok (.iload_n 3, 1) := by decide +kernel
theorem dX2_longestWay_33 : decode cX2_longestWay 33 = .ok (.isub, 1) := by decide +kernel
theorem dX2_longestWay_34 : decode cX2_longestWay 34 = .ok (.invokestatic 32, 3) := by decide +kernel
theorem dX2_longestWay_37 : decode cX2_longestWay 37 = .ok (.istore_n 2, 1) := by decide +kernel
theorem dX2_longestWay_38 : decode cX2_longestWay 38 = .ok (.iload 4, 2) := by decide +kernel
theorem dX2_longestWay_40 : decode cX2_longestWay 40 = .ok (.istore_n 3, 1) := by decide +kernel
theorem dX2_longestWay_41 : decode cX2_longestWay 41 = .ok (.iinc 4 1, 3) := by decide +kernel
theorem dX2_longestWay_44 : decode cX2_longestWay 44 = .ok (.goto (-31), 3) := by decide +kernel
theorem dX2_longestWay_47 : decode cX2_longestWay 47 = .ok (.iload_n 2, 1) := by decide +kernel
theorem dX2_longestWay_48 : decode cX2_longestWay 48 = .ok (.ireturn, 1) := by decide +kernel
set_option maxRecDepth 100000 in
set_option maxHeartbeats 4000000 in
theorem so_X2_longestWay_13 {fr : Nat} (hfr : 1 ≤ fr) (Z : AZ) (X : AX Z cX2_longestWay 5 RX2 (some .int) 0 fr) (x0 : Int32) (x1 : Int32) (x2 : Int32) (x3 : Int32) (x4 : Int32) (s : Mem) (q : (Int32 × Int32 × Int32 × Mem) ⊕ (Int32 × Mem)) (h : st_X2_longestWay_13 x0 x1 x2 x3 x4 s = some q) (hi : ∀ y : Int32 × Int32 × Int32 × Mem, q = .inl y → AW Z y.2.2.2 13 [some (.int x0), some (.int x1), some (.int y.1), some (.int y.2.1), some (.int y.2.2.1)] []) (he : ∀ b : Int32 × Mem, q = .inr b → AW Z b.2 47 [none, none, some (.int b.1), none, none] []) : AW Z s 13 [some (.int x0), some (.int x1), some (.int x2), some (.int x3), some (.int x4)] [] := by
  unfold st_X2_longestWay_13 at h
  refine aw_iload X dX2_longestWay_13 rfl ?_
  refine aw_iload_n X dX2_longestWay_15 rfl ?_
  refine aw_icmp_gt (tgt := 47) X dX2_longestWay_16 (by decide) (fun c2 => ?_) (fun c2 => ?_)
  · rw [if_pos c2] at h
    cases h
    refine aw_msk [false, false, true, false, false] ?_
    exact he _ rfl
  · rw [if_neg c2] at h
    refine aw_iload_n X dX2_longestWay_19 rfl ?_
    refine aw_iload_n X dX2_longestWay_20 rfl ?_
    refine aw_iload X dX2_longestWay_21 rfl ?_
    obtain ⟨r3, er3, h⟩ := bnd h
    refine aw_callS X dX2_longestWay_23 cv_RX2_28 (ok_X2_hasBeat er3 _ _ _ _ _) (Nat.le_trans (by decide) hfr) (by decide) rfl rfl (Nat.le_of_ble_eq_true rfl) ?_
    refine aw_if_eq (tgt := 41) X dX2_longestWay_26 (by decide) (fun c4 => ?_) (fun c4 => ?_)
    · rw [if_pos c4] at h
      refine aw_iinc (v := (x4 + 1)) (L' := [some (.int x0), some (.int x1), some (.int x2), some (.int x3), some (.int (x4 + 1))]) X dX2_longestWay_41 rfl rfl (by decide) rfl ?_
      refine aw_goto (tgt := 13) X dX2_longestWay_44 (by decide) ?_
      cases h
      refine aw_msk [true, true, true, true, true] ?_
      exact hi _ rfl
    · rw [if_neg c4] at h
      refine aw_iload_n X dX2_longestWay_29 rfl ?_
      refine aw_iload X dX2_longestWay_30 rfl ?_
      refine aw_iload_n X dX2_longestWay_32 rfl ?_
      refine aw_isub X dX2_longestWay_33 ?_
      refine aw_mmax X (Nat.le_trans (by decide) hfr) dX2_longestWay_34 mc_RX2_32 rfl ?_
      refine aw_istore_n (L' := [some (.int x0), some (.int x1), some (.int (jmmax x2 (x4 - x3))), some (.int x3), some (.int x4)]) X dX2_longestWay_37 (by decide) rfl ?_
      refine aw_iload X dX2_longestWay_38 rfl ?_
      refine aw_istore_n (L' := [some (.int x0), some (.int x1), some (.int (jmmax x2 (x4 - x3))), some (.int x4), some (.int x4)]) X dX2_longestWay_40 (by decide) rfl ?_
      refine aw_iinc (v := (x4 + 1)) (L' := [some (.int x0), some (.int x1), some (.int (jmmax x2 (x4 - x3))), some (.int x4), some (.int (x4 + 1))]) X dX2_longestWay_41 rfl rfl (by decide) rfl ?_
      refine aw_goto (tgt := 13) X dX2_longestWay_44 (by decide) ?_
      cases h
      refine aw_msk [true, true, true, true, true] ?_
      exact hi _ rfl
set_option maxRecDepth 100000 in
set_option maxHeartbeats 4000000 in
theorem w_X2_longestWay {fr : Nat} (hfr : 1 ≤ fr) (Z : AZ) (X : AX Z cX2_longestWay 5 RX2 (some .int) 0 fr) (x0 : Int32) (x1 : Int32) (s : Mem) (r : Int32 × Mem) (hz : zres Z = (some (.int r.1), r.2)) (h : f_X2_longestWay x0 x1 s = some r) : AW Z s 0 [some (.int x0), some (.int x1), none, none, none] [] := by
  unfold f_X2_longestWay at h
  refine aw_iload_n X dX2_longestWay_0 rfl ?_
  refine aw_if_ne (tgt := 6) X dX2_longestWay_1 (by decide) (fun c1 => ?_) (fun c1 => ?_)
  · rw [if_neg c1] at h
    refine aw_iconst (v := 0) X dX2_longestWay_6 (by decide) ?_
    refine aw_istore_n (L' := [some (.int x0), some (.int x1), some (.int 0), none, none]) X dX2_longestWay_7 (by decide) rfl ?_
    refine aw_iconst (v := 0) X dX2_longestWay_8 (by decide) ?_
    refine aw_istore_n (L' := [some (.int x0), some (.int x1), some (.int 0), some (.int 0), none]) X dX2_longestWay_9 (by decide) rfl ?_
    refine aw_iconst (v := 1) X dX2_longestWay_10 (by decide) ?_
    refine aw_istore (L' := [some (.int x0), some (.int x1), some (.int 0), some (.int 0), some (.int 1)]) X dX2_longestWay_11 (by decide) rfl ?_
    obtain ⟨r5, er5, h⟩ := bnd h
    refine aw_msk [true, true, true, true, true] ?_
    refine it_ok (P := fun y : Int32 × Int32 × Int32 × Mem => AW Z y.2.2.2 13 [some (.int x0), some (.int x1), some (.int y.1), some (.int y.2.1), some (.int y.2.2.1)] []) (Q := fun b : Int32 × Mem => AW Z b.2 47 [none, none, some (.int b.1), none, none] []) (fun y q hq hi he => so_X2_longestWay_13 hfr Z X x0 x1 y.1 y.2.1 y.2.2.1 y.2.2.2 q hq hi he) FUEL _ _ er5 ?_
    refine aw_iload_n X dX2_longestWay_47 rfl ?_
    cases h
    exact aw_iret X dX2_longestWay_48 rfl hz.symm
  · rw [if_pos c1] at h
    refine aw_iconst (v := 0) X dX2_longestWay_4 (by decide) ?_
    cases h
    exact aw_iret X dX2_longestWay_5 rfl hz.symm
set_option maxRecDepth 100000 in
set_option maxHeartbeats 4000000 in
theorem ok_X2_longestWay {x0 x1 : Int32} {s : Mem} {r : Int32 × Mem} (h : f_X2_longestWay x0 x1 s = some r) (l : Launch) (D : va_G) (ρ : Nat → Nat) (cA : ClassId × ClassId × ClassId) (τ : AT) : AM l D ρ cA 0 τ yX2_longestWay cX2_longestWay 5 (some .int) 1 [.int x0, .int x1] (some (.int r.1)) s r.2 := by
  refine AM_of (L := [some (.int x0), some (.int x1), none, none, none]) (by decide) (by simp [Value.category]) (Nat.le_of_ble_eq_true rfl) (fun j v q => ?_) (fun Z X hρ hz hτ => ?_)
  · exact aL_ok (n := 3) [.int x0, .int x1] j v q
  · subst hρ
    subst hτ
    exact w_X2_longestWay (Nat.le_refl _) Z X x0 x1 s r hz h

theorem dX2_digitSum_0 : decode cX2_digitSum 0 = .ok (.iconst 0, 1) := by decide +kernel
theorem dX2_digitSum_1 : decode cX2_digitSum 1 = .ok (.istore_n 2, 1) := by decide +kernel
theorem dX2_digitSum_2 : decode cX2_digitSum 2 = .ok (.iload_n 0, 1) := by decide +kernel
theorem dX2_digitSum_3 : decode cX2_digitSum 3 = .ok (.istore_n 3, 1) := by decide +kernel
theorem dX2_digitSum_4 : decode cX2_digitSum 4 = .ok (.iconst 0, 1) := by decide +kernel
theorem dX2_digitSum_5 : decode cX2_digitSum 5 = .ok (.istore 4, 2) := by decide +kernel
theorem dX2_digitSum_7 : decode cX2_digitSum 7 = .ok (.iload 4, 2) := by decide +kernel
theorem dX2_digitSum_9 : decode cX2_digitSum 9 = .ok (.bipush 32, 2) := by decide +kernel
theorem dX2_digitSum_11 : decode cX2_digitSum 11 = .ok (.if_icmp .ge 28, 3) := by decide +kernel
theorem dX2_digitSum_14 : decode cX2_digitSum 14 = .ok (.iload_n 3, 1) := by decide +kernel
theorem dX2_digitSum_15 : decode cX2_digitSum 15 = .ok (.ifCond .le 24, 3) := by decide +kernel
theorem dX2_digitSum_18 : decode cX2_digitSum 18 = .ok (.iload_n 1, 1) := by decide +kernel
theorem dX2_digitSum_19 : decode cX2_digitSum 19 = .ok (.iconst 1, 1) := by decide +kernel
theorem dX2_digitSum_20 : decode cX2_digitSum 20 = .ok (.if_icmp .le 19, 3) := by decide +kernel
theorem dX2_digitSum_23 : decode cX2_digitSum 23 = .ok (.iload_n 2, 1) := by decide +kernel
theorem dX2_digitSum_24 : decode cX2_digitSum 24 = .ok (.iload_n 3, 1) := by decide +kernel
theorem dX2_digitSum_25 : decode cX2_digitSum 25 = .ok (.iload_n 1, 1) := by decide +kernel
theorem dX2_digitSum_26 : decode cX2_digitSum 26 = .ok (.irem, 1) := by decide +kernel
theorem dX2_digitSum_27 : decode cX2_digitSum 27 = .ok (.iadd, 1) := by decide +kernel
theorem dX2_digitSum_28 : decode cX2_digitSum 28 = .ok (.istore_n 2, 1) := by decide +kernel
theorem dX2_digitSum_29 : decode cX2_digitSum 29 = .ok (.iload_n 3, 1) := by decide +kernel
theorem dX2_digitSum_30 : decode cX2_digitSum 30 = .ok (.iload_n 1, 1) := by decide +kernel
theorem dX2_digitSum_31 : decode cX2_digitSum 31 = .ok (.idiv, 1) := by decide +kernel
theorem dX2_digitSum_32 : decode cX2_digitSum 32 = .ok (.istore_n 3, 1) := by decide +kernel
theorem dX2_digitSum_33 : decode cX2_digitSum 33 = .ok (.iinc 4 1, 3) := by decide +kernel
theorem dX2_digitSum_36 : decode cX2_digitSum 36 = .ok (.goto (-29), 3) := by decide +kernel
theorem dX2_digitSum_39 : decode cX2_digitSum 39 = .ok (.iload_n 2, 1) := by decide +kernel
theorem dX2_digitSum_40 : decode cX2_digitSum 40 = .ok (.ireturn, 1) := by decide +kernel
set_option maxRecDepth 100000 in
set_option maxHeartbeats 4000000 in
theorem so_X2_digitSum_7 {fr : Nat} (hfr : 0 ≤ fr) (Z : AZ) (X : AX Z cX2_digitSum 5 RX2 (some .int) 0 fr) (x1 : Int32) (x2 : Int32) (x3 : Int32) (x4 : Int32) (s : Mem) (q : (Int32 × Int32 × Int32 × Mem) ⊕ (Int32 × Mem)) (h : st_X2_digitSum_7 x1 x2 x3 x4 s = some q) (hi : ∀ y : Int32 × Int32 × Int32 × Mem, q = .inl y → AW Z y.2.2.2 7 [none, some (.int x1), some (.int y.1), some (.int y.2.1), some (.int y.2.2.1)] []) (he : ∀ b : Int32 × Mem, q = .inr b → AW Z b.2 39 [none, none, some (.int b.1), none, none] []) : AW Z s 7 [none, some (.int x1), some (.int x2), some (.int x3), some (.int x4)] [] := by
  unfold st_X2_digitSum_7 at h
  refine aw_iload X dX2_digitSum_7 rfl ?_
  refine aw_bipush (v := 32) X dX2_digitSum_9 (by decide) ?_
  refine aw_icmp_ge (tgt := 39) X dX2_digitSum_11 (by decide) (fun c1 => ?_) (fun c1 => ?_)
  · rw [if_pos c1] at h
    cases h
    refine aw_msk [false, false, true, false, false] ?_
    exact he _ rfl
  · rw [if_neg c1] at h
    refine aw_iload_n X dX2_digitSum_14 rfl ?_
    refine aw_if_le (tgt := 39) X dX2_digitSum_15 (by decide) (fun c2 => ?_) (fun c2 => ?_)
    · rw [if_pos c2] at h
      cases h
      refine aw_msk [false, false, true, false, false] ?_
      exact he _ rfl
    · rw [if_neg c2] at h
      refine aw_iload_n X dX2_digitSum_18 rfl ?_
      refine aw_iconst (v := 1) X dX2_digitSum_19 (by decide) ?_
      refine aw_icmp_le (tgt := 39) X dX2_digitSum_20 (by decide) (fun c3 => ?_) (fun c3 => ?_)
      · rw [if_pos c3] at h
        cases h
        refine aw_msk [false, false, true, false, false] ?_
        exact he _ rfl
      · rw [if_neg c3] at h
        refine aw_iload_n X dX2_digitSum_23 rfl ?_
        refine aw_iload_n X dX2_digitSum_24 rfl ?_
        refine aw_iload_n X dX2_digitSum_25 rfl ?_
        by_cases c4 : x1 = 0
        · rw [if_pos c4] at h
          cases h
        rw [if_neg c4] at h
        refine aw_irem X dX2_digitSum_26 c4 ?_
        refine aw_iadd X dX2_digitSum_27 ?_
        refine aw_istore_n (L' := [none, some (.int x1), some (.int (x2 + (x3 % x1))), some (.int x3), some (.int x4)]) X dX2_digitSum_28 (by decide) rfl ?_
        refine aw_iload_n X dX2_digitSum_29 rfl ?_
        refine aw_iload_n X dX2_digitSum_30 rfl ?_
        by_cases c5 : x1 = 0
        · rw [if_pos c5] at h
          cases h
        rw [if_neg c5] at h
        refine aw_idiv X dX2_digitSum_31 c5 ?_
        refine aw_istore_n (L' := [none, some (.int x1), some (.int (x2 + (x3 % x1))), some (.int (x3 / x1)), some (.int x4)]) X dX2_digitSum_32 (by decide) rfl ?_
        refine aw_iinc (v := (x4 + 1)) (L' := [none, some (.int x1), some (.int (x2 + (x3 % x1))), some (.int (x3 / x1)), some (.int (x4 + 1))]) X dX2_digitSum_33 rfl rfl (by decide) rfl ?_
        refine aw_goto (tgt := 7) X dX2_digitSum_36 (by decide) ?_
        cases h
        refine aw_msk [false, true, true, true, true] ?_
        exact hi _ rfl
set_option maxRecDepth 100000 in
set_option maxHeartbeats 4000000 in
theorem w_X2_digitSum {fr : Nat} (hfr : 0 ≤ fr) (Z : AZ) (X : AX Z cX2_digitSum 5 RX2 (some .int) 0 fr) (x0 : Int32) (x1 : Int32) (s : Mem) (r : Int32 × Mem) (hz : zres Z = (some (.int r.1), r.2)) (h : f_X2_digitSum x0 x1 s = some r) : AW Z s 0 [some (.int x0), some (.int x1), none, none, none] [] := by
  unfold f_X2_digitSum at h
  refine aw_iconst (v := 0) X dX2_digitSum_0 (by decide) ?_
  refine aw_istore_n (L' := [some (.int x0), some (.int x1), some (.int 0), none, none]) X dX2_digitSum_1 (by decide) rfl ?_
  refine aw_iload_n X dX2_digitSum_2 rfl ?_
  refine aw_istore_n (L' := [some (.int x0), some (.int x1), some (.int 0), some (.int x0), none]) X dX2_digitSum_3 (by decide) rfl ?_
  refine aw_iconst (v := 0) X dX2_digitSum_4 (by decide) ?_
  refine aw_istore (L' := [some (.int x0), some (.int x1), some (.int 0), some (.int x0), some (.int 0)]) X dX2_digitSum_5 (by decide) rfl ?_
  obtain ⟨r6, er6, h⟩ := bnd h
  refine aw_msk [false, true, true, true, true] ?_
  refine it_ok (P := fun y : Int32 × Int32 × Int32 × Mem => AW Z y.2.2.2 7 [none, some (.int x1), some (.int y.1), some (.int y.2.1), some (.int y.2.2.1)] []) (Q := fun b : Int32 × Mem => AW Z b.2 39 [none, none, some (.int b.1), none, none] []) (fun y q hq hi he => so_X2_digitSum_7 hfr Z X x1 y.1 y.2.1 y.2.2.1 y.2.2.2 q hq hi he) FUEL _ _ er6 ?_
  refine aw_iload_n X dX2_digitSum_39 rfl ?_
  cases h
  exact aw_iret X dX2_digitSum_40 rfl hz.symm
set_option maxRecDepth 100000 in
set_option maxHeartbeats 4000000 in
theorem ok_X2_digitSum {x0 x1 : Int32} {s : Mem} {r : Int32 × Mem} (h : f_X2_digitSum x0 x1 s = some r) (l : Launch) (D : va_G) (ρ : Nat → Nat) (cA : ClassId × ClassId × ClassId) (τ : AT) : AM l D ρ cA 0 τ yX2_digitSum cX2_digitSum 5 (some .int) 0 [.int x0, .int x1] (some (.int r.1)) s r.2 := by
  refine AM_of (L := [some (.int x0), some (.int x1), none, none, none]) (by decide) (by simp [Value.category]) (Nat.le_of_ble_eq_true rfl) (fun j v q => ?_) (fun Z X hρ hz hτ => ?_)
  · exact aL_ok (n := 3) [.int x0, .int x1] j v q
  · subst hρ
    subst hτ
    exact w_X2_digitSum (Nat.le_refl _) Z X x0 x1 s r hz h

theorem dX2_readsAlike_0 : decode cX2_readsAlike 0 = .ok (.iconst 0, 1) := by decide +kernel
theorem dX2_readsAlike_1 : decode cX2_readsAlike 1 = .ok (.istore_n 2, 1) := by decide +kernel
theorem dX2_readsAlike_2 : decode cX2_readsAlike 2 = .ok (.iload_n 0, 1) := by decide +kernel
theorem dX2_readsAlike_3 : decode cX2_readsAlike 3 = .ok (.istore_n 3, 1) := by decide +kernel
theorem dX2_readsAlike_4 : decode cX2_readsAlike 4 = .ok (.iconst 0, 1) := by decide +kernel
theorem dX2_readsAlike_5 : decode cX2_readsAlike 5 = .ok (.istore 4, 2) := by decide +kernel
theorem dX2_readsAlike_7 : decode cX2_readsAlike 7 = .ok (.iload 4, 2) := by decide +kernel
theorem dX2_readsAlike_9 : decode cX2_readsAlike 9 = .ok (.bipush 32, 2) := by decide +kernel
theorem dX2_readsAlike_11 : decode cX2_readsAlike 11 = .ok (.if_icmp .ge 30, 3) := by decide +kernel
theorem dX2_readsAlike_14 : decode cX2_readsAlike 14 = .ok (.iload_n 3, 1) := by decide +kernel
theorem dX2_readsAlike_15 : decode cX2_readsAlike 15 = .ok (.ifCond .le 26, 3) := by decide +kernel
theorem dX2_readsAlike_18 : decode cX2_readsAlike 18 = .ok (.iload_n 1, 1) := by decide +kernel
theorem dX2_readsAlike_19 : decode cX2_readsAlike 19 = .ok (.iconst 1, 1) := by decide +kernel
theorem dX2_readsAlike_20 : decode cX2_readsAlike 20 = .ok (.if_icmp .le 21, 3) := by decide +kernel
theorem dX2_readsAlike_23 : decode cX2_readsAlike 23 = .ok (.iload_n 2, 1) := by decide +kernel
theorem dX2_readsAlike_24 : decode cX2_readsAlike 24 = .ok (.iload_n 1, 1) := by decide +kernel
theorem dX2_readsAlike_25 : decode cX2_readsAlike 25 = .ok (.imul, 1) := by decide +kernel
theorem dX2_readsAlike_26 : decode cX2_readsAlike 26 = .ok (.iload_n 3, 1) := by decide +kernel
theorem dX2_readsAlike_27 : decode cX2_readsAlike 27 = .ok (.iload_n 1, 1) := by decide +kernel
theorem dX2_readsAlike_28 : decode cX2_readsAlike 28 = .ok (.irem, 1) := by decide +kernel
theorem dX2_readsAlike_29 : decode cX2_readsAlike 29 = .ok (.iadd, 1) := by decide +kernel
theorem dX2_readsAlike_30 : decode cX2_readsAlike 30 = .ok (.istore_n 2, 1) := by decide +kernel
theorem dX2_readsAlike_31 : decode cX2_readsAlike 31 = .ok (.iload_n 3, 1) := by decide +kernel
theorem dX2_readsAlike_32 : decode cX2_readsAlike 32 = .ok (.iload_n 1, 1) := by decide +kernel
theorem dX2_readsAlike_33 : decode cX2_readsAlike 33 = .ok (.idiv, 1) := by decide +kernel
theorem dX2_readsAlike_34 : decode cX2_readsAlike 34 = .ok (.istore_n 3, 1) := by decide +kernel
theorem dX2_readsAlike_35 : decode cX2_readsAlike 35 = .ok (.iinc 4 1, 3) := by decide +kernel
theorem dX2_readsAlike_38 : decode cX2_readsAlike 38 = .ok (.goto (-31), 3) := by decide +kernel
theorem dX2_readsAlike_41 : decode cX2_readsAlike 41 = .ok (.iload_n 2, 1) := by decide +kernel
theorem dX2_readsAlike_42 : decode cX2_readsAlike 42 = .ok (.iload_n 0, 1) := by decide +kernel
theorem dX2_readsAlike_43 : decode cX2_readsAlike 43 = .ok (.if_icmp .ne 7, 3) := by decide +kernel
theorem dX2_readsAlike_46 : decode cX2_readsAlike 46 = .ok (.iconst 1, 1) := by decide +kernel
theorem dX2_readsAlike_47 : decode cX2_readsAlike 47 = .ok (.goto 4, 3) := by decide +kernel
theorem dX2_readsAlike_50 : decode cX2_readsAlike 50 = .ok (.iconst 0, 1) := by decide +kernel
theorem dX2_readsAlike_51 : decode cX2_readsAlike 51 = .ok (.ireturn, 1) := by decide +kernel
set_option maxRecDepth 100000 in
set_option maxHeartbeats 4000000 in
theorem so_X2_readsAlike_7 {fr : Nat} (hfr : 0 ≤ fr) (Z : AZ) (X : AX Z cX2_readsAlike 5 RX2 (some .boolean) 0 fr) (x0 : Int32) (x1 : Int32) (x2 : Int32) (x3 : Int32) (x4 : Int32) (s : Mem) (q : (Int32 × Int32 × Int32 × Mem) ⊕ (Int32 × Mem)) (h : st_X2_readsAlike_7 x0 x1 x2 x3 x4 s = some q) (hi : ∀ y : Int32 × Int32 × Int32 × Mem, q = .inl y → AW Z y.2.2.2 7 [some (.int x0), some (.int x1), some (.int y.1), some (.int y.2.1), some (.int y.2.2.1)] []) (he : ∀ b : Int32 × Mem, q = .inr b → AW Z b.2 41 [some (.int x0), none, some (.int b.1), none, none] []) : AW Z s 7 [some (.int x0), some (.int x1), some (.int x2), some (.int x3), some (.int x4)] [] := by
  unfold st_X2_readsAlike_7 at h
  refine aw_iload X dX2_readsAlike_7 rfl ?_
  refine aw_bipush (v := 32) X dX2_readsAlike_9 (by decide) ?_
  refine aw_icmp_ge (tgt := 41) X dX2_readsAlike_11 (by decide) (fun c1 => ?_) (fun c1 => ?_)
  · rw [if_pos c1] at h
    cases h
    refine aw_msk [true, false, true, false, false] ?_
    exact he _ rfl
  · rw [if_neg c1] at h
    refine aw_iload_n X dX2_readsAlike_14 rfl ?_
    refine aw_if_le (tgt := 41) X dX2_readsAlike_15 (by decide) (fun c2 => ?_) (fun c2 => ?_)
    · rw [if_pos c2] at h
      cases h
      refine aw_msk [true, false, true, false, false] ?_
      exact he _ rfl
    · rw [if_neg c2] at h
      refine aw_iload_n X dX2_readsAlike_18 rfl ?_
      refine aw_iconst (v := 1) X dX2_readsAlike_19 (by decide) ?_
      refine aw_icmp_le (tgt := 41) X dX2_readsAlike_20 (by decide) (fun c3 => ?_) (fun c3 => ?_)
      · rw [if_pos c3] at h
        cases h
        refine aw_msk [true, false, true, false, false] ?_
        exact he _ rfl
      · rw [if_neg c3] at h
        refine aw_iload_n X dX2_readsAlike_23 rfl ?_
        refine aw_iload_n X dX2_readsAlike_24 rfl ?_
        refine aw_imul X dX2_readsAlike_25 ?_
        refine aw_iload_n X dX2_readsAlike_26 rfl ?_
        refine aw_iload_n X dX2_readsAlike_27 rfl ?_
        by_cases c4 : x1 = 0
        · rw [if_pos c4] at h
          cases h
        rw [if_neg c4] at h
        refine aw_irem X dX2_readsAlike_28 c4 ?_
        refine aw_iadd X dX2_readsAlike_29 ?_
        refine aw_istore_n (L' := [some (.int x0), some (.int x1), some (.int ((x2 * x1) + (x3 % x1))), some (.int x3), some (.int x4)]) X dX2_readsAlike_30 (by decide) rfl ?_
        refine aw_iload_n X dX2_readsAlike_31 rfl ?_
        refine aw_iload_n X dX2_readsAlike_32 rfl ?_
        by_cases c5 : x1 = 0
        · rw [if_pos c5] at h
          cases h
        rw [if_neg c5] at h
        refine aw_idiv X dX2_readsAlike_33 c5 ?_
        refine aw_istore_n (L' := [some (.int x0), some (.int x1), some (.int ((x2 * x1) + (x3 % x1))), some (.int (x3 / x1)), some (.int x4)]) X dX2_readsAlike_34 (by decide) rfl ?_
        refine aw_iinc (v := (x4 + 1)) (L' := [some (.int x0), some (.int x1), some (.int ((x2 * x1) + (x3 % x1))), some (.int (x3 / x1)), some (.int (x4 + 1))]) X dX2_readsAlike_35 rfl rfl (by decide) rfl ?_
        refine aw_goto (tgt := 7) X dX2_readsAlike_38 (by decide) ?_
        cases h
        refine aw_msk [true, true, true, true, true] ?_
        exact hi _ rfl
set_option maxRecDepth 100000 in
set_option maxHeartbeats 4000000 in
theorem jo_X2_readsAlike_41 {fr : Nat} (hfr : 0 ≤ fr) (Z : AZ) (X : AX Z cX2_readsAlike 5 RX2 (some .boolean) 0 fr) (x0 : Int32) (x2 : Int32) (s : Mem) (r : Int32 × Mem) (hz : zres Z = (some (.int r.1), r.2)) (h : jn_X2_readsAlike_41 x0 x2 s = some r) : AW Z s 41 [some (.int x0), none, some (.int x2), none, none] [] := by
  unfold jn_X2_readsAlike_41 at h
  refine aw_iload_n X dX2_readsAlike_41 rfl ?_
  refine aw_iload_n X dX2_readsAlike_42 rfl ?_
  refine aw_icmp_ne (tgt := 50) X dX2_readsAlike_43 (by decide) (fun c7 => ?_) (fun c7 => ?_)
  · rw [if_neg c7] at h
    refine aw_iconst (v := 0) X dX2_readsAlike_50 (by decide) ?_
    cases h
    exact aw_zret X dX2_readsAlike_51 rfl rfl hz.symm
  · rw [if_pos c7] at h
    refine aw_iconst (v := 1) X dX2_readsAlike_46 (by decide) ?_
    refine aw_goto (tgt := 51) X dX2_readsAlike_47 (by decide) ?_
    cases h
    exact aw_zret X dX2_readsAlike_51 rfl rfl hz.symm
set_option maxRecDepth 100000 in
set_option maxHeartbeats 4000000 in
theorem w_X2_readsAlike {fr : Nat} (hfr : 0 ≤ fr) (Z : AZ) (X : AX Z cX2_readsAlike 5 RX2 (some .boolean) 0 fr) (x0 : Int32) (x1 : Int32) (s : Mem) (r : Int32 × Mem) (hz : zres Z = (some (.int r.1), r.2)) (h : f_X2_readsAlike x0 x1 s = some r) : AW Z s 0 [some (.int x0), some (.int x1), none, none, none] [] := by
  unfold f_X2_readsAlike at h
  refine aw_iconst (v := 0) X dX2_readsAlike_0 (by decide) ?_
  refine aw_istore_n (L' := [some (.int x0), some (.int x1), some (.int 0), none, none]) X dX2_readsAlike_1 (by decide) rfl ?_
  refine aw_iload_n X dX2_readsAlike_2 rfl ?_
  refine aw_istore_n (L' := [some (.int x0), some (.int x1), some (.int 0), some (.int x0), none]) X dX2_readsAlike_3 (by decide) rfl ?_
  refine aw_iconst (v := 0) X dX2_readsAlike_4 (by decide) ?_
  refine aw_istore (L' := [some (.int x0), some (.int x1), some (.int 0), some (.int x0), some (.int 0)]) X dX2_readsAlike_5 (by decide) rfl ?_
  obtain ⟨r6, er6, h⟩ := bnd h
  refine aw_msk [true, true, true, true, true] ?_
  refine it_ok (P := fun y : Int32 × Int32 × Int32 × Mem => AW Z y.2.2.2 7 [some (.int x0), some (.int x1), some (.int y.1), some (.int y.2.1), some (.int y.2.2.1)] []) (Q := fun b : Int32 × Mem => AW Z b.2 41 [some (.int x0), none, some (.int b.1), none, none] []) (fun y q hq hi he => so_X2_readsAlike_7 hfr Z X x0 x1 y.1 y.2.1 y.2.2.1 y.2.2.2 q hq hi he) FUEL _ _ er6 ?_
  refine aw_msk [true, false, true, false, false] ?_
  exact jo_X2_readsAlike_41 hfr Z X _ _ _ _ hz h
set_option maxRecDepth 100000 in
set_option maxHeartbeats 4000000 in
theorem ok_X2_readsAlike {x0 x1 : Int32} {s : Mem} {r : Int32 × Mem} (h : f_X2_readsAlike x0 x1 s = some r) (l : Launch) (D : va_G) (ρ : Nat → Nat) (cA : ClassId × ClassId × ClassId) (τ : AT) : AM l D ρ cA 0 τ yX2_readsAlike cX2_readsAlike 5 (some .boolean) 0 [.int x0, .int x1] (some (.int r.1)) s r.2 := by
  refine AM_of (L := [some (.int x0), some (.int x1), none, none, none]) (by decide) (by simp [Value.category]) (Nat.le_of_ble_eq_true rfl) (fun j v q => ?_) (fun Z X hρ hz hτ => ?_)
  · exact aL_ok (n := 3) [.int x0, .int x1] j v q
  · subst hρ
    subst hτ
    exact w_X2_readsAlike (Nat.le_refl _) Z X x0 x1 s r hz h

theorem dX2_leastAlikeBase_0 : decode cX2_leastAlikeBase 0 = .ok (.iconst 2, 1) := by decide +kernel
theorem dX2_leastAlikeBase_1 : decode cX2_leastAlikeBase 1 = .ok (.istore_n 1, 1) := by decide +kernel
theorem dX2_leastAlikeBase_2 : decode cX2_leastAlikeBase 2 = .ok (.iload_n 1, 1) := by decide +kernel
theorem dX2_leastAlikeBase_3 : decode cX2_leastAlikeBase 3 = .ok (.bipush 16, 2) := by decide +kernel
theorem dX2_leastAlikeBase_5 : decode cX2_leastAlikeBase 5 = .ok (.if_icmp .gt 19, 3) := by decide +kernel
theorem dX2_leastAlikeBase_8 : decode cX2_leastAlikeBase 8 = .ok (.iload_n 0, 1) := by decide +kernel
theorem dX2_leastAlikeBase_9 : decode cX2_leastAlikeBase 9 = .ok (.iload_n 1, 1) := by decide +kernel
theorem dX2_leastAlikeBase_10 : decode cX2_leastAlikeBase 10 = .ok (.invokestatic 35, 3) := by decide +kernel
theorem dX2_leastAlikeBase_13 : decode cX2_leastAlikeBase 13 = .ok (.ifCond .eq 5, 3) := by decide +kernel
theorem dX2_leastAlikeBase_16 : decode cX2_leastAlikeBase 16 = .ok (.iload_n 1, 1) := by decide +kernel
theorem dX2_leastAlikeBase_17 : decode cX2_leastAlikeBase 17 = .ok (.ireturn, 1) := by decide +kernel
theorem dX2_leastAlikeBase_18 : decode cX2_leastAlikeBase 18 = .ok (.iinc 1 1, 3) := by decide +kernel
theorem dX2_leastAlikeBase_21 : decode cX2_leastAlikeBase 21 = .ok (.goto (-19), 3) := by decide +kernel
theorem dX2_leastAlikeBase_24 : decode cX2_leastAlikeBase 24 = .ok (.iconst (-1), 1) := by decide +kernel
theorem dX2_leastAlikeBase_25 : decode cX2_leastAlikeBase 25 = .ok (.ireturn, 1) := by decide +kernel
set_option maxRecDepth 100000 in
set_option maxHeartbeats 4000000 in
theorem so_X2_leastAlikeBase_2 {fr : Nat} (hfr : 1 ≤ fr) (Z : AZ) (X : AX Z cX2_leastAlikeBase 2 RX2 (some .int) 0 fr) (x0 : Int32) (x1 : Int32) (s : Mem) (q : (Int32 × Mem) ⊕ (Nat × Int32 × Mem)) (h : st_X2_leastAlikeBase_2 x0 x1 s = some q) (hi : ∀ y : Int32 × Mem, q = .inl y → AW Z y.2 2 [some (.int x0), some (.int y.1)] []) (he : ∀ b : Nat × Int32 × Mem, q = .inr b → (b.1 = 0 → AW Z b.2.2 16 [none, some (.int b.2.1)] []) ∧ (b.1 = 1 → AW Z b.2.2 24 [none, none] [])) : AW Z s 2 [some (.int x0), some (.int x1)] [] := by
  unfold st_X2_leastAlikeBase_2 at h
  refine aw_iload_n X dX2_leastAlikeBase_2 rfl ?_
  refine aw_bipush (v := 16) X dX2_leastAlikeBase_3 (by decide) ?_
  refine aw_icmp_gt (tgt := 24) X dX2_leastAlikeBase_5 (by decide) (fun c1 => ?_) (fun c1 => ?_)
  · rw [if_pos c1] at h
    cases h
    refine aw_msk [false, false] ?_
    exact (he _ rfl).2 rfl
  · rw [if_neg c1] at h
    refine aw_iload_n X dX2_leastAlikeBase_8 rfl ?_
    refine aw_iload_n X dX2_leastAlikeBase_9 rfl ?_
    obtain ⟨r2, er2, h⟩ := bnd h
    refine aw_callS X dX2_leastAlikeBase_10 cv_RX2_35 (ok_X2_readsAlike er2 _ _ _ _ _) (Nat.le_trans (by decide) hfr) (by decide) rfl rfl (Nat.le_of_ble_eq_true rfl) ?_
    refine aw_if_eq (tgt := 18) X dX2_leastAlikeBase_13 (by decide) (fun c3 => ?_) (fun c3 => ?_)
    · rw [if_pos c3] at h
      refine aw_iinc (v := (x1 + 1)) (L' := [some (.int x0), some (.int (x1 + 1))]) X dX2_leastAlikeBase_18 rfl rfl (by decide) rfl ?_
      refine aw_goto (tgt := 2) X dX2_leastAlikeBase_21 (by decide) ?_
      cases h
      refine aw_msk [true, true] ?_
      exact hi _ rfl
    · rw [if_neg c3] at h
      cases h
      refine aw_msk [false, true] ?_
      exact (he _ rfl).1 rfl
set_option maxRecDepth 100000 in
set_option maxHeartbeats 4000000 in
theorem w_X2_leastAlikeBase {fr : Nat} (hfr : 1 ≤ fr) (Z : AZ) (X : AX Z cX2_leastAlikeBase 2 RX2 (some .int) 0 fr) (x0 : Int32) (s : Mem) (r : Int32 × Mem) (hz : zres Z = (some (.int r.1), r.2)) (h : f_X2_leastAlikeBase x0 s = some r) : AW Z s 0 [some (.int x0), none] [] := by
  unfold f_X2_leastAlikeBase at h
  refine aw_iconst (v := 2) X dX2_leastAlikeBase_0 (by decide) ?_
  refine aw_istore_n (L' := [some (.int x0), some (.int 2)]) X dX2_leastAlikeBase_1 (by decide) rfl ?_
  obtain ⟨r4, er4, h⟩ := bnd h
  refine aw_msk [true, true] ?_
  refine it_ok (P := fun y : Int32 × Mem => AW Z y.2 2 [some (.int x0), some (.int y.1)] []) (Q := fun b : Nat × Int32 × Mem => (b.1 = 0 → AW Z b.2.2 16 [none, some (.int b.2.1)] []) ∧ (b.1 = 1 → AW Z b.2.2 24 [none, none] [])) (fun y q hq hi he => so_X2_leastAlikeBase_2 hfr Z X x0 y.1 y.2 q hq hi he) FUEL _ _ er4 ?_
  refine ⟨fun c0 => ?_, fun c1 => ?_⟩
  · rw [if_pos c0] at h
    refine aw_iload_n X dX2_leastAlikeBase_16 rfl ?_
    cases h
    exact aw_iret X dX2_leastAlikeBase_17 rfl hz.symm
  · rw [if_neg (by rw [c1]; decide)] at h
    refine aw_iconst (v := (-1)) X dX2_leastAlikeBase_24 (by decide) ?_
    cases h
    exact aw_iret X dX2_leastAlikeBase_25 rfl hz.symm
set_option maxRecDepth 100000 in
set_option maxHeartbeats 4000000 in
theorem ok_X2_leastAlikeBase {x0 : Int32} {s : Mem} {r : Int32 × Mem} (h : f_X2_leastAlikeBase x0 s = some r) (l : Launch) (D : va_G) (ρ : Nat → Nat) (cA : ClassId × ClassId × ClassId) (τ : AT) : AM l D ρ cA 0 τ yX2_leastAlikeBase cX2_leastAlikeBase 2 (some .int) 1 [.int x0] (some (.int r.1)) s r.2 := by
  refine AM_of (L := [some (.int x0), none]) (by decide) (by simp [Value.category]) (Nat.le_of_ble_eq_true rfl) (fun j v q => ?_) (fun Z X hρ hz hτ => ?_)
  · exact aL_ok (n := 1) [.int x0] j v q
  · subst hρ
    subst hτ
    exact w_X2_leastAlikeBase (Nat.le_refl _) Z X x0 s r hz h

theorem dX2_isSquare_0 : decode cX2_isSquare 0 = .ok (.iconst 1, 1) := by decide +kernel
theorem dX2_isSquare_1 : decode cX2_isSquare 1 = .ok (.istore_n 1, 1) := by decide +kernel
theorem dX2_isSquare_2 : decode cX2_isSquare 2 = .ok (.iload_n 1, 1) := by decide +kernel
theorem dX2_isSquare_3 : decode cX2_isSquare 3 = .ok (.bipush 100, 2) := by decide +kernel
theorem dX2_isSquare_5 : decode cX2_isSquare 5 = .ok (.if_icmp .gt 18, 3) := by decide +kernel
theorem dX2_isSquare_8 : decode cX2_isSquare 8 = .ok (.iload_n 1, 1) := by decide +kernel
theorem dX2_isSquare_9 : decode cX2_isSquare 9 = .ok (.iload_n 1, 1) := by decide +kernel
theorem dX2_isSquare_10 : decode cX2_isSquare 10 = .ok (.imul, 1) := by decide +kernel
theorem dX2_isSquare_11 : decode cX2_isSquare 11 = .ok (.iload_n 0, 1) := by decide +kernel
theorem dX2_isSquare_12 : decode cX2_isSquare 12 = .ok (.if_icmp .ne 5, 3) := by decide +kernel
theorem dX2_isSquare_15 : decode cX2_isSquare 15 = .ok (.iconst 1, 1) := by decide +kernel
theorem dX2_isSquare_16 : decode cX2_isSquare 16 = .ok (.ireturn, 1) := by decide +kernel
theorem dX2_isSquare_17 : decode cX2_isSquare 17 = .ok (.iinc 1 1, 3) := by decide +kernel
theorem dX2_isSquare_20 : decode cX2_isSquare 20 = .ok (.goto (-18), 3) := by decide +kernel
theorem dX2_isSquare_23 : decode cX2_isSquare 23 = .ok (.iconst 0, 1) := by decide +kernel
theorem dX2_isSquare_24 : decode cX2_isSquare 24 = .ok (.ireturn, 1) := by decide +kernel
set_option maxRecDepth 100000 in
set_option maxHeartbeats 4000000 in
theorem so_X2_isSquare_2 {fr : Nat} (hfr : 0 ≤ fr) (Z : AZ) (X : AX Z cX2_isSquare 2 RX2 (some .boolean) 0 fr) (x0 : Int32) (x1 : Int32) (s : Mem) (q : (Int32 × Mem) ⊕ (Nat × Mem)) (h : st_X2_isSquare_2 x0 x1 s = some q) (hi : ∀ y : Int32 × Mem, q = .inl y → AW Z y.2 2 [some (.int x0), some (.int y.1)] []) (he : ∀ b : Nat × Mem, q = .inr b → (b.1 = 0 → AW Z b.2 15 [none, none] []) ∧ (b.1 = 1 → AW Z b.2 23 [none, none] [])) : AW Z s 2 [some (.int x0), some (.int x1)] [] := by
  unfold st_X2_isSquare_2 at h
  refine aw_iload_n X dX2_isSquare_2 rfl ?_
  refine aw_bipush (v := 100) X dX2_isSquare_3 (by decide) ?_
  refine aw_icmp_gt (tgt := 23) X dX2_isSquare_5 (by decide) (fun c1 => ?_) (fun c1 => ?_)
  · rw [if_pos c1] at h
    cases h
    refine aw_msk [false, false] ?_
    exact (he _ rfl).2 rfl
  · rw [if_neg c1] at h
    refine aw_iload_n X dX2_isSquare_8 rfl ?_
    refine aw_iload_n X dX2_isSquare_9 rfl ?_
    refine aw_imul X dX2_isSquare_10 ?_
    refine aw_iload_n X dX2_isSquare_11 rfl ?_
    refine aw_icmp_ne (tgt := 17) X dX2_isSquare_12 (by decide) (fun c2 => ?_) (fun c2 => ?_)
    · rw [if_neg c2] at h
      refine aw_iinc (v := (x1 + 1)) (L' := [some (.int x0), some (.int (x1 + 1))]) X dX2_isSquare_17 rfl rfl (by decide) rfl ?_
      refine aw_goto (tgt := 2) X dX2_isSquare_20 (by decide) ?_
      cases h
      refine aw_msk [true, true] ?_
      exact hi _ rfl
    · rw [if_pos c2] at h
      cases h
      refine aw_msk [false, false] ?_
      exact (he _ rfl).1 rfl
set_option maxRecDepth 100000 in
set_option maxHeartbeats 4000000 in
theorem w_X2_isSquare {fr : Nat} (hfr : 0 ≤ fr) (Z : AZ) (X : AX Z cX2_isSquare 2 RX2 (some .boolean) 0 fr) (x0 : Int32) (s : Mem) (r : Int32 × Mem) (hz : zres Z = (some (.int r.1), r.2)) (h : f_X2_isSquare x0 s = some r) : AW Z s 0 [some (.int x0), none] [] := by
  unfold f_X2_isSquare at h
  refine aw_iconst (v := 1) X dX2_isSquare_0 (by decide) ?_
  refine aw_istore_n (L' := [some (.int x0), some (.int 1)]) X dX2_isSquare_1 (by decide) rfl ?_
  obtain ⟨r3, er3, h⟩ := bnd h
  refine aw_msk [true, true] ?_
  refine it_ok (P := fun y : Int32 × Mem => AW Z y.2 2 [some (.int x0), some (.int y.1)] []) (Q := fun b : Nat × Mem => (b.1 = 0 → AW Z b.2 15 [none, none] []) ∧ (b.1 = 1 → AW Z b.2 23 [none, none] [])) (fun y q hq hi he => so_X2_isSquare_2 hfr Z X x0 y.1 y.2 q hq hi he) FUEL _ _ er3 ?_
  refine ⟨fun c0 => ?_, fun c1 => ?_⟩
  · rw [if_pos c0] at h
    refine aw_iconst (v := 1) X dX2_isSquare_15 (by decide) ?_
    cases h
    exact aw_zret X dX2_isSquare_16 rfl rfl hz.symm
  · rw [if_neg (by rw [c1]; decide)] at h
    refine aw_iconst (v := 0) X dX2_isSquare_23 (by decide) ?_
    cases h
    exact aw_zret X dX2_isSquare_24 rfl rfl hz.symm
set_option maxRecDepth 100000 in
set_option maxHeartbeats 4000000 in
theorem ok_X2_isSquare {x0 : Int32} {s : Mem} {r : Int32 × Mem} (h : f_X2_isSquare x0 s = some r) (l : Launch) (D : va_G) (ρ : Nat → Nat) (cA : ClassId × ClassId × ClassId) (τ : AT) : AM l D ρ cA 0 τ yX2_isSquare cX2_isSquare 2 (some .boolean) 0 [.int x0] (some (.int r.1)) s r.2 := by
  refine AM_of (L := [some (.int x0), none]) (by decide) (by simp [Value.category]) (Nat.le_of_ble_eq_true rfl) (fun j v q => ?_) (fun Z X hρ hz hτ => ?_)
  · exact aL_ok (n := 1) [.int x0] j v q
  · subst hρ
    subst hτ
    exact w_X2_isSquare (Nat.le_refl _) Z X x0 s r hz h

theorem dX2_waysOfTwoSquares_0 : decode cX2_waysOfTwoSquares 0 = .ok (.iconst 0, 1) := by decide +kernel
theorem dX2_waysOfTwoSquares_1 : decode cX2_waysOfTwoSquares 1 = .ok (.istore_n 1, 1) := by decide +kernel
theorem dX2_waysOfTwoSquares_2 : decode cX2_waysOfTwoSquares 2 = .ok (.bipush 100, 2) := by decide +kernel
theorem dX2_waysOfTwoSquares_4 : decode cX2_waysOfTwoSquares 4 = .ok (.istore_n 2, 1) := by decide +kernel
theorem dX2_waysOfTwoSquares_5 : decode cX2_waysOfTwoSquares 5 = .ok (.iconst 0, 1) := by decide +kernel
theorem dX2_waysOfTwoSquares_6 : decode cX2_waysOfTwoSquares 6 = .ok (.istore_n 3, 1) := by decide +kernel
theorem dX2_waysOfTwoSquares_7 : decode cX2_waysOfTwoSquares 7 = .ok (.iload_n 3, 1) := by decide +kernel
theorem dX2_waysOfTwoSquares_8 : decode cX2_waysOfTwoSquares 8 = .ok (.iload_n 2, 1) := by decide +kernel
theorem dX2_waysOfTwoSquares_9 : decode cX2_waysOfTwoSquares 9 = .ok (.if_icmp .gt 45, 3) := by decide +kernel
theorem dX2_waysOfTwoSquares_12 : decode cX2_waysOfTwoSquares 12 = .ok (.iload_n 2, 1) := by decide +kernel
theorem dX2_waysOfTwoSquares_13 : decode cX2_waysOfTwoSquares 13 = .ok (.iload_n 3, 1) := by decide +kernel
theorem dX2_waysOfTwoSquares_14 : decode cX2_waysOfTwoSquares 14 = .ok (.if_icmp .le 20, 3) := by decide +kernel
theorem dX2_waysOfTwoSquares_17 : decode cX2_waysOfTwoSquares 17 = .ok (.iload_n 3, 1) := by decide +kernel
theorem dX2_waysOfTwoSquares_18 : decode cX2_waysOfTwoSquares 18 = .ok (.iload_n 3, 1) := by decide +kernel
theorem dX2_waysOfTwoSquares_19 : decode cX2_waysOfTwoSquares 19 = .ok (.imul, 1) := by decide +kernel
theorem dX2_waysOfTwoSquares_20 : decode cX2_waysOfTwoSquares 20 = .ok (.iload_n 2, 1) := by decide +kernel
theorem dX2_waysOfTwoSquares_21 : decode cX2_waysOfTwoSquares 21 = .ok (.iload_n 2, 1) := by decide +kernel
theorem dX2_waysOfTwoSquares_22 : decode cX2_waysOfTwoSquares 22 = .ok (.imul, 1) := by decide +kernel
theorem dX2_waysOfTwoSquares_23 : decode cX2_waysOfTwoSquares 23 = .ok (.iadd, 1) := by decide +kernel
theorem dX2_waysOfTwoSquares_24 : decode cX2_waysOfTwoSquares 24 = .ok (.iload_n 0, 1) := by decide +kernel
theorem dX2_waysOfTwoSquares_25 : decode cX2_waysOfTwoSquares 25 = .ok (.if_icmp .le 9, 3) := by decide +kernel
theorem dX2_waysOfTwoSquares_28 : decode cX2_waysOfTwoSquares 28 = .ok (.iinc 2 (-1), 3) := by decide +kernel
theorem dX2_waysOfTwoSquares_31 : decode cX2_waysOfTwoSquares 31 = .ok (.goto (-19), 3) := by decide +kernel
theorem dX2_waysOfTwoSquares_34 : decode cX2_waysOfTwoSquares 34 = .ok (.iload_n 3, 1) := by decide +kernel
theorem dX2_waysOfTwoSquares_35 : decode cX2_waysOfTwoSquares 35 = .ok (.iload_n 3, 1) := by decide +kernel
theorem dX2_waysOfTwoSquares_36 : decode cX2_waysOfTwoSquares 36 = .ok (.imul, 1) := by decide +kernel
theorem dX2_waysOfTwoSquares_37 : decode cX2_waysOfTwoSquares 37 = .ok (.iload_n 2, 1) := by decide +kernel
theorem dX2_waysOfTwoSquares_38 : decode cX2_waysOfTwoSquares 38 = .ok (.iload_n 2, 1) := by decide +kernel
theorem dX2_waysOfTwoSquares_39 : decode cX2_waysOfTwoSquares 39 = .ok (.imul, 1) := by decide +kernel
theorem dX2_waysOfTwoSquares_40 : decode cX2_waysOfTwoSquares 40 = .ok (.iadd, 1) := by decide +kernel
theorem dX2_waysOfTwoSquares_41 : decode cX2_waysOfTwoSquares 41 = .ok (.iload_n 0, 1) := by decide +kernel
theorem dX2_waysOfTwoSquares_42 : decode cX2_waysOfTwoSquares 42 = .ok (.if_icmp .ne 6, 3) := by decide +kernel
theorem dX2_waysOfTwoSquares_45 : decode cX2_waysOfTwoSquares 45 = .ok (.iinc 1 1, 3) := by decide +kernel
theorem dX2_waysOfTwoSquares_48 : decode cX2_waysOfTwoSquares 48 = .ok (.iinc 3 1, 3) := by decide +kernel
theorem dX2_waysOfTwoSquares_51 : decode cX2_waysOfTwoSquares 51 = .ok (.goto (-44), 3) := by decide +kernel
theorem dX2_waysOfTwoSquares_54 : decode cX2_waysOfTwoSquares 54 = .ok (.iload_n 1, 1) := by decide +kernel
theorem dX2_waysOfTwoSquares_55 : decode cX2_waysOfTwoSquares 55 = .ok (.ireturn, 1) := by decide +kernel
set_option maxRecDepth 100000 in
set_option maxHeartbeats 4000000 in
theorem so_X2_waysOfTwoSquares_12 {fr : Nat} (hfr : 0 ≤ fr) (Z : AZ) (X : AX Z cX2_waysOfTwoSquares 4 RX2 (some .int) 0 fr) (x0 : Int32) (x1 : Int32) (x3 : Int32) (x2 : Int32) (s : Mem) (q : (Int32 × Mem) ⊕ (Int32 × Mem)) (h : st_X2_waysOfTwoSquares_12 x0 x1 x3 x2 s = some q) (hi : ∀ y : Int32 × Mem, q = .inl y → AW Z y.2 12 [some (.int x0), some (.int x1), some (.int y.1), some (.int x3)] []) (he : ∀ b : Int32 × Mem, q = .inr b → AW Z b.2 34 [some (.int x0), some (.int x1), some (.int b.1), some (.int x3)] []) : AW Z s 12 [some (.int x0), some (.int x1), some (.int x2), some (.int x3)] [] := by
  unfold st_X2_waysOfTwoSquares_12 at h
  refine aw_iload_n X dX2_waysOfTwoSquares_12 rfl ?_
  refine aw_iload_n X dX2_waysOfTwoSquares_13 rfl ?_
  refine aw_icmp_le (tgt := 34) X dX2_waysOfTwoSquares_14 (by decide) (fun c2 => ?_) (fun c2 => ?_)
  · rw [if_pos c2] at h
    cases h
    refine aw_msk [true, true, true, true] ?_
    exact he _ rfl
  · rw [if_neg c2] at h
    refine aw_iload_n X dX2_waysOfTwoSquares_17 rfl ?_
    refine aw_iload_n X dX2_waysOfTwoSquares_18 rfl ?_
    refine aw_imul X dX2_waysOfTwoSquares_19 ?_
    refine aw_iload_n X dX2_waysOfTwoSquares_20 rfl ?_
    refine aw_iload_n X dX2_waysOfTwoSquares_21 rfl ?_
    refine aw_imul X dX2_waysOfTwoSquares_22 ?_
    refine aw_iadd X dX2_waysOfTwoSquares_23 ?_
    refine aw_iload_n X dX2_waysOfTwoSquares_24 rfl ?_
    refine aw_icmp_le (tgt := 34) X dX2_waysOfTwoSquares_25 (by decide) (fun c3 => ?_) (fun c3 => ?_)
    · rw [if_pos c3] at h
      cases h
      refine aw_msk [true, true, true, true] ?_
      exact he _ rfl
    · rw [if_neg c3] at h
      refine aw_iinc (v := (x2 + (-1))) (L' := [some (.int x0), some (.int x1), some (.int (x2 + (-1))), some (.int x3)]) X dX2_waysOfTwoSquares_28 rfl rfl (by decide) rfl ?_
      refine aw_goto (tgt := 12) X dX2_waysOfTwoSquares_31 (by decide) ?_
      cases h
      refine aw_msk [true, true, true, true] ?_
      exact hi _ rfl
set_option maxRecDepth 100000 in
set_option maxHeartbeats 4000000 in
theorem jo_X2_waysOfTwoSquares_34 {fr : Nat} (hfr : 0 ≤ fr) (Z : AZ) (X : AX Z cX2_waysOfTwoSquares 4 RX2 (some .int) 0 fr) (x0 : Int32) (x1 : Int32) (x2 : Int32) (x3 : Int32) (s : Mem) (q : (Int32 × Int32 × Int32 × Mem) ⊕ (Int32 × Mem)) (h : jn_X2_waysOfTwoSquares_34 x0 x1 x2 x3 s = some q) (hi : ∀ y : Int32 × Int32 × Int32 × Mem, q = .inl y → AW Z y.2.2.2 7 [some (.int x0), some (.int y.1), some (.int y.2.1), some (.int y.2.2.1)] []) (he : ∀ b : Int32 × Mem, q = .inr b → AW Z b.2 54 [none, some (.int b.1), none, none] []) : AW Z s 34 [some (.int x0), some (.int x1), some (.int x2), some (.int x3)] [] := by
  unfold jn_X2_waysOfTwoSquares_34 at h
  refine aw_iload_n X dX2_waysOfTwoSquares_34 rfl ?_
  refine aw_iload_n X dX2_waysOfTwoSquares_35 rfl ?_
  refine aw_imul X dX2_waysOfTwoSquares_36 ?_
  refine aw_iload_n X dX2_waysOfTwoSquares_37 rfl ?_
  refine aw_iload_n X dX2_waysOfTwoSquares_38 rfl ?_
  refine aw_imul X dX2_waysOfTwoSquares_39 ?_
  refine aw_iadd X dX2_waysOfTwoSquares_40 ?_
  refine aw_iload_n X dX2_waysOfTwoSquares_41 rfl ?_
  refine aw_icmp_ne (tgt := 48) X dX2_waysOfTwoSquares_42 (by decide) (fun c5 => ?_) (fun c5 => ?_)
  · rw [if_neg c5] at h
    refine aw_iinc (v := (x3 + 1)) (L' := [some (.int x0), some (.int x1), some (.int x2), some (.int (x3 + 1))]) X dX2_waysOfTwoSquares_48 rfl rfl (by decide) rfl ?_
    refine aw_goto (tgt := 7) X dX2_waysOfTwoSquares_51 (by decide) ?_
    cases h
    refine aw_msk [true, true, true, true] ?_
    exact hi _ rfl
  · rw [if_pos c5] at h
    refine aw_iinc (v := (x1 + 1)) (L' := [some (.int x0), some (.int (x1 + 1)), some (.int x2), some (.int x3)]) X dX2_waysOfTwoSquares_45 rfl rfl (by decide) rfl ?_
    refine aw_iinc (v := (x3 + 1)) (L' := [some (.int x0), some (.int (x1 + 1)), some (.int x2), some (.int (x3 + 1))]) X dX2_waysOfTwoSquares_48 rfl rfl (by decide) rfl ?_
    refine aw_goto (tgt := 7) X dX2_waysOfTwoSquares_51 (by decide) ?_
    cases h
    refine aw_msk [true, true, true, true] ?_
    exact hi _ rfl
set_option maxRecDepth 100000 in
set_option maxHeartbeats 4000000 in
theorem so_X2_waysOfTwoSquares_7 {fr : Nat} (hfr : 0 ≤ fr) (Z : AZ) (X : AX Z cX2_waysOfTwoSquares 4 RX2 (some .int) 0 fr) (x0 : Int32) (x1 : Int32) (x2 : Int32) (x3 : Int32) (s : Mem) (q : (Int32 × Int32 × Int32 × Mem) ⊕ (Int32 × Mem)) (h : st_X2_waysOfTwoSquares_7 x0 x1 x2 x3 s = some q) (hi : ∀ y : Int32 × Int32 × Int32 × Mem, q = .inl y → AW Z y.2.2.2 7 [some (.int x0), some (.int y.1), some (.int y.2.1), some (.int y.2.2.1)] []) (he : ∀ b : Int32 × Mem, q = .inr b → AW Z b.2 54 [none, some (.int b.1), none, none] []) : AW Z s 7 [some (.int x0), some (.int x1), some (.int x2), some (.int x3)] [] := by
  unfold st_X2_waysOfTwoSquares_7 at h
  refine aw_iload_n X dX2_waysOfTwoSquares_7 rfl ?_
  refine aw_iload_n X dX2_waysOfTwoSquares_8 rfl ?_
  refine aw_icmp_gt (tgt := 54) X dX2_waysOfTwoSquares_9 (by decide) (fun c1 => ?_) (fun c1 => ?_)
  · rw [if_pos c1] at h
    cases h
    refine aw_msk [false, true, false, false] ?_
    exact he _ rfl
  · rw [if_neg c1] at h
    obtain ⟨r4, er4, h⟩ := bnd h
    refine aw_msk [true, true, true, true] ?_
    refine it_ok (P := fun y : Int32 × Mem => AW Z y.2 12 [some (.int x0), some (.int x1), some (.int y.1), some (.int x3)] []) (Q := fun b : Int32 × Mem => AW Z b.2 34 [some (.int x0), some (.int x1), some (.int b.1), some (.int x3)] []) (fun y q hq hi he => so_X2_waysOfTwoSquares_12 hfr Z X x0 x1 x3 y.1 y.2 q hq hi he) FUEL _ _ er4 ?_
    refine aw_msk [true, true, true, true] ?_
    exact jo_X2_waysOfTwoSquares_34 hfr Z X _ _ _ _ _ _ h hi he
set_option maxRecDepth 100000 in
set_option maxHeartbeats 4000000 in
theorem w_X2_waysOfTwoSquares {fr : Nat} (hfr : 0 ≤ fr) (Z : AZ) (X : AX Z cX2_waysOfTwoSquares 4 RX2 (some .int) 0 fr) (x0 : Int32) (s : Mem) (r : Int32 × Mem) (hz : zres Z = (some (.int r.1), r.2)) (h : f_X2_waysOfTwoSquares x0 s = some r) : AW Z s 0 [some (.int x0), none, none, none] [] := by
  unfold f_X2_waysOfTwoSquares at h
  refine aw_iconst (v := 0) X dX2_waysOfTwoSquares_0 (by decide) ?_
  refine aw_istore_n (L' := [some (.int x0), some (.int 0), none, none]) X dX2_waysOfTwoSquares_1 (by decide) rfl ?_
  refine aw_bipush (v := 100) X dX2_waysOfTwoSquares_2 (by decide) ?_
  refine aw_istore_n (L' := [some (.int x0), some (.int 0), some (.int 100), none]) X dX2_waysOfTwoSquares_4 (by decide) rfl ?_
  refine aw_iconst (v := 0) X dX2_waysOfTwoSquares_5 (by decide) ?_
  refine aw_istore_n (L' := [some (.int x0), some (.int 0), some (.int 100), some (.int 0)]) X dX2_waysOfTwoSquares_6 (by decide) rfl ?_
  obtain ⟨r6, er6, h⟩ := bnd h
  refine aw_msk [true, true, true, true] ?_
  refine it_ok (P := fun y : Int32 × Int32 × Int32 × Mem => AW Z y.2.2.2 7 [some (.int x0), some (.int y.1), some (.int y.2.1), some (.int y.2.2.1)] []) (Q := fun b : Int32 × Mem => AW Z b.2 54 [none, some (.int b.1), none, none] []) (fun y q hq hi he => so_X2_waysOfTwoSquares_7 hfr Z X x0 y.1 y.2.1 y.2.2.1 y.2.2.2 q hq hi he) FUEL _ _ er6 ?_
  refine aw_iload_n X dX2_waysOfTwoSquares_54 rfl ?_
  cases h
  exact aw_iret X dX2_waysOfTwoSquares_55 rfl hz.symm
set_option maxRecDepth 100000 in
set_option maxHeartbeats 4000000 in
theorem ok_X2_waysOfTwoSquares {x0 : Int32} {s : Mem} {r : Int32 × Mem} (h : f_X2_waysOfTwoSquares x0 s = some r) (l : Launch) (D : va_G) (ρ : Nat → Nat) (cA : ClassId × ClassId × ClassId) (τ : AT) : AM l D ρ cA 0 τ yX2_waysOfTwoSquares cX2_waysOfTwoSquares 4 (some .int) 0 [.int x0] (some (.int r.1)) s r.2 := by
  refine AM_of (L := [some (.int x0), none, none, none]) (by decide) (by simp [Value.category]) (Nat.le_of_ble_eq_true rfl) (fun j v q => ?_) (fun Z X hρ hz hτ => ?_)
  · exact aL_ok (n := 3) [.int x0] j v q
  · subst hρ
    subst hτ
    exact w_X2_waysOfTwoSquares (Nat.le_refl _) Z X x0 s r hz h

theorem dX2_fewestSquares_0 : decode cX2_fewestSquares 0 = .ok (.iload_n 0, 1) := by decide +kernel
theorem dX2_fewestSquares_1 : decode cX2_fewestSquares 1 = .ok (.invokestatic 39, 3) := by decide +kernel
theorem dX2_fewestSquares_4 : decode cX2_fewestSquares 4 = .ok (.ifCond .eq 5, 3) := by decide +kernel
theorem dX2_fewestSquares_7 : decode cX2_fewestSquares 7 = .ok (.iconst 1, 1) := by decide +kernel
theorem dX2_fewestSquares_8 : decode cX2_fewestSquares 8 = .ok (.ireturn, 1) := by decide +kernel
theorem dX2_fewestSquares_9 : decode cX2_fewestSquares 9 = .ok (.iload_n 0, 1) := by decide +kernel
theorem dX2_fewestSquares_10 : decode cX2_fewestSquares 10 = .ok (.invokestatic 43, 3) := by decide +kernel
theorem dX2_fewestSquares_13 : decode cX2_fewestSquares 13 = .ok (.ifCond .le 5, 3) := by decide +kernel
theorem dX2_fewestSquares_16 : decode cX2_fewestSquares 16 = .ok (.iconst 2, 1) := by decide +kernel
theorem dX2_fewestSquares_17 : decode cX2_fewestSquares 17 = .ok (.ireturn, 1) := by decide +kernel
theorem dX2_fewestSquares_18 : decode cX2_fewestSquares 18 = .ok (.iload_n 0, 1) := by decide +kernel
theorem dX2_fewestSquares_19 : decode cX2_fewestSquares 19 = .ok (.istore_n 1, 1) := by decide +kernel
theorem dX2_fewestSquares_20 : decode cX2_fewestSquares 20 = .ok (.iconst 0, 1) := by decide +kernel
theorem dX2_fewestSquares_21 : decode cX2_fewestSquares 21 = .ok (.istore_n 2, 1) := by decide +kernel
theorem dX2_fewestSquares_22 : decode cX2_fewestSquares 22 = .ok (.iload_n 2, 1) := by decide +kernel
theorem dX2_fewestSquares_23 : decode cX2_fewestSquares 23 = .ok (.bipush 16, 2) := by decide +kernel
theorem dX2_fewestSquares_25 : decode cX2_fewestSquares 25 = .ok (.if_icmp .ge 19, 3) := by decide +kernel
theorem dX2_fewestSquares_28 : decode cX2_fewestSquares 28 = .ok (.iload_n 1, 1) := by decide +kernel
theorem dX2_fewestSquares_29 : decode cX2_fewestSquares 29 = .ok (.iconst 4, 1) := by decide +kernel
theorem dX2_fewestSquares_30 : decode cX2_fewestSquares 30 = .ok (.irem, 1) := by decide +kernel
theorem dX2_fewestSquares_31 : decode cX2_fewestSquares 31 = .ok (.ifCond .ne 13, 3) := by decide +kernel
theorem dX2_fewestSquares_34 : decode cX2_fewestSquares 34 = .ok (.iload_n 1, 1) := by decide +kernel
theorem dX2_fewestSquares_35 : decode cX2_fewestSquares 35 = .ok (.iconst 4, 1) := by decide +kernel
theorem dX2_fewestSquares_36 : decode cX2_fewestSquares 36 = .ok (.idiv, 1) := by decide +kernel
theorem dX2_fewestSquares_37 : decode cX2_fewestSquares 37 = .ok (.istore_n 1, 1) := by decide +kernel
theorem dX2_fewestSquares_38 : decode cX2_fewestSquares 38 = .ok (.iinc 2 1, 3) := by decide +kernel
theorem dX2_fewestSquares_41 : decode cX2_fewestSquares 41 = .ok (.goto (-19), 3) := by decide +kernel
theorem dX2_fewestSquares_44 : decode cX2_fewestSquares 44 = .ok (.iload_n 1, 1) := by decide +kernel
theorem dX2_fewestSquares_45 : decode cX2_fewestSquares 45 = .ok (.bipush 8, 2) := by decide +kernel
theorem dX2_fewestSquares_47 : decode cX2_fewestSquares 47 = .ok (.irem, 1) := by decide +kernel
theorem dX2_fewestSquares_48 : decode cX2_fewestSquares 48 = .ok (.bipush 7, 2) := by decide +kernel
theorem dX2_fewestSquares_50 : decode cX2_fewestSquares 50 = .ok (.if_icmp .ne 7, 3) := by decide +kernel
theorem dX2_fewestSquares_53 : decode cX2_fewestSquares 53 = .ok (.iconst 4, 1) := by decide +kernel
theorem dX2_fewestSquares_54 : decode cX2_fewestSquares 54 = .ok (.goto 4, 3) := by decide +kernel
theorem dX2_fewestSquares_57 : decode cX2_fewestSquares 57 = .ok (.iconst 3, 1) := by decide +kernel
theorem dX2_fewestSquares_58 : decode cX2_fewestSquares 58 = .ok (.ireturn, 1) := by decide +kernel
set_option maxRecDepth 100000 in
set_option maxHeartbeats 4000000 in
theorem so_X2_fewestSquares_22 {fr : Nat} (hfr : 1 ≤ fr) (Z : AZ) (X : AX Z cX2_fewestSquares 3 RX2 (some .int) 0 fr) (x1 : Int32) (x2 : Int32) (s : Mem) (q : (Int32 × Int32 × Mem) ⊕ (Int32 × Mem)) (h : st_X2_fewestSquares_22 x1 x2 s = some q) (hi : ∀ y : Int32 × Int32 × Mem, q = .inl y → AW Z y.2.2 22 [none, some (.int y.1), some (.int y.2.1)] []) (he : ∀ b : Int32 × Mem, q = .inr b → AW Z b.2 44 [none, some (.int b.1), none] []) : AW Z s 22 [none, some (.int x1), some (.int x2)] [] := by
  unfold st_X2_fewestSquares_22 at h
  refine aw_iload_n X dX2_fewestSquares_22 rfl ?_
  refine aw_bipush (v := 16) X dX2_fewestSquares_23 (by decide) ?_
  refine aw_icmp_ge (tgt := 44) X dX2_fewestSquares_25 (by decide) (fun c5 => ?_) (fun c5 => ?_)
  · rw [if_pos c5] at h
    cases h
    refine aw_msk [false, true, false] ?_
    exact he _ rfl
  · rw [if_neg c5] at h
    refine aw_iload_n X dX2_fewestSquares_28 rfl ?_
    refine aw_iconst (v := 4) X dX2_fewestSquares_29 (by decide) ?_
    refine aw_irem X dX2_fewestSquares_30 (by decide) ?_
    refine aw_if_ne (tgt := 44) X dX2_fewestSquares_31 (by decide) (fun c6 => ?_) (fun c6 => ?_)
    · rw [if_neg c6] at h
      cases h
      refine aw_msk [false, true, false] ?_
      exact he _ rfl
    · rw [if_pos c6] at h
      refine aw_iload_n X dX2_fewestSquares_34 rfl ?_
      refine aw_iconst (v := 4) X dX2_fewestSquares_35 (by decide) ?_
      refine aw_idiv X dX2_fewestSquares_36 (by decide) ?_
      refine aw_istore_n (L' := [none, some (.int (x1 / 4)), some (.int x2)]) X dX2_fewestSquares_37 (by decide) rfl ?_
      refine aw_iinc (v := (x2 + 1)) (L' := [none, some (.int (x1 / 4)), some (.int (x2 + 1))]) X dX2_fewestSquares_38 rfl rfl (by decide) rfl ?_
      refine aw_goto (tgt := 22) X dX2_fewestSquares_41 (by decide) ?_
      cases h
      refine aw_msk [false, true, true] ?_
      exact hi _ rfl
set_option maxRecDepth 100000 in
set_option maxHeartbeats 4000000 in
theorem jo_X2_fewestSquares_44 {fr : Nat} (hfr : 1 ≤ fr) (Z : AZ) (X : AX Z cX2_fewestSquares 3 RX2 (some .int) 0 fr) (x1 : Int32) (s : Mem) (r : Int32 × Mem) (hz : zres Z = (some (.int r.1), r.2)) (h : jn_X2_fewestSquares_44 x1 s = some r) : AW Z s 44 [none, some (.int x1), none] [] := by
  unfold jn_X2_fewestSquares_44 at h
  refine aw_iload_n X dX2_fewestSquares_44 rfl ?_
  refine aw_bipush (v := 8) X dX2_fewestSquares_45 (by decide) ?_
  refine aw_irem X dX2_fewestSquares_47 (by decide) ?_
  refine aw_bipush (v := 7) X dX2_fewestSquares_48 (by decide) ?_
  refine aw_icmp_ne (tgt := 57) X dX2_fewestSquares_50 (by decide) (fun c8 => ?_) (fun c8 => ?_)
  · rw [if_neg c8] at h
    refine aw_iconst (v := 3) X dX2_fewestSquares_57 (by decide) ?_
    cases h
    exact aw_iret X dX2_fewestSquares_58 rfl hz.symm
  · rw [if_pos c8] at h
    refine aw_iconst (v := 4) X dX2_fewestSquares_53 (by decide) ?_
    refine aw_goto (tgt := 58) X dX2_fewestSquares_54 (by decide) ?_
    cases h
    exact aw_iret X dX2_fewestSquares_58 rfl hz.symm
set_option maxRecDepth 100000 in
set_option maxHeartbeats 4000000 in
theorem w_X2_fewestSquares {fr : Nat} (hfr : 1 ≤ fr) (Z : AZ) (X : AX Z cX2_fewestSquares 3 RX2 (some .int) 0 fr) (x0 : Int32) (s : Mem) (r : Int32 × Mem) (hz : zres Z = (some (.int r.1), r.2)) (h : f_X2_fewestSquares x0 s = some r) : AW Z s 0 [some (.int x0), none, none] [] := by
  unfold f_X2_fewestSquares at h
  refine aw_iload_n X dX2_fewestSquares_0 rfl ?_
  obtain ⟨r1, er1, h⟩ := bnd h
  refine aw_callS X dX2_fewestSquares_1 cv_RX2_39 (ok_X2_isSquare er1 _ _ _ _ _) (Nat.le_trans (by decide) hfr) (by decide) rfl rfl (Nat.le_of_ble_eq_true rfl) ?_
  refine aw_if_eq (tgt := 9) X dX2_fewestSquares_4 (by decide) (fun c2 => ?_) (fun c2 => ?_)
  · rw [if_pos c2] at h
    refine aw_iload_n X dX2_fewestSquares_9 rfl ?_
    obtain ⟨r3, er3, h⟩ := bnd h
    refine aw_callS X dX2_fewestSquares_10 cv_RX2_43 (ok_X2_waysOfTwoSquares er3 _ _ _ _ _) (Nat.le_trans (by decide) hfr) (by decide) rfl rfl (Nat.le_of_ble_eq_true rfl) ?_
    refine aw_if_le (tgt := 18) X dX2_fewestSquares_13 (by decide) (fun c4 => ?_) (fun c4 => ?_)
    · rw [if_pos c4] at h
      refine aw_iload_n X dX2_fewestSquares_18 rfl ?_
      refine aw_istore_n (L' := [some (.int x0), some (.int x0), none]) X dX2_fewestSquares_19 (by decide) rfl ?_
      refine aw_iconst (v := 0) X dX2_fewestSquares_20 (by decide) ?_
      refine aw_istore_n (L' := [some (.int x0), some (.int x0), some (.int 0)]) X dX2_fewestSquares_21 (by decide) rfl ?_
      obtain ⟨r7, er7, h⟩ := bnd h
      refine aw_msk [false, true, true] ?_
      refine it_ok (P := fun y : Int32 × Int32 × Mem => AW Z y.2.2 22 [none, some (.int y.1), some (.int y.2.1)] []) (Q := fun b : Int32 × Mem => AW Z b.2 44 [none, some (.int b.1), none] []) (fun y q hq hi he => so_X2_fewestSquares_22 hfr Z X y.1 y.2.1 y.2.2 q hq hi he) FUEL _ _ er7 ?_
      refine aw_msk [false, true, false] ?_
      exact jo_X2_fewestSquares_44 hfr Z X _ _ _ hz h
    · rw [if_neg c4] at h
      refine aw_iconst (v := 2) X dX2_fewestSquares_16 (by decide) ?_
      cases h
      exact aw_iret X dX2_fewestSquares_17 rfl hz.symm
  · rw [if_neg c2] at h
    refine aw_iconst (v := 1) X dX2_fewestSquares_7 (by decide) ?_
    cases h
    exact aw_iret X dX2_fewestSquares_8 rfl hz.symm
set_option maxRecDepth 100000 in
set_option maxHeartbeats 4000000 in
theorem ok_X2_fewestSquares {x0 : Int32} {s : Mem} {r : Int32 × Mem} (h : f_X2_fewestSquares x0 s = some r) (l : Launch) (D : va_G) (ρ : Nat → Nat) (cA : ClassId × ClassId × ClassId) (τ : AT) : AM l D ρ cA 0 τ yX2_fewestSquares cX2_fewestSquares 3 (some .int) 1 [.int x0] (some (.int r.1)) s r.2 := by
  refine AM_of (L := [some (.int x0), none, none]) (by decide) (by simp [Value.category]) (Nat.le_of_ble_eq_true rfl) (fun j v q => ?_) (fun Z X hρ hz hτ => ?_)
  · exact aL_ok (n := 2) [.int x0] j v q
  · subst hρ
    subst hτ
    exact w_X2_fewestSquares (Nat.le_refl _) Z X x0 s r hz h

theorem dX3_copyFrom_0 : decode cX3_copyFrom 0 = .ok (.aload_n 0, 1) := by decide +kernel
theorem dX3_copyFrom_1 : decode cX3_copyFrom 1 = .ok (.aload_n 1, 1) := by decide +kernel
theorem dX3_copyFrom_2 : decode cX3_copyFrom 2 = .ok (.getfield 9, 3) := by decide +kernel
theorem dX3_copyFrom_5 : decode cX3_copyFrom 5 = .ok (.putfield 9, 3) := by decide +kernel
theorem dX3_copyFrom_8 : decode cX3_copyFrom 8 = .ok (.aload_n 1, 1) := by decide +kernel
theorem dX3_copyFrom_9 : decode cX3_copyFrom 9 = .ok (.getfield 15, 3) := by decide +kernel
theorem dX3_copyFrom_12 : decode cX3_copyFrom 12 = .ok (.iconst 0, 1) := by decide +kernel
theorem dX3_copyFrom_13 : decode cX3_copyFrom 13 = .ok (.aload_n 0, 1) := by decide +kernel
theorem dX3_copyFrom_14 : decode cX3_copyFrom 14 = .ok (.getfield 15, 3) := by decide +kernel
theorem dX3_copyFrom_17 : decode cX3_copyFrom 17 = .ok (.iconst 0, 1) := by decide +kernel
theorem dX3_copyFrom_18 : decode cX3_copyFrom 18 = .ok (.bipush 16, 2) := by decide +kernel
theorem dX3_copyFrom_20 : decode cX3_copyFrom 20 = .ok (.invokestatic 28, 3) := by decide +kernel
theorem dX3_copyFrom_23 : decode cX3_copyFrom 23 = .ok (.aload_n 1, 1) := by decide +kernel
theorem dX3_copyFrom_24 : decode cX3_copyFrom 24 = .ok (.getfield 19, 3) := by decide +kernel
theorem dX3_copyFrom_27 : decode cX3_copyFrom 27 = .ok (.iconst 0, 1) := by decide +kernel
theorem dX3_copyFrom_28 : decode cX3_copyFrom 28 = .ok (.aload_n 0, 1) := by decide +kernel
theorem dX3_copyFrom_29 : decode cX3_copyFrom 29 = .ok (.getfield 19, 3) := by decide +kernel
theorem dX3_copyFrom_32 : decode cX3_copyFrom 32 = .ok (.iconst 0, 1) := by decide +kernel
theorem dX3_copyFrom_33 : decode cX3_copyFrom 33 = .ok (.bipush 16, 2) := by decide +kernel
theorem dX3_copyFrom_35 : decode cX3_copyFrom 35 = .ok (.invokestatic 28, 3) := by decide +kernel
theorem dX3_copyFrom_38 : decode cX3_copyFrom 38 = .ok (.aload_n 1, 1) := by decide +kernel
theorem dX3_copyFrom_39 : decode cX3_copyFrom 39 = .ok (.getfield 22, 3) := by decide +kernel
theorem dX3_copyFrom_42 : decode cX3_copyFrom 42 = .ok (.iconst 0, 1) := by decide +kernel
theorem dX3_copyFrom_43 : decode cX3_copyFrom 43 = .ok (.aload_n 0, 1) := by decide +kernel
theorem dX3_copyFrom_44 : decode cX3_copyFrom 44 = .ok (.getfield 22, 3) := by decide +kernel
theorem dX3_copyFrom_47 : decode cX3_copyFrom 47 = .ok (.iconst 0, 1) := by decide +kernel
theorem dX3_copyFrom_48 : decode cX3_copyFrom 48 = .ok (.bipush 96, 2) := by decide +kernel
theorem dX3_copyFrom_50 : decode cX3_copyFrom 50 = .ok (.invokestatic 28, 3) := by decide +kernel
theorem dX3_copyFrom_53 : decode cX3_copyFrom 53 = .ok (.return_, 1) := by decide +kernel
set_option maxRecDepth 100000 in
set_option maxHeartbeats 4000000 in
theorem w_X3_copyFrom {fr : Nat} (hfr : 1 ≤ fr) (Z : AZ) (X : AX Z cX3_copyFrom 2 RX3 none 0 fr) (a0 : Nat) (a1 : Nat) (h0 : IO 0 a0 2) (h1 : IO 0 a1 2) (s : Mem) (r : Mem) (hz : zres Z = (none, r)) (h : f_X3_copyFrom a0 a1 s = some r) : AW Z s 0 [some (.ref (zr Z a0)), some (.ref (zr Z a1))] [] := by
  unfold f_X3_copyFrom at h
  refine aw_aload_n X dX3_copyFrom_0 rfl ?_
  refine aw_aload_n X dX3_copyFrom_1 rfl ?_
  refine aw_geti X dX3_copyFrom_2 fl_RX3_9 h1 (gt_RX3_0 h1) ?_
  refine aw_put X dX3_copyFrom_5 fp_RX3_9 h0 (gt_RX3_0 h0) rfl rfl ?_
  refine aw_aload_n X dX3_copyFrom_8 rfl ?_
  refine aw_getr X dX3_copyFrom_9 fl_RX3_15 h1 (gt_RX3_1 h1) ?_
  refine aw_iconst (v := 0) X dX3_copyFrom_12 (by decide) ?_
  refine aw_aload_n X dX3_copyFrom_13 rfl ?_
  refine aw_getr X dX3_copyFrom_14 fl_RX3_15 h0 (gt_RX3_1 h0) ?_
  refine aw_iconst (v := 0) X dX3_copyFrom_17 (by decide) ?_
  refine aw_bipush (v := 16) X dX3_copyFrom_18 (by decide) ?_
  obtain ⟨s1, es1, h⟩ := bnd h
  refine aw_copy X (Nat.le_trans (by decide) hfr) dX3_copyFrom_20 ac_RX3_28 rfl (it_RX3_1 h1) (it_RX3_1 h0) es1 ?_
  refine aw_aload_n X dX3_copyFrom_23 rfl ?_
  refine aw_getr X dX3_copyFrom_24 fl_RX3_19 h1 (gt_RX3_2 h1) ?_
  refine aw_iconst (v := 0) X dX3_copyFrom_27 (by decide) ?_
  refine aw_aload_n X dX3_copyFrom_28 rfl ?_
  refine aw_getr X dX3_copyFrom_29 fl_RX3_19 h0 (gt_RX3_2 h0) ?_
  refine aw_iconst (v := 0) X dX3_copyFrom_32 (by decide) ?_
  refine aw_bipush (v := 16) X dX3_copyFrom_33 (by decide) ?_
  obtain ⟨s2, es2, h⟩ := bnd h
  refine aw_copy X (Nat.le_trans (by decide) hfr) dX3_copyFrom_35 ac_RX3_28 rfl (it_RX3_2 h1) (it_RX3_2 h0) es2 ?_
  refine aw_aload_n X dX3_copyFrom_38 rfl ?_
  refine aw_getr X dX3_copyFrom_39 fl_RX3_22 h1 (gt_RX3_3 h1) ?_
  refine aw_iconst (v := 0) X dX3_copyFrom_42 (by decide) ?_
  refine aw_aload_n X dX3_copyFrom_43 rfl ?_
  refine aw_getr X dX3_copyFrom_44 fl_RX3_22 h0 (gt_RX3_3 h0) ?_
  refine aw_iconst (v := 0) X dX3_copyFrom_47 (by decide) ?_
  refine aw_bipush (v := 96) X dX3_copyFrom_48 (by decide) ?_
  obtain ⟨s3, es3, h⟩ := bnd h
  refine aw_copy X (Nat.le_trans (by decide) hfr) dX3_copyFrom_50 ac_RX3_28 rfl (it_RX3_3 h1) (it_RX3_3 h0) es3 ?_
  cases h
  exact aw_vret X dX3_copyFrom_53 rfl hz.symm
set_option maxRecDepth 100000 in
set_option maxHeartbeats 4000000 in
theorem ok_X3_copyFrom {a0 : Nat} {a1 : Nat} (h0 : IO 0 a0 2) (h1 : IO 0 a1 2) {s : Mem} {r : Mem} (h : f_X3_copyFrom a0 a1 s = some r) (l : Launch) (D : va_G) (ρ : Nat → Nat) (cA : ClassId × ClassId × ClassId) (τ : AT) : AM l D ρ cA 0 τ yX3_copyFrom cX3_copyFrom 2 none 1 [.ref (ρ a0), .ref (ρ a1)] none s r := by
  refine AM_of (L := [some (.ref (ρ a0)), some (.ref (ρ a1))]) (by decide) (by simp [Value.category]) (Nat.le_of_ble_eq_true rfl) (fun j v q => ?_) (fun Z X hρ hz hτ => ?_)
  · exact aL_ok (n := 0) [.ref (ρ a0), .ref (ρ a1)] j v q
  · subst hρ
    subst hτ
    exact w_X3_copyFrom (Nat.le_refl _) Z X a0 a1 h0 h1 s r hz h

theorem dX3_beginLine_0 : decode cX3_beginLine 0 = .ok (.aload_n 0, 1) := by decide +kernel
theorem dX3_beginLine_1 : decode cX3_beginLine 1 = .ok (.getfield 9, 3) := by decide +kernel
theorem dX3_beginLine_4 : decode cX3_beginLine 4 = .ok (.bipush 16, 2) := by decide +kernel
theorem dX3_beginLine_6 : decode cX3_beginLine 6 = .ok (.if_icmp .ge 23, 3) := by decide +kernel
theorem dX3_beginLine_9 : decode cX3_beginLine 9 = .ok (.aload_n 0, 1) := by decide +kernel
theorem dX3_beginLine_10 : decode cX3_beginLine 10 = .ok (.getfield 15, 3) := by decide +kernel
theorem dX3_beginLine_13 : decode cX3_beginLine 13 = .ok (.aload_n 0, 1) := by decide +kernel
theorem dX3_beginLine_14 : decode cX3_beginLine 14 = .ok (.getfield 9, 3) := by decide +kernel
theorem dX3_beginLine_17 : decode cX3_beginLine 17 = .ok (.iload_n 1, 1) := by decide +kernel
theorem dX3_beginLine_18 : decode cX3_beginLine 18 = .ok (.iastore, 1) := by decide +kernel
theorem dX3_beginLine_19 : decode cX3_beginLine 19 = .ok (.aload_n 0, 1) := by decide +kernel
theorem dX3_beginLine_20 : decode cX3_beginLine 20 = .ok (.getfield 19, 3) := by decide +kernel
theorem dX3_beginLine_23 : decode cX3_beginLine 23 = .ok (.aload_n 0, 1) := by decide +kernel
theorem dX3_beginLine_24 : decode cX3_beginLine 24 = .ok (.getfield 9, 3) := by decide +kernel
theorem dX3_beginLine_27 : decode cX3_beginLine 27 = .ok (.iconst 0, 1) := by decide +kernel
theorem dX3_beginLine_28 : decode cX3_beginLine 28 = .ok (.iastore, 1) := by decide +kernel
theorem dX3_beginLine_29 : decode cX3_beginLine 29 = .ok (.return_, 1) := by decide +kernel
set_option maxRecDepth 100000 in
set_option maxHeartbeats 4000000 in
theorem w_X3_beginLine {fr : Nat} (hfr : 0 ≤ fr) (Z : AZ) (X : AX Z cX3_beginLine 2 RX3 none 0 fr) (a0 : Nat) (h0 : IO 0 a0 2) (x1 : Int32) (s : Mem) (r : Mem) (hz : zres Z = (none, r)) (h : f_X3_beginLine a0 x1 s = some r) : AW Z s 0 [some (.ref (zr Z a0)), some (.int x1)] [] := by
  unfold f_X3_beginLine at h
  refine aw_aload_n X dX3_beginLine_0 rfl ?_
  refine aw_geti X dX3_beginLine_1 fl_RX3_9 h0 (gt_RX3_0 h0) ?_
  refine aw_bipush (v := 16) X dX3_beginLine_4 (by decide) ?_
  refine aw_icmp_ge (tgt := 29) X dX3_beginLine_6 (by decide) (fun c1 => ?_) (fun c1 => ?_)
  · rw [if_pos c1] at h
    cases h
    exact aw_vret X dX3_beginLine_29 rfl hz.symm
  · rw [if_neg c1] at h
    refine aw_aload_n X dX3_beginLine_9 rfl ?_
    refine aw_getr X dX3_beginLine_10 fl_RX3_15 h0 (gt_RX3_1 h0) ?_
    refine aw_aload_n X dX3_beginLine_13 rfl ?_
    refine aw_geti X dX3_beginLine_14 fl_RX3_9 h0 (gt_RX3_0 h0) ?_
    refine aw_iload_n X dX3_beginLine_17 rfl ?_
    obtain ⟨s2, es2, h⟩ := bnd h
    refine aw_iast X dX3_beginLine_18 (it_RX3_1 h0) es2 ?_
    refine aw_aload_n X dX3_beginLine_19 rfl ?_
    refine aw_getr X dX3_beginLine_20 fl_RX3_19 h0 (gt_RX3_2 h0) ?_
    refine aw_aload_n X dX3_beginLine_23 rfl ?_
    refine aw_geti X dX3_beginLine_24 fl_RX3_9 h0 (gt_RX3_0 h0) ?_
    refine aw_iconst (v := 0) X dX3_beginLine_27 (by decide) ?_
    obtain ⟨s3, es3, h⟩ := bnd h
    refine aw_iast X dX3_beginLine_28 (it_RX3_2 h0) es3 ?_
    cases h
    exact aw_vret X dX3_beginLine_29 rfl hz.symm
set_option maxRecDepth 100000 in
set_option maxHeartbeats 4000000 in
theorem ok_X3_beginLine {a0 : Nat} (h0 : IO 0 a0 2) {x1 : Int32} {s : Mem} {r : Mem} (h : f_X3_beginLine a0 x1 s = some r) (l : Launch) (D : va_G) (ρ : Nat → Nat) (cA : ClassId × ClassId × ClassId) (τ : AT) : AM l D ρ cA 0 τ yX3_beginLine cX3_beginLine 2 none 0 [.ref (ρ a0), .int x1] none s r := by
  refine AM_of (L := [some (.ref (ρ a0)), some (.int x1)]) (by decide) (by simp [Value.category]) (Nat.le_of_ble_eq_true rfl) (fun j v q => ?_) (fun Z X hρ hz hτ => ?_)
  · exact aL_ok (n := 0) [.ref (ρ a0), .int x1] j v q
  · subst hρ
    subst hτ
    exact w_X3_beginLine (Nat.le_refl _) Z X a0 h0 x1 s r hz h

theorem dX3_addName_0 : decode cX3_addName 0 = .ok (.aload_n 0, 1) := by decide +kernel
theorem dX3_addName_1 : decode cX3_addName 1 = .ok (.getfield 9, 3) := by decide +kernel
theorem dX3_addName_4 : decode cX3_addName 4 = .ok (.bipush 16, 2) := by decide +kernel
theorem dX3_addName_6 : decode cX3_addName 6 = .ok (.if_icmp .ge 53, 3) := by decide +kernel
theorem dX3_addName_9 : decode cX3_addName 9 = .ok (.aload_n 0, 1) := by decide +kernel
theorem dX3_addName_10 : decode cX3_addName 10 = .ok (.getfield 19, 3) := by decide +kernel
theorem dX3_addName_13 : decode cX3_addName 13 = .ok (.aload_n 0, 1) := by decide +kernel
theorem dX3_addName_14 : decode cX3_addName 14 = .ok (.getfield 9, 3) := by decide +kernel
theorem dX3_addName_17 : decode cX3_addName 17 = .ok (.iaload, 1) := by decide +kernel
theorem dX3_addName_18 : decode cX3_addName 18 = .ok (.bipush 6, 2) := by decide +kernel
theorem dX3_addName_20 : decode cX3_addName 20 = .ok (.if_icmp .ge 39, 3) := by decide +kernel
theorem dX3_addName_23 : decode cX3_addName 23 = .ok (.aload_n 0, 1) := by decide +kernel
theorem dX3_addName_24 : decode cX3_addName 24 = .ok (.getfield 22, 3) := by decide +kernel
theorem dX3_addName_27 : decode cX3_addName 27 = .ok (.aload_n 0, 1) := by decide +kernel
theorem dX3_addName_28 : decode cX3_addName 28 = .ok (.getfield 9, 3) := by decide +kernel
theorem dX3_addName_31 : decode cX3_addName 31 = .ok (.bipush 6, 2) := by decide +kernel
theorem dX3_addName_33 : decode cX3_addName 33 = .ok (.imul, 1) := by decide +kernel
theorem dX3_addName_34 : decode cX3_addName 34 = .ok (.aload_n 0, 1) := by decide +kernel
theorem dX3_addName_35 : decode cX3_addName 35 = .ok (.getfield 19, 3) := by decide +kernel
theorem dX3_addName_38 : decode cX3_addName 38 = .ok (.aload_n 0, 1) := by decide +kernel
theorem dX3_addName_39 : decode cX3_addName 39 = .ok (.getfield 9, 3) := by decide +kernel
theorem dX3_addName_42 : decode cX3_addName 42 = .ok (.iaload, 1) := by decide +kernel
theorem dX3_addName_43 : decode cX3_addName 43 = .ok (.iadd, 1) := by decide +kernel
theorem dX3_addName_44 : decode cX3_addName 44 = .ok (.iload_n 1, 1) := by decide +kernel
theorem dX3_addName_45 : decode cX3_addName 45 = .ok (.iastore, 1) := by decide +kernel
theorem dX3_addName_46 : decode cX3_addName 46 = .ok (.aload_n 0, 1) := by decide +kernel
theorem dX3_addName_47 : decode cX3_addName 47 = .ok (.getfield 19, 3) := by decide +kernel
theorem dX3_addName_50 : decode cX3_addName 50 = .ok (.aload_n 0, 1) := by decide +kernel
theorem dX3_addName_51 : decode cX3_addName 51 = .ok (.getfield 9, 3) := by decide +kernel
theorem dX3_addName_54 : decode cX3_addName 54 = .ok (.dup2, 1) := by decide +kernel
theorem dX3_addName_55 : decode cX3_addName 55 = .ok (.iaload, 1) := by decide +kernel
theorem dX3_addName_56 : decode cX3_addName 56 = .ok (.iconst 1, 1) := by decide +kernel
theorem dX3_addName_57 : decode cX3_addName 57 = .ok (.iadd, 1) := by decide +kernel
theorem dX3_addName_58 : decode cX3_addName 58 = .ok (.iastore, 1) := by decide +kernel
theorem dX3_addName_59 : decode cX3_addName 59 = .ok (.return_, 1) := by decide +kernel
set_option maxRecDepth 100000 in
set_option maxHeartbeats 4000000 in
theorem w_X3_addName {fr : Nat} (hfr : 0 ≤ fr) (Z : AZ) (X : AX Z cX3_addName 2 RX3 none 0 fr) (a0 : Nat) (h0 : IO 0 a0 2) (x1 : Int32) (s : Mem) (r : Mem) (hz : zres Z = (none, r)) (h : f_X3_addName a0 x1 s = some r) : AW Z s 0 [some (.ref (zr Z a0)), some (.int x1)] [] := by
  unfold f_X3_addName at h
  refine aw_aload_n X dX3_addName_0 rfl ?_
  refine aw_geti X dX3_addName_1 fl_RX3_9 h0 (gt_RX3_0 h0) ?_
  refine aw_bipush (v := 16) X dX3_addName_4 (by decide) ?_
  refine aw_icmp_ge (tgt := 59) X dX3_addName_6 (by decide) (fun c1 => ?_) (fun c1 => ?_)
  · rw [if_pos c1] at h
    cases h
    exact aw_vret X dX3_addName_59 rfl hz.symm
  · rw [if_neg c1] at h
    refine aw_aload_n X dX3_addName_9 rfl ?_
    refine aw_getr X dX3_addName_10 fl_RX3_19 h0 (gt_RX3_2 h0) ?_
    refine aw_aload_n X dX3_addName_13 rfl ?_
    refine aw_geti X dX3_addName_14 fl_RX3_9 h0 (gt_RX3_0 h0) ?_
    obtain ⟨v2, ev2, h⟩ := bnd h
    refine aw_iald X dX3_addName_17 (it_RX3_2 h0) ev2 ?_
    refine aw_bipush (v := 6) X dX3_addName_18 (by decide) ?_
    refine aw_icmp_ge (tgt := 59) X dX3_addName_20 (by decide) (fun c3 => ?_) (fun c3 => ?_)
    · rw [if_pos c3] at h
      cases h
      exact aw_vret X dX3_addName_59 rfl hz.symm
    · rw [if_neg c3] at h
      refine aw_aload_n X dX3_addName_23 rfl ?_
      refine aw_getr X dX3_addName_24 fl_RX3_22 h0 (gt_RX3_3 h0) ?_
      refine aw_aload_n X dX3_addName_27 rfl ?_
      refine aw_geti X dX3_addName_28 fl_RX3_9 h0 (gt_RX3_0 h0) ?_
      refine aw_bipush (v := 6) X dX3_addName_31 (by decide) ?_
      refine aw_imul X dX3_addName_33 ?_
      refine aw_aload_n X dX3_addName_34 rfl ?_
      refine aw_getr X dX3_addName_35 fl_RX3_19 h0 (gt_RX3_2 h0) ?_
      refine aw_aload_n X dX3_addName_38 rfl ?_
      refine aw_geti X dX3_addName_39 fl_RX3_9 h0 (gt_RX3_0 h0) ?_
      obtain ⟨v4, ev4, h⟩ := bnd h
      refine aw_iald X dX3_addName_42 (it_RX3_2 h0) ev4 ?_
      refine aw_iadd X dX3_addName_43 ?_
      refine aw_iload_n X dX3_addName_44 rfl ?_
      obtain ⟨s5, es5, h⟩ := bnd h
      refine aw_iast X dX3_addName_45 (it_RX3_3 h0) es5 ?_
      refine aw_aload_n X dX3_addName_46 rfl ?_
      refine aw_getr X dX3_addName_47 fl_RX3_19 h0 (gt_RX3_2 h0) ?_
      refine aw_aload_n X dX3_addName_50 rfl ?_
      refine aw_geti X dX3_addName_51 fl_RX3_9 h0 (gt_RX3_0 h0) ?_
      refine aw_dup2 X dX3_addName_54 rfl rfl ?_
      obtain ⟨v6, ev6, h⟩ := bnd h
      refine aw_iald X dX3_addName_55 (it_RX3_2 h0) ev6 ?_
      refine aw_iconst (v := 1) X dX3_addName_56 (by decide) ?_
      refine aw_iadd X dX3_addName_57 ?_
      obtain ⟨s7, es7, h⟩ := bnd h
      refine aw_iast X dX3_addName_58 (it_RX3_2 h0) es7 ?_
      cases h
      exact aw_vret X dX3_addName_59 rfl hz.symm
set_option maxRecDepth 100000 in
set_option maxHeartbeats 4000000 in
theorem ok_X3_addName {a0 : Nat} (h0 : IO 0 a0 2) {x1 : Int32} {s : Mem} {r : Mem} (h : f_X3_addName a0 x1 s = some r) (l : Launch) (D : va_G) (ρ : Nat → Nat) (cA : ClassId × ClassId × ClassId) (τ : AT) : AM l D ρ cA 0 τ yX3_addName cX3_addName 2 none 0 [.ref (ρ a0), .int x1] none s r := by
  refine AM_of (L := [some (.ref (ρ a0)), some (.int x1)]) (by decide) (by simp [Value.category]) (Nat.le_of_ble_eq_true rfl) (fun j v q => ?_) (fun Z X hρ hz hτ => ?_)
  · exact aL_ok (n := 0) [.ref (ρ a0), .int x1] j v q
  · subst hρ
    subst hτ
    exact w_X3_addName (Nat.le_refl _) Z X a0 h0 x1 s r hz h

theorem dX3_endLine_0 : decode cX3_endLine 0 = .ok (.aload_n 0, 1) := by decide +kernel
theorem dX3_endLine_1 : decode cX3_endLine 1 = .ok (.getfield 9, 3) := by decide +kernel
theorem dX3_endLine_4 : decode cX3_endLine 4 = .ok (.bipush 16, 2) := by decide +kernel
theorem dX3_endLine_6 : decode cX3_endLine 6 = .ok (.if_icmp .ge 13, 3) := by decide +kernel
theorem dX3_endLine_9 : decode cX3_endLine 9 = .ok (.aload_n 0, 1) := by decide +kernel
theorem dX3_endLine_10 : decode cX3_endLine 10 = .ok (.dup, 1) := by decide +kernel
theorem dX3_endLine_11 : decode cX3_endLine 11 = .ok (.getfield 9, 3) := by decide +kernel
theorem dX3_endLine_14 : decode cX3_endLine 14 = .ok (.iconst 1, 1) := by decide +kernel
theorem dX3_endLine_15 : decode cX3_endLine 15 = .ok (.iadd, 1) := by decide +kernel
theorem dX3_endLine_16 : decode cX3_endLine 16 = .ok (.putfield 9, 3) := by decide +kernel
theorem dX3_endLine_19 : decode cX3_endLine 19 = .ok (.return_, 1) := by decide +kernel
set_option maxRecDepth 100000 in
set_option maxHeartbeats 4000000 in
theorem w_X3_endLine {fr : Nat} (hfr : 0 ≤ fr) (Z : AZ) (X : AX Z cX3_endLine 1 RX3 none 0 fr) (a0 : Nat) (h0 : IO 0 a0 2) (s : Mem) (r : Mem) (hz : zres Z = (none, r)) (h : f_X3_endLine a0 s = some r) : AW Z s 0 [some (.ref (zr Z a0))] [] := by
  unfold f_X3_endLine at h
  refine aw_aload_n X dX3_endLine_0 rfl ?_
  refine aw_geti X dX3_endLine_1 fl_RX3_9 h0 (gt_RX3_0 h0) ?_
  refine aw_bipush (v := 16) X dX3_endLine_4 (by decide) ?_
  refine aw_icmp_ge (tgt := 19) X dX3_endLine_6 (by decide) (fun c1 => ?_) (fun c1 => ?_)
  · rw [if_pos c1] at h
    cases h
    exact aw_vret X dX3_endLine_19 rfl hz.symm
  · rw [if_neg c1] at h
    refine aw_aload_n X dX3_endLine_9 rfl ?_
    refine aw_dup X dX3_endLine_10 rfl ?_
    refine aw_geti X dX3_endLine_11 fl_RX3_9 h0 (gt_RX3_0 h0) ?_
    refine aw_iconst (v := 1) X dX3_endLine_14 (by decide) ?_
    refine aw_iadd X dX3_endLine_15 ?_
    refine aw_put X dX3_endLine_16 fp_RX3_9 h0 (gt_RX3_0 h0) rfl rfl ?_
    cases h
    exact aw_vret X dX3_endLine_19 rfl hz.symm
set_option maxRecDepth 100000 in
set_option maxHeartbeats 4000000 in
theorem ok_X3_endLine {a0 : Nat} (h0 : IO 0 a0 2) {s : Mem} {r : Mem} (h : f_X3_endLine a0 s = some r) (l : Launch) (D : va_G) (ρ : Nat → Nat) (cA : ClassId × ClassId × ClassId) (τ : AT) : AM l D ρ cA 0 τ yX3_endLine cX3_endLine 1 none 0 [.ref (ρ a0)] none s r := by
  refine AM_of (L := [some (.ref (ρ a0))]) (by decide) (by simp [Value.category]) (Nat.le_of_ble_eq_true rfl) (fun j v q => ?_) (fun Z X hρ hz hτ => ?_)
  · exact aL_ok (n := 0) [.ref (ρ a0)] j v q
  · subst hρ
    subst hτ
    exact w_X3_endLine (Nat.le_refl _) Z X a0 h0 s r hz h

theorem dX3_lastLineOf_0 : decode cX3_lastLineOf 0 = .ok (.aload_n 0, 1) := by decide +kernel
theorem dX3_lastLineOf_1 : decode cX3_lastLineOf 1 = .ok (.getfield 9, 3) := by decide +kernel
theorem dX3_lastLineOf_4 : decode cX3_lastLineOf 4 = .ok (.iconst 1, 1) := by decide +kernel
theorem dX3_lastLineOf_5 : decode cX3_lastLineOf 5 = .ok (.isub, 1) := by decide +kernel
theorem dX3_lastLineOf_6 : decode cX3_lastLineOf 6 = .ok (.istore_n 2, 1) := by decide +kernel
theorem dX3_lastLineOf_7 : decode cX3_lastLineOf 7 = .ok (.iload_n 2, 1) := by decide +kernel
theorem dX3_lastLineOf_8 : decode cX3_lastLineOf 8 = .ok (.ifCond .lt 21, 3) := by decide +kernel
theorem dX3_lastLineOf_11 : decode cX3_lastLineOf 11 = .ok (.aload_n 0, 1) := by decide +kernel
theorem dX3_lastLineOf_12 : decode cX3_lastLineOf 12 = .ok (.getfield 15, 3) := by decide +kernel
theorem dX3_lastLineOf_15 : decode cX3_lastLineOf 15 = .ok (.iload_n 2, 1) := by decide +kernel
theorem dX3_lastLineOf_16 : decode cX3_lastLineOf 16 = .ok (.iaload, 1) := by decide +kernel
theorem dX3_lastLineOf_17 : decode cX3_lastLineOf 17 = .ok (.iload_n 1, 1) := by decide +kernel
theorem dX3_lastLineOf_18 : decode cX3_lastLineOf 18 = .ok (.if_icmp .ne 5, 3) := by decide +kernel
theorem dX3_lastLineOf_21 : decode cX3_lastLineOf 21 = .ok (.iload_n 2, 1) := by decide +kernel
theorem dX3_lastLineOf_22 : decode cX3_lastLineOf 22 = .ok (.ireturn, 1) := by decide +kernel
theorem dX3_lastLineOf_23 : decode cX3_lastLineOf 23 = .ok (.iinc 2 (-1), 3) := by decide +kernel
theorem dX3_lastLineOf_26 : decode cX3_lastLineOf 26 = .ok (.goto (-19), 3) := by decide +kernel
theorem dX3_lastLineOf_29 : decode cX3_lastLineOf 29 = .ok (.iconst (-1), 1) := by decide +kernel
theorem dX3_lastLineOf_30 : decode cX3_lastLineOf 30 = .ok (.ireturn, 1) := by decide +kernel
set_option maxRecDepth 100000 in
set_option maxHeartbeats 4000000 in
theorem so_X3_lastLineOf_7 {fr : Nat} (hfr : 0 ≤ fr) (Z : AZ) (X : AX Z cX3_lastLineOf 3 RX3 (some .int) 0 fr) (a0 : Nat) (h0 : IO 0 a0 2) (x1 : Int32) (x2 : Int32) (s : Mem) (q : (Int32 × Mem) ⊕ (Nat × Int32 × Mem)) (h : st_X3_lastLineOf_7 a0 x1 x2 s = some q) (hi : ∀ y : Int32 × Mem, q = .inl y → AW Z y.2 7 [some (.ref (zr Z a0)), some (.int x1), some (.int y.1)] []) (he : ∀ b : Nat × Int32 × Mem, q = .inr b → (b.1 = 0 → AW Z b.2.2 21 [none, none, some (.int b.2.1)] []) ∧ (b.1 = 1 → AW Z b.2.2 29 [none, none, none] [])) : AW Z s 7 [some (.ref (zr Z a0)), some (.int x1), some (.int x2)] [] := by
  unfold st_X3_lastLineOf_7 at h
  refine aw_iload_n X dX3_lastLineOf_7 rfl ?_
  refine aw_if_lt (tgt := 29) X dX3_lastLineOf_8 (by decide) (fun c1 => ?_) (fun c1 => ?_)
  · rw [if_pos c1] at h
    cases h
    refine aw_msk [false, false, false] ?_
    exact (he _ rfl).2 rfl
  · rw [if_neg c1] at h
    refine aw_aload_n X dX3_lastLineOf_11 rfl ?_
    refine aw_getr X dX3_lastLineOf_12 fl_RX3_15 h0 (gt_RX3_1 h0) ?_
    refine aw_iload_n X dX3_lastLineOf_15 rfl ?_
    obtain ⟨v2, ev2, h⟩ := bnd h
    refine aw_iald X dX3_lastLineOf_16 (it_RX3_1 h0) ev2 ?_
    refine aw_iload_n X dX3_lastLineOf_17 rfl ?_
    refine aw_icmp_ne (tgt := 23) X dX3_lastLineOf_18 (by decide) (fun c3 => ?_) (fun c3 => ?_)
    · rw [if_neg c3] at h
      refine aw_iinc (v := (x2 + (-1))) (L' := [some (.ref (zr Z a0)), some (.int x1), some (.int (x2 + (-1)))]) X dX3_lastLineOf_23 rfl rfl (by decide) rfl ?_
      refine aw_goto (tgt := 7) X dX3_lastLineOf_26 (by decide) ?_
      cases h
      refine aw_msk [true, true, true] ?_
      exact hi _ rfl
    · rw [if_pos c3] at h
      cases h
      refine aw_msk [false, false, true] ?_
      exact (he _ rfl).1 rfl
set_option maxRecDepth 100000 in
set_option maxHeartbeats 4000000 in
theorem w_X3_lastLineOf {fr : Nat} (hfr : 0 ≤ fr) (Z : AZ) (X : AX Z cX3_lastLineOf 3 RX3 (some .int) 0 fr) (a0 : Nat) (h0 : IO 0 a0 2) (x1 : Int32) (s : Mem) (r : Int32 × Mem) (hz : zres Z = (some (.int r.1), r.2)) (h : f_X3_lastLineOf a0 x1 s = some r) : AW Z s 0 [some (.ref (zr Z a0)), some (.int x1), none] [] := by
  unfold f_X3_lastLineOf at h
  refine aw_aload_n X dX3_lastLineOf_0 rfl ?_
  refine aw_geti X dX3_lastLineOf_1 fl_RX3_9 h0 (gt_RX3_0 h0) ?_
  refine aw_iconst (v := 1) X dX3_lastLineOf_4 (by decide) ?_
  refine aw_isub X dX3_lastLineOf_5 ?_
  refine aw_istore_n (L' := [some (.ref (zr Z a0)), some (.int x1), some (.int ((s a0 0) - 1))]) X dX3_lastLineOf_6 (by decide) rfl ?_
  obtain ⟨r4, er4, h⟩ := bnd h
  refine aw_msk [true, true, true] ?_
  refine it_ok (P := fun y : Int32 × Mem => AW Z y.2 7 [some (.ref (zr Z a0)), some (.int x1), some (.int y.1)] []) (Q := fun b : Nat × Int32 × Mem => (b.1 = 0 → AW Z b.2.2 21 [none, none, some (.int b.2.1)] []) ∧ (b.1 = 1 → AW Z b.2.2 29 [none, none, none] [])) (fun y q hq hi he => so_X3_lastLineOf_7 hfr Z X a0 h0 x1 y.1 y.2 q hq hi he) FUEL _ _ er4 ?_
  refine ⟨fun c0 => ?_, fun c1 => ?_⟩
  · rw [if_pos c0] at h
    refine aw_iload_n X dX3_lastLineOf_21 rfl ?_
    cases h
    exact aw_iret X dX3_lastLineOf_22 rfl hz.symm
  · rw [if_neg (by rw [c1]; decide)] at h
    refine aw_iconst (v := (-1)) X dX3_lastLineOf_29 (by decide) ?_
    cases h
    exact aw_iret X dX3_lastLineOf_30 rfl hz.symm
set_option maxRecDepth 100000 in
set_option maxHeartbeats 4000000 in
theorem ok_X3_lastLineOf {a0 : Nat} (h0 : IO 0 a0 2) {x1 : Int32} {s : Mem} {r : Int32 × Mem} (h : f_X3_lastLineOf a0 x1 s = some r) (l : Launch) (D : va_G) (ρ : Nat → Nat) (cA : ClassId × ClassId × ClassId) (τ : AT) : AM l D ρ cA 0 τ yX3_lastLineOf cX3_lastLineOf 3 (some .int) 0 [.ref (ρ a0), .int x1] (some (.int r.1)) s r.2 := by
  refine AM_of (L := [some (.ref (ρ a0)), some (.int x1), none]) (by decide) (by simp [Value.category]) (Nat.le_of_ble_eq_true rfl) (fun j v q => ?_) (fun Z X hρ hz hτ => ?_)
  · exact aL_ok (n := 1) [.ref (ρ a0), .int x1] j v q
  · subst hρ
    subst hτ
    exact w_X3_lastLineOf (Nat.le_refl _) Z X a0 h0 x1 s r hz h

theorem dX3_fill_0 : decode cX3_fill 0 = .ok (.iconst 0, 1) := by decide +kernel
theorem dX3_fill_1 : decode cX3_fill 1 = .ok (.istore_n 3, 1) := by decide +kernel
theorem dX3_fill_2 : decode cX3_fill 2 = .ok (.iconst 1, 1) := by decide +kernel
theorem dX3_fill_3 : decode cX3_fill 3 = .ok (.iload_n 1, 1) := by decide +kernel
theorem dX3_fill_4 : decode cX3_fill 4 = .ok (.ishl, 1) := by decide +kernel
theorem dX3_fill_5 : decode cX3_fill 5 = .ok (.istore 4, 2) := by decide +kernel
theorem dX3_fill_7 : decode cX3_fill 7 = .ok (.aload_n 0, 1) := by decide +kernel
theorem dX3_fill_8 : decode cX3_fill 8 = .ok (.iload_n 1, 1) := by decide +kernel
theorem dX3_fill_9 : decode cX3_fill 9 = .ok (.invokevirtual 38, 3) := by decide +kernel
theorem dX3_fill_12 : decode cX3_fill 12 = .ok (.istore 5, 2) := by decide +kernel
theorem dX3_fill_14 : decode cX3_fill 14 = .ok (.iload 5, 2) := by decide +kernel
theorem dX3_fill_16 : decode cX3_fill 16 = .ok (.iconst (-1), 1) := by decide +kernel
theorem dX3_fill_17 : decode cX3_fill 17 = .ok (.if_icmp .eq 81, 3) := by decide +kernel
theorem dX3_fill_20 : decode cX3_fill 20 = .ok (.iconst 0, 1) := by decide +kernel
theorem dX3_fill_21 : decode cX3_fill 21 = .ok (.istore 6, 2) := by decide +kernel
theorem dX3_fill_23 : decode cX3_fill 23 = .ok (.iload 6, 2) := by decide +kernel
theorem dX3_fill_25 : decode cX3_fill 25 = .ok (.aload_n 0, 1) := by decide +kernel
theorem dX3_fill_26 : decode cX3_fill 26 = .ok (.getfield 19, 3) := by decide +kernel
theorem dX3_fill_29 : decode cX3_fill 29 = .ok (.iload 5, 2) := by decide +kernel
theorem dX3_fill_31 : decode cX3_fill 31 = .ok (.iaload, 1) := by decide +kernel
theorem dX3_fill_32 : decode cX3_fill 32 = .ok (.if_icmp .ge 66, 3) := by decide +kernel
theorem dX3_fill_35 : decode cX3_fill 35 = .ok (.aload_n 0, 1) := by decide +kernel
theorem dX3_fill_36 : decode cX3_fill 36 = .ok (.getfield 22, 3) := by decide +kernel
theorem dX3_fill_39 : decode cX3_fill 39 = .ok (.iload 5, 2) := by decide +kernel
theorem dX3_fill_41 : decode cX3_fill 41 = .ok (.bipush 6, 2) := by decide +kernel
theorem dX3_fill_43 : decode cX3_fill 43 = .ok (.imul, 1) := by decide +kernel
theorem dX3_fill_44 : decode cX3_fill 44 = .ok (.iload 6, 2) := by decide +kernel
theorem dX3_fill_46 : decode cX3_fill 46 = .ok (.iadd, 1) := by decide +kernel
theorem dX3_fill_47 : decode cX3_fill 47 = .ok (.iaload, 1) := by decide +kernel
theorem dX3_fill_48 : decode cX3_fill 48 = .ok (.istore 7, 2) := by decide +kernel
theorem dX3_fill_50 : decode cX3_fill 50 = .ok (.iload 7, 2) := by decide +kernel
theorem dX3_fill_52 : decode cX3_fill 52 = .ok (.iload_n 2, 1) := by decide +kernel
theorem dX3_fill_53 : decode cX3_fill 53 = .ok (.if_icmp .ge 39, 3) := by decide +kernel
theorem dX3_fill_56 : decode cX3_fill 56 = .ok (.iload 4, 2) := by decide +kernel
theorem dX3_fill_58 : decode cX3_fill 58 = .ok (.iload 7, 2) := by decide +kernel
theorem dX3_fill_60 : decode cX3_fill 60 = .ok (.ishr, 1) := by decide +kernel
theorem dX3_fill_61 : decode cX3_fill 61 = .ok (.iconst 1, 1) := by decide +kernel
theorem dX3_fill_62 : decode cX3_fill 62 = .ok (.iand, 1) := by decide +kernel
theorem dX3_fill_63 : decode cX3_fill 63 = .ok (.ifCond .ne 29, 3) := by decide +kernel
theorem dX3_fill_66 : decode cX3_fill 66 = .ok (.iload_n 3, 1) := by decide +kernel
theorem dX3_fill_67 : decode cX3_fill 67 = .ok (.bipush 14, 2) := by decide +kernel
theorem dX3_fill_69 : decode cX3_fill 69 = .ok (.if_icmp .ge 23, 3) := by decide +kernel
theorem dX3_fill_72 : decode cX3_fill 72 = .ok (.aload_n 0, 1) := by decide +kernel
theorem dX3_fill_73 : decode cX3_fill 73 = .ok (.getfield 25, 3) := by decide +kernel
theorem dX3_fill_76 : decode cX3_fill 76 = .ok (.iload_n 3, 1) := by decide +kernel
theorem dX3_fill_77 : decode cX3_fill 77 = .ok (.iload 7, 2) := by decide +kernel
theorem dX3_fill_79 : decode cX3_fill 79 = .ok (.iastore, 1) := by decide +kernel
theorem dX3_fill_80 : decode cX3_fill 80 = .ok (.iinc 3 1, 3) := by decide +kernel
theorem dX3_fill_83 : decode cX3_fill 83 = .ok (.iload 4, 2) := by decide +kernel
theorem dX3_fill_85 : decode cX3_fill 85 = .ok (.iconst 1, 1) := by decide +kernel
theorem dX3_fill_86 : decode cX3_fill 86 = .ok (.iload 7, 2) := by decide +kernel
theorem dX3_fill_88 : decode cX3_fill 88 = .ok (.ishl, 1) := by decide +kernel
theorem dX3_fill_89 : decode cX3_fill 89 = .ok (.ior, 1) := by decide +kernel
theorem dX3_fill_90 : decode cX3_fill 90 = .ok (.istore 4, 2) := by decide +kernel
theorem dX3_fill_92 : decode cX3_fill 92 = .ok (.iinc 6 1, 3) := by decide +kernel
theorem dX3_fill_95 : decode cX3_fill 95 = .ok (.goto (-72), 3) := by decide +kernel
theorem dX3_fill_98 : decode cX3_fill 98 = .ok (.iconst 0, 1) := by decide +kernel
theorem dX3_fill_99 : decode cX3_fill 99 = .ok (.istore 6, 2) := by decide +kernel
theorem dX3_fill_101 : decode cX3_fill 101 = .ok (.iload 6, 2) := by decide +kernel
theorem dX3_fill_103 : decode cX3_fill 103 = .ok (.iload_n 2, 1) := by decide +kernel
theorem dX3_fill_104 : decode cX3_fill 104 = .ok (.if_icmp .ge 36, 3) := by decide +kernel
theorem dX3_fill_107 : decode cX3_fill 107 = .ok (.iload 4, 2) := by decide +kernel
theorem dX3_fill_109 : decode cX3_fill 109 = .ok (.iload 6, 2) := by decide +kernel
theorem dX3_fill_111 : decode cX3_fill 111 = .ok (.ishr, 1) := by decide +kernel
theorem dX3_fill_112 : decode cX3_fill 112 = .ok (.iconst 1, 1) := by decide +kernel
theorem dX3_fill_113 : decode cX3_fill 113 = .ok (.iand, 1) := by decide +kernel
theorem dX3_fill_114 : decode cX3_fill 114 = .ok (.ifCond .ne 20, 3) := by decide +kernel
theorem dX3_fill_117 : decode cX3_fill 117 = .ok (.iload_n 3, 1) := by decide +kernel
theorem dX3_fill_118 : decode cX3_fill 118 = .ok (.bipush 14, 2) := by decide +kernel
theorem dX3_fill_120 : decode cX3_fill 120 = .ok (.if_icmp .ge 14, 3) := by decide +kernel
theorem dX3_fill_123 : decode cX3_fill 123 = .ok (.aload_n 0, 1) := by decide +kernel
theorem dX3_fill_124 : decode cX3_fill 124 = .ok (.getfield 25, 3) := by decide +kernel
theorem dX3_fill_127 : decode cX3_fill 127 = .ok (.iload_n 3, 1) := by decide +kernel
theorem dX3_fill_128 : decode cX3_fill 128 = .ok (.iload 6, 2) := by decide +kernel
theorem dX3_fill_130 : decode cX3_fill 130 = .ok (.iastore, 1) := by decide +kernel
theorem dX3_fill_131 : decode cX3_fill 131 = .ok (.iinc 3 1, 3) := by decide +kernel
theorem dX3_fill_134 : decode cX3_fill 134 = .ok (.iinc 6 1, 3) := by decide +kernel
theorem dX3_fill_137 : decode cX3_fill 137 = .ok (.goto (-36), 3) := by decide +kernel
theorem dX3_fill_140 : decode cX3_fill 140 = .ok (.iload_n 3, 1) := by decide +kernel
theorem dX3_fill_141 : decode cX3_fill 141 = .ok (.ireturn, 1) := by decide +kernel
set_option maxRecDepth 100000 in
set_option maxHeartbeats 4000000 in
theorem so_X3_fill_101 {fr : Nat} (hfr : 1 ≤ fr) (Z : AZ) (X : AX Z cX3_fill 8 RX3 (some .int) 0 fr) (a0 : Nat) (h0 : IO 0 a0 2) (x2 : Int32) (x4 : Int32) (x3 : Int32) (x6 : Int32) (s : Mem) (q : (Int32 × Int32 × Mem) ⊕ (Int32 × Mem)) (h : st_X3_fill_101 a0 x2 x4 x3 x6 s = some q) (hi : ∀ y : Int32 × Int32 × Mem, q = .inl y → AW Z y.2.2 101 [some (.ref (zr Z a0)), none, some (.int x2), some (.int y.1), some (.int x4), none, some (.int y.2.1), none] []) (he : ∀ b : Int32 × Mem, q = .inr b → AW Z b.2 140 [none, none, none, some (.int b.1), none, none, none, none] []) : AW Z s 101 [some (.ref (zr Z a0)), none, some (.int x2), some (.int x3), some (.int x4), none, some (.int x6), none] [] := by
  unfold st_X3_fill_101 at h
  refine aw_iload X dX3_fill_101 rfl ?_
  refine aw_iload_n X dX3_fill_103 rfl ?_
  refine aw_icmp_ge (tgt := 140) X dX3_fill_104 (by decide) (fun c3 => ?_) (fun c3 => ?_)
  · rw [if_pos c3] at h
    cases h
    refine aw_msk [false, false, false, true, false, false, false, false] ?_
    exact he _ rfl
  · rw [if_neg c3] at h
    refine aw_iload X dX3_fill_107 rfl ?_
    refine aw_iload X dX3_fill_109 rfl ?_
    refine aw_ishr X dX3_fill_111 ?_
    refine aw_iconst (v := 1) X dX3_fill_112 (by decide) ?_
    refine aw_iand X dX3_fill_113 ?_
    refine aw_if_ne (tgt := 134) X dX3_fill_114 (by decide) (fun c4 => ?_) (fun c4 => ?_)
    · rw [if_neg c4] at h
      refine aw_iinc (v := (x6 + 1)) (L' := [some (.ref (zr Z a0)), none, some (.int x2), some (.int x3), some (.int x4), none, some (.int (x6 + 1)), none]) X dX3_fill_134 rfl rfl (by decide) rfl ?_
      refine aw_goto (tgt := 101) X dX3_fill_137 (by decide) ?_
      cases h
      refine aw_msk [true, false, true, true, true, false, true, false] ?_
      exact hi _ rfl
    · rw [if_pos c4] at h
      refine aw_iload_n X dX3_fill_117 rfl ?_
      refine aw_bipush (v := 14) X dX3_fill_118 (by decide) ?_
      refine aw_icmp_ge (tgt := 134) X dX3_fill_120 (by decide) (fun c5 => ?_) (fun c5 => ?_)
      · rw [if_pos c5] at h
        refine aw_iinc (v := (x6 + 1)) (L' := [some (.ref (zr Z a0)), none, some (.int x2), some (.int x3), some (.int x4), none, some (.int (x6 + 1)), none]) X dX3_fill_134 rfl rfl (by decide) rfl ?_
        refine aw_goto (tgt := 101) X dX3_fill_137 (by decide) ?_
        cases h
        refine aw_msk [true, false, true, true, true, false, true, false] ?_
        exact hi _ rfl
      · rw [if_neg c5] at h
        refine aw_aload_n X dX3_fill_123 rfl ?_
        refine aw_getr X dX3_fill_124 fl_RX3_25 h0 (gt_RX3_4 h0) ?_
        refine aw_iload_n X dX3_fill_127 rfl ?_
        refine aw_iload X dX3_fill_128 rfl ?_
        obtain ⟨s6, es6, h⟩ := bnd h
        refine aw_iast X dX3_fill_130 (it_RX3_4 h0) es6 ?_
        refine aw_iinc (v := (x3 + 1)) (L' := [some (.ref (zr Z a0)), none, some (.int x2), some (.int (x3 + 1)), some (.int x4), none, some (.int x6), none]) X dX3_fill_131 rfl rfl (by decide) rfl ?_
        refine aw_iinc (v := (x6 + 1)) (L' := [some (.ref (zr Z a0)), none, some (.int x2), some (.int (x3 + 1)), some (.int x4), none, some (.int (x6 + 1)), none]) X dX3_fill_134 rfl rfl (by decide) rfl ?_
        refine aw_goto (tgt := 101) X dX3_fill_137 (by decide) ?_
        cases h
        refine aw_msk [true, false, true, true, true, false, true, false] ?_
        exact hi _ rfl
set_option maxRecDepth 100000 in
set_option maxHeartbeats 4000000 in
theorem jo_X3_fill_98 {fr : Nat} (hfr : 1 ≤ fr) (Z : AZ) (X : AX Z cX3_fill 8 RX3 (some .int) 0 fr) (a0 : Nat) (h0 : IO 0 a0 2) (x2 : Int32) (x3 : Int32) (x4 : Int32) (s : Mem) (r : Int32 × Mem) (hz : zres Z = (some (.int r.1), r.2)) (h : jn_X3_fill_98 a0 x2 x3 x4 s = some r) : AW Z s 98 [some (.ref (zr Z a0)), none, some (.int x2), some (.int x3), some (.int x4), none, none, none] [] := by
  unfold jn_X3_fill_98 at h
  refine aw_iconst (v := 0) X dX3_fill_98 (by decide) ?_
  refine aw_istore (L' := [some (.ref (zr Z a0)), none, some (.int x2), some (.int x3), some (.int x4), none, some (.int 0), none]) X dX3_fill_99 (by decide) rfl ?_
  obtain ⟨r7, er7, h⟩ := bnd h
  refine aw_msk [true, false, true, true, true, false, true, false] ?_
  refine it_ok (P := fun y : Int32 × Int32 × Mem => AW Z y.2.2 101 [some (.ref (zr Z a0)), none, some (.int x2), some (.int y.1), some (.int x4), none, some (.int y.2.1), none] []) (Q := fun b : Int32 × Mem => AW Z b.2 140 [none, none, none, some (.int b.1), none, none, none, none] []) (fun y q hq hi he => so_X3_fill_101 hfr Z X a0 h0 x2 x4 y.1 y.2.1 y.2.2 q hq hi he) FUEL _ _ er7 ?_
  refine aw_iload_n X dX3_fill_140 rfl ?_
  cases h
  exact aw_iret X dX3_fill_141 rfl hz.symm
set_option maxRecDepth 100000 in
set_option maxHeartbeats 4000000 in
theorem so_X3_fill_23 {fr : Nat} (hfr : 1 ≤ fr) (Z : AZ) (X : AX Z cX3_fill 8 RX3 (some .int) 0 fr) (a0 : Nat) (h0 : IO 0 a0 2) (x2 : Int32) (x5 : Int32) (x3 : Int32) (x4 : Int32) (x6 : Int32) (s : Mem) (q : (Int32 × Int32 × Int32 × Mem) ⊕ (Int32 × Int32 × Mem)) (h : st_X3_fill_23 a0 x2 x5 x3 x4 x6 s = some q) (hi : ∀ y : Int32 × Int32 × Int32 × Mem, q = .inl y → AW Z y.2.2.2 23 [some (.ref (zr Z a0)), none, some (.int x2), some (.int y.1), some (.int y.2.1), some (.int x5), some (.int y.2.2.1), none] []) (he : ∀ b : Int32 × Int32 × Mem, q = .inr b → AW Z b.2.2 98 [some (.ref (zr Z a0)), none, some (.int x2), some (.int b.1), some (.int b.2.1), none, none, none] []) : AW Z s 23 [some (.ref (zr Z a0)), none, some (.int x2), some (.int x3), some (.int x4), some (.int x5), some (.int x6), none] [] := by
  unfold st_X3_fill_23 at h
  refine aw_iload X dX3_fill_23 rfl ?_
  refine aw_aload_n X dX3_fill_25 rfl ?_
  refine aw_getr X dX3_fill_26 fl_RX3_19 h0 (gt_RX3_2 h0) ?_
  refine aw_iload X dX3_fill_29 rfl ?_
  obtain ⟨v8, ev8, h⟩ := bnd h
  refine aw_iald X dX3_fill_31 (it_RX3_2 h0) ev8 ?_
  refine aw_icmp_ge (tgt := 98) X dX3_fill_32 (by decide) (fun c9 => ?_) (fun c9 => ?_)
  · rw [if_pos c9] at h
    cases h
    refine aw_msk [true, false, true, true, true, false, false, false] ?_
    exact he _ rfl
  · rw [if_neg c9] at h
    refine aw_aload_n X dX3_fill_35 rfl ?_
    refine aw_getr X dX3_fill_36 fl_RX3_22 h0 (gt_RX3_3 h0) ?_
    refine aw_iload X dX3_fill_39 rfl ?_
    refine aw_bipush (v := 6) X dX3_fill_41 (by decide) ?_
    refine aw_imul X dX3_fill_43 ?_
    refine aw_iload X dX3_fill_44 rfl ?_
    refine aw_iadd X dX3_fill_46 ?_
    obtain ⟨v10, ev10, h⟩ := bnd h
    refine aw_iald X dX3_fill_47 (it_RX3_3 h0) ev10 ?_
    refine aw_istore (L' := [some (.ref (zr Z a0)), none, some (.int x2), some (.int x3), some (.int x4), some (.int x5), some (.int x6), some (.int v10)]) X dX3_fill_48 (by decide) rfl ?_
    refine aw_iload X dX3_fill_50 rfl ?_
    refine aw_iload_n X dX3_fill_52 rfl ?_
    refine aw_icmp_ge (tgt := 92) X dX3_fill_53 (by decide) (fun c11 => ?_) (fun c11 => ?_)
    · rw [if_pos c11] at h
      refine aw_iinc (v := (x6 + 1)) (L' := [some (.ref (zr Z a0)), none, some (.int x2), some (.int x3), some (.int x4), some (.int x5), some (.int (x6 + 1)), some (.int v10)]) X dX3_fill_92 rfl rfl (by decide) rfl ?_
      refine aw_goto (tgt := 23) X dX3_fill_95 (by decide) ?_
      cases h
      refine aw_msk [true, false, true, true, true, true, true, false] ?_
      exact hi _ rfl
    · rw [if_neg c11] at h
      refine aw_iload X dX3_fill_56 rfl ?_
      refine aw_iload X dX3_fill_58 rfl ?_
      refine aw_ishr X dX3_fill_60 ?_
      refine aw_iconst (v := 1) X dX3_fill_61 (by decide) ?_
      refine aw_iand X dX3_fill_62 ?_
      refine aw_if_ne (tgt := 92) X dX3_fill_63 (by decide) (fun c12 => ?_) (fun c12 => ?_)
      · rw [if_neg c12] at h
        refine aw_iinc (v := (x6 + 1)) (L' := [some (.ref (zr Z a0)), none, some (.int x2), some (.int x3), some (.int x4), some (.int x5), some (.int (x6 + 1)), some (.int v10)]) X dX3_fill_92 rfl rfl (by decide) rfl ?_
        refine aw_goto (tgt := 23) X dX3_fill_95 (by decide) ?_
        cases h
        refine aw_msk [true, false, true, true, true, true, true, false] ?_
        exact hi _ rfl
      · rw [if_pos c12] at h
        refine aw_iload_n X dX3_fill_66 rfl ?_
        refine aw_bipush (v := 14) X dX3_fill_67 (by decide) ?_
        refine aw_icmp_ge (tgt := 92) X dX3_fill_69 (by decide) (fun c13 => ?_) (fun c13 => ?_)
        · rw [if_pos c13] at h
          refine aw_iinc (v := (x6 + 1)) (L' := [some (.ref (zr Z a0)), none, some (.int x2), some (.int x3), some (.int x4), some (.int x5), some (.int (x6 + 1)), some (.int v10)]) X dX3_fill_92 rfl rfl (by decide) rfl ?_
          refine aw_goto (tgt := 23) X dX3_fill_95 (by decide) ?_
          cases h
          refine aw_msk [true, false, true, true, true, true, true, false] ?_
          exact hi _ rfl
        · rw [if_neg c13] at h
          refine aw_aload_n X dX3_fill_72 rfl ?_
          refine aw_getr X dX3_fill_73 fl_RX3_25 h0 (gt_RX3_4 h0) ?_
          refine aw_iload_n X dX3_fill_76 rfl ?_
          refine aw_iload X dX3_fill_77 rfl ?_
          obtain ⟨s14, es14, h⟩ := bnd h
          refine aw_iast X dX3_fill_79 (it_RX3_4 h0) es14 ?_
          refine aw_iinc (v := (x3 + 1)) (L' := [some (.ref (zr Z a0)), none, some (.int x2), some (.int (x3 + 1)), some (.int x4), some (.int x5), some (.int x6), some (.int v10)]) X dX3_fill_80 rfl rfl (by decide) rfl ?_
          refine aw_iload X dX3_fill_83 rfl ?_
          refine aw_iconst (v := 1) X dX3_fill_85 (by decide) ?_
          refine aw_iload X dX3_fill_86 rfl ?_
          refine aw_ishl X dX3_fill_88 ?_
          refine aw_ior X dX3_fill_89 ?_
          refine aw_istore (L' := [some (.ref (zr Z a0)), none, some (.int x2), some (.int (x3 + 1)), some (.int (x4 ||| (1 <<< (v10 &&& 31)))), some (.int x5), some (.int x6), some (.int v10)]) X dX3_fill_90 (by decide) rfl ?_
          refine aw_iinc (v := (x6 + 1)) (L' := [some (.ref (zr Z a0)), none, some (.int x2), some (.int (x3 + 1)), some (.int (x4 ||| (1 <<< (v10 &&& 31)))), some (.int x5), some (.int (x6 + 1)), some (.int v10)]) X dX3_fill_92 rfl rfl (by decide) rfl ?_
          refine aw_goto (tgt := 23) X dX3_fill_95 (by decide) ?_
          cases h
          refine aw_msk [true, false, true, true, true, true, true, false] ?_
          exact hi _ rfl
set_option maxRecDepth 100000 in
set_option maxHeartbeats 4000000 in
theorem w_X3_fill {fr : Nat} (hfr : 1 ≤ fr) (Z : AZ) (X : AX Z cX3_fill 8 RX3 (some .int) 0 fr) (a0 : Nat) (h0 : IO 0 a0 2) (x1 : Int32) (x2 : Int32) (s : Mem) (r : Int32 × Mem) (hz : zres Z = (some (.int r.1), r.2)) (h : f_X3_fill a0 x1 x2 s = some r) : AW Z s 0 [some (.ref (zr Z a0)), some (.int x1), some (.int x2), none, none, none, none, none] [] := by
  unfold f_X3_fill at h
  refine aw_iconst (v := 0) X dX3_fill_0 (by decide) ?_
  refine aw_istore_n (L' := [some (.ref (zr Z a0)), some (.int x1), some (.int x2), some (.int 0), none, none, none, none]) X dX3_fill_1 (by decide) rfl ?_
  refine aw_iconst (v := 1) X dX3_fill_2 (by decide) ?_
  refine aw_iload_n X dX3_fill_3 rfl ?_
  refine aw_ishl X dX3_fill_4 ?_
  refine aw_istore (L' := [some (.ref (zr Z a0)), some (.int x1), some (.int x2), some (.int 0), some (.int (1 <<< (x1 &&& 31))), none, none, none]) X dX3_fill_5 (by decide) rfl ?_
  refine aw_aload_n X dX3_fill_7 rfl ?_
  refine aw_iload_n X dX3_fill_8 rfl ?_
  obtain ⟨r1, er1, h⟩ := bnd h
  refine aw_callV X dX3_fill_9 cv_RX3_38 (ok_X3_lastLineOf h0 er1 _ _ _ _ _) h0 rfl (Nat.le_trans (by decide) hfr) (by decide) rfl rfl (Nat.le_of_ble_eq_true rfl) ?_
  refine aw_istore (L' := [some (.ref (zr Z a0)), some (.int x1), some (.int x2), some (.int 0), some (.int (1 <<< (x1 &&& 31))), some (.int r1.1), none, none]) X dX3_fill_12 (by decide) rfl ?_
  refine aw_iload X dX3_fill_14 rfl ?_
  refine aw_iconst (v := (-1)) X dX3_fill_16 (by decide) ?_
  refine aw_icmp_eq (tgt := 98) X dX3_fill_17 (by decide) (fun c2 => ?_) (fun c2 => ?_)
  · rw [if_pos c2] at h
    refine aw_msk [true, false, true, true, true, false, false, false] ?_
    exact jo_X3_fill_98 hfr Z X a0 h0 _ _ _ _ _ hz h
  · rw [if_neg c2] at h
    refine aw_iconst (v := 0) X dX3_fill_20 (by decide) ?_
    refine aw_istore (L' := [some (.ref (zr Z a0)), some (.int x1), some (.int x2), some (.int 0), some (.int (1 <<< (x1 &&& 31))), some (.int r1.1), some (.int 0), none]) X dX3_fill_21 (by decide) rfl ?_
    obtain ⟨r15, er15, h⟩ := bnd h
    refine aw_msk [true, false, true, true, true, true, true, false] ?_
    refine it_ok (P := fun y : Int32 × Int32 × Int32 × Mem => AW Z y.2.2.2 23 [some (.ref (zr Z a0)), none, some (.int x2), some (.int y.1), some (.int y.2.1), some (.int r1.1), some (.int y.2.2.1), none] []) (Q := fun b : Int32 × Int32 × Mem => AW Z b.2.2 98 [some (.ref (zr Z a0)), none, some (.int x2), some (.int b.1), some (.int b.2.1), none, none, none] []) (fun y q hq hi he => so_X3_fill_23 hfr Z X a0 h0 x2 r1.1 y.1 y.2.1 y.2.2.1 y.2.2.2 q hq hi he) FUEL _ _ er15 ?_
    refine aw_msk [true, false, true, true, true, false, false, false] ?_
    exact jo_X3_fill_98 hfr Z X a0 h0 _ _ _ _ _ hz h
set_option maxRecDepth 100000 in
set_option maxHeartbeats 4000000 in
theorem ok_X3_fill {a0 : Nat} (h0 : IO 0 a0 2) {x1 x2 : Int32} {s : Mem} {r : Int32 × Mem} (h : f_X3_fill a0 x1 x2 s = some r) (l : Launch) (D : va_G) (ρ : Nat → Nat) (cA : ClassId × ClassId × ClassId) (τ : AT) : AM l D ρ cA 0 τ yX3_fill cX3_fill 8 (some .int) 1 [.ref (ρ a0), .int x1, .int x2] (some (.int r.1)) s r.2 := by
  refine AM_of (L := [some (.ref (ρ a0)), some (.int x1), some (.int x2), none, none, none, none, none]) (by decide) (by simp [Value.category]) (Nat.le_of_ble_eq_true rfl) (fun j v q => ?_) (fun Z X hρ hz hτ => ?_)
  · exact aL_ok (n := 5) [.ref (ρ a0), .int x1, .int x2] j v q
  · subst hρ
    subst hτ
    exact w_X3_fill (Nat.le_refl _) Z X a0 h0 x1 x2 s r hz h

theorem dX3_nameAt_0 : decode cX3_nameAt 0 = .ok (.aload_n 0, 1) := by decide +kernel
theorem dX3_nameAt_1 : decode cX3_nameAt 1 = .ok (.iload_n 1, 1) := by decide +kernel
theorem dX3_nameAt_2 : decode cX3_nameAt 2 = .ok (.iload_n 3, 1) := by decide +kernel
theorem dX3_nameAt_3 : decode cX3_nameAt 3 = .ok (.invokevirtual 34, 3) := by decide +kernel
theorem dX3_nameAt_6 : decode cX3_nameAt 6 = .ok (.istore 4, 2) := by decide +kernel
theorem dX3_nameAt_8 : decode cX3_nameAt 8 = .ok (.iload_n 2, 1) := by decide +kernel
theorem dX3_nameAt_9 : decode cX3_nameAt 9 = .ok (.ifCond .lt 18, 3) := by decide +kernel
theorem dX3_nameAt_12 : decode cX3_nameAt 12 = .ok (.iload_n 2, 1) := by decide +kernel
theorem dX3_nameAt_13 : decode cX3_nameAt 13 = .ok (.iload 4, 2) := by decide +kernel
theorem dX3_nameAt_15 : decode cX3_nameAt 15 = .ok (.if_icmp .ge 12, 3) := by decide +kernel
theorem dX3_nameAt_18 : decode cX3_nameAt 18 = .ok (.aload_n 0, 1) := by decide +kernel
theorem dX3_nameAt_19 : decode cX3_nameAt 19 = .ok (.getfield 25, 3) := by decide +kernel
theorem dX3_nameAt_22 : decode cX3_nameAt 22 = .ok (.iload_n 2, 1) := by decide +kernel
theorem dX3_nameAt_23 : decode cX3_nameAt 23 = .ok (.iaload, 1) := by decide +kernel
theorem dX3_nameAt_24 : decode cX3_nameAt 24 = .ok (.goto 4, 3) := by decide +kernel
theorem dX3_nameAt_27 : decode cX3_nameAt 27 = .ok (.iconst (-1), 1) := by decide +kernel
theorem dX3_nameAt_28 : decode cX3_nameAt 28 = .ok (.ireturn, 1) := by decide +kernel
set_option maxRecDepth 100000 in
set_option maxHeartbeats 4000000 in
theorem w_X3_nameAt {fr : Nat} (hfr : 2 ≤ fr) (Z : AZ) (X : AX Z cX3_nameAt 5 RX3 (some .int) 0 fr) (a0 : Nat) (h0 : IO 0 a0 2) (x1 : Int32) (x2 : Int32) (x3 : Int32) (s : Mem) (r : Int32 × Mem) (hz : zres Z = (some (.int r.1), r.2)) (h : f_X3_nameAt a0 x1 x2 x3 s = some r) : AW Z s 0 [some (.ref (zr Z a0)), some (.int x1), some (.int x2), some (.int x3), none] [] := by
  unfold f_X3_nameAt at h
  refine aw_aload_n X dX3_nameAt_0 rfl ?_
  refine aw_iload_n X dX3_nameAt_1 rfl ?_
  refine aw_iload_n X dX3_nameAt_2 rfl ?_
  obtain ⟨r1, er1, h⟩ := bnd h
  refine aw_callV X dX3_nameAt_3 cv_RX3_34 (ok_X3_fill h0 er1 _ _ _ _ _) h0 rfl (Nat.le_trans (by decide) hfr) (by decide) rfl rfl (Nat.le_of_ble_eq_true rfl) ?_
  refine aw_istore (L' := [some (.ref (zr Z a0)), some (.int x1), some (.int x2), some (.int x3), some (.int r1.1)]) X dX3_nameAt_6 (by decide) rfl ?_
  refine aw_iload_n X dX3_nameAt_8 rfl ?_
  refine aw_if_lt (tgt := 27) X dX3_nameAt_9 (by decide) (fun c2 => ?_) (fun c2 => ?_)
  · rw [if_pos c2] at h
    refine aw_iconst (v := (-1)) X dX3_nameAt_27 (by decide) ?_
    cases h
    exact aw_iret X dX3_nameAt_28 rfl hz.symm
  · rw [if_neg c2] at h
    refine aw_iload_n X dX3_nameAt_12 rfl ?_
    refine aw_iload X dX3_nameAt_13 rfl ?_
    refine aw_icmp_ge (tgt := 27) X dX3_nameAt_15 (by decide) (fun c3 => ?_) (fun c3 => ?_)
    · rw [if_pos c3] at h
      refine aw_iconst (v := (-1)) X dX3_nameAt_27 (by decide) ?_
      cases h
      exact aw_iret X dX3_nameAt_28 rfl hz.symm
    · rw [if_neg c3] at h
      refine aw_aload_n X dX3_nameAt_18 rfl ?_
      refine aw_getr X dX3_nameAt_19 fl_RX3_25 h0 (gt_RX3_4 h0) ?_
      refine aw_iload_n X dX3_nameAt_22 rfl ?_
      obtain ⟨v4, ev4, h⟩ := bnd h
      refine aw_iald X dX3_nameAt_23 (it_RX3_4 h0) ev4 ?_
      refine aw_goto (tgt := 28) X dX3_nameAt_24 (by decide) ?_
      cases h
      exact aw_iret X dX3_nameAt_28 rfl hz.symm
set_option maxRecDepth 100000 in
set_option maxHeartbeats 4000000 in
theorem ok_X3_nameAt {a0 : Nat} (h0 : IO 0 a0 2) {x1 x2 x3 : Int32} {s : Mem} {r : Int32 × Mem} (h : f_X3_nameAt a0 x1 x2 x3 s = some r) (l : Launch) (D : va_G) (ρ : Nat → Nat) (cA : ClassId × ClassId × ClassId) (τ : AT) : AM l D ρ cA 0 τ yX3_nameAt cX3_nameAt 5 (some .int) 2 [.ref (ρ a0), .int x1, .int x2, .int x3] (some (.int r.1)) s r.2 := by
  refine AM_of (L := [some (.ref (ρ a0)), some (.int x1), some (.int x2), some (.int x3), none]) (by decide) (by simp [Value.category]) (Nat.le_of_ble_eq_true rfl) (fun j v q => ?_) (fun Z X hρ hz hτ => ?_)
  · exact aL_ok (n := 1) [.ref (ρ a0), .int x1, .int x2, .int x3] j v q
  · subst hρ
    subst hτ
    exact w_X3_nameAt (Nat.le_refl _) Z X a0 h0 x1 x2 x3 s r hz h

theorem dX3_firstUntried_0 : decode cX3_firstUntried 0 = .ok (.aload_n 0, 1) := by decide +kernel
theorem dX3_firstUntried_1 : decode cX3_firstUntried 1 = .ok (.iload_n 1, 1) := by decide +kernel
theorem dX3_firstUntried_2 : decode cX3_firstUntried 2 = .ok (.iload_n 2, 1) := by decide +kernel
theorem dX3_firstUntried_3 : decode cX3_firstUntried 3 = .ok (.invokevirtual 34, 3) := by decide +kernel
theorem dX3_firstUntried_6 : decode cX3_firstUntried 6 = .ok (.istore 4, 2) := by decide +kernel
theorem dX3_firstUntried_8 : decode cX3_firstUntried 8 = .ok (.iconst 0, 1) := by decide +kernel
theorem dX3_firstUntried_9 : decode cX3_firstUntried 9 = .ok (.istore 5, 2) := by decide +kernel
theorem dX3_firstUntried_11 : decode cX3_firstUntried 11 = .ok (.iload 5, 2) := by decide +kernel
theorem dX3_firstUntried_13 : decode cX3_firstUntried 13 = .ok (.iload 4, 2) := by decide +kernel
theorem dX3_firstUntried_15 : decode cX3_firstUntried 15 = .ok (.if_icmp .ge 31, 3) := by decide +kernel
theorem dX3_firstUntried_18 : decode cX3_firstUntried 18 = .ok (.iload_n 3, 1) := by decide +kernel
theorem dX3_firstUntried_19 : decode cX3_firstUntried 19 = .ok (.aload_n 0, 1) := by decide +kernel
theorem dX3_firstUntried_20 : decode cX3_firstUntried 20 = .ok (.getfield 25, 3) := by decide +kernel
theorem dX3_firstUntried_23 : decode cX3_firstUntried 23 = .ok (.iload 5, 2) := by decide +kernel
theorem dX3_firstUntried_25 : decode cX3_firstUntried 25 = .ok (.iaload, 1) := by decide +kernel
theorem dX3_firstUntried_26 : decode cX3_firstUntried 26 = .ok (.ishr, 1) := by decide +kernel
theorem dX3_firstUntried_27 : decode cX3_firstUntried 27 = .ok (.iconst 1, 1) := by decide +kernel
theorem dX3_firstUntried_28 : decode cX3_firstUntried 28 = .ok (.iand, 1) := by decide +kernel
theorem dX3_firstUntried_29 : decode cX3_firstUntried 29 = .ok (.ifCond .ne 11, 3) := by decide +kernel
theorem dX3_firstUntried_32 : decode cX3_firstUntried 32 = .ok (.aload_n 0, 1) := by decide +kernel
theorem dX3_firstUntried_33 : decode cX3_firstUntried 33 = .ok (.getfield 25, 3) := by decide +kernel
theorem dX3_firstUntried_36 : decode cX3_firstUntried 36 = .ok (.iload 5, 2) := by decide +kernel
theorem dX3_firstUntried_38 : decode cX3_firstUntried 38 = .ok (.iaload, 1) := by decide +kernel
theorem dX3_firstUntried_39 : decode cX3_firstUntried 39 = .ok (.ireturn, 1) := by decide +kernel
theorem dX3_firstUntried_40 : decode cX3_firstUntried 40 = .ok (.iinc 5 1, 3) := by decide +kernel
theorem dX3_firstUntried_43 : decode cX3_firstUntried 43 = .ok (.goto (-32), 3) := by decide +kernel
theorem dX3_firstUntried_46 : decode cX3_firstUntried 46 = .ok (.iconst (-1), 1) := by decide +kernel
theorem dX3_firstUntried_47 : decode cX3_firstUntried 47 = .ok (.ireturn, 1) := by decide +kernel
set_option maxRecDepth 100000 in
set_option maxHeartbeats 4000000 in
theorem so_X3_firstUntried_11 {fr : Nat} (hfr : 2 ≤ fr) (Z : AZ) (X : AX Z cX3_firstUntried 6 RX3 (some .int) 0 fr) (a0 : Nat) (h0 : IO 0 a0 2) (x3 : Int32) (x4 : Int32) (x5 : Int32) (s : Mem) (q : (Int32 × Mem) ⊕ (Nat × Int32 × Mem)) (h : st_X3_firstUntried_11 a0 x3 x4 x5 s = some q) (hi : ∀ y : Int32 × Mem, q = .inl y → AW Z y.2 11 [some (.ref (zr Z a0)), none, none, some (.int x3), some (.int x4), some (.int y.1)] []) (he : ∀ b : Nat × Int32 × Mem, q = .inr b → (b.1 = 0 → AW Z b.2.2 32 [some (.ref (zr Z a0)), none, none, none, none, some (.int b.2.1)] []) ∧ (b.1 = 1 → AW Z b.2.2 46 [none, none, none, none, none, none] [])) : AW Z s 11 [some (.ref (zr Z a0)), none, none, some (.int x3), some (.int x4), some (.int x5)] [] := by
  unfold st_X3_firstUntried_11 at h
  refine aw_iload X dX3_firstUntried_11 rfl ?_
  refine aw_iload X dX3_firstUntried_13 rfl ?_
  refine aw_icmp_ge (tgt := 46) X dX3_firstUntried_15 (by decide) (fun c2 => ?_) (fun c2 => ?_)
  · rw [if_pos c2] at h
    cases h
    refine aw_msk [false, false, false, false, false, false] ?_
    exact (he _ rfl).2 rfl
  · rw [if_neg c2] at h
    refine aw_iload_n X dX3_firstUntried_18 rfl ?_
    refine aw_aload_n X dX3_firstUntried_19 rfl ?_
    refine aw_getr X dX3_firstUntried_20 fl_RX3_25 h0 (gt_RX3_4 h0) ?_
    refine aw_iload X dX3_firstUntried_23 rfl ?_
    obtain ⟨v3, ev3, h⟩ := bnd h
    refine aw_iald X dX3_firstUntried_25 (it_RX3_4 h0) ev3 ?_
    refine aw_ishr X dX3_firstUntried_26 ?_
    refine aw_iconst (v := 1) X dX3_firstUntried_27 (by decide) ?_
    refine aw_iand X dX3_firstUntried_28 ?_
    refine aw_if_ne (tgt := 40) X dX3_firstUntried_29 (by decide) (fun c4 => ?_) (fun c4 => ?_)
    · rw [if_neg c4] at h
      refine aw_iinc (v := (x5 + 1)) (L' := [some (.ref (zr Z a0)), none, none, some (.int x3), some (.int x4), some (.int (x5 + 1))]) X dX3_firstUntried_40 rfl rfl (by decide) rfl ?_
      refine aw_goto (tgt := 11) X dX3_firstUntried_43 (by decide) ?_
      cases h
      refine aw_msk [true, false, false, true, true, true] ?_
      exact hi _ rfl
    · rw [if_pos c4] at h
      cases h
      refine aw_msk [true, false, false, false, false, true] ?_
      exact (he _ rfl).1 rfl
set_option maxRecDepth 100000 in
set_option maxHeartbeats 4000000 in
theorem w_X3_firstUntried {fr : Nat} (hfr : 2 ≤ fr) (Z : AZ) (X : AX Z cX3_firstUntried 6 RX3 (some .int) 0 fr) (a0 : Nat) (h0 : IO 0 a0 2) (x1 : Int32) (x2 : Int32) (x3 : Int32) (s : Mem) (r : Int32 × Mem) (hz : zres Z = (some (.int r.1), r.2)) (h : f_X3_firstUntried a0 x1 x2 x3 s = some r) : AW Z s 0 [some (.ref (zr Z a0)), some (.int x1), some (.int x2), some (.int x3), none, none] [] := by
  unfold f_X3_firstUntried at h
  refine aw_aload_n X dX3_firstUntried_0 rfl ?_
  refine aw_iload_n X dX3_firstUntried_1 rfl ?_
  refine aw_iload_n X dX3_firstUntried_2 rfl ?_
  obtain ⟨r1, er1, h⟩ := bnd h
  refine aw_callV X dX3_firstUntried_3 cv_RX3_34 (ok_X3_fill h0 er1 _ _ _ _ _) h0 rfl (Nat.le_trans (by decide) hfr) (by decide) rfl rfl (Nat.le_of_ble_eq_true rfl) ?_
  refine aw_istore (L' := [some (.ref (zr Z a0)), some (.int x1), some (.int x2), some (.int x3), some (.int r1.1), none]) X dX3_firstUntried_6 (by decide) rfl ?_
  refine aw_iconst (v := 0) X dX3_firstUntried_8 (by decide) ?_
  refine aw_istore (L' := [some (.ref (zr Z a0)), some (.int x1), some (.int x2), some (.int x3), some (.int r1.1), some (.int 0)]) X dX3_firstUntried_9 (by decide) rfl ?_
  obtain ⟨r5, er5, h⟩ := bnd h
  refine aw_msk [true, false, false, true, true, true] ?_
  refine it_ok (P := fun y : Int32 × Mem => AW Z y.2 11 [some (.ref (zr Z a0)), none, none, some (.int x3), some (.int r1.1), some (.int y.1)] []) (Q := fun b : Nat × Int32 × Mem => (b.1 = 0 → AW Z b.2.2 32 [some (.ref (zr Z a0)), none, none, none, none, some (.int b.2.1)] []) ∧ (b.1 = 1 → AW Z b.2.2 46 [none, none, none, none, none, none] [])) (fun y q hq hi he => so_X3_firstUntried_11 hfr Z X a0 h0 x3 r1.1 y.1 y.2 q hq hi he) FUEL _ _ er5 ?_
  refine ⟨fun c0 => ?_, fun c1 => ?_⟩
  · rw [if_pos c0] at h
    refine aw_aload_n X dX3_firstUntried_32 rfl ?_
    refine aw_getr X dX3_firstUntried_33 fl_RX3_25 h0 (gt_RX3_4 h0) ?_
    refine aw_iload X dX3_firstUntried_36 rfl ?_
    obtain ⟨v6, ev6, h⟩ := bnd h
    refine aw_iald X dX3_firstUntried_38 (it_RX3_4 h0) ev6 ?_
    cases h
    exact aw_iret X dX3_firstUntried_39 rfl hz.symm
  · rw [if_neg (by rw [c1]; decide)] at h
    refine aw_iconst (v := (-1)) X dX3_firstUntried_46 (by decide) ?_
    cases h
    exact aw_iret X dX3_firstUntried_47 rfl hz.symm
set_option maxRecDepth 100000 in
set_option maxHeartbeats 4000000 in
theorem ok_X3_firstUntried {a0 : Nat} (h0 : IO 0 a0 2) {x1 x2 x3 : Int32} {s : Mem} {r : Int32 × Mem} (h : f_X3_firstUntried a0 x1 x2 x3 s = some r) (l : Launch) (D : va_G) (ρ : Nat → Nat) (cA : ClassId × ClassId × ClassId) (τ : AT) : AM l D ρ cA 0 τ yX3_firstUntried cX3_firstUntried 6 (some .int) 2 [.ref (ρ a0), .int x1, .int x2, .int x3] (some (.int r.1)) s r.2 := by
  refine AM_of (L := [some (.ref (ρ a0)), some (.int x1), some (.int x2), some (.int x3), none, none]) (by decide) (by simp [Value.category]) (Nat.le_of_ble_eq_true rfl) (fun j v q => ?_) (fun Z X hρ hz hτ => ?_)
  · exact aL_ok (n := 2) [.ref (ρ a0), .int x1, .int x2, .int x3] j v q
  · subst hρ
    subst hτ
    exact w_X3_firstUntried (Nat.le_refl _) Z X a0 h0 x1 x2 x3 s r hz h

theorem dX6_isLetter_0 : decode cX6_isLetter 0 = .ok (.iload_n 0, 1) := by decide +kernel
theorem dX6_isLetter_1 : decode cX6_isLetter 1 = .ok (.bipush 97, 2) := by decide +kernel
theorem dX6_isLetter_3 : decode cX6_isLetter 3 = .ok (.if_icmp .lt 9, 3) := by decide +kernel
theorem dX6_isLetter_6 : decode cX6_isLetter 6 = .ok (.iload_n 0, 1) := by decide +kernel
theorem dX6_isLetter_7 : decode cX6_isLetter 7 = .ok (.bipush 122, 2) := by decide +kernel
theorem dX6_isLetter_9 : decode cX6_isLetter 9 = .ok (.if_icmp .le 15, 3) := by decide +kernel
theorem dX6_isLetter_12 : decode cX6_isLetter 12 = .ok (.iload_n 0, 1) := by decide +kernel
theorem dX6_isLetter_13 : decode cX6_isLetter 13 = .ok (.bipush 65, 2) := by decide +kernel
theorem dX6_isLetter_15 : decode cX6_isLetter 15 = .ok (.if_icmp .lt 13, 3) := by decide +kernel
theorem dX6_isLetter_18 : decode cX6_isLetter 18 = .ok (.iload_n 0, 1) := by decide +kernel
theorem dX6_isLetter_19 : decode cX6_isLetter 19 = .ok (.bipush 90, 2) := by decide +kernel
theorem dX6_isLetter_21 : decode cX6_isLetter 21 = .ok (.if_icmp .gt 7, 3) := by decide +kernel
theorem dX6_isLetter_24 : decode cX6_isLetter 24 = .ok (.iconst 1, 1) := by decide +kernel
theorem dX6_isLetter_25 : decode cX6_isLetter 25 = .ok (.goto 4, 3) := by decide +kernel
theorem dX6_isLetter_28 : decode cX6_isLetter 28 = .ok (.iconst 0, 1) := by decide +kernel
theorem dX6_isLetter_29 : decode cX6_isLetter 29 = .ok (.ireturn, 1) := by decide +kernel
set_option maxRecDepth 100000 in
set_option maxHeartbeats 4000000 in
theorem jo_X6_isLetter_24 {fr : Nat} (hfr : 0 ≤ fr) (Z : AZ) (X : AX Z cX6_isLetter 1 RX6 (some .boolean) 0 fr) (s : Mem) (r : Int32 × Mem) (hz : zres Z = (some (.int r.1), r.2)) (h : jn_X6_isLetter_24 s = some r) : AW Z s 24 [none] [] := by
  unfold jn_X6_isLetter_24 at h
  refine aw_iconst (v := 1) X dX6_isLetter_24 (by decide) ?_
  refine aw_goto (tgt := 29) X dX6_isLetter_25 (by decide) ?_
  cases h
  exact aw_zret X dX6_isLetter_29 rfl rfl hz.symm
set_option maxRecDepth 100000 in
set_option maxHeartbeats 4000000 in
theorem jo_X6_isLetter_12 {fr : Nat} (hfr : 0 ≤ fr) (Z : AZ) (X : AX Z cX6_isLetter 1 RX6 (some .boolean) 0 fr) (x0 : Int32) (s : Mem) (r : Int32 × Mem) (hz : zres Z = (some (.int r.1), r.2)) (h : jn_X6_isLetter_12 x0 s = some r) : AW Z s 12 [some (.int x0)] [] := by
  unfold jn_X6_isLetter_12 at h
  refine aw_iload_n X dX6_isLetter_12 rfl ?_
  refine aw_bipush (v := 65) X dX6_isLetter_13 (by decide) ?_
  refine aw_icmp_lt (tgt := 28) X dX6_isLetter_15 (by decide) (fun c2 => ?_) (fun c2 => ?_)
  · rw [if_pos c2] at h
    refine aw_iconst (v := 0) X dX6_isLetter_28 (by decide) ?_
    cases h
    exact aw_zret X dX6_isLetter_29 rfl rfl hz.symm
  · rw [if_neg c2] at h
    refine aw_iload_n X dX6_isLetter_18 rfl ?_
    refine aw_bipush (v := 90) X dX6_isLetter_19 (by decide) ?_
    refine aw_icmp_gt (tgt := 28) X dX6_isLetter_21 (by decide) (fun c3 => ?_) (fun c3 => ?_)
    · rw [if_pos c3] at h
      refine aw_iconst (v := 0) X dX6_isLetter_28 (by decide) ?_
      cases h
      exact aw_zret X dX6_isLetter_29 rfl rfl hz.symm
    · rw [if_neg c3] at h
      refine aw_msk [false] ?_
      exact jo_X6_isLetter_24 hfr Z X _ _ hz h
set_option maxRecDepth 100000 in
set_option maxHeartbeats 4000000 in
theorem w_X6_isLetter {fr : Nat} (hfr : 0 ≤ fr) (Z : AZ) (X : AX Z cX6_isLetter 1 RX6 (some .boolean) 0 fr) (x0 : Int32) (s : Mem) (r : Int32 × Mem) (hz : zres Z = (some (.int r.1), r.2)) (h : f_X6_isLetter x0 s = some r) : AW Z s 0 [some (.int x0)] [] := by
  unfold f_X6_isLetter at h
  refine aw_iload_n X dX6_isLetter_0 rfl ?_
  refine aw_bipush (v := 97) X dX6_isLetter_1 (by decide) ?_
  refine aw_icmp_lt (tgt := 12) X dX6_isLetter_3 (by decide) (fun c1 => ?_) (fun c1 => ?_)
  · rw [if_pos c1] at h
    refine aw_msk [true] ?_
    exact jo_X6_isLetter_12 hfr Z X _ _ _ hz h
  · rw [if_neg c1] at h
    refine aw_iload_n X dX6_isLetter_6 rfl ?_
    refine aw_bipush (v := 122) X dX6_isLetter_7 (by decide) ?_
    refine aw_icmp_le (tgt := 24) X dX6_isLetter_9 (by decide) (fun c4 => ?_) (fun c4 => ?_)
    · rw [if_pos c4] at h
      refine aw_msk [false] ?_
      exact jo_X6_isLetter_24 hfr Z X _ _ hz h
    · rw [if_neg c4] at h
      refine aw_msk [true] ?_
      exact jo_X6_isLetter_12 hfr Z X _ _ _ hz h
set_option maxRecDepth 100000 in
set_option maxHeartbeats 4000000 in
theorem ok_X6_isLetter {x0 : Int32} {s : Mem} {r : Int32 × Mem} (h : f_X6_isLetter x0 s = some r) (l : Launch) (D : va_G) (ρ : Nat → Nat) (cA : ClassId × ClassId × ClassId) (τ : AT) : AM l D ρ cA 0 τ yX6_isLetter cX6_isLetter 1 (some .boolean) 0 [.int x0] (some (.int r.1)) s r.2 := by
  refine AM_of (L := [some (.int x0)]) (by decide) (by simp [Value.category]) (Nat.le_of_ble_eq_true rfl) (fun j v q => ?_) (fun Z X hρ hz hτ => ?_)
  · exact aL_ok (n := 0) [.int x0] j v q
  · subst hρ
    subst hτ
    exact w_X6_isLetter (Nat.le_refl _) Z X x0 s r hz h

theorem dX6_lettersEnd_0 : decode cX6_lettersEnd 0 = .ok (.iload_n 1, 1) := by decide +kernel
theorem dX6_lettersEnd_1 : decode cX6_lettersEnd 1 = .ok (.istore_n 2, 1) := by decide +kernel
theorem dX6_lettersEnd_2 : decode cX6_lettersEnd 2 = .ok (.iload_n 2, 1) := by decide +kernel
theorem dX6_lettersEnd_3 : decode cX6_lettersEnd 3 = .ok (.aload_n 0, 1) := by decide +kernel
theorem dX6_lettersEnd_4 : decode cX6_lettersEnd 4 = .ok (.getfield 9, 3) := by decide +kernel
theorem dX6_lettersEnd_7 : decode cX6_lettersEnd 7 = .ok (.if_icmp .ge 21, 3) := by decide +kernel
theorem dX6_lettersEnd_10 : decode cX6_lettersEnd 10 = .ok (.aload_n 0, 1) := by decide +kernel
theorem dX6_lettersEnd_11 : decode cX6_lettersEnd 11 = .ok (.getfield 30, 3) := by decide +kernel
theorem dX6_lettersEnd_14 : decode cX6_lettersEnd 14 = .ok (.iload_n 2, 1) := by decide +kernel
theorem dX6_lettersEnd_15 : decode cX6_lettersEnd 15 = .ok (.iaload, 1) := by decide +kernel
theorem dX6_lettersEnd_16 : decode cX6_lettersEnd 16 = .ok (.invokestatic 43, 3) := by decide +kernel
theorem dX6_lettersEnd_19 : decode cX6_lettersEnd 19 = .ok (.ifCond .eq 9, 3) := by decide +kernel
theorem dX6_lettersEnd_22 : decode cX6_lettersEnd 22 = .ok (.iinc 2 1, 3) := by decide +kernel
theorem dX6_lettersEnd_25 : decode cX6_lettersEnd 25 = .ok (.goto (-23), 3) := by decide +kernel
theorem dX6_lettersEnd_28 : decode cX6_lettersEnd 28 = .ok (.iload_n 2, 1) := by decide +kernel
theorem dX6_lettersEnd_29 : decode cX6_lettersEnd 29 = .ok (.ireturn, 1) := by decide +kernel
set_option maxRecDepth 100000 in
set_option maxHeartbeats 4000000 in
theorem so_X6_lettersEnd_2 {fr : Nat} (hfr : 1 ≤ fr) (Z : AZ) (X : AX Z cX6_lettersEnd 3 RX6 (some .int) 0 fr) (x2 : Int32) (s : Mem) (q : (Int32 × Mem) ⊕ (Int32 × Mem)) (h : st_X6_lettersEnd_2 x2 s = some q) (hi : ∀ y : Int32 × Mem, q = .inl y → AW Z y.2 2 [some (.ref (zr Z 173)), none, some (.int y.1)] []) (he : ∀ b : Int32 × Mem, q = .inr b → AW Z b.2 28 [none, none, some (.int b.1)] []) : AW Z s 2 [some (.ref (zr Z 173)), none, some (.int x2)] [] := by
  unfold st_X6_lettersEnd_2 at h
  refine aw_iload_n X dX6_lettersEnd_2 rfl ?_
  refine aw_aload_n X dX6_lettersEnd_3 rfl ?_
  refine aw_geti X dX6_lettersEnd_4 fl_RX6_9 iu_RX6 gu_RX6_0 ?_
  refine aw_icmp_ge (tgt := 28) X dX6_lettersEnd_7 (by decide) (fun c1 => ?_) (fun c1 => ?_)
  · rw [if_pos c1] at h
    cases h
    refine aw_msk [false, false, true] ?_
    exact he _ rfl
  · rw [if_neg c1] at h
    refine aw_aload_n X dX6_lettersEnd_10 rfl ?_
    refine aw_getr X dX6_lettersEnd_11 fl_RX6_30 iu_RX6 gu_RX6_6 ?_
    refine aw_iload_n X dX6_lettersEnd_14 rfl ?_
    obtain ⟨v2, ev2, h⟩ := bnd h
    refine aw_iald X dX6_lettersEnd_15 iu_RX6_6 ev2 ?_
    obtain ⟨r3, er3, h⟩ := bnd h
    refine aw_callS X dX6_lettersEnd_16 cv_RX6_43 (ok_X6_isLetter er3 _ _ _ _ _) (Nat.le_trans (by decide) hfr) (by decide) rfl rfl (Nat.le_of_ble_eq_true rfl) ?_
    refine aw_if_eq (tgt := 28) X dX6_lettersEnd_19 (by decide) (fun c4 => ?_) (fun c4 => ?_)
    · rw [if_pos c4] at h
      cases h
      refine aw_msk [false, false, true] ?_
      exact he _ rfl
    · rw [if_neg c4] at h
      refine aw_iinc (v := (x2 + 1)) (L' := [some (.ref (zr Z 173)), none, some (.int (x2 + 1))]) X dX6_lettersEnd_22 rfl rfl (by decide) rfl ?_
      refine aw_goto (tgt := 2) X dX6_lettersEnd_25 (by decide) ?_
      cases h
      refine aw_msk [true, false, true] ?_
      exact hi _ rfl
set_option maxRecDepth 100000 in
set_option maxHeartbeats 4000000 in
theorem w_X6_lettersEnd {fr : Nat} (hfr : 1 ≤ fr) (Z : AZ) (X : AX Z cX6_lettersEnd 3 RX6 (some .int) 0 fr) (x1 : Int32) (s : Mem) (r : Int32 × Mem) (hz : zres Z = (some (.int r.1), r.2)) (h : f_X6_lettersEnd x1 s = some r) : AW Z s 0 [some (.ref (zr Z 173)), some (.int x1), none] [] := by
  unfold f_X6_lettersEnd at h
  refine aw_iload_n X dX6_lettersEnd_0 rfl ?_
  refine aw_istore_n (L' := [some (.ref (zr Z 173)), some (.int x1), some (.int x1)]) X dX6_lettersEnd_1 (by decide) rfl ?_
  obtain ⟨r5, er5, h⟩ := bnd h
  refine aw_msk [true, false, true] ?_
  refine it_ok (P := fun y : Int32 × Mem => AW Z y.2 2 [some (.ref (zr Z 173)), none, some (.int y.1)] []) (Q := fun b : Int32 × Mem => AW Z b.2 28 [none, none, some (.int b.1)] []) (fun y q hq hi he => so_X6_lettersEnd_2 hfr Z X y.1 y.2 q hq hi he) FUEL _ _ er5 ?_
  refine aw_iload_n X dX6_lettersEnd_28 rfl ?_
  cases h
  exact aw_iret X dX6_lettersEnd_29 rfl hz.symm
set_option maxRecDepth 100000 in
set_option maxHeartbeats 4000000 in
theorem ok_X6_lettersEnd {x1 : Int32} {s : Mem} {r : Int32 × Mem} (h : f_X6_lettersEnd x1 s = some r) (l : Launch) (D : va_G) (ρ : Nat → Nat) (cA : ClassId × ClassId × ClassId) (τ : AT) : AM l D ρ cA 0 τ yX6_lettersEnd cX6_lettersEnd 3 (some .int) 1 [.ref (ρ 173), .int x1] (some (.int r.1)) s r.2 := by
  refine AM_of (L := [some (.ref (ρ 173)), some (.int x1), none]) (by decide) (by simp [Value.category]) (Nat.le_of_ble_eq_true rfl) (fun j v q => ?_) (fun Z X hρ hz hτ => ?_)
  · exact aL_ok (n := 1) [.ref (ρ 173), .int x1] j v q
  · subst hρ
    subst hτ
    exact w_X6_lettersEnd (Nat.le_refl _) Z X x1 s r hz h

theorem dJ0_coder_7d493_0 : decode cJ0_coder_7d493 0 = .ok (.getstatic 38, 3) := by decide +kernel
theorem dJ0_coder_7d493_3 : decode cJ0_coder_7d493 3 = .ok (.ifCond .eq 10, 3) := by decide +kernel
theorem dJ0_coder_7d493_6 : decode cJ0_coder_7d493 6 = .ok (.aload_n 0, 1) := by decide +kernel
theorem dJ0_coder_7d493_7 : decode cJ0_coder_7d493 7 = .ok (.getfield 15, 3) := by decide +kernel
theorem dJ0_coder_7d493_10 : decode cJ0_coder_7d493 10 = .ok (.goto 4, 3) := by decide +kernel
theorem dJ0_coder_7d493_13 : decode cJ0_coder_7d493 13 = .ok (.iconst 1, 1) := by decide +kernel
theorem dJ0_coder_7d493_14 : decode cJ0_coder_7d493 14 = .ok (.ireturn, 1) := by decide +kernel
set_option maxRecDepth 100000 in
set_option maxHeartbeats 4000000 in
theorem w_J0_coder_7d493 {fr : Nat} (hfr : 0 ≤ fr) (Z : AZ) (X : AX Z cJ0_coder_7d493 1 RJ0 (some .byte) 0 fr) (a0 : Nat) (h0 : a0 < 2) (s : Mem) (r : Int32 × Mem) (hz : zres Z = (some (.int r.1), r.2)) (h : f_J0_coder_7d493 a0 s = some r) : AW Z s 0 [some (.ref (zk Z a0))] [] := by
  unfold f_J0_coder_7d493 at h
  refine aw_getc X dJ0_coder_7d493_0 sw_RJ0_38 ?_
  refine aw_if_eq (tgt := 13) X dJ0_coder_7d493_3 (by decide) (fun c1 => ?_) (fun c1 => ?_)
  · rw [if_pos c1] at h
    refine aw_iconst (v := 1) X dJ0_coder_7d493_13 (by decide) ?_
    cases h
    exact aw_zret X dJ0_coder_7d493_14 rfl rfl hz.symm
  · rw [if_neg c1] at h
    refine aw_aload_n X dJ0_coder_7d493_6 rfl ?_
    refine aw_scod X dJ0_coder_7d493_7 sw_RJ0_15 h0 ?_
    refine aw_goto (tgt := 14) X dJ0_coder_7d493_10 (by decide) ?_
    cases h
    exact aw_zret X dJ0_coder_7d493_14 rfl rfl hz.symm
set_option maxRecDepth 100000 in
set_option maxHeartbeats 4000000 in
theorem ok_J0_coder_7d493 {a0 : Nat} (h0 : a0 < 2) {s : Mem} {r : Int32 × Mem} (h : f_J0_coder_7d493 a0 s = some r) (l : Launch) (D : va_G) (ρ : Nat → Nat) (cA : ClassId × ClassId × ClassId) (τ : AT) : AM l D ρ cA 0 τ yJ0_coder_7d493 cJ0_coder_7d493 1 (some .byte) 0 [.ref (τ.2.1 a0)] (some (.int r.1)) s r.2 := by
  refine AM_of (L := [some (.ref (τ.2.1 a0))]) (by decide) (by simp [Value.category]) (Nat.le_of_ble_eq_true rfl) (fun j v q => ?_) (fun Z X hρ hz hτ => ?_)
  · exact aL_ok (n := 0) [.ref (τ.2.1 a0)] j v q
  · subst hρ
    subst hτ
    exact w_J0_coder_7d493 (Nat.le_refl _) Z X a0 h0 s r hz h

theorem dJ0_length_8abf5_0 : decode cJ0_length_8abf5 0 = .ok (.aload_n 0, 1) := by decide +kernel
theorem dJ0_length_8abf5_1 : decode cJ0_length_8abf5 1 = .ok (.getfield 9, 3) := by decide +kernel
theorem dJ0_length_8abf5_4 : decode cJ0_length_8abf5 4 = .ok (.arraylength, 1) := by decide +kernel
theorem dJ0_length_8abf5_5 : decode cJ0_length_8abf5 5 = .ok (.aload_n 0, 1) := by decide +kernel
theorem dJ0_length_8abf5_6 : decode cJ0_length_8abf5 6 = .ok (.invokevirtual 335, 3) := by decide +kernel
theorem dJ0_length_8abf5_9 : decode cJ0_length_8abf5 9 = .ok (.ishr, 1) := by decide +kernel
theorem dJ0_length_8abf5_10 : decode cJ0_length_8abf5 10 = .ok (.ireturn, 1) := by decide +kernel
set_option maxRecDepth 100000 in
set_option maxHeartbeats 4000000 in
theorem w_J0_length_8abf5 {fr : Nat} (hfr : 1 ≤ fr) (Z : AZ) (X : AX Z cJ0_length_8abf5 1 RJ0 (some .int) 0 fr) (a0 : Nat) (h0 : a0 < 2) (s : Mem) (r : Int32 × Mem) (hz : zres Z = (some (.int r.1), r.2)) (h : f_J0_length_8abf5 a0 s = some r) : AW Z s 0 [some (.ref (zk Z a0))] [] := by
  unfold f_J0_length_8abf5 at h
  refine aw_aload_n X dJ0_length_8abf5_0 rfl ?_
  refine aw_sval X dJ0_length_8abf5_1 sw_RJ0_9 h0 ?_
  refine aw_slen X dJ0_length_8abf5_4 h0 ?_
  refine aw_aload_n X dJ0_length_8abf5_5 rfl ?_
  obtain ⟨r1, er1, h⟩ := bnd h
  refine aw_callT X dJ0_length_8abf5_6 cv_RJ0_335 (ok_J0_coder_7d493 h0 er1 _ _ _ _ _) h0 rfl (Nat.le_trans (by decide) hfr) (by decide) rfl rfl (Nat.le_of_ble_eq_true rfl) ?_
  refine aw_ishr X dJ0_length_8abf5_9 ?_
  cases h
  exact aw_iret X dJ0_length_8abf5_10 rfl hz.symm
set_option maxRecDepth 100000 in
set_option maxHeartbeats 4000000 in
theorem ok_J0_length_8abf5 {a0 : Nat} (h0 : a0 < 2) {s : Mem} {r : Int32 × Mem} (h : f_J0_length_8abf5 a0 s = some r) (l : Launch) (D : va_G) (ρ : Nat → Nat) (cA : ClassId × ClassId × ClassId) (τ : AT) : AM l D ρ cA 0 τ yJ0_length_8abf5 cJ0_length_8abf5 1 (some .int) 1 [.ref (τ.2.1 a0)] (some (.int r.1)) s r.2 := by
  refine AM_of (L := [some (.ref (τ.2.1 a0))]) (by decide) (by simp [Value.category]) (Nat.le_of_ble_eq_true rfl) (fun j v q => ?_) (fun Z X hρ hz hτ => ?_)
  · exact aL_ok (n := 0) [.ref (τ.2.1 a0)] j v q
  · subst hρ
    subst hτ
    exact w_J0_length_8abf5 (Nat.le_refl _) Z X a0 h0 s r hz h

theorem dJ0_isLatin1_aae02_0 : decode cJ0_isLatin1_aae02 0 = .ok (.getstatic 38, 3) := by decide +kernel
theorem dJ0_isLatin1_aae02_3 : decode cJ0_isLatin1_aae02 3 = .ok (.ifCond .eq 14, 3) := by decide +kernel
theorem dJ0_isLatin1_aae02_6 : decode cJ0_isLatin1_aae02 6 = .ok (.aload_n 0, 1) := by decide +kernel
theorem dJ0_isLatin1_aae02_7 : decode cJ0_isLatin1_aae02 7 = .ok (.getfield 15, 3) := by decide +kernel
theorem dJ0_isLatin1_aae02_10 : decode cJ0_isLatin1_aae02 10 = .ok (.ifCond .ne 7, 3) := by decide +kernel
theorem dJ0_isLatin1_aae02_13 : decode cJ0_isLatin1_aae02 13 = .ok (.iconst 1, 1) := by decide +kernel
theorem dJ0_isLatin1_aae02_14 : decode cJ0_isLatin1_aae02 14 = .ok (.goto 4, 3) := by decide +kernel
theorem dJ0_isLatin1_aae02_17 : decode cJ0_isLatin1_aae02 17 = .ok (.iconst 0, 1) := by decide +kernel
theorem dJ0_isLatin1_aae02_18 : decode cJ0_isLatin1_aae02 18 = .ok (.ireturn, 1) := by decide +kernel
set_option maxRecDepth 100000 in
set_option maxHeartbeats 4000000 in
theorem w_J0_isLatin1_aae02 {fr : Nat} (hfr : 0 ≤ fr) (Z : AZ) (X : AX Z cJ0_isLatin1_aae02 1 RJ0 (some .boolean) 0 fr) (a0 : Nat) (h0 : a0 < 2) (s : Mem) (r : Int32 × Mem) (hz : zres Z = (some (.int r.1), r.2)) (h : f_J0_isLatin1_aae02 a0 s = some r) : AW Z s 0 [some (.ref (zk Z a0))] [] := by
  unfold f_J0_isLatin1_aae02 at h
  refine aw_getc X dJ0_isLatin1_aae02_0 sw_RJ0_38 ?_
  refine aw_if_eq (tgt := 17) X dJ0_isLatin1_aae02_3 (by decide) (fun c1 => ?_) (fun c1 => ?_)
  · rw [if_pos c1] at h
    refine aw_iconst (v := 0) X dJ0_isLatin1_aae02_17 (by decide) ?_
    cases h
    exact aw_zret X dJ0_isLatin1_aae02_18 rfl rfl hz.symm
  · rw [if_neg c1] at h
    refine aw_aload_n X dJ0_isLatin1_aae02_6 rfl ?_
    refine aw_scod X dJ0_isLatin1_aae02_7 sw_RJ0_15 h0 ?_
    refine aw_if_ne (tgt := 17) X dJ0_isLatin1_aae02_10 (by decide) (fun c2 => ?_) (fun c2 => ?_)
    · rw [if_neg c2] at h
      refine aw_iconst (v := 0) X dJ0_isLatin1_aae02_17 (by decide) ?_
      cases h
      exact aw_zret X dJ0_isLatin1_aae02_18 rfl rfl hz.symm
    · rw [if_pos c2] at h
      refine aw_iconst (v := 1) X dJ0_isLatin1_aae02_13 (by decide) ?_
      refine aw_goto (tgt := 18) X dJ0_isLatin1_aae02_14 (by decide) ?_
      cases h
      exact aw_zret X dJ0_isLatin1_aae02_18 rfl rfl hz.symm
set_option maxRecDepth 100000 in
set_option maxHeartbeats 4000000 in
theorem ok_J0_isLatin1_aae02 {a0 : Nat} (h0 : a0 < 2) {s : Mem} {r : Int32 × Mem} (h : f_J0_isLatin1_aae02 a0 s = some r) (l : Launch) (D : va_G) (ρ : Nat → Nat) (cA : ClassId × ClassId × ClassId) (τ : AT) : AM l D ρ cA 0 τ yJ0_isLatin1_aae02 cJ0_isLatin1_aae02 1 (some .boolean) 0 [.ref (τ.2.1 a0)] (some (.int r.1)) s r.2 := by
  refine AM_of (L := [some (.ref (τ.2.1 a0))]) (by decide) (by simp [Value.category]) (Nat.le_of_ble_eq_true rfl) (fun j v q => ?_) (fun Z X hρ hz hτ => ?_)
  · exact aL_ok (n := 0) [.ref (τ.2.1 a0)] j v q
  · subst hρ
    subst hτ
    exact w_J0_isLatin1_aae02 (Nat.le_refl _) Z X a0 h0 s r hz h

theorem dJ3_checkIndex_8e157_0 : decode cJ3_checkIndex_8e157 0 = .ok (.iload_n 0, 1) := by decide +kernel
theorem dJ3_checkIndex_8e157_1 : decode cJ3_checkIndex_8e157 1 = .ok (.ifCond .lt 8, 3) := by decide +kernel
theorem dJ3_checkIndex_8e157_4 : decode cJ3_checkIndex_8e157 4 = .ok (.iload_n 0, 1) := by decide +kernel
theorem dJ3_checkIndex_8e157_5 : decode cJ3_checkIndex_8e157 5 = .ok (.iload_n 1, 1) := by decide +kernel
theorem dJ3_checkIndex_8e157_6 : decode cJ3_checkIndex_8e157 6 = .ok (.if_icmp .lt 10, 3) := by decide +kernel
theorem dJ3_checkIndex_8e157_9 : decode cJ3_checkIndex_8e157 9 = .ok (.aload_n 2, 1) := by decide +kernel
theorem dJ3_checkIndex_8e157_10 : decode cJ3_checkIndex_8e157 10 = .ok (.iload_n 0, 1) := by decide +kernel
theorem dJ3_checkIndex_8e157_11 : decode cJ3_checkIndex_8e157 11 = .ok (.iload_n 1, 1) := by decide +kernel
theorem dJ3_checkIndex_8e157_12 : decode cJ3_checkIndex_8e157 12 = .ok (.invokestatic 95, 3) := by decide +kernel
theorem dJ3_checkIndex_8e157_15 : decode cJ3_checkIndex_8e157 15 = .ok (.athrow, 1) := by decide +kernel
theorem dJ3_checkIndex_8e157_16 : decode cJ3_checkIndex_8e157 16 = .ok (.iload_n 0, 1) := by decide +kernel
theorem dJ3_checkIndex_8e157_17 : decode cJ3_checkIndex_8e157 17 = .ok (.ireturn, 1) := by decide +kernel
set_option maxRecDepth 100000 in
set_option maxHeartbeats 4000000 in
theorem jo_J3_checkIndex_8e157_9 {fr : Nat} (hfr : 0 ≤ fr) (Z : AZ) (X : AX Z cJ3_checkIndex_8e157 3 RJ3 (some .int) 0 fr) (x0 : Int32) (x1 : Int32) (s : Mem) (r : Int32 × Mem) (hz : zres Z = (some (.int r.1), r.2)) (h : jn_J3_checkIndex_8e157_9 x0 x1 s = some r) : AW Z s 9 [some (.int x0), some (.int x1), none] [] := by
  unfold jn_J3_checkIndex_8e157_9 at h
  cases h
set_option maxRecDepth 100000 in
set_option maxHeartbeats 4000000 in
theorem w_J3_checkIndex_8e157 {fr : Nat} (hfr : 0 ≤ fr) (Z : AZ) (X : AX Z cJ3_checkIndex_8e157 3 RJ3 (some .int) 0 fr) (x0 : Int32) (x1 : Int32) (s : Mem) (r : Int32 × Mem) (hz : zres Z = (some (.int r.1), r.2)) (h : f_J3_checkIndex_8e157 x0 x1 s = some r) : AW Z s 0 [some (.int x0), some (.int x1), none] [] := by
  unfold f_J3_checkIndex_8e157 at h
  refine aw_iload_n X dJ3_checkIndex_8e157_0 rfl ?_
  refine aw_if_lt (tgt := 9) X dJ3_checkIndex_8e157_1 (by decide) (fun c1 => ?_) (fun c1 => ?_)
  · rw [if_pos c1] at h
    refine aw_msk [true, true, true] ?_
    exact jo_J3_checkIndex_8e157_9 hfr Z X _ _ _ _ hz h
  · rw [if_neg c1] at h
    refine aw_iload_n X dJ3_checkIndex_8e157_4 rfl ?_
    refine aw_iload_n X dJ3_checkIndex_8e157_5 rfl ?_
    refine aw_icmp_lt (tgt := 16) X dJ3_checkIndex_8e157_6 (by decide) (fun c2 => ?_) (fun c2 => ?_)
    · rw [if_pos c2] at h
      refine aw_iload_n X dJ3_checkIndex_8e157_16 rfl ?_
      cases h
      exact aw_iret X dJ3_checkIndex_8e157_17 rfl hz.symm
    · rw [if_neg c2] at h
      refine aw_msk [true, true, true] ?_
      exact jo_J3_checkIndex_8e157_9 hfr Z X _ _ _ _ hz h
set_option maxRecDepth 100000 in
set_option maxHeartbeats 4000000 in
theorem ok_J3_checkIndex_8e157 {w2 : Value} (hw2 : w2.category = 1) {x0 x1 : Int32} {s : Mem} {r : Int32 × Mem} (h : f_J3_checkIndex_8e157 x0 x1 s = some r) (l : Launch) (D : va_G) (ρ : Nat → Nat) (cA : ClassId × ClassId × ClassId) (τ : AT) : AM l D ρ cA 0 τ yJ3_checkIndex_8e157 cJ3_checkIndex_8e157 3 (some .int) 0 [.int x0, .int x1, w2] (some (.int r.1)) s r.2 := by
  refine AM_of (L := [some (.int x0), some (.int x1), none]) (by decide) (fun v hv => by
    simp only [List.mem_cons, List.not_mem_nil, or_false] at hv
    rcases hv with rfl | rfl | rfl
    · rfl
    · rfl
    · exact hw2) (Nat.le_of_ble_eq_true rfl) (fun j v q => ?_) (fun Z X hρ hz hτ => ?_)
  · match j, q with
    | 0, q => simpa using q
    | 1, q => simpa using q
    | 2, q => simp at q
    | j + 3, q => simp at q
  · subst hρ
    subst hτ
    exact w_J3_checkIndex_8e157 (Nat.le_refl _) Z X x0 x1 s r hz h

theorem dJ0_checkIndex_df160_0 : decode cJ0_checkIndex_df160 0 = .ok (.iload_n 0, 1) := by decide +kernel
theorem dJ0_checkIndex_df160_1 : decode cJ0_checkIndex_df160 1 = .ok (.iload_n 1, 1) := by decide +kernel
theorem dJ0_checkIndex_df160_2 : decode cJ0_checkIndex_df160 2 = .ok (.getstatic 1053, 3) := by decide +kernel
theorem dJ0_checkIndex_df160_5 : decode cJ0_checkIndex_df160 5 = .ok (.invokestatic 1059, 3) := by decide +kernel
theorem dJ0_checkIndex_df160_8 : decode cJ0_checkIndex_df160 8 = .ok (.pop, 1) := by decide +kernel
theorem dJ0_checkIndex_df160_9 : decode cJ0_checkIndex_df160 9 = .ok (.return_, 1) := by decide +kernel
set_option maxRecDepth 100000 in
set_option maxHeartbeats 4000000 in
theorem w_J0_checkIndex_df160 {fr : Nat} (hfr : 1 ≤ fr) (Z : AZ) (X : AX Z cJ0_checkIndex_df160 2 RJ0 none 0 fr) (x0 : Int32) (x1 : Int32) (s : Mem) (r : Mem) (hz : zres Z = (none, r)) (h : f_J0_checkIndex_df160 x0 x1 s = some r) : AW Z s 0 [some (.int x0), some (.int x1)] [] := by
  unfold f_J0_checkIndex_df160 at h
  refine aw_iload_n X dJ0_checkIndex_df160_0 rfl ?_
  refine aw_iload_n X dJ0_checkIndex_df160_1 rfl ?_
  refine aw_getq X dJ0_checkIndex_df160_2 sw_RJ0_1053 (fun w1 hw1 => ?_)
  obtain ⟨r2, er2, h⟩ := bnd h
  refine aw_callS X dJ0_checkIndex_df160_5 cv_RJ0_1059 (ok_J3_checkIndex_8e157 hw1 er2 _ _ _ _ _) (Nat.le_trans (by decide) hfr) (by decide) rfl rfl (Nat.le_of_ble_eq_true rfl) ?_
  refine aw_pop X dJ0_checkIndex_df160_8 rfl ?_
  cases h
  exact aw_vret X dJ0_checkIndex_df160_9 rfl hz.symm
set_option maxRecDepth 100000 in
set_option maxHeartbeats 4000000 in
theorem ok_J0_checkIndex_df160 {x0 x1 : Int32} {s : Mem} {r : Mem} (h : f_J0_checkIndex_df160 x0 x1 s = some r) (l : Launch) (D : va_G) (ρ : Nat → Nat) (cA : ClassId × ClassId × ClassId) (τ : AT) : AM l D ρ cA 0 τ yJ0_checkIndex_df160 cJ0_checkIndex_df160 2 none 1 [.int x0, .int x1] none s r := by
  refine AM_of (L := [some (.int x0), some (.int x1)]) (by decide) (by simp [Value.category]) (Nat.le_of_ble_eq_true rfl) (fun j v q => ?_) (fun Z X hρ hz hτ => ?_)
  · exact aL_ok (n := 0) [.int x0, .int x1] j v q
  · subst hρ
    subst hτ
    exact w_J0_checkIndex_df160 (Nat.le_refl _) Z X x0 x1 s r hz h

theorem dJ1_charAt_3b067_0 : decode cJ1_charAt_3b067 0 = .ok (.iload_n 1, 1) := by decide +kernel
theorem dJ1_charAt_3b067_1 : decode cJ1_charAt_3b067 1 = .ok (.aload_n 0, 1) := by decide +kernel
theorem dJ1_charAt_3b067_2 : decode cJ1_charAt_3b067 2 = .ok (.arraylength, 1) := by decide +kernel
theorem dJ1_charAt_3b067_3 : decode cJ1_charAt_3b067 3 = .ok (.invokestatic 9, 3) := by decide +kernel
theorem dJ1_charAt_3b067_6 : decode cJ1_charAt_3b067 6 = .ok (.aload_n 0, 1) := by decide +kernel
theorem dJ1_charAt_3b067_7 : decode cJ1_charAt_3b067 7 = .ok (.iload_n 1, 1) := by decide +kernel
theorem dJ1_charAt_3b067_8 : decode cJ1_charAt_3b067 8 = .ok (.baload, 1) := by decide +kernel
theorem dJ1_charAt_3b067_9 : decode cJ1_charAt_3b067 9 = .ok (.sipush 255, 3) := by decide +kernel
theorem dJ1_charAt_3b067_12 : decode cJ1_charAt_3b067 12 = .ok (.iand, 1) := by decide +kernel
theorem dJ1_charAt_3b067_13 : decode cJ1_charAt_3b067 13 = .ok (.i2c, 1) := by decide +kernel
theorem dJ1_charAt_3b067_14 : decode cJ1_charAt_3b067 14 = .ok (.ireturn, 1) := by decide +kernel
set_option maxRecDepth 100000 in
set_option maxHeartbeats 4000000 in
theorem w_J1_charAt_3b067 {fr : Nat} (hfr : 2 ≤ fr) (Z : AZ) (X : AX Z cJ1_charAt_3b067 2 RJ1 (some .char) 0 fr) (a0 : Nat) (h0 : a0 < 2) (x1 : Int32) (s : Mem) (r : Int32 × Mem) (hz : zres Z = (some (.int r.1), r.2)) (h : f_J1_charAt_3b067 a0 x1 s = some r) : AW Z s 0 [some (.ref (zv Z a0)), some (.int x1)] [] := by
  unfold f_J1_charAt_3b067 at h
  refine aw_iload_n X dJ1_charAt_3b067_0 rfl ?_
  refine aw_aload_n X dJ1_charAt_3b067_1 rfl ?_
  refine aw_slen X dJ1_charAt_3b067_2 h0 ?_
  obtain ⟨r1, er1, h⟩ := bnd h
  refine aw_callS X dJ1_charAt_3b067_3 cv_RJ1_9 (ok_J0_checkIndex_df160 er1 _ _ _ _ _) (Nat.le_trans (by decide) hfr) (by decide) rfl rfl (Nat.le_of_ble_eq_true rfl) ?_
  refine aw_aload_n X dJ1_charAt_3b067_6 rfl ?_
  refine aw_iload_n X dJ1_charAt_3b067_7 rfl ?_
  obtain ⟨v2, ev2, h⟩ := bnd h
  refine aw_sald X dJ1_charAt_3b067_8 h0 ev2 ?_
  refine aw_sipush (v := 255) X dJ1_charAt_3b067_9 (by decide) ?_
  refine aw_iand X dJ1_charAt_3b067_12 ?_
  refine aw_i2c X dJ1_charAt_3b067_13 ?_
  by_cases c3 : ¬ vp_nar .char (i2c (v2 &&& 255)) = (i2c (v2 &&& 255))
  · rw [if_pos c3] at h
    cases h
  rw [if_neg c3] at h
  cases h
  exact aw_zret X dJ1_charAt_3b067_14 rfl (nar_c (Decidable.of_not_not c3)) hz.symm
set_option maxRecDepth 100000 in
set_option maxHeartbeats 4000000 in
theorem ok_J1_charAt_3b067 {a0 : Nat} (h0 : a0 < 2) {x1 : Int32} {s : Mem} {r : Int32 × Mem} (h : f_J1_charAt_3b067 a0 x1 s = some r) (l : Launch) (D : va_G) (ρ : Nat → Nat) (cA : ClassId × ClassId × ClassId) (τ : AT) : AM l D ρ cA 0 τ yJ1_charAt_3b067 cJ1_charAt_3b067 2 (some .char) 2 [.ref (τ.2.2 a0), .int x1] (some (.int r.1)) s r.2 := by
  refine AM_of (L := [some (.ref (τ.2.2 a0)), some (.int x1)]) (by decide) (by simp [Value.category]) (Nat.le_of_ble_eq_true rfl) (fun j v q => ?_) (fun Z X hρ hz hτ => ?_)
  · exact aL_ok (n := 0) [.ref (τ.2.2 a0), .int x1] j v q
  · subst hρ
    subst hτ
    exact w_J1_charAt_3b067 (Nat.le_refl _) Z X a0 h0 x1 s r hz h

theorem dJ0_charAt_5068e_0 : decode cJ0_charAt_5068e 0 = .ok (.aload_n 0, 1) := by decide +kernel
theorem dJ0_charAt_5068e_1 : decode cJ0_charAt_5068e 1 = .ok (.invokevirtual 492, 3) := by decide +kernel
theorem dJ0_charAt_5068e_4 : decode cJ0_charAt_5068e 4 = .ok (.ifCond .eq 12, 3) := by decide +kernel
theorem dJ0_charAt_5068e_7 : decode cJ0_charAt_5068e 7 = .ok (.aload_n 0, 1) := by decide +kernel
theorem dJ0_charAt_5068e_8 : decode cJ0_charAt_5068e 8 = .ok (.getfield 9, 3) := by decide +kernel
theorem dJ0_charAt_5068e_11 : decode cJ0_charAt_5068e 11 = .ok (.iload_n 1, 1) := by decide +kernel
theorem dJ0_charAt_5068e_12 : decode cJ0_charAt_5068e 12 = .ok (.invokestatic 495, 3) := by decide +kernel
theorem dJ0_charAt_5068e_15 : decode cJ0_charAt_5068e 15 = .ok (.ireturn, 1) := by decide +kernel
theorem dJ0_charAt_5068e_16 : decode cJ0_charAt_5068e 16 = .ok (.aload_n 0, 1) := by decide +kernel
theorem dJ0_charAt_5068e_17 : decode cJ0_charAt_5068e 17 = .ok (.getfield 9, 3) := by decide +kernel
theorem dJ0_charAt_5068e_20 : decode cJ0_charAt_5068e 20 = .ok (.iload_n 1, 1) := by decide +kernel
theorem dJ0_charAt_5068e_21 : decode cJ0_charAt_5068e 21 = .ok (.invokestatic 498, 3) := by decide +kernel
theorem dJ0_charAt_5068e_24 : decode cJ0_charAt_5068e 24 = .ok (.ireturn, 1) := by decide +kernel
set_option maxRecDepth 100000 in
set_option maxHeartbeats 4000000 in
theorem w_J0_charAt_5068e {fr : Nat} (hfr : 3 ≤ fr) (Z : AZ) (X : AX Z cJ0_charAt_5068e 2 RJ0 (some .char) 0 fr) (a0 : Nat) (h0 : a0 < 2) (x1 : Int32) (s : Mem) (r : Int32 × Mem) (hz : zres Z = (some (.int r.1), r.2)) (h : f_J0_charAt_5068e a0 x1 s = some r) : AW Z s 0 [some (.ref (zk Z a0)), some (.int x1)] [] := by
  unfold f_J0_charAt_5068e at h
  refine aw_aload_n X dJ0_charAt_5068e_0 rfl ?_
  obtain ⟨r1, er1, h⟩ := bnd h
  refine aw_callT X dJ0_charAt_5068e_1 cv_RJ0_492 (ok_J0_isLatin1_aae02 h0 er1 _ _ _ _ _) h0 rfl (Nat.le_trans (by decide) hfr) (by decide) rfl rfl (Nat.le_of_ble_eq_true rfl) ?_
  refine aw_if_eq (tgt := 16) X dJ0_charAt_5068e_4 (by decide) (fun c2 => ?_) (fun c2 => ?_)
  · rw [if_pos c2] at h
    refine aw_aload_n X dJ0_charAt_5068e_16 rfl ?_
    refine aw_sval X dJ0_charAt_5068e_17 sw_RJ0_9 h0 ?_
    refine aw_iload_n X dJ0_charAt_5068e_20 rfl ?_
    cases h
  · rw [if_neg c2] at h
    refine aw_aload_n X dJ0_charAt_5068e_7 rfl ?_
    refine aw_sval X dJ0_charAt_5068e_8 sw_RJ0_9 h0 ?_
    refine aw_iload_n X dJ0_charAt_5068e_11 rfl ?_
    obtain ⟨r3, er3, h⟩ := bnd h
    refine aw_callS X dJ0_charAt_5068e_12 cv_RJ0_495 (ok_J1_charAt_3b067 h0 er3 _ _ _ _ _) (Nat.le_trans (by decide) hfr) (by decide) rfl rfl (Nat.le_of_ble_eq_true rfl) ?_
    by_cases c4 : ¬ vp_nar .char r3.1 = r3.1
    · rw [if_pos c4] at h
      cases h
    rw [if_neg c4] at h
    cases h
    exact aw_zret X dJ0_charAt_5068e_15 rfl (nar_c (Decidable.of_not_not c4)) hz.symm
set_option maxRecDepth 100000 in
set_option maxHeartbeats 4000000 in
theorem ok_J0_charAt_5068e {a0 : Nat} (h0 : a0 < 2) {x1 : Int32} {s : Mem} {r : Int32 × Mem} (h : f_J0_charAt_5068e a0 x1 s = some r) (l : Launch) (D : va_G) (ρ : Nat → Nat) (cA : ClassId × ClassId × ClassId) (τ : AT) : AM l D ρ cA 0 τ yJ0_charAt_5068e cJ0_charAt_5068e 2 (some .char) 3 [.ref (τ.2.1 a0), .int x1] (some (.int r.1)) s r.2 := by
  refine AM_of (L := [some (.ref (τ.2.1 a0)), some (.int x1)]) (by decide) (by simp [Value.category]) (Nat.le_of_ble_eq_true rfl) (fun j v q => ?_) (fun Z X hρ hz hτ => ?_)
  · exact aL_ok (n := 0) [.ref (τ.2.1 a0), .int x1] j v q
  · subst hρ
    subst hτ
    exact w_J0_charAt_5068e (Nat.le_refl _) Z X a0 h0 x1 s r hz h

theorem dX6_isAt_0 : decode cX6_isAt 0 = .ok (.iload_n 2, 1) := by decide +kernel
theorem dX6_isAt_1 : decode cX6_isAt 1 = .ok (.istore 4, 2) := by decide +kernel
theorem dX6_isAt_3 : decode cX6_isAt 3 = .ok (.iload 4, 2) := by decide +kernel
theorem dX6_isAt_5 : decode cX6_isAt 5 = .ok (.iload_n 3, 1) := by decide +kernel
theorem dX6_isAt_6 : decode cX6_isAt 6 = .ok (.if_icmp .ge 46, 3) := by decide +kernel
theorem dX6_isAt_9 : decode cX6_isAt 9 = .ok (.iload_n 1, 1) := by decide +kernel
theorem dX6_isAt_10 : decode cX6_isAt 10 = .ok (.iload 4, 2) := by decide +kernel
theorem dX6_isAt_12 : decode cX6_isAt 12 = .ok (.iadd, 1) := by decide +kernel
theorem dX6_isAt_13 : decode cX6_isAt 13 = .ok (.iload_n 2, 1) := by decide +kernel
theorem dX6_isAt_14 : decode cX6_isAt 14 = .ok (.isub, 1) := by decide +kernel
theorem dX6_isAt_15 : decode cX6_isAt 15 = .ok (.istore 5, 2) := by decide +kernel
theorem dX6_isAt_17 : decode cX6_isAt 17 = .ok (.iload 5, 2) := by decide +kernel
theorem dX6_isAt_19 : decode cX6_isAt 19 = .ok (.ldc 80, 2) := by decide +kernel
theorem dX6_isAt_21 : decode cX6_isAt 21 = .ok (.invokevirtual 82, 3) := by decide +kernel
theorem dX6_isAt_24 : decode cX6_isAt 24 = .ok (.if_icmp .ge 20, 3) := by decide +kernel
theorem dX6_isAt_27 : decode cX6_isAt 27 = .ok (.ldc 80, 2) := by decide +kernel
theorem dX6_isAt_29 : decode cX6_isAt 29 = .ok (.iload 5, 2) := by decide +kernel
theorem dX6_isAt_31 : decode cX6_isAt 31 = .ok (.invokevirtual 85, 3) := by decide +kernel
theorem dX6_isAt_34 : decode cX6_isAt 34 = .ok (.aload_n 0, 1) := by decide +kernel
theorem dX6_isAt_35 : decode cX6_isAt 35 = .ok (.getfield 30, 3) := by decide +kernel
theorem dX6_isAt_38 : decode cX6_isAt 38 = .ok (.iload 4, 2) := by decide +kernel
theorem dX6_isAt_40 : decode cX6_isAt 40 = .ok (.iaload, 1) := by decide +kernel
theorem dX6_isAt_41 : decode cX6_isAt 41 = .ok (.if_icmp .eq 5, 3) := by decide +kernel
theorem dX6_isAt_44 : decode cX6_isAt 44 = .ok (.iconst 0, 1) := by decide +kernel
theorem dX6_isAt_45 : decode cX6_isAt 45 = .ok (.ireturn, 1) := by decide +kernel
theorem dX6_isAt_46 : decode cX6_isAt 46 = .ok (.iinc 4 1, 3) := by decide +kernel
theorem dX6_isAt_49 : decode cX6_isAt 49 = .ok (.goto (-46), 3) := by decide +kernel
theorem dX6_isAt_52 : decode cX6_isAt 52 = .ok (.iconst 1, 1) := by decide +kernel
theorem dX6_isAt_53 : decode cX6_isAt 53 = .ok (.ireturn, 1) := by decide +kernel
set_option maxRecDepth 100000 in
set_option maxHeartbeats 4000000 in
theorem so_X6_isAt_3 {fr : Nat} (hfr : 4 ≤ fr) (Z : AZ) (X : AX Z cX6_isAt 6 RX6 (some .boolean) 0 fr) (x1 : Int32) (x2 : Int32) (x3 : Int32) (x4 : Int32) (s : Mem) (q : (Int32 × Mem) ⊕ (Nat × Mem)) (h : st_X6_isAt_3 x1 x2 x3 x4 s = some q) (hi : ∀ y : Int32 × Mem, q = .inl y → AW Z y.2 3 [some (.ref (zr Z 173)), some (.int x1), some (.int x2), some (.int x3), some (.int y.1), none] []) (he : ∀ b : Nat × Mem, q = .inr b → (b.1 = 0 → AW Z b.2 44 [none, none, none, none, none, none] []) ∧ (b.1 = 1 → AW Z b.2 52 [none, none, none, none, none, none] [])) : AW Z s 3 [some (.ref (zr Z 173)), some (.int x1), some (.int x2), some (.int x3), some (.int x4), none] [] := by
  unfold st_X6_isAt_3 at h
  refine aw_iload X dX6_isAt_3 rfl ?_
  refine aw_iload_n X dX6_isAt_5 rfl ?_
  refine aw_icmp_ge (tgt := 52) X dX6_isAt_6 (by decide) (fun c1 => ?_) (fun c1 => ?_)
  · rw [if_pos c1] at h
    cases h
    refine aw_msk [false, false, false, false, false, false] ?_
    exact (he _ rfl).2 rfl
  · rw [if_neg c1] at h
    refine aw_iload_n X dX6_isAt_9 rfl ?_
    refine aw_iload X dX6_isAt_10 rfl ?_
    refine aw_iadd X dX6_isAt_12 ?_
    refine aw_iload_n X dX6_isAt_13 rfl ?_
    refine aw_isub X dX6_isAt_14 ?_
    refine aw_istore (L' := [some (.ref (zr Z 173)), some (.int x1), some (.int x2), some (.int x3), some (.int x4), some (.int ((x1 + x4) - x2))]) X dX6_isAt_15 (by decide) rfl ?_
    refine aw_iload X dX6_isAt_17 rfl ?_
    refine aw_lds0 X dX6_isAt_19 ?_
    obtain ⟨r2, er2, h⟩ := bnd h
    refine aw_callT X dX6_isAt_21 cv_RX6_82 (ok_J0_length_8abf5 (by decide) er2 _ _ _ _ _) (by decide) rfl (Nat.le_trans (by decide) hfr) (by decide) rfl rfl (Nat.le_of_ble_eq_true rfl) ?_
    refine aw_icmp_ge (tgt := 44) X dX6_isAt_24 (by decide) (fun c3 => ?_) (fun c3 => ?_)
    · rw [if_pos c3] at h
      cases h
      refine aw_msk [false, false, false, false, false, false] ?_
      exact (he _ rfl).1 rfl
    · rw [if_neg c3] at h
      refine aw_lds0 X dX6_isAt_27 ?_
      refine aw_iload X dX6_isAt_29 rfl ?_
      obtain ⟨r4, er4, h⟩ := bnd h
      refine aw_callT X dX6_isAt_31 cv_RX6_85 (ok_J0_charAt_5068e (by decide) er4 _ _ _ _ _) (by decide) rfl (Nat.le_trans (by decide) hfr) (by decide) rfl rfl (Nat.le_of_ble_eq_true rfl) ?_
      refine aw_aload_n X dX6_isAt_34 rfl ?_
      refine aw_getr X dX6_isAt_35 fl_RX6_30 iu_RX6 gu_RX6_6 ?_
      refine aw_iload X dX6_isAt_38 rfl ?_
      obtain ⟨v5, ev5, h⟩ := bnd h
      refine aw_iald X dX6_isAt_40 iu_RX6_6 ev5 ?_
      refine aw_icmp_eq (tgt := 46) X dX6_isAt_41 (by decide) (fun c6 => ?_) (fun c6 => ?_)
      · rw [if_pos c6] at h
        refine aw_iinc (v := (x4 + 1)) (L' := [some (.ref (zr Z 173)), some (.int x1), some (.int x2), some (.int x3), some (.int (x4 + 1)), some (.int ((x1 + x4) - x2))]) X dX6_isAt_46 rfl rfl (by decide) rfl ?_
        refine aw_goto (tgt := 3) X dX6_isAt_49 (by decide) ?_
        cases h
        refine aw_msk [true, true, true, true, true, false] ?_
        exact hi _ rfl
      · rw [if_neg c6] at h
        cases h
        refine aw_msk [false, false, false, false, false, false] ?_
        exact (he _ rfl).1 rfl
set_option maxRecDepth 100000 in
set_option maxHeartbeats 4000000 in
theorem w_X6_isAt {fr : Nat} (hfr : 4 ≤ fr) (Z : AZ) (X : AX Z cX6_isAt 6 RX6 (some .boolean) 0 fr) (x1 : Int32) (x2 : Int32) (x3 : Int32) (s : Mem) (r : Int32 × Mem) (hz : zres Z = (some (.int r.1), r.2)) (h : f_X6_isAt x1 x2 x3 s = some r) : AW Z s 0 [some (.ref (zr Z 173)), some (.int x1), some (.int x2), some (.int x3), none, none] [] := by
  unfold f_X6_isAt at h
  refine aw_iload_n X dX6_isAt_0 rfl ?_
  refine aw_istore (L' := [some (.ref (zr Z 173)), some (.int x1), some (.int x2), some (.int x3), some (.int x2), none]) X dX6_isAt_1 (by decide) rfl ?_
  obtain ⟨r7, er7, h⟩ := bnd h
  refine aw_msk [true, true, true, true, true, false] ?_
  refine it_ok (P := fun y : Int32 × Mem => AW Z y.2 3 [some (.ref (zr Z 173)), some (.int x1), some (.int x2), some (.int x3), some (.int y.1), none] []) (Q := fun b : Nat × Mem => (b.1 = 0 → AW Z b.2 44 [none, none, none, none, none, none] []) ∧ (b.1 = 1 → AW Z b.2 52 [none, none, none, none, none, none] [])) (fun y q hq hi he => so_X6_isAt_3 hfr Z X x1 x2 x3 y.1 y.2 q hq hi he) FUEL _ _ er7 ?_
  refine ⟨fun c0 => ?_, fun c1 => ?_⟩
  · rw [if_pos c0] at h
    refine aw_iconst (v := 0) X dX6_isAt_44 (by decide) ?_
    cases h
    exact aw_zret X dX6_isAt_45 rfl rfl hz.symm
  · rw [if_neg (by rw [c1]; decide)] at h
    refine aw_iconst (v := 1) X dX6_isAt_52 (by decide) ?_
    cases h
    exact aw_zret X dX6_isAt_53 rfl rfl hz.symm
set_option maxRecDepth 100000 in
set_option maxHeartbeats 4000000 in
theorem ok_X6_isAt {x1 x2 x3 : Int32} {s : Mem} {r : Int32 × Mem} (h : f_X6_isAt x1 x2 x3 s = some r) (l : Launch) (D : va_G) (ρ : Nat → Nat) (cA : ClassId × ClassId × ClassId) (τ : AT) : AM l D ρ cA 0 τ yX6_isAt cX6_isAt 6 (some .boolean) 4 [.ref (ρ 173), .int x1, .int x2, .int x3] (some (.int r.1)) s r.2 := by
  refine AM_of (L := [some (.ref (ρ 173)), some (.int x1), some (.int x2), some (.int x3), none, none]) (by decide) (by simp [Value.category]) (Nat.le_of_ble_eq_true rfl) (fun j v q => ?_) (fun Z X hρ hz hτ => ?_)
  · exact aL_ok (n := 2) [.ref (ρ 173), .int x1, .int x2, .int x3] j v q
  · subst hρ
    subst hτ
    exact w_X6_isAt (Nat.le_refl _) Z X x1 x2 x3 s r hz h

theorem dX6_keyword_0 : decode cX6_keyword 0 = .ok (.iconst 0, 1) := by decide +kernel
theorem dX6_keyword_1 : decode cX6_keyword 1 = .ok (.istore_n 3, 1) := by decide +kernel
theorem dX6_keyword_2 : decode cX6_keyword 2 = .ok (.iconst 0, 1) := by decide +kernel
theorem dX6_keyword_3 : decode cX6_keyword 3 = .ok (.istore 4, 2) := by decide +kernel
theorem dX6_keyword_5 : decode cX6_keyword 5 = .ok (.iconst 0, 1) := by decide +kernel
theorem dX6_keyword_6 : decode cX6_keyword 6 = .ok (.istore 5, 2) := by decide +kernel
theorem dX6_keyword_8 : decode cX6_keyword 8 = .ok (.iload 5, 2) := by decide +kernel
theorem dX6_keyword_10 : decode cX6_keyword 10 = .ok (.ldc 80, 2) := by decide +kernel
theorem dX6_keyword_12 : decode cX6_keyword 12 = .ok (.invokevirtual 82, 3) := by decide +kernel
theorem dX6_keyword_15 : decode cX6_keyword 15 = .ok (.if_icmp .ge 54, 3) := by decide +kernel
theorem dX6_keyword_18 : decode cX6_keyword 18 = .ok (.ldc 80, 2) := by decide +kernel
theorem dX6_keyword_20 : decode cX6_keyword 20 = .ok (.iload 5, 2) := by decide +kernel
theorem dX6_keyword_22 : decode cX6_keyword 22 = .ok (.invokevirtual 85, 3) := by decide +kernel
theorem dX6_keyword_25 : decode cX6_keyword 25 = .ok (.bipush 32, 2) := by decide +kernel
theorem dX6_keyword_27 : decode cX6_keyword 27 = .ok (.if_icmp .ne 36, 3) := by decide +kernel
theorem dX6_keyword_30 : decode cX6_keyword 30 = .ok (.iload 5, 2) := by decide +kernel
theorem dX6_keyword_32 : decode cX6_keyword 32 = .ok (.iload 4, 2) := by decide +kernel
theorem dX6_keyword_34 : decode cX6_keyword 34 = .ok (.isub, 1) := by decide +kernel
theorem dX6_keyword_35 : decode cX6_keyword 35 = .ok (.iload_n 2, 1) := by decide +kernel
theorem dX6_keyword_36 : decode cX6_keyword 36 = .ok (.iload_n 1, 1) := by decide +kernel
theorem dX6_keyword_37 : decode cX6_keyword 37 = .ok (.isub, 1) := by decide +kernel
theorem dX6_keyword_38 : decode cX6_keyword 38 = .ok (.if_icmp .ne 16, 3) := by decide +kernel
theorem dX6_keyword_41 : decode cX6_keyword 41 = .ok (.aload_n 0, 1) := by decide +kernel
theorem dX6_keyword_42 : decode cX6_keyword 42 = .ok (.iload 4, 2) := by decide +kernel
theorem dX6_keyword_44 : decode cX6_keyword 44 = .ok (.iload_n 1, 1) := by decide +kernel
theorem dX6_keyword_45 : decode cX6_keyword 45 = .ok (.iload_n 2, 1) := by decide +kernel
theorem dX6_keyword_46 : decode cX6_keyword 46 = .ok (.invokevirtual 89, 3) := by decide +kernel
theorem dX6_keyword_49 : decode cX6_keyword 49 = .ok (.ifCond .eq 5, 3) := by decide +kernel
theorem dX6_keyword_52 : decode cX6_keyword 52 = .ok (.iload_n 3, 1) := by decide +kernel
theorem dX6_keyword_53 : decode cX6_keyword 53 = .ok (.ireturn, 1) := by decide +kernel
theorem dX6_keyword_54 : decode cX6_keyword 54 = .ok (.iinc 3 1, 3) := by decide +kernel
theorem dX6_keyword_57 : decode cX6_keyword 57 = .ok (.iload 5, 2) := by decide +kernel
theorem dX6_keyword_59 : decode cX6_keyword 59 = .ok (.iconst 1, 1) := by decide +kernel
theorem dX6_keyword_60 : decode cX6_keyword 60 = .ok (.iadd, 1) := by decide +kernel
theorem dX6_keyword_61 : decode cX6_keyword 61 = .ok (.istore 4, 2) := by decide +kernel
theorem dX6_keyword_63 : decode cX6_keyword 63 = .ok (.iinc 5 1, 3) := by decide +kernel
theorem dX6_keyword_66 : decode cX6_keyword 66 = .ok (.goto (-58), 3) := by decide +kernel
theorem dX6_keyword_69 : decode cX6_keyword 69 = .ok (.iconst (-1), 1) := by decide +kernel
theorem dX6_keyword_70 : decode cX6_keyword 70 = .ok (.ireturn, 1) := by decide +kernel
set_option maxRecDepth 100000 in
set_option maxHeartbeats 4000000 in
theorem jo_X6_keyword_54 {fr : Nat} (hfr : 5 ≤ fr) (Z : AZ) (X : AX Z cX6_keyword 6 RX6 (some .int) 0 fr) (x1 : Int32) (x2 : Int32) (x3 : Int32) (x5 : Int32) (s : Mem) (q : (Int32 × Int32 × Int32 × Mem) ⊕ (Nat × Int32 × Mem)) (h : jn_X6_keyword_54 x1 x2 x3 x5 s = some q) (hi : ∀ y : Int32 × Int32 × Int32 × Mem, q = .inl y → AW Z y.2.2.2 8 [some (.ref (zr Z 173)), some (.int x1), some (.int x2), some (.int y.1), some (.int y.2.1), some (.int y.2.2.1)] []) (he : ∀ b : Nat × Int32 × Mem, q = .inr b → (b.1 = 0 → AW Z b.2.2 52 [none, none, none, some (.int b.2.1), none, none] []) ∧ (b.1 = 1 → AW Z b.2.2 69 [none, none, none, none, none, none] [])) : AW Z s 54 [some (.ref (zr Z 173)), some (.int x1), some (.int x2), some (.int x3), none, some (.int x5)] [] := by
  unfold jn_X6_keyword_54 at h
  refine aw_iinc (v := (x3 + 1)) (L' := [some (.ref (zr Z 173)), some (.int x1), some (.int x2), some (.int (x3 + 1)), none, some (.int x5)]) X dX6_keyword_54 rfl rfl (by decide) rfl ?_
  refine aw_iload X dX6_keyword_57 rfl ?_
  refine aw_iconst (v := 1) X dX6_keyword_59 (by decide) ?_
  refine aw_iadd X dX6_keyword_60 ?_
  refine aw_istore (L' := [some (.ref (zr Z 173)), some (.int x1), some (.int x2), some (.int (x3 + 1)), some (.int (x5 + 1)), some (.int x5)]) X dX6_keyword_61 (by decide) rfl ?_
  refine aw_iinc (v := (x5 + 1)) (L' := [some (.ref (zr Z 173)), some (.int x1), some (.int x2), some (.int (x3 + 1)), some (.int (x5 + 1)), some (.int (x5 + 1))]) X dX6_keyword_63 rfl rfl (by decide) rfl ?_
  refine aw_goto (tgt := 8) X dX6_keyword_66 (by decide) ?_
  cases h
  refine aw_msk [true, true, true, true, true, true] ?_
  exact hi _ rfl
set_option maxRecDepth 100000 in
set_option maxHeartbeats 4000000 in
theorem so_X6_keyword_8 {fr : Nat} (hfr : 5 ≤ fr) (Z : AZ) (X : AX Z cX6_keyword 6 RX6 (some .int) 0 fr) (x1 : Int32) (x2 : Int32) (x3 : Int32) (x4 : Int32) (x5 : Int32) (s : Mem) (q : (Int32 × Int32 × Int32 × Mem) ⊕ (Nat × Int32 × Mem)) (h : st_X6_keyword_8 x1 x2 x3 x4 x5 s = some q) (hi : ∀ y : Int32 × Int32 × Int32 × Mem, q = .inl y → AW Z y.2.2.2 8 [some (.ref (zr Z 173)), some (.int x1), some (.int x2), some (.int y.1), some (.int y.2.1), some (.int y.2.2.1)] []) (he : ∀ b : Nat × Int32 × Mem, q = .inr b → (b.1 = 0 → AW Z b.2.2 52 [none, none, none, some (.int b.2.1), none, none] []) ∧ (b.1 = 1 → AW Z b.2.2 69 [none, none, none, none, none, none] [])) : AW Z s 8 [some (.ref (zr Z 173)), some (.int x1), some (.int x2), some (.int x3), some (.int x4), some (.int x5)] [] := by
  unfold st_X6_keyword_8 at h
  refine aw_iload X dX6_keyword_8 rfl ?_
  refine aw_lds0 X dX6_keyword_10 ?_
  obtain ⟨r1, er1, h⟩ := bnd h
  refine aw_callT X dX6_keyword_12 cv_RX6_82 (ok_J0_length_8abf5 (by decide) er1 _ _ _ _ _) (by decide) rfl (Nat.le_trans (by decide) hfr) (by decide) rfl rfl (Nat.le_of_ble_eq_true rfl) ?_
  refine aw_icmp_ge (tgt := 69) X dX6_keyword_15 (by decide) (fun c2 => ?_) (fun c2 => ?_)
  · rw [if_pos c2] at h
    cases h
    refine aw_msk [false, false, false, false, false, false] ?_
    exact (he _ rfl).2 rfl
  · rw [if_neg c2] at h
    refine aw_lds0 X dX6_keyword_18 ?_
    refine aw_iload X dX6_keyword_20 rfl ?_
    obtain ⟨r3, er3, h⟩ := bnd h
    refine aw_callT X dX6_keyword_22 cv_RX6_85 (ok_J0_charAt_5068e (by decide) er3 _ _ _ _ _) (by decide) rfl (Nat.le_trans (by decide) hfr) (by decide) rfl rfl (Nat.le_of_ble_eq_true rfl) ?_
    refine aw_bipush (v := 32) X dX6_keyword_25 (by decide) ?_
    refine aw_icmp_ne (tgt := 63) X dX6_keyword_27 (by decide) (fun c4 => ?_) (fun c4 => ?_)
    · rw [if_neg c4] at h
      refine aw_iinc (v := (x5 + 1)) (L' := [some (.ref (zr Z 173)), some (.int x1), some (.int x2), some (.int x3), some (.int x4), some (.int (x5 + 1))]) X dX6_keyword_63 rfl rfl (by decide) rfl ?_
      refine aw_goto (tgt := 8) X dX6_keyword_66 (by decide) ?_
      cases h
      refine aw_msk [true, true, true, true, true, true] ?_
      exact hi _ rfl
    · rw [if_pos c4] at h
      refine aw_iload X dX6_keyword_30 rfl ?_
      refine aw_iload X dX6_keyword_32 rfl ?_
      refine aw_isub X dX6_keyword_34 ?_
      refine aw_iload_n X dX6_keyword_35 rfl ?_
      refine aw_iload_n X dX6_keyword_36 rfl ?_
      refine aw_isub X dX6_keyword_37 ?_
      refine aw_icmp_ne (tgt := 54) X dX6_keyword_38 (by decide) (fun c5 => ?_) (fun c5 => ?_)
      · rw [if_neg c5] at h
        refine aw_msk [true, true, true, true, false, true] ?_
        exact jo_X6_keyword_54 hfr Z X _ _ _ _ _ _ h hi he
      · rw [if_pos c5] at h
        refine aw_aload_n X dX6_keyword_41 rfl ?_
        refine aw_iload X dX6_keyword_42 rfl ?_
        refine aw_iload_n X dX6_keyword_44 rfl ?_
        refine aw_iload_n X dX6_keyword_45 rfl ?_
        obtain ⟨r6, er6, h⟩ := bnd h
        refine aw_callV X dX6_keyword_46 cv_RX6_89 (ok_X6_isAt er6 _ _ _ _ _) iu_RX6 rfl (Nat.le_trans (by decide) hfr) (by decide) rfl rfl (Nat.le_of_ble_eq_true rfl) ?_
        refine aw_if_eq (tgt := 54) X dX6_keyword_49 (by decide) (fun c7 => ?_) (fun c7 => ?_)
        · rw [if_pos c7] at h
          refine aw_msk [true, true, true, true, false, true] ?_
          exact jo_X6_keyword_54 hfr Z X _ _ _ _ _ _ h hi he
        · rw [if_neg c7] at h
          cases h
          refine aw_msk [false, false, false, true, false, false] ?_
          exact (he _ rfl).1 rfl
set_option maxRecDepth 100000 in
set_option maxHeartbeats 4000000 in
theorem w_X6_keyword {fr : Nat} (hfr : 5 ≤ fr) (Z : AZ) (X : AX Z cX6_keyword 6 RX6 (some .int) 0 fr) (x1 : Int32) (x2 : Int32) (s : Mem) (r : Int32 × Mem) (hz : zres Z = (some (.int r.1), r.2)) (h : f_X6_keyword x1 x2 s = some r) : AW Z s 0 [some (.ref (zr Z 173)), some (.int x1), some (.int x2), none, none, none] [] := by
  unfold f_X6_keyword at h
  refine aw_iconst (v := 0) X dX6_keyword_0 (by decide) ?_
  refine aw_istore_n (L' := [some (.ref (zr Z 173)), some (.int x1), some (.int x2), some (.int 0), none, none]) X dX6_keyword_1 (by decide) rfl ?_
  refine aw_iconst (v := 0) X dX6_keyword_2 (by decide) ?_
  refine aw_istore (L' := [some (.ref (zr Z 173)), some (.int x1), some (.int x2), some (.int 0), some (.int 0), none]) X dX6_keyword_3 (by decide) rfl ?_
  refine aw_iconst (v := 0) X dX6_keyword_5 (by decide) ?_
  refine aw_istore (L' := [some (.ref (zr Z 173)), some (.int x1), some (.int x2), some (.int 0), some (.int 0), some (.int 0)]) X dX6_keyword_6 (by decide) rfl ?_
  obtain ⟨r8, er8, h⟩ := bnd h
  refine aw_msk [true, true, true, true, true, true] ?_
  refine it_ok (P := fun y : Int32 × Int32 × Int32 × Mem => AW Z y.2.2.2 8 [some (.ref (zr Z 173)), some (.int x1), some (.int x2), some (.int y.1), some (.int y.2.1), some (.int y.2.2.1)] []) (Q := fun b : Nat × Int32 × Mem => (b.1 = 0 → AW Z b.2.2 52 [none, none, none, some (.int b.2.1), none, none] []) ∧ (b.1 = 1 → AW Z b.2.2 69 [none, none, none, none, none, none] [])) (fun y q hq hi he => so_X6_keyword_8 hfr Z X x1 x2 y.1 y.2.1 y.2.2.1 y.2.2.2 q hq hi he) FUEL _ _ er8 ?_
  refine ⟨fun c0 => ?_, fun c1 => ?_⟩
  · rw [if_pos c0] at h
    refine aw_iload_n X dX6_keyword_52 rfl ?_
    cases h
    exact aw_iret X dX6_keyword_53 rfl hz.symm
  · rw [if_neg (by rw [c1]; decide)] at h
    refine aw_iconst (v := (-1)) X dX6_keyword_69 (by decide) ?_
    cases h
    exact aw_iret X dX6_keyword_70 rfl hz.symm
set_option maxRecDepth 100000 in
set_option maxHeartbeats 4000000 in
theorem ok_X6_keyword {x1 x2 : Int32} {s : Mem} {r : Int32 × Mem} (h : f_X6_keyword x1 x2 s = some r) (l : Launch) (D : va_G) (ρ : Nat → Nat) (cA : ClassId × ClassId × ClassId) (τ : AT) : AM l D ρ cA 0 τ yX6_keyword cX6_keyword 6 (some .int) 5 [.ref (ρ 173), .int x1, .int x2] (some (.int r.1)) s r.2 := by
  refine AM_of (L := [some (.ref (ρ 173)), some (.int x1), some (.int x2), none, none, none]) (by decide) (by simp [Value.category]) (Nat.le_of_ble_eq_true rfl) (fun j v q => ?_) (fun Z X hρ hz hτ => ?_)
  · exact aL_ok (n := 3) [.ref (ρ 173), .int x1, .int x2] j v q
  · subst hρ
    subst hτ
    exact w_X6_keyword (Nat.le_refl _) Z X x1 x2 s r hz h

theorem dX6_addToken_0 : decode cX6_addToken 0 = .ok (.aload_n 0, 1) := by decide +kernel
theorem dX6_addToken_1 : decode cX6_addToken 1 = .ok (.getfield 24, 3) := by decide +kernel
theorem dX6_addToken_4 : decode cX6_addToken 4 = .ok (.sipush 400, 3) := by decide +kernel
theorem dX6_addToken_7 : decode cX6_addToken 7 = .ok (.if_icmp .ge 43, 3) := by decide +kernel
theorem dX6_addToken_10 : decode cX6_addToken 10 = .ok (.aload_n 0, 1) := by decide +kernel
theorem dX6_addToken_11 : decode cX6_addToken 11 = .ok (.getfield 34, 3) := by decide +kernel
theorem dX6_addToken_14 : decode cX6_addToken 14 = .ok (.aload_n 0, 1) := by decide +kernel
theorem dX6_addToken_15 : decode cX6_addToken 15 = .ok (.getfield 24, 3) := by decide +kernel
theorem dX6_addToken_18 : decode cX6_addToken 18 = .ok (.iload_n 1, 1) := by decide +kernel
theorem dX6_addToken_19 : decode cX6_addToken 19 = .ok (.iastore, 1) := by decide +kernel
theorem dX6_addToken_20 : decode cX6_addToken 20 = .ok (.aload_n 0, 1) := by decide +kernel
theorem dX6_addToken_21 : decode cX6_addToken 21 = .ok (.getfield 37, 3) := by decide +kernel
theorem dX6_addToken_24 : decode cX6_addToken 24 = .ok (.aload_n 0, 1) := by decide +kernel
theorem dX6_addToken_25 : decode cX6_addToken 25 = .ok (.getfield 24, 3) := by decide +kernel
theorem dX6_addToken_28 : decode cX6_addToken 28 = .ok (.iload_n 2, 1) := by decide +kernel
theorem dX6_addToken_29 : decode cX6_addToken 29 = .ok (.iastore, 1) := by decide +kernel
theorem dX6_addToken_30 : decode cX6_addToken 30 = .ok (.aload_n 0, 1) := by decide +kernel
theorem dX6_addToken_31 : decode cX6_addToken 31 = .ok (.getfield 40, 3) := by decide +kernel
theorem dX6_addToken_34 : decode cX6_addToken 34 = .ok (.aload_n 0, 1) := by decide +kernel
theorem dX6_addToken_35 : decode cX6_addToken 35 = .ok (.getfield 24, 3) := by decide +kernel
theorem dX6_addToken_38 : decode cX6_addToken 38 = .ok (.iload_n 3, 1) := by decide +kernel
theorem dX6_addToken_39 : decode cX6_addToken 39 = .ok (.iastore, 1) := by decide +kernel
theorem dX6_addToken_40 : decode cX6_addToken 40 = .ok (.aload_n 0, 1) := by decide +kernel
theorem dX6_addToken_41 : decode cX6_addToken 41 = .ok (.dup, 1) := by decide +kernel
theorem dX6_addToken_42 : decode cX6_addToken 42 = .ok (.getfield 24, 3) := by decide +kernel
theorem dX6_addToken_45 : decode cX6_addToken 45 = .ok (.iconst 1, 1) := by decide +kernel
theorem dX6_addToken_46 : decode cX6_addToken 46 = .ok (.iadd, 1) := by decide +kernel
theorem dX6_addToken_47 : decode cX6_addToken 47 = .ok (.putfield 24, 3) := by decide +kernel
theorem dX6_addToken_50 : decode cX6_addToken 50 = .ok (.return_, 1) := by decide +kernel
set_option maxRecDepth 100000 in
set_option maxHeartbeats 4000000 in
theorem w_X6_addToken {fr : Nat} (hfr : 0 ≤ fr) (Z : AZ) (X : AX Z cX6_addToken 4 RX6 none 0 fr) (x1 : Int32) (x2 : Int32) (x3 : Int32) (s : Mem) (r : Mem) (hz : zres Z = (none, r)) (h : f_X6_addToken x1 x2 x3 s = some r) : AW Z s 0 [some (.ref (zr Z 173)), some (.int x1), some (.int x2), some (.int x3)] [] := by
  unfold f_X6_addToken at h
  refine aw_aload_n X dX6_addToken_0 rfl ?_
  refine aw_geti X dX6_addToken_1 fl_RX6_24 iu_RX6 gu_RX6_4 ?_
  refine aw_sipush (v := 400) X dX6_addToken_4 (by decide) ?_
  refine aw_icmp_ge (tgt := 50) X dX6_addToken_7 (by decide) (fun c1 => ?_) (fun c1 => ?_)
  · rw [if_pos c1] at h
    cases h
    exact aw_vret X dX6_addToken_50 rfl hz.symm
  · rw [if_neg c1] at h
    refine aw_aload_n X dX6_addToken_10 rfl ?_
    refine aw_getr X dX6_addToken_11 fl_RX6_34 iu_RX6 gu_RX6_7 ?_
    refine aw_aload_n X dX6_addToken_14 rfl ?_
    refine aw_geti X dX6_addToken_15 fl_RX6_24 iu_RX6 gu_RX6_4 ?_
    refine aw_iload_n X dX6_addToken_18 rfl ?_
    obtain ⟨s2, es2, h⟩ := bnd h
    refine aw_iast X dX6_addToken_19 iu_RX6_7 es2 ?_
    refine aw_aload_n X dX6_addToken_20 rfl ?_
    refine aw_getr X dX6_addToken_21 fl_RX6_37 iu_RX6 gu_RX6_8 ?_
    refine aw_aload_n X dX6_addToken_24 rfl ?_
    refine aw_geti X dX6_addToken_25 fl_RX6_24 iu_RX6 gu_RX6_4 ?_
    refine aw_iload_n X dX6_addToken_28 rfl ?_
    obtain ⟨s3, es3, h⟩ := bnd h
    refine aw_iast X dX6_addToken_29 iu_RX6_8 es3 ?_
    refine aw_aload_n X dX6_addToken_30 rfl ?_
    refine aw_getr X dX6_addToken_31 fl_RX6_40 iu_RX6 gu_RX6_9 ?_
    refine aw_aload_n X dX6_addToken_34 rfl ?_
    refine aw_geti X dX6_addToken_35 fl_RX6_24 iu_RX6 gu_RX6_4 ?_
    refine aw_iload_n X dX6_addToken_38 rfl ?_
    obtain ⟨s4, es4, h⟩ := bnd h
    refine aw_iast X dX6_addToken_39 iu_RX6_9 es4 ?_
    refine aw_aload_n X dX6_addToken_40 rfl ?_
    refine aw_dup X dX6_addToken_41 rfl ?_
    refine aw_geti X dX6_addToken_42 fl_RX6_24 iu_RX6 gu_RX6_4 ?_
    refine aw_iconst (v := 1) X dX6_addToken_45 (by decide) ?_
    refine aw_iadd X dX6_addToken_46 ?_
    refine aw_put X dX6_addToken_47 fp_RX6_24 iu_RX6 gu_RX6_4 rfl rfl ?_
    cases h
    exact aw_vret X dX6_addToken_50 rfl hz.symm
set_option maxRecDepth 100000 in
set_option maxHeartbeats 4000000 in
theorem ok_X6_addToken {x1 x2 x3 : Int32} {s : Mem} {r : Mem} (h : f_X6_addToken x1 x2 x3 s = some r) (l : Launch) (D : va_G) (ρ : Nat → Nat) (cA : ClassId × ClassId × ClassId) (τ : AT) : AM l D ρ cA 0 τ yX6_addToken cX6_addToken 4 none 0 [.ref (ρ 173), .int x1, .int x2, .int x3] none s r := by
  refine AM_of (L := [some (.ref (ρ 173)), some (.int x1), some (.int x2), some (.int x3)]) (by decide) (by simp [Value.category]) (Nat.le_of_ble_eq_true rfl) (fun j v q => ?_) (fun Z X hρ hz hτ => ?_)
  · exact aL_ok (n := 0) [.ref (ρ 173), .int x1, .int x2, .int x3] j v q
  · subst hρ
    subst hτ
    exact w_X6_addToken (Nat.le_refl _) Z X x1 x2 x3 s r hz h

theorem dX6_isDigit_0 : decode cX6_isDigit 0 = .ok (.iload_n 0, 1) := by decide +kernel
theorem dX6_isDigit_1 : decode cX6_isDigit 1 = .ok (.bipush 48, 2) := by decide +kernel
theorem dX6_isDigit_3 : decode cX6_isDigit 3 = .ok (.if_icmp .lt 13, 3) := by decide +kernel
theorem dX6_isDigit_6 : decode cX6_isDigit 6 = .ok (.iload_n 0, 1) := by decide +kernel
theorem dX6_isDigit_7 : decode cX6_isDigit 7 = .ok (.bipush 57, 2) := by decide +kernel
theorem dX6_isDigit_9 : decode cX6_isDigit 9 = .ok (.if_icmp .gt 7, 3) := by decide +kernel
theorem dX6_isDigit_12 : decode cX6_isDigit 12 = .ok (.iconst 1, 1) := by decide +kernel
theorem dX6_isDigit_13 : decode cX6_isDigit 13 = .ok (.goto 4, 3) := by decide +kernel
theorem dX6_isDigit_16 : decode cX6_isDigit 16 = .ok (.iconst 0, 1) := by decide +kernel
theorem dX6_isDigit_17 : decode cX6_isDigit 17 = .ok (.ireturn, 1) := by decide +kernel
set_option maxRecDepth 100000 in
set_option maxHeartbeats 4000000 in
theorem w_X6_isDigit {fr : Nat} (hfr : 0 ≤ fr) (Z : AZ) (X : AX Z cX6_isDigit 1 RX6 (some .boolean) 0 fr) (x0 : Int32) (s : Mem) (r : Int32 × Mem) (hz : zres Z = (some (.int r.1), r.2)) (h : f_X6_isDigit x0 s = some r) : AW Z s 0 [some (.int x0)] [] := by
  unfold f_X6_isDigit at h
  refine aw_iload_n X dX6_isDigit_0 rfl ?_
  refine aw_bipush (v := 48) X dX6_isDigit_1 (by decide) ?_
  refine aw_icmp_lt (tgt := 16) X dX6_isDigit_3 (by decide) (fun c1 => ?_) (fun c1 => ?_)
  · rw [if_pos c1] at h
    refine aw_iconst (v := 0) X dX6_isDigit_16 (by decide) ?_
    cases h
    exact aw_zret X dX6_isDigit_17 rfl rfl hz.symm
  · rw [if_neg c1] at h
    refine aw_iload_n X dX6_isDigit_6 rfl ?_
    refine aw_bipush (v := 57) X dX6_isDigit_7 (by decide) ?_
    refine aw_icmp_gt (tgt := 16) X dX6_isDigit_9 (by decide) (fun c2 => ?_) (fun c2 => ?_)
    · rw [if_pos c2] at h
      refine aw_iconst (v := 0) X dX6_isDigit_16 (by decide) ?_
      cases h
      exact aw_zret X dX6_isDigit_17 rfl rfl hz.symm
    · rw [if_neg c2] at h
      refine aw_iconst (v := 1) X dX6_isDigit_12 (by decide) ?_
      refine aw_goto (tgt := 17) X dX6_isDigit_13 (by decide) ?_
      cases h
      exact aw_zret X dX6_isDigit_17 rfl rfl hz.symm
set_option maxRecDepth 100000 in
set_option maxHeartbeats 4000000 in
theorem ok_X6_isDigit {x0 : Int32} {s : Mem} {r : Int32 × Mem} (h : f_X6_isDigit x0 s = some r) (l : Launch) (D : va_G) (ρ : Nat → Nat) (cA : ClassId × ClassId × ClassId) (τ : AT) : AM l D ρ cA 0 τ yX6_isDigit cX6_isDigit 1 (some .boolean) 0 [.int x0] (some (.int r.1)) s r.2 := by
  refine AM_of (L := [some (.int x0)]) (by decide) (by simp [Value.category]) (Nat.le_of_ble_eq_true rfl) (fun j v q => ?_) (fun Z X hρ hz hτ => ?_)
  · exact aL_ok (n := 0) [.int x0] j v q
  · subst hρ
    subst hτ
    exact w_X6_isDigit (Nat.le_refl _) Z X x0 s r hz h

theorem dX6_digitsEnd_0 : decode cX6_digitsEnd 0 = .ok (.iload_n 1, 1) := by decide +kernel
theorem dX6_digitsEnd_1 : decode cX6_digitsEnd 1 = .ok (.istore_n 2, 1) := by decide +kernel
theorem dX6_digitsEnd_2 : decode cX6_digitsEnd 2 = .ok (.iload_n 2, 1) := by decide +kernel
theorem dX6_digitsEnd_3 : decode cX6_digitsEnd 3 = .ok (.aload_n 0, 1) := by decide +kernel
theorem dX6_digitsEnd_4 : decode cX6_digitsEnd 4 = .ok (.getfield 9, 3) := by decide +kernel
theorem dX6_digitsEnd_7 : decode cX6_digitsEnd 7 = .ok (.if_icmp .ge 21, 3) := by decide +kernel
theorem dX6_digitsEnd_10 : decode cX6_digitsEnd 10 = .ok (.aload_n 0, 1) := by decide +kernel
theorem dX6_digitsEnd_11 : decode cX6_digitsEnd 11 = .ok (.getfield 30, 3) := by decide +kernel
theorem dX6_digitsEnd_14 : decode cX6_digitsEnd 14 = .ok (.iload_n 2, 1) := by decide +kernel
theorem dX6_digitsEnd_15 : decode cX6_digitsEnd 15 = .ok (.iaload, 1) := by decide +kernel
theorem dX6_digitsEnd_16 : decode cX6_digitsEnd 16 = .ok (.invokestatic 59, 3) := by decide +kernel
theorem dX6_digitsEnd_19 : decode cX6_digitsEnd 19 = .ok (.ifCond .eq 9, 3) := by decide +kernel
theorem dX6_digitsEnd_22 : decode cX6_digitsEnd 22 = .ok (.iinc 2 1, 3) := by decide +kernel
theorem dX6_digitsEnd_25 : decode cX6_digitsEnd 25 = .ok (.goto (-23), 3) := by decide +kernel
theorem dX6_digitsEnd_28 : decode cX6_digitsEnd 28 = .ok (.iload_n 2, 1) := by decide +kernel
theorem dX6_digitsEnd_29 : decode cX6_digitsEnd 29 = .ok (.ireturn, 1) := by decide +kernel
set_option maxRecDepth 100000 in
set_option maxHeartbeats 4000000 in
theorem so_X6_digitsEnd_2 {fr : Nat} (hfr : 1 ≤ fr) (Z : AZ) (X : AX Z cX6_digitsEnd 3 RX6 (some .int) 0 fr) (x2 : Int32) (s : Mem) (q : (Int32 × Mem) ⊕ (Int32 × Mem)) (h : st_X6_digitsEnd_2 x2 s = some q) (hi : ∀ y : Int32 × Mem, q = .inl y → AW Z y.2 2 [some (.ref (zr Z 173)), none, some (.int y.1)] []) (he : ∀ b : Int32 × Mem, q = .inr b → AW Z b.2 28 [none, none, some (.int b.1)] []) : AW Z s 2 [some (.ref (zr Z 173)), none, some (.int x2)] [] := by
  unfold st_X6_digitsEnd_2 at h
  refine aw_iload_n X dX6_digitsEnd_2 rfl ?_
  refine aw_aload_n X dX6_digitsEnd_3 rfl ?_
  refine aw_geti X dX6_digitsEnd_4 fl_RX6_9 iu_RX6 gu_RX6_0 ?_
  refine aw_icmp_ge (tgt := 28) X dX6_digitsEnd_7 (by decide) (fun c1 => ?_) (fun c1 => ?_)
  · rw [if_pos c1] at h
    cases h
    refine aw_msk [false, false, true] ?_
    exact he _ rfl
  · rw [if_neg c1] at h
    refine aw_aload_n X dX6_digitsEnd_10 rfl ?_
    refine aw_getr X dX6_digitsEnd_11 fl_RX6_30 iu_RX6 gu_RX6_6 ?_
    refine aw_iload_n X dX6_digitsEnd_14 rfl ?_
    obtain ⟨v2, ev2, h⟩ := bnd h
    refine aw_iald X dX6_digitsEnd_15 iu_RX6_6 ev2 ?_
    obtain ⟨r3, er3, h⟩ := bnd h
    refine aw_callS X dX6_digitsEnd_16 cv_RX6_59 (ok_X6_isDigit er3 _ _ _ _ _) (Nat.le_trans (by decide) hfr) (by decide) rfl rfl (Nat.le_of_ble_eq_true rfl) ?_
    refine aw_if_eq (tgt := 28) X dX6_digitsEnd_19 (by decide) (fun c4 => ?_) (fun c4 => ?_)
    · rw [if_pos c4] at h
      cases h
      refine aw_msk [false, false, true] ?_
      exact he _ rfl
    · rw [if_neg c4] at h
      refine aw_iinc (v := (x2 + 1)) (L' := [some (.ref (zr Z 173)), none, some (.int (x2 + 1))]) X dX6_digitsEnd_22 rfl rfl (by decide) rfl ?_
      refine aw_goto (tgt := 2) X dX6_digitsEnd_25 (by decide) ?_
      cases h
      refine aw_msk [true, false, true] ?_
      exact hi _ rfl
set_option maxRecDepth 100000 in
set_option maxHeartbeats 4000000 in
theorem w_X6_digitsEnd {fr : Nat} (hfr : 1 ≤ fr) (Z : AZ) (X : AX Z cX6_digitsEnd 3 RX6 (some .int) 0 fr) (x1 : Int32) (s : Mem) (r : Int32 × Mem) (hz : zres Z = (some (.int r.1), r.2)) (h : f_X6_digitsEnd x1 s = some r) : AW Z s 0 [some (.ref (zr Z 173)), some (.int x1), none] [] := by
  unfold f_X6_digitsEnd at h
  refine aw_iload_n X dX6_digitsEnd_0 rfl ?_
  refine aw_istore_n (L' := [some (.ref (zr Z 173)), some (.int x1), some (.int x1)]) X dX6_digitsEnd_1 (by decide) rfl ?_
  obtain ⟨r5, er5, h⟩ := bnd h
  refine aw_msk [true, false, true] ?_
  refine it_ok (P := fun y : Int32 × Mem => AW Z y.2 2 [some (.ref (zr Z 173)), none, some (.int y.1)] []) (Q := fun b : Int32 × Mem => AW Z b.2 28 [none, none, some (.int b.1)] []) (fun y q hq hi he => so_X6_digitsEnd_2 hfr Z X y.1 y.2 q hq hi he) FUEL _ _ er5 ?_
  refine aw_iload_n X dX6_digitsEnd_28 rfl ?_
  cases h
  exact aw_iret X dX6_digitsEnd_29 rfl hz.symm
set_option maxRecDepth 100000 in
set_option maxHeartbeats 4000000 in
theorem ok_X6_digitsEnd {x1 : Int32} {s : Mem} {r : Int32 × Mem} (h : f_X6_digitsEnd x1 s = some r) (l : Launch) (D : va_G) (ρ : Nat → Nat) (cA : ClassId × ClassId × ClassId) (τ : AT) : AM l D ρ cA 0 τ yX6_digitsEnd cX6_digitsEnd 3 (some .int) 1 [.ref (ρ 173), .int x1] (some (.int r.1)) s r.2 := by
  refine AM_of (L := [some (.ref (ρ 173)), some (.int x1), none]) (by decide) (by simp [Value.category]) (Nat.le_of_ble_eq_true rfl) (fun j v q => ?_) (fun Z X hρ hz hτ => ?_)
  · exact aL_ok (n := 1) [.ref (ρ 173), .int x1] j v q
  · subst hρ
    subst hτ
    exact w_X6_digitsEnd (Nat.le_refl _) Z X x1 s r hz h

theorem dX6_number_0 : decode cX6_number 0 = .ok (.iconst 0, 1) := by decide +kernel
theorem dX6_number_1 : decode cX6_number 1 = .ok (.istore_n 3, 1) := by decide +kernel
theorem dX6_number_2 : decode cX6_number 2 = .ok (.iload_n 1, 1) := by decide +kernel
theorem dX6_number_3 : decode cX6_number 3 = .ok (.istore 4, 2) := by decide +kernel
theorem dX6_number_5 : decode cX6_number 5 = .ok (.iload 4, 2) := by decide +kernel
theorem dX6_number_7 : decode cX6_number 7 = .ok (.iload_n 2, 1) := by decide +kernel
theorem dX6_number_8 : decode cX6_number 8 = .ok (.if_icmp .ge 25, 3) := by decide +kernel
theorem dX6_number_11 : decode cX6_number 11 = .ok (.iload_n 3, 1) := by decide +kernel
theorem dX6_number_12 : decode cX6_number 12 = .ok (.bipush 10, 2) := by decide +kernel
theorem dX6_number_14 : decode cX6_number 14 = .ok (.imul, 1) := by decide +kernel
theorem dX6_number_15 : decode cX6_number 15 = .ok (.aload_n 0, 1) := by decide +kernel
theorem dX6_number_16 : decode cX6_number 16 = .ok (.getfield 30, 3) := by decide +kernel
theorem dX6_number_19 : decode cX6_number 19 = .ok (.iload 4, 2) := by decide +kernel
theorem dX6_number_21 : decode cX6_number 21 = .ok (.iaload, 1) := by decide +kernel
theorem dX6_number_22 : decode cX6_number 22 = .ok (.iadd, 1) := by decide +kernel
theorem dX6_number_23 : decode cX6_number 23 = .ok (.bipush 48, 2) := by decide +kernel
theorem dX6_number_25 : decode cX6_number 25 = .ok (.isub, 1) := by decide +kernel
theorem dX6_number_26 : decode cX6_number 26 = .ok (.istore_n 3, 1) := by decide +kernel
theorem dX6_number_27 : decode cX6_number 27 = .ok (.iinc 4 1, 3) := by decide +kernel
theorem dX6_number_30 : decode cX6_number 30 = .ok (.goto (-25), 3) := by decide +kernel
theorem dX6_number_33 : decode cX6_number 33 = .ok (.iload_n 3, 1) := by decide +kernel
theorem dX6_number_34 : decode cX6_number 34 = .ok (.ireturn, 1) := by decide +kernel
set_option maxRecDepth 100000 in
set_option maxHeartbeats 4000000 in
theorem so_X6_number_5 {fr : Nat} (hfr : 0 ≤ fr) (Z : AZ) (X : AX Z cX6_number 5 RX6 (some .int) 0 fr) (x2 : Int32) (x3 : Int32) (x4 : Int32) (s : Mem) (q : (Int32 × Int32 × Mem) ⊕ (Int32 × Mem)) (h : st_X6_number_5 x2 x3 x4 s = some q) (hi : ∀ y : Int32 × Int32 × Mem, q = .inl y → AW Z y.2.2 5 [some (.ref (zr Z 173)), none, some (.int x2), some (.int y.1), some (.int y.2.1)] []) (he : ∀ b : Int32 × Mem, q = .inr b → AW Z b.2 33 [none, none, none, some (.int b.1), none] []) : AW Z s 5 [some (.ref (zr Z 173)), none, some (.int x2), some (.int x3), some (.int x4)] [] := by
  unfold st_X6_number_5 at h
  refine aw_iload X dX6_number_5 rfl ?_
  refine aw_iload_n X dX6_number_7 rfl ?_
  refine aw_icmp_ge (tgt := 33) X dX6_number_8 (by decide) (fun c1 => ?_) (fun c1 => ?_)
  · rw [if_pos c1] at h
    cases h
    refine aw_msk [false, false, false, true, false] ?_
    exact he _ rfl
  · rw [if_neg c1] at h
    refine aw_iload_n X dX6_number_11 rfl ?_
    refine aw_bipush (v := 10) X dX6_number_12 (by decide) ?_
    refine aw_imul X dX6_number_14 ?_
    refine aw_aload_n X dX6_number_15 rfl ?_
    refine aw_getr X dX6_number_16 fl_RX6_30 iu_RX6 gu_RX6_6 ?_
    refine aw_iload X dX6_number_19 rfl ?_
    obtain ⟨v2, ev2, h⟩ := bnd h
    refine aw_iald X dX6_number_21 iu_RX6_6 ev2 ?_
    refine aw_iadd X dX6_number_22 ?_
    refine aw_bipush (v := 48) X dX6_number_23 (by decide) ?_
    refine aw_isub X dX6_number_25 ?_
    refine aw_istore_n (L' := [some (.ref (zr Z 173)), none, some (.int x2), some (.int (((x3 * 10) + v2) - 48)), some (.int x4)]) X dX6_number_26 (by decide) rfl ?_
    refine aw_iinc (v := (x4 + 1)) (L' := [some (.ref (zr Z 173)), none, some (.int x2), some (.int (((x3 * 10) + v2) - 48)), some (.int (x4 + 1))]) X dX6_number_27 rfl rfl (by decide) rfl ?_
    refine aw_goto (tgt := 5) X dX6_number_30 (by decide) ?_
    cases h
    refine aw_msk [true, false, true, true, true] ?_
    exact hi _ rfl
set_option maxRecDepth 100000 in
set_option maxHeartbeats 4000000 in
theorem w_X6_number {fr : Nat} (hfr : 0 ≤ fr) (Z : AZ) (X : AX Z cX6_number 5 RX6 (some .int) 0 fr) (x1 : Int32) (x2 : Int32) (s : Mem) (r : Int32 × Mem) (hz : zres Z = (some (.int r.1), r.2)) (h : f_X6_number x1 x2 s = some r) : AW Z s 0 [some (.ref (zr Z 173)), some (.int x1), some (.int x2), none, none] [] := by
  unfold f_X6_number at h
  refine aw_iconst (v := 0) X dX6_number_0 (by decide) ?_
  refine aw_istore_n (L' := [some (.ref (zr Z 173)), some (.int x1), some (.int x2), some (.int 0), none]) X dX6_number_1 (by decide) rfl ?_
  refine aw_iload_n X dX6_number_2 rfl ?_
  refine aw_istore (L' := [some (.ref (zr Z 173)), some (.int x1), some (.int x2), some (.int 0), some (.int x1)]) X dX6_number_3 (by decide) rfl ?_
  obtain ⟨r3, er3, h⟩ := bnd h
  refine aw_msk [true, false, true, true, true] ?_
  refine it_ok (P := fun y : Int32 × Int32 × Mem => AW Z y.2.2 5 [some (.ref (zr Z 173)), none, some (.int x2), some (.int y.1), some (.int y.2.1)] []) (Q := fun b : Int32 × Mem => AW Z b.2 33 [none, none, none, some (.int b.1), none] []) (fun y q hq hi he => so_X6_number_5 hfr Z X x2 y.1 y.2.1 y.2.2 q hq hi he) FUEL _ _ er3 ?_
  refine aw_iload_n X dX6_number_33 rfl ?_
  cases h
  exact aw_iret X dX6_number_34 rfl hz.symm
set_option maxRecDepth 100000 in
set_option maxHeartbeats 4000000 in
theorem ok_X6_number {x1 x2 : Int32} {s : Mem} {r : Int32 × Mem} (h : f_X6_number x1 x2 s = some r) (l : Launch) (D : va_G) (ρ : Nat → Nat) (cA : ClassId × ClassId × ClassId) (τ : AT) : AM l D ρ cA 0 τ yX6_number cX6_number 5 (some .int) 0 [.ref (ρ 173), .int x1, .int x2] (some (.int r.1)) s r.2 := by
  refine AM_of (L := [some (.ref (ρ 173)), some (.int x1), some (.int x2), none, none]) (by decide) (by simp [Value.category]) (Nat.le_of_ble_eq_true rfl) (fun j v q => ?_) (fun Z X hρ hz hτ => ?_)
  · exact aL_ok (n := 2) [.ref (ρ 173), .int x1, .int x2] j v q
  · subst hρ
    subst hτ
    exact w_X6_number (Nat.le_refl _) Z X x1 x2 s r hz h

theorem dJ1_canEncode_9a6ad_0 : decode cJ1_canEncode_9a6ad 0 = .ok (.iload_n 0, 1) := by decide +kernel
theorem dJ1_canEncode_9a6ad_1 : decode cJ1_canEncode_9a6ad 1 = .ok (.ifCond .lt 14, 3) := by decide +kernel
theorem dJ1_canEncode_9a6ad_4 : decode cJ1_canEncode_9a6ad 4 = .ok (.iload_n 0, 1) := by decide +kernel
theorem dJ1_canEncode_9a6ad_5 : decode cJ1_canEncode_9a6ad 5 = .ok (.sipush 255, 3) := by decide +kernel
theorem dJ1_canEncode_9a6ad_8 : decode cJ1_canEncode_9a6ad 8 = .ok (.if_icmp .gt 7, 3) := by decide +kernel
theorem dJ1_canEncode_9a6ad_11 : decode cJ1_canEncode_9a6ad 11 = .ok (.iconst 1, 1) := by decide +kernel
theorem dJ1_canEncode_9a6ad_12 : decode cJ1_canEncode_9a6ad 12 = .ok (.goto 4, 3) := by decide +kernel
theorem dJ1_canEncode_9a6ad_15 : decode cJ1_canEncode_9a6ad 15 = .ok (.iconst 0, 1) := by decide +kernel
theorem dJ1_canEncode_9a6ad_16 : decode cJ1_canEncode_9a6ad 16 = .ok (.ireturn, 1) := by decide +kernel
set_option maxRecDepth 100000 in
set_option maxHeartbeats 4000000 in
theorem w_J1_canEncode_9a6ad {fr : Nat} (hfr : 0 ≤ fr) (Z : AZ) (X : AX Z cJ1_canEncode_9a6ad 1 RJ1 (some .boolean) 0 fr) (x0 : Int32) (s : Mem) (r : Int32 × Mem) (hz : zres Z = (some (.int r.1), r.2)) (h : f_J1_canEncode_9a6ad x0 s = some r) : AW Z s 0 [some (.int x0)] [] := by
  unfold f_J1_canEncode_9a6ad at h
  refine aw_iload_n X dJ1_canEncode_9a6ad_0 rfl ?_
  refine aw_if_lt (tgt := 15) X dJ1_canEncode_9a6ad_1 (by decide) (fun c1 => ?_) (fun c1 => ?_)
  · rw [if_pos c1] at h
    refine aw_iconst (v := 0) X dJ1_canEncode_9a6ad_15 (by decide) ?_
    cases h
    exact aw_zret X dJ1_canEncode_9a6ad_16 rfl rfl hz.symm
  · rw [if_neg c1] at h
    refine aw_iload_n X dJ1_canEncode_9a6ad_4 rfl ?_
    refine aw_sipush (v := 255) X dJ1_canEncode_9a6ad_5 (by decide) ?_
    refine aw_icmp_gt (tgt := 15) X dJ1_canEncode_9a6ad_8 (by decide) (fun c2 => ?_) (fun c2 => ?_)
    · rw [if_pos c2] at h
      refine aw_iconst (v := 0) X dJ1_canEncode_9a6ad_15 (by decide) ?_
      cases h
      exact aw_zret X dJ1_canEncode_9a6ad_16 rfl rfl hz.symm
    · rw [if_neg c2] at h
      refine aw_iconst (v := 1) X dJ1_canEncode_9a6ad_11 (by decide) ?_
      refine aw_goto (tgt := 16) X dJ1_canEncode_9a6ad_12 (by decide) ?_
      cases h
      exact aw_zret X dJ1_canEncode_9a6ad_16 rfl rfl hz.symm
set_option maxRecDepth 100000 in
set_option maxHeartbeats 4000000 in
theorem ok_J1_canEncode_9a6ad {x0 : Int32} {s : Mem} {r : Int32 × Mem} (h : f_J1_canEncode_9a6ad x0 s = some r) (l : Launch) (D : va_G) (ρ : Nat → Nat) (cA : ClassId × ClassId × ClassId) (τ : AT) : AM l D ρ cA 0 τ yJ1_canEncode_9a6ad cJ1_canEncode_9a6ad 1 (some .boolean) 0 [.int x0] (some (.int r.1)) s r.2 := by
  refine AM_of (L := [some (.int x0)]) (by decide) (by simp [Value.category]) (Nat.le_of_ble_eq_true rfl) (fun j v q => ?_) (fun Z X hρ hz hτ => ?_)
  · exact aL_ok (n := 0) [.int x0] j v q
  · subst hρ
    subst hτ
    exact w_J1_canEncode_9a6ad (Nat.le_refl _) Z X x0 s r hz h

theorem dJ1_indexOfChar_4cfef_0 : decode cJ1_indexOfChar_4cfef 0 = .ok (.iload_n 1, 1) := by decide +kernel
theorem dJ1_indexOfChar_4cfef_1 : decode cJ1_indexOfChar_4cfef 1 = .ok (.i2b, 1) := by decide +kernel
theorem dJ1_indexOfChar_4cfef_2 : decode cJ1_indexOfChar_4cfef 2 = .ok (.istore 4, 2) := by decide +kernel
theorem dJ1_indexOfChar_4cfef_4 : decode cJ1_indexOfChar_4cfef 4 = .ok (.iload_n 2, 1) := by decide +kernel
theorem dJ1_indexOfChar_4cfef_5 : decode cJ1_indexOfChar_4cfef 5 = .ok (.istore 5, 2) := by decide +kernel
theorem dJ1_indexOfChar_4cfef_7 : decode cJ1_indexOfChar_4cfef 7 = .ok (.iload 5, 2) := by decide +kernel
theorem dJ1_indexOfChar_4cfef_9 : decode cJ1_indexOfChar_4cfef 9 = .ok (.iload_n 3, 1) := by decide +kernel
theorem dJ1_indexOfChar_4cfef_10 : decode cJ1_indexOfChar_4cfef 10 = .ok (.if_icmp .ge 21, 3) := by decide +kernel
theorem dJ1_indexOfChar_4cfef_13 : decode cJ1_indexOfChar_4cfef 13 = .ok (.aload_n 0, 1) := by decide +kernel
theorem dJ1_indexOfChar_4cfef_14 : decode cJ1_indexOfChar_4cfef 14 = .ok (.iload 5, 2) := by decide +kernel
theorem dJ1_indexOfChar_4cfef_16 : decode cJ1_indexOfChar_4cfef 16 = .ok (.baload, 1) := by decide +kernel
theorem dJ1_indexOfChar_4cfef_17 : decode cJ1_indexOfChar_4cfef 17 = .ok (.iload 4, 2) := by decide +kernel
theorem dJ1_indexOfChar_4cfef_19 : decode cJ1_indexOfChar_4cfef 19 = .ok (.if_icmp .ne 6, 3) := by decide +kernel
theorem dJ1_indexOfChar_4cfef_22 : decode cJ1_indexOfChar_4cfef 22 = .ok (.iload 5, 2) := by decide +kernel
theorem dJ1_indexOfChar_4cfef_24 : decode cJ1_indexOfChar_4cfef 24 = .ok (.ireturn, 1) := by decide +kernel
theorem dJ1_indexOfChar_4cfef_25 : decode cJ1_indexOfChar_4cfef 25 = .ok (.iinc 5 1, 3) := by decide +kernel
theorem dJ1_indexOfChar_4cfef_28 : decode cJ1_indexOfChar_4cfef 28 = .ok (.goto (-21), 3) := by decide +kernel
theorem dJ1_indexOfChar_4cfef_31 : decode cJ1_indexOfChar_4cfef 31 = .ok (.iconst (-1), 1) := by decide +kernel
theorem dJ1_indexOfChar_4cfef_32 : decode cJ1_indexOfChar_4cfef 32 = .ok (.ireturn, 1) := by decide +kernel
set_option maxRecDepth 100000 in
set_option maxHeartbeats 4000000 in
theorem so_J1_indexOfChar_4cfef_7 {fr : Nat} (hfr : 0 ≤ fr) (Z : AZ) (X : AX Z cJ1_indexOfChar_4cfef 6 RJ1 (some .int) 0 fr) (a0 : Nat) (h0 : a0 < 2) (x3 : Int32) (x4 : Int32) (x5 : Int32) (s : Mem) (q : (Int32 × Mem) ⊕ (Nat × Int32 × Mem)) (h : st_J1_indexOfChar_4cfef_7 a0 x3 x4 x5 s = some q) (hi : ∀ y : Int32 × Mem, q = .inl y → AW Z y.2 7 [some (.ref (zv Z a0)), none, none, some (.int x3), some (.int x4), some (.int y.1)] []) (he : ∀ b : Nat × Int32 × Mem, q = .inr b → (b.1 = 0 → AW Z b.2.2 22 [none, none, none, none, none, some (.int b.2.1)] []) ∧ (b.1 = 1 → AW Z b.2.2 31 [none, none, none, none, none, none] [])) : AW Z s 7 [some (.ref (zv Z a0)), none, none, some (.int x3), some (.int x4), some (.int x5)] [] := by
  unfold st_J1_indexOfChar_4cfef_7 at h
  refine aw_iload X dJ1_indexOfChar_4cfef_7 rfl ?_
  refine aw_iload_n X dJ1_indexOfChar_4cfef_9 rfl ?_
  refine aw_icmp_ge (tgt := 31) X dJ1_indexOfChar_4cfef_10 (by decide) (fun c1 => ?_) (fun c1 => ?_)
  · rw [if_pos c1] at h
    cases h
    refine aw_msk [false, false, false, false, false, false] ?_
    exact (he _ rfl).2 rfl
  · rw [if_neg c1] at h
    refine aw_aload_n X dJ1_indexOfChar_4cfef_13 rfl ?_
    refine aw_iload X dJ1_indexOfChar_4cfef_14 rfl ?_
    obtain ⟨v2, ev2, h⟩ := bnd h
    refine aw_sald X dJ1_indexOfChar_4cfef_16 h0 ev2 ?_
    refine aw_iload X dJ1_indexOfChar_4cfef_17 rfl ?_
    refine aw_icmp_ne (tgt := 25) X dJ1_indexOfChar_4cfef_19 (by decide) (fun c3 => ?_) (fun c3 => ?_)
    · rw [if_neg c3] at h
      refine aw_iinc (v := (x5 + 1)) (L' := [some (.ref (zv Z a0)), none, none, some (.int x3), some (.int x4), some (.int (x5 + 1))]) X dJ1_indexOfChar_4cfef_25 rfl rfl (by decide) rfl ?_
      refine aw_goto (tgt := 7) X dJ1_indexOfChar_4cfef_28 (by decide) ?_
      cases h
      refine aw_msk [true, false, false, true, true, true] ?_
      exact hi _ rfl
    · rw [if_pos c3] at h
      cases h
      refine aw_msk [false, false, false, false, false, true] ?_
      exact (he _ rfl).1 rfl
set_option maxRecDepth 100000 in
set_option maxHeartbeats 4000000 in
theorem w_J1_indexOfChar_4cfef {fr : Nat} (hfr : 0 ≤ fr) (Z : AZ) (X : AX Z cJ1_indexOfChar_4cfef 6 RJ1 (some .int) 0 fr) (a0 : Nat) (h0 : a0 < 2) (x1 : Int32) (x2 : Int32) (x3 : Int32) (s : Mem) (r : Int32 × Mem) (hz : zres Z = (some (.int r.1), r.2)) (h : f_J1_indexOfChar_4cfef a0 x1 x2 x3 s = some r) : AW Z s 0 [some (.ref (zv Z a0)), some (.int x1), some (.int x2), some (.int x3), none, none] [] := by
  unfold f_J1_indexOfChar_4cfef at h
  refine aw_iload_n X dJ1_indexOfChar_4cfef_0 rfl ?_
  refine aw_i2b X dJ1_indexOfChar_4cfef_1 ?_
  refine aw_istore (L' := [some (.ref (zv Z a0)), some (.int x1), some (.int x2), some (.int x3), some (.int (i2b x1)), none]) X dJ1_indexOfChar_4cfef_2 (by decide) rfl ?_
  refine aw_iload_n X dJ1_indexOfChar_4cfef_4 rfl ?_
  refine aw_istore (L' := [some (.ref (zv Z a0)), some (.int x1), some (.int x2), some (.int x3), some (.int (i2b x1)), some (.int x2)]) X dJ1_indexOfChar_4cfef_5 (by decide) rfl ?_
  obtain ⟨r4, er4, h⟩ := bnd h
  refine aw_msk [true, false, false, true, true, true] ?_
  refine it_ok (P := fun y : Int32 × Mem => AW Z y.2 7 [some (.ref (zv Z a0)), none, none, some (.int x3), some (.int (i2b x1)), some (.int y.1)] []) (Q := fun b : Nat × Int32 × Mem => (b.1 = 0 → AW Z b.2.2 22 [none, none, none, none, none, some (.int b.2.1)] []) ∧ (b.1 = 1 → AW Z b.2.2 31 [none, none, none, none, none, none] [])) (fun y q hq hi he => so_J1_indexOfChar_4cfef_7 hfr Z X a0 h0 x3 (i2b x1) y.1 y.2 q hq hi he) FUEL _ _ er4 ?_
  refine ⟨fun c0 => ?_, fun c1 => ?_⟩
  · rw [if_pos c0] at h
    refine aw_iload X dJ1_indexOfChar_4cfef_22 rfl ?_
    cases h
    exact aw_iret X dJ1_indexOfChar_4cfef_24 rfl hz.symm
  · rw [if_neg (by rw [c1]; decide)] at h
    refine aw_iconst (v := (-1)) X dJ1_indexOfChar_4cfef_31 (by decide) ?_
    cases h
    exact aw_iret X dJ1_indexOfChar_4cfef_32 rfl hz.symm
set_option maxRecDepth 100000 in
set_option maxHeartbeats 4000000 in
theorem ok_J1_indexOfChar_4cfef {a0 : Nat} (h0 : a0 < 2) {x1 x2 x3 : Int32} {s : Mem} {r : Int32 × Mem} (h : f_J1_indexOfChar_4cfef a0 x1 x2 x3 s = some r) (l : Launch) (D : va_G) (ρ : Nat → Nat) (cA : ClassId × ClassId × ClassId) (τ : AT) : AM l D ρ cA 0 τ yJ1_indexOfChar_4cfef cJ1_indexOfChar_4cfef 6 (some .int) 0 [.ref (τ.2.2 a0), .int x1, .int x2, .int x3] (some (.int r.1)) s r.2 := by
  refine AM_of (L := [some (.ref (τ.2.2 a0)), some (.int x1), some (.int x2), some (.int x3), none, none]) (by decide) (by simp [Value.category]) (Nat.le_of_ble_eq_true rfl) (fun j v q => ?_) (fun Z X hρ hz hτ => ?_)
  · exact aL_ok (n := 2) [.ref (τ.2.2 a0), .int x1, .int x2, .int x3] j v q
  · subst hρ
    subst hτ
    exact w_J1_indexOfChar_4cfef (Nat.le_refl _) Z X a0 h0 x1 x2 x3 s r hz h

theorem dJ1_indexOf_4cfef_0 : decode cJ1_indexOf_4cfef 0 = .ok (.iload_n 1, 1) := by decide +kernel
theorem dJ1_indexOf_4cfef_1 : decode cJ1_indexOf_4cfef 1 = .ok (.invokestatic 88, 3) := by decide +kernel
theorem dJ1_indexOf_4cfef_4 : decode cJ1_indexOf_4cfef 4 = .ok (.ifCond .ne 5, 3) := by decide +kernel
theorem dJ1_indexOf_4cfef_7 : decode cJ1_indexOf_4cfef 7 = .ok (.iconst (-1), 1) := by decide +kernel
theorem dJ1_indexOf_4cfef_8 : decode cJ1_indexOf_4cfef 8 = .ok (.ireturn, 1) := by decide +kernel
theorem dJ1_indexOf_4cfef_9 : decode cJ1_indexOf_4cfef 9 = .ok (.iload_n 2, 1) := by decide +kernel
theorem dJ1_indexOf_4cfef_10 : decode cJ1_indexOf_4cfef 10 = .ok (.iconst 0, 1) := by decide +kernel
theorem dJ1_indexOf_4cfef_11 : decode cJ1_indexOf_4cfef 11 = .ok (.invokestatic 92, 3) := by decide +kernel
theorem dJ1_indexOf_4cfef_14 : decode cJ1_indexOf_4cfef 14 = .ok (.istore_n 2, 1) := by decide +kernel
theorem dJ1_indexOf_4cfef_15 : decode cJ1_indexOf_4cfef 15 = .ok (.iload_n 3, 1) := by decide +kernel
theorem dJ1_indexOf_4cfef_16 : decode cJ1_indexOf_4cfef 16 = .ok (.aload_n 0, 1) := by decide +kernel
theorem dJ1_indexOf_4cfef_17 : decode cJ1_indexOf_4cfef 17 = .ok (.arraylength, 1) := by decide +kernel
theorem dJ1_indexOf_4cfef_18 : decode cJ1_indexOf_4cfef 18 = .ok (.invokestatic 38, 3) := by decide +kernel
theorem dJ1_indexOf_4cfef_21 : decode cJ1_indexOf_4cfef 21 = .ok (.istore_n 3, 1) := by decide +kernel
theorem dJ1_indexOf_4cfef_22 : decode cJ1_indexOf_4cfef 22 = .ok (.iload_n 2, 1) := by decide +kernel
theorem dJ1_indexOf_4cfef_23 : decode cJ1_indexOf_4cfef 23 = .ok (.iload_n 3, 1) := by decide +kernel
theorem dJ1_indexOf_4cfef_24 : decode cJ1_indexOf_4cfef 24 = .ok (.if_icmp .lt 5, 3) := by decide +kernel
theorem dJ1_indexOf_4cfef_27 : decode cJ1_indexOf_4cfef 27 = .ok (.iconst (-1), 1) := by decide +kernel
theorem dJ1_indexOf_4cfef_28 : decode cJ1_indexOf_4cfef 28 = .ok (.ireturn, 1) := by decide +kernel
theorem dJ1_indexOf_4cfef_29 : decode cJ1_indexOf_4cfef 29 = .ok (.aload_n 0, 1) := by decide +kernel
theorem dJ1_indexOf_4cfef_30 : decode cJ1_indexOf_4cfef 30 = .ok (.iload_n 1, 1) := by decide +kernel
theorem dJ1_indexOf_4cfef_31 : decode cJ1_indexOf_4cfef 31 = .ok (.iload_n 2, 1) := by decide +kernel
theorem dJ1_indexOf_4cfef_32 : decode cJ1_indexOf_4cfef 32 = .ok (.iload_n 3, 1) := by decide +kernel
theorem dJ1_indexOf_4cfef_33 : decode cJ1_indexOf_4cfef 33 = .ok (.invokestatic 95, 3) := by decide +kernel
theorem dJ1_indexOf_4cfef_36 : decode cJ1_indexOf_4cfef 36 = .ok (.ireturn, 1) := by decide +kernel
set_option maxRecDepth 100000 in
set_option maxHeartbeats 4000000 in
theorem w_J1_indexOf_4cfef {fr : Nat} (hfr : 1 ≤ fr) (Z : AZ) (X : AX Z cJ1_indexOf_4cfef 4 RJ1 (some .int) 0 fr) (a0 : Nat) (h0 : a0 < 2) (x1 : Int32) (x2 : Int32) (x3 : Int32) (s : Mem) (r : Int32 × Mem) (hz : zres Z = (some (.int r.1), r.2)) (h : f_J1_indexOf_4cfef a0 x1 x2 x3 s = some r) : AW Z s 0 [some (.ref (zv Z a0)), some (.int x1), some (.int x2), some (.int x3)] [] := by
  unfold f_J1_indexOf_4cfef at h
  refine aw_iload_n X dJ1_indexOf_4cfef_0 rfl ?_
  obtain ⟨r1, er1, h⟩ := bnd h
  refine aw_callS X dJ1_indexOf_4cfef_1 cv_RJ1_88 (ok_J1_canEncode_9a6ad er1 _ _ _ _ _) (Nat.le_trans (by decide) hfr) (by decide) rfl rfl (Nat.le_of_ble_eq_true rfl) ?_
  refine aw_if_ne (tgt := 9) X dJ1_indexOf_4cfef_4 (by decide) (fun c2 => ?_) (fun c2 => ?_)
  · rw [if_neg c2] at h
    refine aw_iload_n X dJ1_indexOf_4cfef_9 rfl ?_
    refine aw_iconst (v := 0) X dJ1_indexOf_4cfef_10 (by decide) ?_
    refine aw_mmax X (Nat.le_trans (by decide) hfr) dJ1_indexOf_4cfef_11 mc_RJ1_92 rfl ?_
    refine aw_istore_n (L' := [some (.ref (zv Z a0)), some (.int x1), some (.int (jmmax x2 0)), some (.int x3)]) X dJ1_indexOf_4cfef_14 (by decide) rfl ?_
    refine aw_iload_n X dJ1_indexOf_4cfef_15 rfl ?_
    refine aw_aload_n X dJ1_indexOf_4cfef_16 rfl ?_
    refine aw_slen X dJ1_indexOf_4cfef_17 h0 ?_
    refine aw_mmin X (Nat.le_trans (by decide) hfr) dJ1_indexOf_4cfef_18 mc_RJ1_38 rfl ?_
    refine aw_istore_n (L' := [some (.ref (zv Z a0)), some (.int x1), some (.int (jmmax x2 0)), some (.int (jmmin x3 (Int32.ofNat (byL a0))))]) X dJ1_indexOf_4cfef_21 (by decide) rfl ?_
    refine aw_iload_n X dJ1_indexOf_4cfef_22 rfl ?_
    refine aw_iload_n X dJ1_indexOf_4cfef_23 rfl ?_
    refine aw_icmp_lt (tgt := 29) X dJ1_indexOf_4cfef_24 (by decide) (fun c3 => ?_) (fun c3 => ?_)
    · rw [if_pos c3] at h
      refine aw_aload_n X dJ1_indexOf_4cfef_29 rfl ?_
      refine aw_iload_n X dJ1_indexOf_4cfef_30 rfl ?_
      refine aw_iload_n X dJ1_indexOf_4cfef_31 rfl ?_
      refine aw_iload_n X dJ1_indexOf_4cfef_32 rfl ?_
      obtain ⟨r4, er4, h⟩ := bnd h
      refine aw_callS X dJ1_indexOf_4cfef_33 cv_RJ1_95 (ok_J1_indexOfChar_4cfef h0 er4 _ _ _ _ _) (Nat.le_trans (by decide) hfr) (by decide) rfl rfl (Nat.le_of_ble_eq_true rfl) ?_
      cases h
      exact aw_iret X dJ1_indexOf_4cfef_36 rfl hz.symm
    · rw [if_neg c3] at h
      refine aw_iconst (v := (-1)) X dJ1_indexOf_4cfef_27 (by decide) ?_
      cases h
      exact aw_iret X dJ1_indexOf_4cfef_28 rfl hz.symm
  · rw [if_pos c2] at h
    refine aw_iconst (v := (-1)) X dJ1_indexOf_4cfef_7 (by decide) ?_
    cases h
    exact aw_iret X dJ1_indexOf_4cfef_8 rfl hz.symm
set_option maxRecDepth 100000 in
set_option maxHeartbeats 4000000 in
theorem ok_J1_indexOf_4cfef {a0 : Nat} (h0 : a0 < 2) {x1 x2 x3 : Int32} {s : Mem} {r : Int32 × Mem} (h : f_J1_indexOf_4cfef a0 x1 x2 x3 s = some r) (l : Launch) (D : va_G) (ρ : Nat → Nat) (cA : ClassId × ClassId × ClassId) (τ : AT) : AM l D ρ cA 0 τ yJ1_indexOf_4cfef cJ1_indexOf_4cfef 4 (some .int) 1 [.ref (τ.2.2 a0), .int x1, .int x2, .int x3] (some (.int r.1)) s r.2 := by
  refine AM_of (L := [some (.ref (τ.2.2 a0)), some (.int x1), some (.int x2), some (.int x3)]) (by decide) (by simp [Value.category]) (Nat.le_of_ble_eq_true rfl) (fun j v q => ?_) (fun Z X hρ hz hτ => ?_)
  · exact aL_ok (n := 0) [.ref (τ.2.2 a0), .int x1, .int x2, .int x3] j v q
  · subst hρ
    subst hτ
    exact w_J1_indexOf_4cfef (Nat.le_refl _) Z X a0 h0 x1 x2 x3 s r hz h
