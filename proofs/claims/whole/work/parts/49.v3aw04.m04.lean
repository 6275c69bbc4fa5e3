/-! ===== walks: X9_joinedTo .. X11_set ===== -/
theorem dX9_joinedTo_0 : decode cX9_joinedTo 0 = .ok (.aload_n 0, 1) := by decide +kernel
theorem dX9_joinedTo_1 : decode cX9_joinedTo 1 = .ok (.getfield 22, 3) := by decide +kernel
theorem dX9_joinedTo_4 : decode cX9_joinedTo 4 = .ok (.iload_n 1, 1) := by decide +kernel
theorem dX9_joinedTo_5 : decode cX9_joinedTo 5 = .ok (.iaload, 1) := by decide +kernel
theorem dX9_joinedTo_6 : decode cX9_joinedTo 6 = .ok (.iconst (-1), 1) := by decide +kernel
theorem dX9_joinedTo_7 : decode cX9_joinedTo 7 = .ok (.if_icmp .ne 7, 3) := by decide +kernel
theorem dX9_joinedTo_10 : decode cX9_joinedTo 10 = .ok (.iconst 0, 1) := by decide +kernel
theorem dX9_joinedTo_11 : decode cX9_joinedTo 11 = .ok (.goto 4, 3) := by decide +kernel
theorem dX9_joinedTo_14 : decode cX9_joinedTo 14 = .ok (.iconst 1, 1) := by decide +kernel
theorem dX9_joinedTo_15 : decode cX9_joinedTo 15 = .ok (.istore_n 3, 1) := by decide +kernel
theorem dX9_joinedTo_16 : decode cX9_joinedTo 16 = .ok (.iconst 0, 1) := by decide +kernel
theorem dX9_joinedTo_17 : decode cX9_joinedTo 17 = .ok (.istore 4, 2) := by decide +kernel
theorem dX9_joinedTo_19 : decode cX9_joinedTo 19 = .ok (.iload 4, 2) := by decide +kernel
theorem dX9_joinedTo_21 : decode cX9_joinedTo 21 = .ok (.iload_n 2, 1) := by decide +kernel
theorem dX9_joinedTo_22 : decode cX9_joinedTo 22 = .ok (.if_icmp .ge 23, 3) := by decide +kernel
theorem dX9_joinedTo_25 : decode cX9_joinedTo 25 = .ok (.aload_n 0, 1) := by decide +kernel
theorem dX9_joinedTo_26 : decode cX9_joinedTo 26 = .ok (.getfield 22, 3) := by decide +kernel
theorem dX9_joinedTo_29 : decode cX9_joinedTo 29 = .ok (.iload 4, 2) := by decide +kernel
theorem dX9_joinedTo_31 : decode cX9_joinedTo 31 = .ok (.iaload, 1) := by decide +kernel
theorem dX9_joinedTo_32 : decode cX9_joinedTo 32 = .ok (.iload_n 1, 1) := by decide +kernel
theorem dX9_joinedTo_33 : decode cX9_joinedTo 33 = .ok (.if_icmp .ne 6, 3) := by decide +kernel
theorem dX9_joinedTo_36 : decode cX9_joinedTo 36 = .ok (.iinc 3 1, 3) := by decide +kernel
theorem dX9_joinedTo_39 : decode cX9_joinedTo 39 = .ok (.iinc 4 1, 3) := by decide +kernel
theorem dX9_joinedTo_42 : decode cX9_joinedTo 42 = .ok (.goto (-23), 3) := by decide +kernel
theorem dX9_joinedTo_45 : decode cX9_joinedTo 45 = .ok (.iload_n 3, 1) := by decide +kernel
theorem dX9_joinedTo_46 : decode cX9_joinedTo 46 = .ok (.ireturn, 1) := by decide +kernel
set_option maxRecDepth 100000 in
set_option maxHeartbeats 4000000 in
theorem so_X9_joinedTo_19 {fr : Nat} (hfr : 0 ≤ fr) (Z : AZ) (X : AX Z cX9_joinedTo 5 RX9 (some .int) 0 fr) (x1 : Int32) (x2 : Int32) (x3 : Int32) (x4 : Int32) (s : Mem) (q : (Int32 × Int32 × Mem) ⊕ (Int32 × Mem)) (h : st_X9_joinedTo_19 x1 x2 x3 x4 s = some q) (hi : ∀ y : Int32 × Int32 × Mem, q = .inl y → AW Z y.2.2 19 [some (.ref (zr Z 195)), some (.int x1), some (.int x2), some (.int y.1), some (.int y.2.1)] []) (he : ∀ b : Int32 × Mem, q = .inr b → AW Z b.2 45 [none, none, none, some (.int b.1), none] []) : AW Z s 19 [some (.ref (zr Z 195)), some (.int x1), some (.int x2), some (.int x3), some (.int x4)] [] := by
  unfold st_X9_joinedTo_19 at h
  refine aw_iload X dX9_joinedTo_19 rfl ?_
  refine aw_iload_n X dX9_joinedTo_21 rfl ?_
  refine aw_icmp_ge (tgt := 45) X dX9_joinedTo_22 (by decide) (fun c3 => ?_) (fun c3 => ?_)
  · rw [if_pos c3] at h
    cases h
    refine aw_msk [false, false, false, true, false] ?_
    exact he _ rfl
  · rw [if_neg c3] at h
    refine aw_aload_n X dX9_joinedTo_25 rfl ?_
    refine aw_getr X dX9_joinedTo_26 fl_RX9_22 iu_RX9 gu_RX9_3 ?_
    refine aw_iload X dX9_joinedTo_29 rfl ?_
    obtain ⟨v4, ev4, h⟩ := bnd h
    refine aw_iald X dX9_joinedTo_31 iu_RX9_3 ev4 ?_
    refine aw_iload_n X dX9_joinedTo_32 rfl ?_
    refine aw_icmp_ne (tgt := 39) X dX9_joinedTo_33 (by decide) (fun c5 => ?_) (fun c5 => ?_)
    · rw [if_neg c5] at h
      refine aw_iinc (v := (x4 + 1)) (L' := [some (.ref (zr Z 195)), some (.int x1), some (.int x2), some (.int x3), some (.int (x4 + 1))]) X dX9_joinedTo_39 rfl rfl (by decide) rfl ?_
      refine aw_goto (tgt := 19) X dX9_joinedTo_42 (by decide) ?_
      cases h
      refine aw_msk [true, true, true, true, true] ?_
      exact hi _ rfl
    · rw [if_pos c5] at h
      refine aw_iinc (v := (x3 + 1)) (L' := [some (.ref (zr Z 195)), some (.int x1), some (.int x2), some (.int (x3 + 1)), some (.int x4)]) X dX9_joinedTo_36 rfl rfl (by decide) rfl ?_
      refine aw_iinc (v := (x4 + 1)) (L' := [some (.ref (zr Z 195)), some (.int x1), some (.int x2), some (.int (x3 + 1)), some (.int (x4 + 1))]) X dX9_joinedTo_39 rfl rfl (by decide) rfl ?_
      refine aw_goto (tgt := 19) X dX9_joinedTo_42 (by decide) ?_
      cases h
      refine aw_msk [true, true, true, true, true] ?_
      exact hi _ rfl
set_option maxRecDepth 100000 in
set_option maxHeartbeats 4000000 in
theorem jo_X9_joinedTo_15 {fr : Nat} (hfr : 0 ≤ fr) (Z : AZ) (X : AX Z cX9_joinedTo 5 RX9 (some .int) 0 fr) (x1 : Int32) (x2 : Int32) (t0 : Int32) (s : Mem) (r : Int32 × Mem) (hz : zres Z = (some (.int r.1), r.2)) (h : jn_X9_joinedTo_15 x1 x2 t0 s = some r) : AW Z s 15 [some (.ref (zr Z 195)), some (.int x1), some (.int x2), none, none] [.int t0] := by
  unfold jn_X9_joinedTo_15 at h
  refine aw_istore_n (L' := [some (.ref (zr Z 195)), some (.int x1), some (.int x2), some (.int t0), none]) X dX9_joinedTo_15 (by decide) rfl ?_
  refine aw_iconst (v := 0) X dX9_joinedTo_16 (by decide) ?_
  refine aw_istore (L' := [some (.ref (zr Z 195)), some (.int x1), some (.int x2), some (.int t0), some (.int 0)]) X dX9_joinedTo_17 (by decide) rfl ?_
  obtain ⟨r6, er6, h⟩ := bnd h
  refine aw_msk [true, true, true, true, true] ?_
  refine it_ok (P := fun y : Int32 × Int32 × Mem => AW Z y.2.2 19 [some (.ref (zr Z 195)), some (.int x1), some (.int x2), some (.int y.1), some (.int y.2.1)] []) (Q := fun b : Int32 × Mem => AW Z b.2 45 [none, none, none, some (.int b.1), none] []) (fun y q hq hi he => so_X9_joinedTo_19 hfr Z X x1 x2 y.1 y.2.1 y.2.2 q hq hi he) FUEL _ _ er6 ?_
  refine aw_iload_n X dX9_joinedTo_45 rfl ?_
  cases h
  exact aw_iret X dX9_joinedTo_46 rfl hz.symm
set_option maxRecDepth 100000 in
set_option maxHeartbeats 4000000 in
theorem w_X9_joinedTo {fr : Nat} (hfr : 0 ≤ fr) (Z : AZ) (X : AX Z cX9_joinedTo 5 RX9 (some .int) 0 fr) (x1 : Int32) (x2 : Int32) (s : Mem) (r : Int32 × Mem) (hz : zres Z = (some (.int r.1), r.2)) (h : f_X9_joinedTo x1 x2 s = some r) : AW Z s 0 [some (.ref (zr Z 195)), some (.int x1), some (.int x2), none, none] [] := by
  unfold f_X9_joinedTo at h
  refine aw_aload_n X dX9_joinedTo_0 rfl ?_
  refine aw_getr X dX9_joinedTo_1 fl_RX9_22 iu_RX9 gu_RX9_3 ?_
  refine aw_iload_n X dX9_joinedTo_4 rfl ?_
  obtain ⟨v1, ev1, h⟩ := bnd h
  refine aw_iald X dX9_joinedTo_5 iu_RX9_3 ev1 ?_
  refine aw_iconst (v := (-1)) X dX9_joinedTo_6 (by decide) ?_
  refine aw_icmp_ne (tgt := 14) X dX9_joinedTo_7 (by decide) (fun c2 => ?_) (fun c2 => ?_)
  · rw [if_neg c2] at h
    refine aw_iconst (v := 1) X dX9_joinedTo_14 (by decide) ?_
    refine aw_msk [true, true, true, false, false] ?_
    exact jo_X9_joinedTo_15 hfr Z X _ _ _ _ _ hz h
  · rw [if_pos c2] at h
    refine aw_iconst (v := 0) X dX9_joinedTo_10 (by decide) ?_
    refine aw_goto (tgt := 15) X dX9_joinedTo_11 (by decide) ?_
    refine aw_msk [true, true, true, false, false] ?_
    exact jo_X9_joinedTo_15 hfr Z X _ _ _ _ _ hz h
set_option maxRecDepth 100000 in
set_option maxHeartbeats 4000000 in
theorem ok_X9_joinedTo {x1 x2 : Int32} {s : Mem} {r : Int32 × Mem} (h : f_X9_joinedTo x1 x2 s = some r) (l : Launch) (D : va_G) (ρ : Nat → Nat) (cA : ClassId × ClassId × ClassId) (τ : AT) : AM l D ρ cA 0 τ yX9_joinedTo cX9_joinedTo 5 (some .int) 0 [.ref (ρ 195), .int x1, .int x2] (some (.int r.1)) s r.2 := by
  refine AM_of (L := [some (.ref (ρ 195)), some (.int x1), some (.int x2), none, none]) (by decide) (by simp [Value.category]) (Nat.le_of_ble_eq_true rfl) (fun j v q => ?_) (fun Z X hρ hz hτ => ?_)
  · exact aL_ok (n := 2) [.ref (ρ 195), .int x1, .int x2] j v q
  · subst hρ
    subst hτ
    exact w_X9_joinedTo (Nat.le_refl _) Z X x1 x2 s r hz h

theorem dX9_isKin_0 : decode cX9_isKin 0 = .ok (.iload_n 0, 1) := by decide +kernel
theorem dX9_isKin_1 : decode cX9_isKin 1 = .ok (.ifCond .lt 13, 3) := by decide +kernel
theorem dX9_isKin_4 : decode cX9_isKin 4 = .ok (.iload_n 0, 1) := by decide +kernel
theorem dX9_isKin_5 : decode cX9_isKin 5 = .ok (.bipush 8, 2) := by decide +kernel
theorem dX9_isKin_7 : decode cX9_isKin 7 = .ok (.if_icmp .ge 7, 3) := by decide +kernel
theorem dX9_isKin_10 : decode cX9_isKin 10 = .ok (.iconst 1, 1) := by decide +kernel
theorem dX9_isKin_11 : decode cX9_isKin 11 = .ok (.goto 4, 3) := by decide +kernel
theorem dX9_isKin_14 : decode cX9_isKin 14 = .ok (.iconst 0, 1) := by decide +kernel
theorem dX9_isKin_15 : decode cX9_isKin 15 = .ok (.ireturn, 1) := by decide +kernel
set_option maxRecDepth 100000 in
set_option maxHeartbeats 4000000 in
theorem w_X9_isKin {fr : Nat} (hfr : 0 ≤ fr) (Z : AZ) (X : AX Z cX9_isKin 1 RX9 (some .boolean) 0 fr) (x0 : Int32) (s : Mem) (r : Int32 × Mem) (hz : zres Z = (some (.int r.1), r.2)) (h : f_X9_isKin x0 s = some r) : AW Z s 0 [some (.int x0)] [] := by
  unfold f_X9_isKin at h
  refine aw_iload_n X dX9_isKin_0 rfl ?_
  refine aw_if_lt (tgt := 14) X dX9_isKin_1 (by decide) (fun c1 => ?_) (fun c1 => ?_)
  · rw [if_pos c1] at h
    refine aw_iconst (v := 0) X dX9_isKin_14 (by decide) ?_
    cases h
    exact aw_zret X dX9_isKin_15 rfl rfl hz.symm
  · rw [if_neg c1] at h
    refine aw_iload_n X dX9_isKin_4 rfl ?_
    refine aw_bipush (v := 8) X dX9_isKin_5 (by decide) ?_
    refine aw_icmp_ge (tgt := 14) X dX9_isKin_7 (by decide) (fun c2 => ?_) (fun c2 => ?_)
    · rw [if_pos c2] at h
      refine aw_iconst (v := 0) X dX9_isKin_14 (by decide) ?_
      cases h
      exact aw_zret X dX9_isKin_15 rfl rfl hz.symm
    · rw [if_neg c2] at h
      refine aw_iconst (v := 1) X dX9_isKin_10 (by decide) ?_
      refine aw_goto (tgt := 15) X dX9_isKin_11 (by decide) ?_
      cases h
      exact aw_zret X dX9_isKin_15 rfl rfl hz.symm
set_option maxRecDepth 100000 in
set_option maxHeartbeats 4000000 in
theorem ok_X9_isKin {x0 : Int32} {s : Mem} {r : Int32 × Mem} (h : f_X9_isKin x0 s = some r) (l : Launch) (D : va_G) (ρ : Nat → Nat) (cA : ClassId × ClassId × ClassId) (τ : AT) : AM l D ρ cA 0 τ yX9_isKin cX9_isKin 1 (some .boolean) 0 [.int x0] (some (.int r.1)) s r.2 := by
  refine AM_of (L := [some (.int x0)]) (by decide) (by simp [Value.category]) (Nat.le_of_ble_eq_true rfl) (fun j v q => ?_) (fun Z X hρ hz hτ => ?_)
  · exact aL_ok (n := 0) [.int x0] j v q
  · subst hρ
    subst hτ
    exact w_X9_isKin (Nat.le_refl _) Z X x0 s r hz h

theorem dX9_joiningsBetween_0 : decode cX9_joiningsBetween 0 = .ok (.iload_n 1, 1) := by decide +kernel
theorem dX9_joiningsBetween_1 : decode cX9_joiningsBetween 1 = .ok (.istore_n 3, 1) := by decide +kernel
theorem dX9_joiningsBetween_2 : decode cX9_joiningsBetween 2 = .ok (.iconst 0, 1) := by decide +kernel
theorem dX9_joiningsBetween_3 : decode cX9_joiningsBetween 3 = .ok (.istore 4, 2) := by decide +kernel
theorem dX9_joiningsBetween_5 : decode cX9_joiningsBetween 5 = .ok (.iload 4, 2) := by decide +kernel
theorem dX9_joiningsBetween_7 : decode cX9_joiningsBetween 7 = .ok (.bipush 8, 2) := by decide +kernel
theorem dX9_joiningsBetween_9 : decode cX9_joiningsBetween 9 = .ok (.if_icmp .ge 71, 3) := by decide +kernel
theorem dX9_joiningsBetween_12 : decode cX9_joiningsBetween 12 = .ok (.iload_n 3, 1) := by decide +kernel
theorem dX9_joiningsBetween_13 : decode cX9_joiningsBetween 13 = .ok (.invokestatic 89, 3) := by decide +kernel
theorem dX9_joiningsBetween_16 : decode cX9_joiningsBetween 16 = .ok (.ifCond .eq 64, 3) := by decide +kernel
theorem dX9_joiningsBetween_19 : decode cX9_joiningsBetween 19 = .ok (.iload_n 2, 1) := by decide +kernel
theorem dX9_joiningsBetween_20 : decode cX9_joiningsBetween 20 = .ok (.istore 5, 2) := by decide +kernel
theorem dX9_joiningsBetween_22 : decode cX9_joiningsBetween 22 = .ok (.iconst 0, 1) := by decide +kernel
theorem dX9_joiningsBetween_23 : decode cX9_joiningsBetween 23 = .ok (.istore 6, 2) := by decide +kernel
theorem dX9_joiningsBetween_25 : decode cX9_joiningsBetween 25 = .ok (.iload 6, 2) := by decide +kernel
theorem dX9_joiningsBetween_27 : decode cX9_joiningsBetween 27 = .ok (.bipush 8, 2) := by decide +kernel
theorem dX9_joiningsBetween_29 : decode cX9_joiningsBetween 29 = .ok (.if_icmp .ge 38, 3) := by decide +kernel
theorem dX9_joiningsBetween_32 : decode cX9_joiningsBetween 32 = .ok (.iload 5, 2) := by decide +kernel
theorem dX9_joiningsBetween_34 : decode cX9_joiningsBetween 34 = .ok (.invokestatic 89, 3) := by decide +kernel
theorem dX9_joiningsBetween_37 : decode cX9_joiningsBetween 37 = .ok (.ifCond .eq 30, 3) := by decide +kernel
theorem dX9_joiningsBetween_40 : decode cX9_joiningsBetween 40 = .ok (.iload 5, 2) := by decide +kernel
theorem dX9_joiningsBetween_42 : decode cX9_joiningsBetween 42 = .ok (.iload_n 3, 1) := by decide +kernel
theorem dX9_joiningsBetween_43 : decode cX9_joiningsBetween 43 = .ok (.if_icmp .ne 9, 3) := by decide +kernel
theorem dX9_joiningsBetween_46 : decode cX9_joiningsBetween 46 = .ok (.iload 4, 2) := by decide +kernel
theorem dX9_joiningsBetween_48 : decode cX9_joiningsBetween 48 = .ok (.iload 6, 2) := by decide +kernel
theorem dX9_joiningsBetween_50 : decode cX9_joiningsBetween 50 = .ok (.iadd, 1) := by decide +kernel
theorem dX9_joiningsBetween_51 : decode cX9_joiningsBetween 51 = .ok (.ireturn, 1) := by decide +kernel
theorem dX9_joiningsBetween_52 : decode cX9_joiningsBetween 52 = .ok (.aload_n 0, 1) := by decide +kernel
theorem dX9_joiningsBetween_53 : decode cX9_joiningsBetween 53 = .ok (.getfield 22, 3) := by decide +kernel
theorem dX9_joiningsBetween_56 : decode cX9_joiningsBetween 56 = .ok (.iload 5, 2) := by decide +kernel
theorem dX9_joiningsBetween_58 : decode cX9_joiningsBetween 58 = .ok (.iaload, 1) := by decide +kernel
theorem dX9_joiningsBetween_59 : decode cX9_joiningsBetween 59 = .ok (.istore 5, 2) := by decide +kernel
theorem dX9_joiningsBetween_61 : decode cX9_joiningsBetween 61 = .ok (.iinc 6 1, 3) := by decide +kernel
theorem dX9_joiningsBetween_64 : decode cX9_joiningsBetween 64 = .ok (.goto (-39), 3) := by decide +kernel
theorem dX9_joiningsBetween_67 : decode cX9_joiningsBetween 67 = .ok (.aload_n 0, 1) := by decide +kernel
theorem dX9_joiningsBetween_68 : decode cX9_joiningsBetween 68 = .ok (.getfield 22, 3) := by decide +kernel
theorem dX9_joiningsBetween_71 : decode cX9_joiningsBetween 71 = .ok (.iload_n 3, 1) := by decide +kernel
theorem dX9_joiningsBetween_72 : decode cX9_joiningsBetween 72 = .ok (.iaload, 1) := by decide +kernel
theorem dX9_joiningsBetween_73 : decode cX9_joiningsBetween 73 = .ok (.istore_n 3, 1) := by decide +kernel
theorem dX9_joiningsBetween_74 : decode cX9_joiningsBetween 74 = .ok (.iinc 4 1, 3) := by decide +kernel
theorem dX9_joiningsBetween_77 : decode cX9_joiningsBetween 77 = .ok (.goto (-72), 3) := by decide +kernel
theorem dX9_joiningsBetween_80 : decode cX9_joiningsBetween 80 = .ok (.iconst (-1), 1) := by decide +kernel
theorem dX9_joiningsBetween_81 : decode cX9_joiningsBetween 81 = .ok (.ireturn, 1) := by decide +kernel
set_option maxRecDepth 100000 in
set_option maxHeartbeats 4000000 in
theorem so_X9_joiningsBetween_25 {fr : Nat} (hfr : 1 ≤ fr) (Z : AZ) (X : AX Z cX9_joiningsBetween 7 RX9 (some .int) 0 fr) (x2 : Int32) (x3 : Int32) (x4 : Int32) (x5 : Int32) (x6 : Int32) (s : Mem) (q : (Int32 × Int32 × Mem) ⊕ (Nat × Int32 × Mem)) (h : st_X9_joiningsBetween_25 x2 x3 x4 x5 x6 s = some q) (hi : ∀ y : Int32 × Int32 × Mem, q = .inl y → AW Z y.2.2 25 [some (.ref (zr Z 195)), none, some (.int x2), some (.int x3), some (.int x4), some (.int y.1), some (.int y.2.1)] []) (he : ∀ b : Nat × Int32 × Mem, q = .inr b → (b.1 = 0 → AW Z b.2.2 46 [none, none, none, none, some (.int x4), none, some (.int b.2.1)] []) ∧ (b.1 = 1 → AW Z b.2.2 67 [some (.ref (zr Z 195)), none, some (.int x2), some (.int x3), some (.int x4), none, none] [])) : AW Z s 25 [some (.ref (zr Z 195)), none, some (.int x2), some (.int x3), some (.int x4), some (.int x5), some (.int x6)] [] := by
  unfold st_X9_joiningsBetween_25 at h
  refine aw_iload X dX9_joiningsBetween_25 rfl ?_
  refine aw_bipush (v := 8) X dX9_joiningsBetween_27 (by decide) ?_
  refine aw_icmp_ge (tgt := 67) X dX9_joiningsBetween_29 (by decide) (fun c4 => ?_) (fun c4 => ?_)
  · rw [if_pos c4] at h
    cases h
    refine aw_msk [true, false, true, true, true, false, false] ?_
    exact (he _ rfl).2 rfl
  · rw [if_neg c4] at h
    refine aw_iload X dX9_joiningsBetween_32 rfl ?_
    obtain ⟨r5, er5, h⟩ := bnd h
    refine aw_callS X dX9_joiningsBetween_34 cv_RX9_89 (ok_X9_isKin er5 _ _ _ _ _) (Nat.le_trans (by decide) hfr) (by decide) rfl rfl (Nat.le_of_ble_eq_true rfl) ?_
    refine aw_if_eq (tgt := 67) X dX9_joiningsBetween_37 (by decide) (fun c6 => ?_) (fun c6 => ?_)
    · rw [if_pos c6] at h
      cases h
      refine aw_msk [true, false, true, true, true, false, false] ?_
      exact (he _ rfl).2 rfl
    · rw [if_neg c6] at h
      refine aw_iload X dX9_joiningsBetween_40 rfl ?_
      refine aw_iload_n X dX9_joiningsBetween_42 rfl ?_
      refine aw_icmp_ne (tgt := 52) X dX9_joiningsBetween_43 (by decide) (fun c7 => ?_) (fun c7 => ?_)
      · rw [if_neg c7] at h
        refine aw_aload_n X dX9_joiningsBetween_52 rfl ?_
        refine aw_getr X dX9_joiningsBetween_53 fl_RX9_22 iu_RX9 gu_RX9_3 ?_
        refine aw_iload X dX9_joiningsBetween_56 rfl ?_
        obtain ⟨v8, ev8, h⟩ := bnd h
        refine aw_iald X dX9_joiningsBetween_58 iu_RX9_3 ev8 ?_
        refine aw_istore (L' := [some (.ref (zr Z 195)), none, some (.int x2), some (.int x3), some (.int x4), some (.int v8), some (.int x6)]) X dX9_joiningsBetween_59 (by decide) rfl ?_
        refine aw_iinc (v := (x6 + 1)) (L' := [some (.ref (zr Z 195)), none, some (.int x2), some (.int x3), some (.int x4), some (.int v8), some (.int (x6 + 1))]) X dX9_joiningsBetween_61 rfl rfl (by decide) rfl ?_
        refine aw_goto (tgt := 25) X dX9_joiningsBetween_64 (by decide) ?_
        cases h
        refine aw_msk [true, false, true, true, true, true, true] ?_
        exact hi _ rfl
      · rw [if_pos c7] at h
        cases h
        refine aw_msk [false, false, false, false, true, false, true] ?_
        exact (he _ rfl).1 rfl
set_option maxRecDepth 100000 in
set_option maxHeartbeats 4000000 in
theorem jo_X9_joiningsBetween_67 {fr : Nat} (hfr : 1 ≤ fr) (Z : AZ) (X : AX Z cX9_joiningsBetween 7 RX9 (some .int) 0 fr) (x2 : Int32) (x3 : Int32) (x4 : Int32) (s : Mem) (q : (Int32 × Int32 × Mem) ⊕ (Nat × Int32 × Int32 × Mem)) (h : jn_X9_joiningsBetween_67 x2 x3 x4 s = some q) (hi : ∀ y : Int32 × Int32 × Mem, q = .inl y → AW Z y.2.2 5 [some (.ref (zr Z 195)), none, some (.int x2), some (.int y.1), some (.int y.2.1), none, none] []) (he : ∀ b : Nat × Int32 × Int32 × Mem, q = .inr b → (b.1 = 0 → AW Z b.2.2.2 46 [none, none, none, none, some (.int b.2.1), none, some (.int b.2.2.1)] []) ∧ (b.1 = 1 → AW Z b.2.2.2 80 [none, none, none, none, none, none, none] [])) : AW Z s 67 [some (.ref (zr Z 195)), none, some (.int x2), some (.int x3), some (.int x4), none, none] [] := by
  unfold jn_X9_joiningsBetween_67 at h
  refine aw_aload_n X dX9_joiningsBetween_67 rfl ?_
  refine aw_getr X dX9_joiningsBetween_68 fl_RX9_22 iu_RX9 gu_RX9_3 ?_
  refine aw_iload_n X dX9_joiningsBetween_71 rfl ?_
  obtain ⟨v10, ev10, h⟩ := bnd h
  refine aw_iald X dX9_joiningsBetween_72 iu_RX9_3 ev10 ?_
  refine aw_istore_n (L' := [some (.ref (zr Z 195)), none, some (.int x2), some (.int v10), some (.int x4), none, none]) X dX9_joiningsBetween_73 (by decide) rfl ?_
  refine aw_iinc (v := (x4 + 1)) (L' := [some (.ref (zr Z 195)), none, some (.int x2), some (.int v10), some (.int (x4 + 1)), none, none]) X dX9_joiningsBetween_74 rfl rfl (by decide) rfl ?_
  refine aw_goto (tgt := 5) X dX9_joiningsBetween_77 (by decide) ?_
  cases h
  refine aw_msk [true, false, true, true, true, false, false] ?_
  exact hi _ rfl
set_option maxRecDepth 100000 in
set_option maxHeartbeats 4000000 in
theorem so_X9_joiningsBetween_5 {fr : Nat} (hfr : 1 ≤ fr) (Z : AZ) (X : AX Z cX9_joiningsBetween 7 RX9 (some .int) 0 fr) (x2 : Int32) (x3 : Int32) (x4 : Int32) (s : Mem) (q : (Int32 × Int32 × Mem) ⊕ (Nat × Int32 × Int32 × Mem)) (h : st_X9_joiningsBetween_5 x2 x3 x4 s = some q) (hi : ∀ y : Int32 × Int32 × Mem, q = .inl y → AW Z y.2.2 5 [some (.ref (zr Z 195)), none, some (.int x2), some (.int y.1), some (.int y.2.1), none, none] []) (he : ∀ b : Nat × Int32 × Int32 × Mem, q = .inr b → (b.1 = 0 → AW Z b.2.2.2 46 [none, none, none, none, some (.int b.2.1), none, some (.int b.2.2.1)] []) ∧ (b.1 = 1 → AW Z b.2.2.2 80 [none, none, none, none, none, none, none] [])) : AW Z s 5 [some (.ref (zr Z 195)), none, some (.int x2), some (.int x3), some (.int x4), none, none] [] := by
  unfold st_X9_joiningsBetween_5 at h
  refine aw_iload X dX9_joiningsBetween_5 rfl ?_
  refine aw_bipush (v := 8) X dX9_joiningsBetween_7 (by decide) ?_
  refine aw_icmp_ge (tgt := 80) X dX9_joiningsBetween_9 (by decide) (fun c1 => ?_) (fun c1 => ?_)
  · rw [if_pos c1] at h
    cases h
    refine aw_msk [false, false, false, false, false, false, false] ?_
    exact (he _ rfl).2 rfl
  · rw [if_neg c1] at h
    refine aw_iload_n X dX9_joiningsBetween_12 rfl ?_
    obtain ⟨r2, er2, h⟩ := bnd h
    refine aw_callS X dX9_joiningsBetween_13 cv_RX9_89 (ok_X9_isKin er2 _ _ _ _ _) (Nat.le_trans (by decide) hfr) (by decide) rfl rfl (Nat.le_of_ble_eq_true rfl) ?_
    refine aw_if_eq (tgt := 80) X dX9_joiningsBetween_16 (by decide) (fun c3 => ?_) (fun c3 => ?_)
    · rw [if_pos c3] at h
      cases h
      refine aw_msk [false, false, false, false, false, false, false] ?_
      exact (he _ rfl).2 rfl
    · rw [if_neg c3] at h
      refine aw_iload_n X dX9_joiningsBetween_19 rfl ?_
      refine aw_istore (L' := [some (.ref (zr Z 195)), none, some (.int x2), some (.int x3), some (.int x4), some (.int x2), none]) X dX9_joiningsBetween_20 (by decide) rfl ?_
      refine aw_iconst (v := 0) X dX9_joiningsBetween_22 (by decide) ?_
      refine aw_istore (L' := [some (.ref (zr Z 195)), none, some (.int x2), some (.int x3), some (.int x4), some (.int x2), some (.int 0)]) X dX9_joiningsBetween_23 (by decide) rfl ?_
      obtain ⟨r9, er9, h⟩ := bnd h
      refine aw_msk [true, false, true, true, true, true, true] ?_
      refine it_ok (P := fun y : Int32 × Int32 × Mem => AW Z y.2.2 25 [some (.ref (zr Z 195)), none, some (.int x2), some (.int x3), some (.int x4), some (.int y.1), some (.int y.2.1)] []) (Q := fun b : Nat × Int32 × Mem => (b.1 = 0 → AW Z b.2.2 46 [none, none, none, none, some (.int x4), none, some (.int b.2.1)] []) ∧ (b.1 = 1 → AW Z b.2.2 67 [some (.ref (zr Z 195)), none, some (.int x2), some (.int x3), some (.int x4), none, none] [])) (fun y q hq hi he => so_X9_joiningsBetween_25 hfr Z X x2 x3 x4 y.1 y.2.1 y.2.2 q hq hi he) FUEL _ _ er9 ?_
      refine ⟨fun c0 => ?_, fun c1 => ?_⟩
      · rw [if_pos c0] at h
        cases h
        refine aw_msk [false, false, false, false, true, false, true] ?_
        exact (he _ rfl).1 rfl
      · rw [if_neg (by rw [c1]; decide)] at h
        refine aw_msk [true, false, true, true, true, false, false] ?_
        exact jo_X9_joiningsBetween_67 hfr Z X _ _ _ _ _ h hi he
set_option maxRecDepth 100000 in
set_option maxHeartbeats 4000000 in
theorem w_X9_joiningsBetween {fr : Nat} (hfr : 1 ≤ fr) (Z : AZ) (X : AX Z cX9_joiningsBetween 7 RX9 (some .int) 0 fr) (x1 : Int32) (x2 : Int32) (s : Mem) (r : Int32 × Mem) (hz : zres Z = (some (.int r.1), r.2)) (h : f_X9_joiningsBetween x1 x2 s = some r) : AW Z s 0 [some (.ref (zr Z 195)), some (.int x1), some (.int x2), none, none, none, none] [] := by
  unfold f_X9_joiningsBetween at h
  refine aw_iload_n X dX9_joiningsBetween_0 rfl ?_
  refine aw_istore_n (L' := [some (.ref (zr Z 195)), some (.int x1), some (.int x2), some (.int x1), none, none, none]) X dX9_joiningsBetween_1 (by decide) rfl ?_
  refine aw_iconst (v := 0) X dX9_joiningsBetween_2 (by decide) ?_
  refine aw_istore (L' := [some (.ref (zr Z 195)), some (.int x1), some (.int x2), some (.int x1), some (.int 0), none, none]) X dX9_joiningsBetween_3 (by decide) rfl ?_
  obtain ⟨r11, er11, h⟩ := bnd h
  refine aw_msk [true, false, true, true, true, false, false] ?_
  refine it_ok (P := fun y : Int32 × Int32 × Mem => AW Z y.2.2 5 [some (.ref (zr Z 195)), none, some (.int x2), some (.int y.1), some (.int y.2.1), none, none] []) (Q := fun b : Nat × Int32 × Int32 × Mem => (b.1 = 0 → AW Z b.2.2.2 46 [none, none, none, none, some (.int b.2.1), none, some (.int b.2.2.1)] []) ∧ (b.1 = 1 → AW Z b.2.2.2 80 [none, none, none, none, none, none, none] [])) (fun y q hq hi he => so_X9_joiningsBetween_5 hfr Z X x2 y.1 y.2.1 y.2.2 q hq hi he) FUEL _ _ er11 ?_
  refine ⟨fun c0 => ?_, fun c1 => ?_⟩
  · rw [if_pos c0] at h
    refine aw_iload X dX9_joiningsBetween_46 rfl ?_
    refine aw_iload X dX9_joiningsBetween_48 rfl ?_
    refine aw_iadd X dX9_joiningsBetween_50 ?_
    cases h
    exact aw_iret X dX9_joiningsBetween_51 rfl hz.symm
  · rw [if_neg (by rw [c1]; decide)] at h
    refine aw_iconst (v := (-1)) X dX9_joiningsBetween_80 (by decide) ?_
    cases h
    exact aw_iret X dX9_joiningsBetween_81 rfl hz.symm
set_option maxRecDepth 100000 in
set_option maxHeartbeats 4000000 in
theorem ok_X9_joiningsBetween {x1 x2 : Int32} {s : Mem} {r : Int32 × Mem} (h : f_X9_joiningsBetween x1 x2 s = some r) (l : Launch) (D : va_G) (ρ : Nat → Nat) (cA : ClassId × ClassId × ClassId) (τ : AT) : AM l D ρ cA 0 τ yX9_joiningsBetween cX9_joiningsBetween 7 (some .int) 1 [.ref (ρ 195), .int x1, .int x2] (some (.int r.1)) s r.2 := by
  refine AM_of (L := [some (.ref (ρ 195)), some (.int x1), some (.int x2), none, none, none, none]) (by decide) (by simp [Value.category]) (Nat.le_of_ble_eq_true rfl) (fun j v q => ?_) (fun Z X hρ hz hτ => ?_)
  · exact aL_ok (n := 4) [.ref (ρ 195), .int x1, .int x2] j v q
  · subst hρ
    subst hτ
    exact w_X9_joiningsBetween (Nat.le_refl _) Z X x1 x2 s r hz h

theorem dX9_markBad_0 : decode cX9_markBad 0 = .ok (.iconst 0, 1) := by decide +kernel
theorem dX9_markBad_1 : decode cX9_markBad 1 = .ok (.istore_n 2, 1) := by decide +kernel
theorem dX9_markBad_2 : decode cX9_markBad 2 = .ok (.iload_n 2, 1) := by decide +kernel
theorem dX9_markBad_3 : decode cX9_markBad 3 = .ok (.bipush 40, 2) := by decide +kernel
theorem dX9_markBad_5 : decode cX9_markBad 5 = .ok (.if_icmp .gt 16, 3) := by decide +kernel
theorem dX9_markBad_8 : decode cX9_markBad 8 = .ok (.aload_n 0, 1) := by decide +kernel
theorem dX9_markBad_9 : decode cX9_markBad 9 = .ok (.getfield 18, 3) := by decide +kernel
theorem dX9_markBad_12 : decode cX9_markBad 12 = .ok (.iload_n 2, 1) := by decide +kernel
theorem dX9_markBad_13 : decode cX9_markBad 13 = .ok (.iconst 0, 1) := by decide +kernel
theorem dX9_markBad_14 : decode cX9_markBad 14 = .ok (.bastore, 1) := by decide +kernel
theorem dX9_markBad_15 : decode cX9_markBad 15 = .ok (.iinc 2 1, 3) := by decide +kernel
theorem dX9_markBad_18 : decode cX9_markBad 18 = .ok (.goto (-16), 3) := by decide +kernel
theorem dX9_markBad_21 : decode cX9_markBad 21 = .ok (.iconst 0, 1) := by decide +kernel
theorem dX9_markBad_22 : decode cX9_markBad 22 = .ok (.istore_n 2, 1) := by decide +kernel
theorem dX9_markBad_23 : decode cX9_markBad 23 = .ok (.iload_n 2, 1) := by decide +kernel
theorem dX9_markBad_24 : decode cX9_markBad 24 = .ok (.aload_n 1, 1) := by decide +kernel
theorem dX9_markBad_25 : decode cX9_markBad 25 = .ok (.getfield 25, 3) := by decide +kernel
theorem dX9_markBad_28 : decode cX9_markBad 28 = .ok (.if_icmp .ge 32, 3) := by decide +kernel
theorem dX9_markBad_31 : decode cX9_markBad 31 = .ok (.aload_n 1, 1) := by decide +kernel
theorem dX9_markBad_32 : decode cX9_markBad 32 = .ok (.iload_n 2, 1) := by decide +kernel
theorem dX9_markBad_33 : decode cX9_markBad 33 = .ok (.invokevirtual 31, 3) := by decide +kernel
theorem dX9_markBad_36 : decode cX9_markBad 36 = .ok (.istore_n 3, 1) := by decide +kernel
theorem dX9_markBad_37 : decode cX9_markBad 37 = .ok (.iload_n 3, 1) := by decide +kernel
theorem dX9_markBad_38 : decode cX9_markBad 38 = .ok (.ifCond .lt 16, 3) := by decide +kernel
theorem dX9_markBad_41 : decode cX9_markBad 41 = .ok (.iload_n 3, 1) := by decide +kernel
theorem dX9_markBad_42 : decode cX9_markBad 42 = .ok (.bipush 40, 2) := by decide +kernel
theorem dX9_markBad_44 : decode cX9_markBad 44 = .ok (.if_icmp .gt 10, 3) := by decide +kernel
theorem dX9_markBad_47 : decode cX9_markBad 47 = .ok (.aload_n 0, 1) := by decide +kernel
theorem dX9_markBad_48 : decode cX9_markBad 48 = .ok (.getfield 18, 3) := by decide +kernel
theorem dX9_markBad_51 : decode cX9_markBad 51 = .ok (.iload_n 3, 1) := by decide +kernel
theorem dX9_markBad_52 : decode cX9_markBad 52 = .ok (.iconst 1, 1) := by decide +kernel
theorem dX9_markBad_53 : decode cX9_markBad 53 = .ok (.bastore, 1) := by decide +kernel
theorem dX9_markBad_54 : decode cX9_markBad 54 = .ok (.iinc 2 1, 3) := by decide +kernel
theorem dX9_markBad_57 : decode cX9_markBad 57 = .ok (.goto (-34), 3) := by decide +kernel
theorem dX9_markBad_60 : decode cX9_markBad 60 = .ok (.return_, 1) := by decide +kernel
set_option maxRecDepth 100000 in
set_option maxHeartbeats 4000000 in
theorem so_X9_markBad_2 {fr : Nat} (hfr : 1 ≤ fr) (Z : AZ) (X : AX Z cX9_markBad 4 RX9 none 0 fr) (a1 : Nat) (h1 : IO 0 a1 6) (x2 : Int32) (s : Mem) (q : (Int32 × Mem) ⊕ (Mem)) (h : st_X9_markBad_2 a1 x2 s = some q) (hi : ∀ y : Int32 × Mem, q = .inl y → AW Z y.2 2 [some (.ref (zr Z 195)), some (.ref (zr Z a1)), some (.int y.1), none] []) (he : ∀ b : Mem, q = .inr b → AW Z b 21 [some (.ref (zr Z 195)), some (.ref (zr Z a1)), none, none] []) : AW Z s 2 [some (.ref (zr Z 195)), some (.ref (zr Z a1)), some (.int x2), none] [] := by
  unfold st_X9_markBad_2 at h
  refine aw_iload_n X dX9_markBad_2 rfl ?_
  refine aw_bipush (v := 40) X dX9_markBad_3 (by decide) ?_
  refine aw_icmp_gt (tgt := 21) X dX9_markBad_5 (by decide) (fun c1 => ?_) (fun c1 => ?_)
  · rw [if_pos c1] at h
    cases h
    refine aw_msk [true, true, false, false] ?_
    exact he _ rfl
  · rw [if_neg c1] at h
    refine aw_aload_n X dX9_markBad_8 rfl ?_
    refine aw_getr X dX9_markBad_9 fl_RX9_18 iu_RX9 gu_RX9_2 ?_
    refine aw_iload_n X dX9_markBad_12 rfl ?_
    refine aw_iconst (v := 0) X dX9_markBad_13 (by decide) ?_
    obtain ⟨s2, es2, h⟩ := bnd h
    refine aw_zast X dX9_markBad_14 iu_RX9_2 rfl es2 ?_
    refine aw_iinc (v := (x2 + 1)) (L' := [some (.ref (zr Z 195)), some (.ref (zr Z a1)), some (.int (x2 + 1)), none]) X dX9_markBad_15 rfl rfl (by decide) rfl ?_
    refine aw_goto (tgt := 2) X dX9_markBad_18 (by decide) ?_
    cases h
    refine aw_msk [true, true, true, false] ?_
    exact hi _ rfl
set_option maxRecDepth 100000 in
set_option maxHeartbeats 4000000 in
theorem so_X9_markBad_23 {fr : Nat} (hfr : 1 ≤ fr) (Z : AZ) (X : AX Z cX9_markBad 4 RX9 none 0 fr) (a1 : Nat) (h1 : IO 0 a1 6) (x2 : Int32) (s : Mem) (q : (Int32 × Mem) ⊕ (Mem)) (h : st_X9_markBad_23 a1 x2 s = some q) (hi : ∀ y : Int32 × Mem, q = .inl y → AW Z y.2 23 [some (.ref (zr Z 195)), some (.ref (zr Z a1)), some (.int y.1), none] []) (he : ∀ b : Mem, q = .inr b → AW Z b 60 [none, none, none, none] []) : AW Z s 23 [some (.ref (zr Z 195)), some (.ref (zr Z a1)), some (.int x2), none] [] := by
  unfold st_X9_markBad_23 at h
  refine aw_iload_n X dX9_markBad_23 rfl ?_
  refine aw_aload_n X dX9_markBad_24 rfl ?_
  refine aw_geti X dX9_markBad_25 fl_RX9_25 h1 (gt_RX7_1 h1) ?_
  refine aw_icmp_ge (tgt := 60) X dX9_markBad_28 (by decide) (fun c4 => ?_) (fun c4 => ?_)
  · rw [if_pos c4] at h
    cases h
    refine aw_msk [false, false, false, false] ?_
    exact he _ rfl
  · rw [if_neg c4] at h
    refine aw_aload_n X dX9_markBad_31 rfl ?_
    refine aw_iload_n X dX9_markBad_32 rfl ?_
    obtain ⟨r5, er5, h⟩ := bnd h
    refine aw_callV X dX9_markBad_33 cv_RX9_31 (ok_X7_at h1 er5 _ _ _ _ _) h1 rfl (Nat.le_trans (by decide) hfr) (by decide) rfl rfl (Nat.le_of_ble_eq_true rfl) ?_
    refine aw_istore_n (L' := [some (.ref (zr Z 195)), some (.ref (zr Z a1)), some (.int x2), some (.int r5.1)]) X dX9_markBad_36 (by decide) rfl ?_
    refine aw_iload_n X dX9_markBad_37 rfl ?_
    refine aw_if_lt (tgt := 54) X dX9_markBad_38 (by decide) (fun c6 => ?_) (fun c6 => ?_)
    · rw [if_pos c6] at h
      refine aw_iinc (v := (x2 + 1)) (L' := [some (.ref (zr Z 195)), some (.ref (zr Z a1)), some (.int (x2 + 1)), some (.int r5.1)]) X dX9_markBad_54 rfl rfl (by decide) rfl ?_
      refine aw_goto (tgt := 23) X dX9_markBad_57 (by decide) ?_
      cases h
      refine aw_msk [true, true, true, false] ?_
      exact hi _ rfl
    · rw [if_neg c6] at h
      refine aw_iload_n X dX9_markBad_41 rfl ?_
      refine aw_bipush (v := 40) X dX9_markBad_42 (by decide) ?_
      refine aw_icmp_gt (tgt := 54) X dX9_markBad_44 (by decide) (fun c7 => ?_) (fun c7 => ?_)
      · rw [if_pos c7] at h
        refine aw_iinc (v := (x2 + 1)) (L' := [some (.ref (zr Z 195)), some (.ref (zr Z a1)), some (.int (x2 + 1)), some (.int r5.1)]) X dX9_markBad_54 rfl rfl (by decide) rfl ?_
        refine aw_goto (tgt := 23) X dX9_markBad_57 (by decide) ?_
        cases h
        refine aw_msk [true, true, true, false] ?_
        exact hi _ rfl
      · rw [if_neg c7] at h
        refine aw_aload_n X dX9_markBad_47 rfl ?_
        refine aw_getr X dX9_markBad_48 fl_RX9_18 iu_RX9 gu_RX9_2 ?_
        refine aw_iload_n X dX9_markBad_51 rfl ?_
        refine aw_iconst (v := 1) X dX9_markBad_52 (by decide) ?_
        obtain ⟨s8, es8, h⟩ := bnd h
        refine aw_zast X dX9_markBad_53 iu_RX9_2 rfl es8 ?_
        refine aw_iinc (v := (x2 + 1)) (L' := [some (.ref (zr Z 195)), some (.ref (zr Z a1)), some (.int (x2 + 1)), some (.int r5.1)]) X dX9_markBad_54 rfl rfl (by decide) rfl ?_
        refine aw_goto (tgt := 23) X dX9_markBad_57 (by decide) ?_
        cases h
        refine aw_msk [true, true, true, false] ?_
        exact hi _ rfl
set_option maxRecDepth 100000 in
set_option maxHeartbeats 4000000 in
theorem w_X9_markBad {fr : Nat} (hfr : 1 ≤ fr) (Z : AZ) (X : AX Z cX9_markBad 4 RX9 none 0 fr) (a1 : Nat) (h1 : IO 0 a1 6) (s : Mem) (r : Mem) (hz : zres Z = (none, r)) (h : f_X9_markBad a1 s = some r) : AW Z s 0 [some (.ref (zr Z 195)), some (.ref (zr Z a1)), none, none] [] := by
  unfold f_X9_markBad at h
  refine aw_iconst (v := 0) X dX9_markBad_0 (by decide) ?_
  refine aw_istore_n (L' := [some (.ref (zr Z 195)), some (.ref (zr Z a1)), some (.int 0), none]) X dX9_markBad_1 (by decide) rfl ?_
  obtain ⟨r3, er3, h⟩ := bnd h
  refine aw_msk [true, true, true, false] ?_
  refine it_ok (P := fun y : Int32 × Mem => AW Z y.2 2 [some (.ref (zr Z 195)), some (.ref (zr Z a1)), some (.int y.1), none] []) (Q := fun b : Mem => AW Z b 21 [some (.ref (zr Z 195)), some (.ref (zr Z a1)), none, none] []) (fun y q hq hi he => so_X9_markBad_2 hfr Z X a1 h1 y.1 y.2 q hq hi he) FUEL _ _ er3 ?_
  refine aw_iconst (v := 0) X dX9_markBad_21 (by decide) ?_
  refine aw_istore_n (L' := [some (.ref (zr Z 195)), some (.ref (zr Z a1)), some (.int 0), none]) X dX9_markBad_22 (by decide) rfl ?_
  obtain ⟨r9, er9, h⟩ := bnd h
  refine aw_msk [true, true, true, false] ?_
  refine it_ok (P := fun y : Int32 × Mem => AW Z y.2 23 [some (.ref (zr Z 195)), some (.ref (zr Z a1)), some (.int y.1), none] []) (Q := fun b : Mem => AW Z b 60 [none, none, none, none] []) (fun y q hq hi he => so_X9_markBad_23 hfr Z X a1 h1 y.1 y.2 q hq hi he) FUEL _ _ er9 ?_
  cases h
  exact aw_vret X dX9_markBad_60 rfl hz.symm
set_option maxRecDepth 100000 in
set_option maxHeartbeats 4000000 in
theorem ok_X9_markBad {a1 : Nat} (h1 : IO 0 a1 6) {s : Mem} {r : Mem} (h : f_X9_markBad a1 s = some r) (l : Launch) (D : va_G) (ρ : Nat → Nat) (cA : ClassId × ClassId × ClassId) (τ : AT) : AM l D ρ cA 0 τ yX9_markBad cX9_markBad 4 none 1 [.ref (ρ 195), .ref (ρ a1)] none s r := by
  refine AM_of (L := [some (.ref (ρ 195)), some (.ref (ρ a1)), none, none]) (by decide) (by simp [Value.category]) (Nat.le_of_ble_eq_true rfl) (fun j v q => ?_) (fun Z X hρ hz hτ => ?_)
  · exact aL_ok (n := 2) [.ref (ρ 195), .ref (ρ a1)] j v q
  · subst hρ
    subst hτ
    exact w_X9_markBad (Nat.le_refl _) Z X a1 h1 s r hz h

theorem dX9_waysUp_0 : decode cX9_waysUp 0 = .ok (.aload_n 0, 1) := by decide +kernel
theorem dX9_waysUp_1 : decode cX9_waysUp 1 = .ok (.aload_n 1, 1) := by decide +kernel
theorem dX9_waysUp_2 : decode cX9_waysUp 2 = .ok (.invokevirtual 93, 3) := by decide +kernel
theorem dX9_waysUp_5 : decode cX9_waysUp 5 = .ok (.aload_n 0, 1) := by decide +kernel
theorem dX9_waysUp_6 : decode cX9_waysUp 6 = .ok (.getfield 15, 3) := by decide +kernel
theorem dX9_waysUp_9 : decode cX9_waysUp 9 = .ok (.iconst 0, 1) := by decide +kernel
theorem dX9_waysUp_10 : decode cX9_waysUp 10 = .ok (.iconst 1, 1) := by decide +kernel
theorem dX9_waysUp_11 : decode cX9_waysUp 11 = .ok (.iastore, 1) := by decide +kernel
theorem dX9_waysUp_12 : decode cX9_waysUp 12 = .ok (.iconst 1, 1) := by decide +kernel
theorem dX9_waysUp_13 : decode cX9_waysUp 13 = .ok (.istore 4, 2) := by decide +kernel
theorem dX9_waysUp_15 : decode cX9_waysUp 15 = .ok (.iload 4, 2) := by decide +kernel
theorem dX9_waysUp_17 : decode cX9_waysUp 17 = .ok (.iload_n 2, 1) := by decide +kernel
theorem dX9_waysUp_18 : decode cX9_waysUp 18 = .ok (.if_icmp .gt 73, 3) := by decide +kernel
theorem dX9_waysUp_21 : decode cX9_waysUp 21 = .ok (.iconst 0, 1) := by decide +kernel
theorem dX9_waysUp_22 : decode cX9_waysUp 22 = .ok (.istore 5, 2) := by decide +kernel
theorem dX9_waysUp_24 : decode cX9_waysUp 24 = .ok (.iconst 0, 1) := by decide +kernel
theorem dX9_waysUp_25 : decode cX9_waysUp 25 = .ok (.iload 4, 2) := by decide +kernel
theorem dX9_waysUp_27 : decode cX9_waysUp 27 = .ok (.iload_n 3, 1) := by decide +kernel
theorem dX9_waysUp_28 : decode cX9_waysUp 28 = .ok (.isub, 1) := by decide +kernel
theorem dX9_waysUp_29 : decode cX9_waysUp 29 = .ok (.invokestatic 41, 3) := by decide +kernel
theorem dX9_waysUp_32 : decode cX9_waysUp 32 = .ok (.istore 6, 2) := by decide +kernel
theorem dX9_waysUp_34 : decode cX9_waysUp 34 = .ok (.iload 6, 2) := by decide +kernel
theorem dX9_waysUp_36 : decode cX9_waysUp 36 = .ok (.iload 4, 2) := by decide +kernel
theorem dX9_waysUp_38 : decode cX9_waysUp 38 = .ok (.if_icmp .ge 38, 3) := by decide +kernel
theorem dX9_waysUp_41 : decode cX9_waysUp 41 = .ok (.aload_n 0, 1) := by decide +kernel
theorem dX9_waysUp_42 : decode cX9_waysUp 42 = .ok (.getfield 18, 3) := by decide +kernel
theorem dX9_waysUp_45 : decode cX9_waysUp 45 = .ok (.iload 4, 2) := by decide +kernel
theorem dX9_waysUp_47 : decode cX9_waysUp 47 = .ok (.baload, 1) := by decide +kernel
theorem dX9_waysUp_48 : decode cX9_waysUp 48 = .ok (.ifCond .ne 28, 3) := by decide +kernel
theorem dX9_waysUp_51 : decode cX9_waysUp 51 = .ok (.iload 5, 2) := by decide +kernel
theorem dX9_waysUp_53 : decode cX9_waysUp 53 = .ok (.i2l, 1) := by decide +kernel
theorem dX9_waysUp_54 : decode cX9_waysUp 54 = .ok (.aload_n 0, 1) := by decide +kernel
theorem dX9_waysUp_55 : decode cX9_waysUp 55 = .ok (.getfield 15, 3) := by decide +kernel
theorem dX9_waysUp_58 : decode cX9_waysUp 58 = .ok (.iload 6, 2) := by decide +kernel
theorem dX9_waysUp_60 : decode cX9_waysUp 60 = .ok (.iaload, 1) := by decide +kernel
theorem dX9_waysUp_61 : decode cX9_waysUp 61 = .ok (.i2l, 1) := by decide +kernel
theorem dX9_waysUp_62 : decode cX9_waysUp 62 = .ok (.ladd, 1) := by decide +kernel
theorem dX9_waysUp_63 : decode cX9_waysUp 63 = .ok (.ldc2_w 97, 3) := by decide +kernel
theorem dX9_waysUp_66 : decode cX9_waysUp 66 = .ok (.lrem, 1) := by decide +kernel
theorem dX9_waysUp_67 : decode cX9_waysUp 67 = .ok (.l2i, 1) := by decide +kernel
theorem dX9_waysUp_68 : decode cX9_waysUp 68 = .ok (.istore 5, 2) := by decide +kernel
theorem dX9_waysUp_70 : decode cX9_waysUp 70 = .ok (.iinc 6 1, 3) := by decide +kernel
theorem dX9_waysUp_73 : decode cX9_waysUp 73 = .ok (.goto (-39), 3) := by decide +kernel
theorem dX9_waysUp_76 : decode cX9_waysUp 76 = .ok (.aload_n 0, 1) := by decide +kernel
theorem dX9_waysUp_77 : decode cX9_waysUp 77 = .ok (.getfield 15, 3) := by decide +kernel
theorem dX9_waysUp_80 : decode cX9_waysUp 80 = .ok (.iload 4, 2) := by decide +kernel
theorem dX9_waysUp_82 : decode cX9_waysUp 82 = .ok (.iload 5, 2) := by decide +kernel
theorem dX9_waysUp_84 : decode cX9_waysUp 84 = .ok (.iastore, 1) := by decide +kernel
theorem dX9_waysUp_85 : decode cX9_waysUp 85 = .ok (.iinc 4 1, 3) := by decide +kernel
theorem dX9_waysUp_88 : decode cX9_waysUp 88 = .ok (.goto (-73), 3) := by decide +kernel
theorem dX9_waysUp_91 : decode cX9_waysUp 91 = .ok (.aload_n 0, 1) := by decide +kernel
theorem dX9_waysUp_92 : decode cX9_waysUp 92 = .ok (.getfield 15, 3) := by decide +kernel
theorem dX9_waysUp_95 : decode cX9_waysUp 95 = .ok (.iload_n 2, 1) := by decide +kernel
theorem dX9_waysUp_96 : decode cX9_waysUp 96 = .ok (.iaload, 1) := by decide +kernel
theorem dX9_waysUp_97 : decode cX9_waysUp 97 = .ok (.ireturn, 1) := by decide +kernel
set_option maxRecDepth 100000 in
set_option maxHeartbeats 4000000 in
theorem so_X9_waysUp_34 {fr : Nat} (hfr : 2 ≤ fr) (Z : AZ) (X : AX Z cX9_waysUp 7 RX9 (some .int) 0 fr) (a1 : Nat) (h1 : IO 0 a1 6) (x2 : Int32) (x3 : Int32) (x4 : Int32) (x5 : Int32) (x6 : Int32) (s : Mem) (q : (Int32 × Int32 × Mem) ⊕ (Int32 × Mem)) (h : st_X9_waysUp_34 a1 x2 x3 x4 x5 x6 s = some q) (hi : ∀ y : Int32 × Int32 × Mem, q = .inl y → AW Z y.2.2 34 [some (.ref (zr Z 195)), none, some (.int x2), some (.int x3), some (.int x4), some (.int y.1), some (.int y.2.1)] []) (he : ∀ b : Int32 × Mem, q = .inr b → AW Z b.2 76 [some (.ref (zr Z 195)), none, some (.int x2), some (.int x3), some (.int x4), some (.int b.1), none] []) : AW Z s 34 [some (.ref (zr Z 195)), none, some (.int x2), some (.int x3), some (.int x4), some (.int x5), some (.int x6)] [] := by
  unfold st_X9_waysUp_34 at h
  refine aw_iload X dX9_waysUp_34 rfl ?_
  refine aw_iload X dX9_waysUp_36 rfl ?_
  refine aw_icmp_ge (tgt := 76) X dX9_waysUp_38 (by decide) (fun c4 => ?_) (fun c4 => ?_)
  · rw [if_pos c4] at h
    cases h
    refine aw_msk [true, false, true, true, true, true, false] ?_
    exact he _ rfl
  · rw [if_neg c4] at h
    refine aw_aload_n X dX9_waysUp_41 rfl ?_
    refine aw_getr X dX9_waysUp_42 fl_RX9_18 iu_RX9 gu_RX9_2 ?_
    refine aw_iload X dX9_waysUp_45 rfl ?_
    obtain ⟨v5, ev5, h⟩ := bnd h
    refine aw_zald X dX9_waysUp_47 iu_RX9_2 ev5 ?_
    refine aw_if_ne (tgt := 76) X dX9_waysUp_48 (by decide) (fun c6 => ?_) (fun c6 => ?_)
    · rw [if_neg c6] at h
      cases h
      refine aw_msk [true, false, true, true, true, true, false] ?_
      exact he _ rfl
    · rw [if_pos c6] at h
      refine aw_iload X dX9_waysUp_51 rfl ?_
      refine aw_i2l X dX9_waysUp_53 ?_
      refine aw_aload_n X dX9_waysUp_54 rfl ?_
      refine aw_getr X dX9_waysUp_55 fl_RX9_15 iu_RX9 gu_RX9_1 ?_
      refine aw_iload X dX9_waysUp_58 rfl ?_
      obtain ⟨v7, ev7, h⟩ := bnd h
      refine aw_iald X dX9_waysUp_60 iu_RX9_1 ev7 ?_
      refine aw_i2l X dX9_waysUp_61 ?_
      refine aw_ladd X dX9_waysUp_62 ?_
      refine aw_ldc2 X dX9_waysUp_63 kc_RX9_97 ?_
      refine aw_lrem X dX9_waysUp_66 (by decide) ?_
      refine aw_l2i X dX9_waysUp_67 ?_
      refine aw_istore (L' := [some (.ref (zr Z 195)), none, some (.int x2), some (.int x3), some (.int x4), some (.int (((((x5).toInt64 + (v7).toInt64) - ((x5).toInt64 + (v7).toInt64) / (1000000007 : Int64) * (1000000007 : Int64))).toInt32)), some (.int x6)]) X dX9_waysUp_68 (by decide) rfl ?_
      refine aw_iinc (v := (x6 + 1)) (L' := [some (.ref (zr Z 195)), none, some (.int x2), some (.int x3), some (.int x4), some (.int (((((x5).toInt64 + (v7).toInt64) - ((x5).toInt64 + (v7).toInt64) / (1000000007 : Int64) * (1000000007 : Int64))).toInt32)), some (.int (x6 + 1))]) X dX9_waysUp_70 rfl rfl (by decide) rfl ?_
      refine aw_goto (tgt := 34) X dX9_waysUp_73 (by decide) ?_
      cases h
      refine aw_msk [true, false, true, true, true, true, true] ?_
      exact hi _ rfl
set_option maxRecDepth 100000 in
set_option maxHeartbeats 4000000 in
theorem jo_X9_waysUp_76 {fr : Nat} (hfr : 2 ≤ fr) (Z : AZ) (X : AX Z cX9_waysUp 7 RX9 (some .int) 0 fr) (a1 : Nat) (h1 : IO 0 a1 6) (x2 : Int32) (x3 : Int32) (x4 : Int32) (x5 : Int32) (s : Mem) (q : (Int32 × Mem) ⊕ (Mem)) (h : jn_X9_waysUp_76 a1 x2 x3 x4 x5 s = some q) (hi : ∀ y : Int32 × Mem, q = .inl y → AW Z y.2 15 [some (.ref (zr Z 195)), none, some (.int x2), some (.int x3), some (.int y.1), none, none] []) (he : ∀ b : Mem, q = .inr b → AW Z b 91 [some (.ref (zr Z 195)), none, some (.int x2), none, none, none, none] []) : AW Z s 76 [some (.ref (zr Z 195)), none, some (.int x2), some (.int x3), some (.int x4), some (.int x5), none] [] := by
  unfold jn_X9_waysUp_76 at h
  refine aw_aload_n X dX9_waysUp_76 rfl ?_
  refine aw_getr X dX9_waysUp_77 fl_RX9_15 iu_RX9 gu_RX9_1 ?_
  refine aw_iload X dX9_waysUp_80 rfl ?_
  refine aw_iload X dX9_waysUp_82 rfl ?_
  obtain ⟨s9, es9, h⟩ := bnd h
  refine aw_iast X dX9_waysUp_84 iu_RX9_1 es9 ?_
  refine aw_iinc (v := (x4 + 1)) (L' := [some (.ref (zr Z 195)), none, some (.int x2), some (.int x3), some (.int (x4 + 1)), some (.int x5), none]) X dX9_waysUp_85 rfl rfl (by decide) rfl ?_
  refine aw_goto (tgt := 15) X dX9_waysUp_88 (by decide) ?_
  cases h
  refine aw_msk [true, false, true, true, true, false, false] ?_
  exact hi _ rfl
set_option maxRecDepth 100000 in
set_option maxHeartbeats 4000000 in
theorem so_X9_waysUp_15 {fr : Nat} (hfr : 2 ≤ fr) (Z : AZ) (X : AX Z cX9_waysUp 7 RX9 (some .int) 0 fr) (a1 : Nat) (h1 : IO 0 a1 6) (x2 : Int32) (x3 : Int32) (x4 : Int32) (s : Mem) (q : (Int32 × Mem) ⊕ (Mem)) (h : st_X9_waysUp_15 a1 x2 x3 x4 s = some q) (hi : ∀ y : Int32 × Mem, q = .inl y → AW Z y.2 15 [some (.ref (zr Z 195)), none, some (.int x2), some (.int x3), some (.int y.1), none, none] []) (he : ∀ b : Mem, q = .inr b → AW Z b 91 [some (.ref (zr Z 195)), none, some (.int x2), none, none, none, none] []) : AW Z s 15 [some (.ref (zr Z 195)), none, some (.int x2), some (.int x3), some (.int x4), none, none] [] := by
  unfold st_X9_waysUp_15 at h
  refine aw_iload X dX9_waysUp_15 rfl ?_
  refine aw_iload_n X dX9_waysUp_17 rfl ?_
  refine aw_icmp_gt (tgt := 91) X dX9_waysUp_18 (by decide) (fun c3 => ?_) (fun c3 => ?_)
  · rw [if_pos c3] at h
    cases h
    refine aw_msk [true, false, true, false, false, false, false] ?_
    exact he _ rfl
  · rw [if_neg c3] at h
    refine aw_iconst (v := 0) X dX9_waysUp_21 (by decide) ?_
    refine aw_istore (L' := [some (.ref (zr Z 195)), none, some (.int x2), some (.int x3), some (.int x4), some (.int 0), none]) X dX9_waysUp_22 (by decide) rfl ?_
    refine aw_iconst (v := 0) X dX9_waysUp_24 (by decide) ?_
    refine aw_iload X dX9_waysUp_25 rfl ?_
    refine aw_iload_n X dX9_waysUp_27 rfl ?_
    refine aw_isub X dX9_waysUp_28 ?_
    refine aw_mmax X (Nat.le_trans (by decide) hfr) dX9_waysUp_29 mc_RX9_41 rfl ?_
    refine aw_istore (L' := [some (.ref (zr Z 195)), none, some (.int x2), some (.int x3), some (.int x4), some (.int 0), some (.int (jmmax 0 (x4 - x3)))]) X dX9_waysUp_32 (by decide) rfl ?_
    obtain ⟨r8, er8, h⟩ := bnd h
    refine aw_msk [true, false, true, true, true, true, true] ?_
    refine it_ok (P := fun y : Int32 × Int32 × Mem => AW Z y.2.2 34 [some (.ref (zr Z 195)), none, some (.int x2), some (.int x3), some (.int x4), some (.int y.1), some (.int y.2.1)] []) (Q := fun b : Int32 × Mem => AW Z b.2 76 [some (.ref (zr Z 195)), none, some (.int x2), some (.int x3), some (.int x4), some (.int b.1), none] []) (fun y q hq hi he => so_X9_waysUp_34 hfr Z X a1 h1 x2 x3 x4 y.1 y.2.1 y.2.2 q hq hi he) FUEL _ _ er8 ?_
    refine aw_msk [true, false, true, true, true, true, false] ?_
    exact jo_X9_waysUp_76 hfr Z X a1 h1 _ _ _ _ _ _ h hi he
set_option maxRecDepth 100000 in
set_option maxHeartbeats 4000000 in
theorem w_X9_waysUp {fr : Nat} (hfr : 2 ≤ fr) (Z : AZ) (X : AX Z cX9_waysUp 7 RX9 (some .int) 0 fr) (a1 : Nat) (h1 : IO 0 a1 6) (x2 : Int32) (x3 : Int32) (s : Mem) (r : Int32 × Mem) (hz : zres Z = (some (.int r.1), r.2)) (h : f_X9_waysUp a1 x2 x3 s = some r) : AW Z s 0 [some (.ref (zr Z 195)), some (.ref (zr Z a1)), some (.int x2), some (.int x3), none, none, none] [] := by
  unfold f_X9_waysUp at h
  refine aw_aload_n X dX9_waysUp_0 rfl ?_
  refine aw_aload_n X dX9_waysUp_1 rfl ?_
  obtain ⟨r1, er1, h⟩ := bnd h
  refine aw_callV X dX9_waysUp_2 cv_RX9_93 (ok_X9_markBad h1 er1 _ _ _ _ _) iu_RX9 rfl (Nat.le_trans (by decide) hfr) (by decide) rfl rfl (Nat.le_of_ble_eq_true rfl) ?_
  refine aw_aload_n X dX9_waysUp_5 rfl ?_
  refine aw_getr X dX9_waysUp_6 fl_RX9_15 iu_RX9 gu_RX9_1 ?_
  refine aw_iconst (v := 0) X dX9_waysUp_9 (by decide) ?_
  refine aw_iconst (v := 1) X dX9_waysUp_10 (by decide) ?_
  obtain ⟨s2, es2, h⟩ := bnd h
  refine aw_iast X dX9_waysUp_11 iu_RX9_1 es2 ?_
  refine aw_iconst (v := 1) X dX9_waysUp_12 (by decide) ?_
  refine aw_istore (L' := [some (.ref (zr Z 195)), some (.ref (zr Z a1)), some (.int x2), some (.int x3), some (.int 1), none, none]) X dX9_waysUp_13 (by decide) rfl ?_
  obtain ⟨r10, er10, h⟩ := bnd h
  refine aw_msk [true, false, true, true, true, false, false] ?_
  refine it_ok (P := fun y : Int32 × Mem => AW Z y.2 15 [some (.ref (zr Z 195)), none, some (.int x2), some (.int x3), some (.int y.1), none, none] []) (Q := fun b : Mem => AW Z b 91 [some (.ref (zr Z 195)), none, some (.int x2), none, none, none, none] []) (fun y q hq hi he => so_X9_waysUp_15 hfr Z X a1 h1 x2 x3 y.1 y.2 q hq hi he) FUEL _ _ er10 ?_
  refine aw_aload_n X dX9_waysUp_91 rfl ?_
  refine aw_getr X dX9_waysUp_92 fl_RX9_15 iu_RX9 gu_RX9_1 ?_
  refine aw_iload_n X dX9_waysUp_95 rfl ?_
  obtain ⟨v11, ev11, h⟩ := bnd h
  refine aw_iald X dX9_waysUp_96 iu_RX9_1 ev11 ?_
  cases h
  exact aw_iret X dX9_waysUp_97 rfl hz.symm
set_option maxRecDepth 100000 in
set_option maxHeartbeats 4000000 in
theorem ok_X9_waysUp {a1 : Nat} (h1 : IO 0 a1 6) {x2 x3 : Int32} {s : Mem} {r : Int32 × Mem} (h : f_X9_waysUp a1 x2 x3 s = some r) (l : Launch) (D : va_G) (ρ : Nat → Nat) (cA : ClassId × ClassId × ClassId) (τ : AT) : AM l D ρ cA 0 τ yX9_waysUp cX9_waysUp 7 (some .int) 2 [.ref (ρ 195), .ref (ρ a1), .int x2, .int x3] (some (.int r.1)) s r.2 := by
  refine AM_of (L := [some (.ref (ρ 195)), some (.ref (ρ a1)), some (.int x2), some (.int x3), none, none, none]) (by decide) (by simp [Value.category]) (Nat.le_of_ble_eq_true rfl) (fun j v q => ?_) (fun Z X hρ hz hτ => ?_)
  · exact aL_ok (n := 3) [.ref (ρ 195), .ref (ρ a1), .int x2, .int x3] j v q
  · subst hρ
    subst hτ
    exact w_X9_waysUp (Nat.le_refl _) Z X a1 h1 x2 x3 s r hz h

theorem dX9_fewestGoings_0 : decode cX9_fewestGoings 0 = .ok (.aload_n 0, 1) := by decide +kernel
theorem dX9_fewestGoings_1 : decode cX9_fewestGoings 1 = .ok (.aload_n 1, 1) := by decide +kernel
theorem dX9_fewestGoings_2 : decode cX9_fewestGoings 2 = .ok (.invokevirtual 93, 3) := by decide +kernel
theorem dX9_fewestGoings_5 : decode cX9_fewestGoings 5 = .ok (.aload_n 0, 1) := by decide +kernel
theorem dX9_fewestGoings_6 : decode cX9_fewestGoings 6 = .ok (.getfield 15, 3) := by decide +kernel
theorem dX9_fewestGoings_9 : decode cX9_fewestGoings 9 = .ok (.iconst 0, 1) := by decide +kernel
theorem dX9_fewestGoings_10 : decode cX9_fewestGoings 10 = .ok (.iconst 0, 1) := by decide +kernel
theorem dX9_fewestGoings_11 : decode cX9_fewestGoings 11 = .ok (.iastore, 1) := by decide +kernel
theorem dX9_fewestGoings_12 : decode cX9_fewestGoings 12 = .ok (.iconst 1, 1) := by decide +kernel
theorem dX9_fewestGoings_13 : decode cX9_fewestGoings 13 = .ok (.istore 4, 2) := by decide +kernel
theorem dX9_fewestGoings_15 : decode cX9_fewestGoings 15 = .ok (.iload 4, 2) := by decide +kernel
theorem dX9_fewestGoings_17 : decode cX9_fewestGoings 17 = .ok (.iload_n 2, 1) := by decide +kernel
theorem dX9_fewestGoings_18 : decode cX9_fewestGoings 18 = .ok (.if_icmp .gt 103, 3) := by decide +kernel
theorem dX9_fewestGoings_21 : decode cX9_fewestGoings 21 = .ok (.iconst (-1), 1) := by decide +kernel
theorem dX9_fewestGoings_22 : decode cX9_fewestGoings 22 = .ok (.istore 5, 2) := by decide +kernel
theorem dX9_fewestGoings_24 : decode cX9_fewestGoings 24 = .ok (.iconst 0, 1) := by decide +kernel
theorem dX9_fewestGoings_25 : decode cX9_fewestGoings 25 = .ok (.iload 4, 2) := by decide +kernel
theorem dX9_fewestGoings_27 : decode cX9_fewestGoings 27 = .ok (.iload_n 3, 1) := by decide +kernel
theorem dX9_fewestGoings_28 : decode cX9_fewestGoings 28 = .ok (.isub, 1) := by decide +kernel
theorem dX9_fewestGoings_29 : decode cX9_fewestGoings 29 = .ok (.invokestatic 41, 3) := by decide +kernel
theorem dX9_fewestGoings_32 : decode cX9_fewestGoings 32 = .ok (.istore 6, 2) := by decide +kernel
theorem dX9_fewestGoings_34 : decode cX9_fewestGoings 34 = .ok (.iload 6, 2) := by decide +kernel
theorem dX9_fewestGoings_36 : decode cX9_fewestGoings 36 = .ok (.iload 4, 2) := by decide +kernel
theorem dX9_fewestGoings_38 : decode cX9_fewestGoings 38 = .ok (.if_icmp .ge 68, 3) := by decide +kernel
theorem dX9_fewestGoings_41 : decode cX9_fewestGoings 41 = .ok (.aload_n 0, 1) := by decide +kernel
theorem dX9_fewestGoings_42 : decode cX9_fewestGoings 42 = .ok (.getfield 18, 3) := by decide +kernel
theorem dX9_fewestGoings_45 : decode cX9_fewestGoings 45 = .ok (.iload 4, 2) := by decide +kernel
theorem dX9_fewestGoings_47 : decode cX9_fewestGoings 47 = .ok (.baload, 1) := by decide +kernel
theorem dX9_fewestGoings_48 : decode cX9_fewestGoings 48 = .ok (.ifCond .ne 58, 3) := by decide +kernel
theorem dX9_fewestGoings_51 : decode cX9_fewestGoings 51 = .ok (.aload_n 0, 1) := by decide +kernel
theorem dX9_fewestGoings_52 : decode cX9_fewestGoings 52 = .ok (.getfield 15, 3) := by decide +kernel
theorem dX9_fewestGoings_55 : decode cX9_fewestGoings 55 = .ok (.iload 6, 2) := by decide +kernel
theorem dX9_fewestGoings_57 : decode cX9_fewestGoings 57 = .ok (.iaload, 1) := by decide +kernel
theorem dX9_fewestGoings_58 : decode cX9_fewestGoings 58 = .ok (.iconst (-1), 1) := by decide +kernel
theorem dX9_fewestGoings_59 : decode cX9_fewestGoings 59 = .ok (.if_icmp .ne 7, 3) := by decide +kernel
theorem dX9_fewestGoings_62 : decode cX9_fewestGoings 62 = .ok (.iconst (-1), 1) := by decide +kernel
theorem dX9_fewestGoings_63 : decode cX9_fewestGoings 63 = .ok (.goto 12, 3) := by decide +kernel
theorem dX9_fewestGoings_66 : decode cX9_fewestGoings 66 = .ok (.aload_n 0, 1) := by decide +kernel
theorem dX9_fewestGoings_67 : decode cX9_fewestGoings 67 = .ok (.getfield 15, 3) := by decide +kernel
theorem dX9_fewestGoings_70 : decode cX9_fewestGoings 70 = .ok (.iload 6, 2) := by decide +kernel
theorem dX9_fewestGoings_72 : decode cX9_fewestGoings 72 = .ok (.iaload, 1) := by decide +kernel
theorem dX9_fewestGoings_73 : decode cX9_fewestGoings 73 = .ok (.iconst 1, 1) := by decide +kernel
theorem dX9_fewestGoings_74 : decode cX9_fewestGoings 74 = .ok (.iadd, 1) := by decide +kernel
theorem dX9_fewestGoings_75 : decode cX9_fewestGoings 75 = .ok (.istore 7, 2) := by decide +kernel
theorem dX9_fewestGoings_77 : decode cX9_fewestGoings 77 = .ok (.iload 7, 2) := by decide +kernel
theorem dX9_fewestGoings_79 : decode cX9_fewestGoings 79 = .ok (.iconst (-1), 1) := by decide +kernel
theorem dX9_fewestGoings_80 : decode cX9_fewestGoings 80 = .ok (.if_icmp .eq 20, 3) := by decide +kernel
theorem dX9_fewestGoings_83 : decode cX9_fewestGoings 83 = .ok (.iload 5, 2) := by decide +kernel
theorem dX9_fewestGoings_85 : decode cX9_fewestGoings 85 = .ok (.iconst (-1), 1) := by decide +kernel
theorem dX9_fewestGoings_86 : decode cX9_fewestGoings 86 = .ok (.if_icmp .eq 10, 3) := by decide +kernel
theorem dX9_fewestGoings_89 : decode cX9_fewestGoings 89 = .ok (.iload 7, 2) := by decide +kernel
theorem dX9_fewestGoings_91 : decode cX9_fewestGoings 91 = .ok (.iload 5, 2) := by decide +kernel
theorem dX9_fewestGoings_93 : decode cX9_fewestGoings 93 = .ok (.if_icmp .ge 7, 3) := by decide +kernel
theorem dX9_fewestGoings_96 : decode cX9_fewestGoings 96 = .ok (.iload 7, 2) := by decide +kernel
theorem dX9_fewestGoings_98 : decode cX9_fewestGoings 98 = .ok (.istore 5, 2) := by decide +kernel
theorem dX9_fewestGoings_100 : decode cX9_fewestGoings 100 = .ok (.iinc 6 1, 3) := by decide +kernel
theorem dX9_fewestGoings_103 : decode cX9_fewestGoings 103 = .ok (.goto (-69), 3) := by decide +kernel
theorem dX9_fewestGoings_106 : decode cX9_fewestGoings 106 = .ok (.aload_n 0, 1) := by decide +kernel
theorem dX9_fewestGoings_107 : decode cX9_fewestGoings 107 = .ok (.getfield 15, 3) := by decide +kernel
theorem dX9_fewestGoings_110 : decode cX9_fewestGoings 110 = .ok (.iload 4, 2) := by decide +kernel
theorem dX9_fewestGoings_112 : decode cX9_fewestGoings 112 = .ok (.iload 5, 2) := by decide +kernel
theorem dX9_fewestGoings_114 : decode cX9_fewestGoings 114 = .ok (.iastore, 1) := by decide +kernel
theorem dX9_fewestGoings_115 : decode cX9_fewestGoings 115 = .ok (.iinc 4 1, 3) := by decide +kernel
theorem dX9_fewestGoings_118 : decode cX9_fewestGoings 118 = .ok (.goto (-103), 3) := by decide +kernel
theorem dX9_fewestGoings_121 : decode cX9_fewestGoings 121 = .ok (.aload_n 0, 1) := by decide +kernel
theorem dX9_fewestGoings_122 : decode cX9_fewestGoings 122 = .ok (.getfield 15, 3) := by decide +kernel
theorem dX9_fewestGoings_125 : decode cX9_fewestGoings 125 = .ok (.iload_n 2, 1) := by decide +kernel
theorem dX9_fewestGoings_126 : decode cX9_fewestGoings 126 = .ok (.iaload, 1) := by decide +kernel
theorem dX9_fewestGoings_127 : decode cX9_fewestGoings 127 = .ok (.ireturn, 1) := by decide +kernel
set_option maxRecDepth 100000 in
set_option maxHeartbeats 4000000 in
theorem jo_X9_fewestGoings_75 {fr : Nat} (hfr : 2 ≤ fr) (Z : AZ) (X : AX Z cX9_fewestGoings 8 RX9 (some .int) 0 fr) (a1 : Nat) (h1 : IO 0 a1 6) (x2 : Int32) (x3 : Int32) (x4 : Int32) (x5 : Int32) (x6 : Int32) (t0 : Int32) (s : Mem) (q : (Int32 × Int32 × Mem) ⊕ (Int32 × Mem)) (h : jn_X9_fewestGoings_75 a1 x2 x3 x4 x5 x6 t0 s = some q) (hi : ∀ y : Int32 × Int32 × Mem, q = .inl y → AW Z y.2.2 34 [some (.ref (zr Z 195)), none, some (.int x2), some (.int x3), some (.int x4), some (.int y.1), some (.int y.2.1), none] []) (he : ∀ b : Int32 × Mem, q = .inr b → AW Z b.2 106 [some (.ref (zr Z 195)), none, some (.int x2), some (.int x3), some (.int x4), some (.int b.1), none, none] []) : AW Z s 75 [some (.ref (zr Z 195)), none, some (.int x2), some (.int x3), some (.int x4), some (.int x5), some (.int x6), none] [.int t0] := by
  unfold jn_X9_fewestGoings_75 at h
  refine aw_istore (L' := [some (.ref (zr Z 195)), none, some (.int x2), some (.int x3), some (.int x4), some (.int x5), some (.int x6), some (.int t0)]) X dX9_fewestGoings_75 (by decide) rfl ?_
  refine aw_iload X dX9_fewestGoings_77 rfl ?_
  refine aw_iconst (v := (-1)) X dX9_fewestGoings_79 (by decide) ?_
  refine aw_icmp_eq (tgt := 100) X dX9_fewestGoings_80 (by decide) (fun c10 => ?_) (fun c10 => ?_)
  · rw [if_pos c10] at h
    refine aw_iinc (v := (x6 + 1)) (L' := [some (.ref (zr Z 195)), none, some (.int x2), some (.int x3), some (.int x4), some (.int x5), some (.int (x6 + 1)), some (.int t0)]) X dX9_fewestGoings_100 rfl rfl (by decide) rfl ?_
    refine aw_goto (tgt := 34) X dX9_fewestGoings_103 (by decide) ?_
    cases h
    refine aw_msk [true, false, true, true, true, true, true, false] ?_
    exact hi _ rfl
  · rw [if_neg c10] at h
    refine aw_iload X dX9_fewestGoings_83 rfl ?_
    refine aw_iconst (v := (-1)) X dX9_fewestGoings_85 (by decide) ?_
    refine aw_icmp_eq (tgt := 96) X dX9_fewestGoings_86 (by decide) (fun c11 => ?_) (fun c11 => ?_)
    · rw [if_pos c11] at h
      refine aw_iload X dX9_fewestGoings_96 rfl ?_
      refine aw_istore (L' := [some (.ref (zr Z 195)), none, some (.int x2), some (.int x3), some (.int x4), some (.int t0), some (.int x6), some (.int t0)]) X dX9_fewestGoings_98 (by decide) rfl ?_
      refine aw_iinc (v := (x6 + 1)) (L' := [some (.ref (zr Z 195)), none, some (.int x2), some (.int x3), some (.int x4), some (.int t0), some (.int (x6 + 1)), some (.int t0)]) X dX9_fewestGoings_100 rfl rfl (by decide) rfl ?_
      refine aw_goto (tgt := 34) X dX9_fewestGoings_103 (by decide) ?_
      cases h
      refine aw_msk [true, false, true, true, true, true, true, false] ?_
      exact hi _ rfl
    · rw [if_neg c11] at h
      refine aw_iload X dX9_fewestGoings_89 rfl ?_
      refine aw_iload X dX9_fewestGoings_91 rfl ?_
      refine aw_icmp_ge (tgt := 100) X dX9_fewestGoings_93 (by decide) (fun c12 => ?_) (fun c12 => ?_)
      · rw [if_pos c12] at h
        refine aw_iinc (v := (x6 + 1)) (L' := [some (.ref (zr Z 195)), none, some (.int x2), some (.int x3), some (.int x4), some (.int x5), some (.int (x6 + 1)), some (.int t0)]) X dX9_fewestGoings_100 rfl rfl (by decide) rfl ?_
        refine aw_goto (tgt := 34) X dX9_fewestGoings_103 (by decide) ?_
        cases h
        refine aw_msk [true, false, true, true, true, true, true, false] ?_
        exact hi _ rfl
      · rw [if_neg c12] at h
        refine aw_iload X dX9_fewestGoings_96 rfl ?_
        refine aw_istore (L' := [some (.ref (zr Z 195)), none, some (.int x2), some (.int x3), some (.int x4), some (.int t0), some (.int x6), some (.int t0)]) X dX9_fewestGoings_98 (by decide) rfl ?_
        refine aw_iinc (v := (x6 + 1)) (L' := [some (.ref (zr Z 195)), none, some (.int x2), some (.int x3), some (.int x4), some (.int t0), some (.int (x6 + 1)), some (.int t0)]) X dX9_fewestGoings_100 rfl rfl (by decide) rfl ?_
        refine aw_goto (tgt := 34) X dX9_fewestGoings_103 (by decide) ?_
        cases h
        refine aw_msk [true, false, true, true, true, true, true, false] ?_
        exact hi _ rfl
set_option maxRecDepth 100000 in
set_option maxHeartbeats 4000000 in
theorem so_X9_fewestGoings_34 {fr : Nat} (hfr : 2 ≤ fr) (Z : AZ) (X : AX Z cX9_fewestGoings 8 RX9 (some .int) 0 fr) (a1 : Nat) (h1 : IO 0 a1 6) (x2 : Int32) (x3 : Int32) (x4 : Int32) (x5 : Int32) (x6 : Int32) (s : Mem) (q : (Int32 × Int32 × Mem) ⊕ (Int32 × Mem)) (h : st_X9_fewestGoings_34 a1 x2 x3 x4 x5 x6 s = some q) (hi : ∀ y : Int32 × Int32 × Mem, q = .inl y → AW Z y.2.2 34 [some (.ref (zr Z 195)), none, some (.int x2), some (.int x3), some (.int x4), some (.int y.1), some (.int y.2.1), none] []) (he : ∀ b : Int32 × Mem, q = .inr b → AW Z b.2 106 [some (.ref (zr Z 195)), none, some (.int x2), some (.int x3), some (.int x4), some (.int b.1), none, none] []) : AW Z s 34 [some (.ref (zr Z 195)), none, some (.int x2), some (.int x3), some (.int x4), some (.int x5), some (.int x6), none] [] := by
  unfold st_X9_fewestGoings_34 at h
  refine aw_iload X dX9_fewestGoings_34 rfl ?_
  refine aw_iload X dX9_fewestGoings_36 rfl ?_
  refine aw_icmp_ge (tgt := 106) X dX9_fewestGoings_38 (by decide) (fun c4 => ?_) (fun c4 => ?_)
  · rw [if_pos c4] at h
    cases h
    refine aw_msk [true, false, true, true, true, true, false, false] ?_
    exact he _ rfl
  · rw [if_neg c4] at h
    refine aw_aload_n X dX9_fewestGoings_41 rfl ?_
    refine aw_getr X dX9_fewestGoings_42 fl_RX9_18 iu_RX9 gu_RX9_2 ?_
    refine aw_iload X dX9_fewestGoings_45 rfl ?_
    obtain ⟨v5, ev5, h⟩ := bnd h
    refine aw_zald X dX9_fewestGoings_47 iu_RX9_2 ev5 ?_
    refine aw_if_ne (tgt := 106) X dX9_fewestGoings_48 (by decide) (fun c6 => ?_) (fun c6 => ?_)
    · rw [if_neg c6] at h
      cases h
      refine aw_msk [true, false, true, true, true, true, false, false] ?_
      exact he _ rfl
    · rw [if_pos c6] at h
      refine aw_aload_n X dX9_fewestGoings_51 rfl ?_
      refine aw_getr X dX9_fewestGoings_52 fl_RX9_15 iu_RX9 gu_RX9_1 ?_
      refine aw_iload X dX9_fewestGoings_55 rfl ?_
      obtain ⟨v7, ev7, h⟩ := bnd h
      refine aw_iald X dX9_fewestGoings_57 iu_RX9_1 ev7 ?_
      refine aw_iconst (v := (-1)) X dX9_fewestGoings_58 (by decide) ?_
      refine aw_icmp_ne (tgt := 66) X dX9_fewestGoings_59 (by decide) (fun c8 => ?_) (fun c8 => ?_)
      · rw [if_neg c8] at h
        refine aw_aload_n X dX9_fewestGoings_66 rfl ?_
        refine aw_getr X dX9_fewestGoings_67 fl_RX9_15 iu_RX9 gu_RX9_1 ?_
        refine aw_iload X dX9_fewestGoings_70 rfl ?_
        obtain ⟨v9, ev9, h⟩ := bnd h
        refine aw_iald X dX9_fewestGoings_72 iu_RX9_1 ev9 ?_
        refine aw_iconst (v := 1) X dX9_fewestGoings_73 (by decide) ?_
        refine aw_iadd X dX9_fewestGoings_74 ?_
        refine aw_msk [true, false, true, true, true, true, true, false] ?_
        exact jo_X9_fewestGoings_75 hfr Z X a1 h1 _ _ _ _ _ _ _ _ h hi he
      · rw [if_pos c8] at h
        refine aw_iconst (v := (-1)) X dX9_fewestGoings_62 (by decide) ?_
        refine aw_goto (tgt := 75) X dX9_fewestGoings_63 (by decide) ?_
        refine aw_msk [true, false, true, true, true, true, true, false] ?_
        exact jo_X9_fewestGoings_75 hfr Z X a1 h1 _ _ _ _ _ _ _ _ h hi he
set_option maxRecDepth 100000 in
set_option maxHeartbeats 4000000 in
theorem jo_X9_fewestGoings_106 {fr : Nat} (hfr : 2 ≤ fr) (Z : AZ) (X : AX Z cX9_fewestGoings 8 RX9 (some .int) 0 fr) (a1 : Nat) (h1 : IO 0 a1 6) (x2 : Int32) (x3 : Int32) (x4 : Int32) (x5 : Int32) (s : Mem) (q : (Int32 × Mem) ⊕ (Mem)) (h : jn_X9_fewestGoings_106 a1 x2 x3 x4 x5 s = some q) (hi : ∀ y : Int32 × Mem, q = .inl y → AW Z y.2 15 [some (.ref (zr Z 195)), none, some (.int x2), some (.int x3), some (.int y.1), none, none, none] []) (he : ∀ b : Mem, q = .inr b → AW Z b 121 [some (.ref (zr Z 195)), none, some (.int x2), none, none, none, none, none] []) : AW Z s 106 [some (.ref (zr Z 195)), none, some (.int x2), some (.int x3), some (.int x4), some (.int x5), none, none] [] := by
  unfold jn_X9_fewestGoings_106 at h
  refine aw_aload_n X dX9_fewestGoings_106 rfl ?_
  refine aw_getr X dX9_fewestGoings_107 fl_RX9_15 iu_RX9 gu_RX9_1 ?_
  refine aw_iload X dX9_fewestGoings_110 rfl ?_
  refine aw_iload X dX9_fewestGoings_112 rfl ?_
  obtain ⟨s14, es14, h⟩ := bnd h
  refine aw_iast X dX9_fewestGoings_114 iu_RX9_1 es14 ?_
  refine aw_iinc (v := (x4 + 1)) (L' := [some (.ref (zr Z 195)), none, some (.int x2), some (.int x3), some (.int (x4 + 1)), some (.int x5), none, none]) X dX9_fewestGoings_115 rfl rfl (by decide) rfl ?_
  refine aw_goto (tgt := 15) X dX9_fewestGoings_118 (by decide) ?_
  cases h
  refine aw_msk [true, false, true, true, true, false, false, false] ?_
  exact hi _ rfl
set_option maxRecDepth 100000 in
set_option maxHeartbeats 4000000 in
theorem so_X9_fewestGoings_15 {fr : Nat} (hfr : 2 ≤ fr) (Z : AZ) (X : AX Z cX9_fewestGoings 8 RX9 (some .int) 0 fr) (a1 : Nat) (h1 : IO 0 a1 6) (x2 : Int32) (x3 : Int32) (x4 : Int32) (s : Mem) (q : (Int32 × Mem) ⊕ (Mem)) (h : st_X9_fewestGoings_15 a1 x2 x3 x4 s = some q) (hi : ∀ y : Int32 × Mem, q = .inl y → AW Z y.2 15 [some (.ref (zr Z 195)), none, some (.int x2), some (.int x3), some (.int y.1), none, none, none] []) (he : ∀ b : Mem, q = .inr b → AW Z b 121 [some (.ref (zr Z 195)), none, some (.int x2), none, none, none, none, none] []) : AW Z s 15 [some (.ref (zr Z 195)), none, some (.int x2), some (.int x3), some (.int x4), none, none, none] [] := by
  unfold st_X9_fewestGoings_15 at h
  refine aw_iload X dX9_fewestGoings_15 rfl ?_
  refine aw_iload_n X dX9_fewestGoings_17 rfl ?_
  refine aw_icmp_gt (tgt := 121) X dX9_fewestGoings_18 (by decide) (fun c3 => ?_) (fun c3 => ?_)
  · rw [if_pos c3] at h
    cases h
    refine aw_msk [true, false, true, false, false, false, false, false] ?_
    exact he _ rfl
  · rw [if_neg c3] at h
    refine aw_iconst (v := (-1)) X dX9_fewestGoings_21 (by decide) ?_
    refine aw_istore (L' := [some (.ref (zr Z 195)), none, some (.int x2), some (.int x3), some (.int x4), some (.int (-1)), none, none]) X dX9_fewestGoings_22 (by decide) rfl ?_
    refine aw_iconst (v := 0) X dX9_fewestGoings_24 (by decide) ?_
    refine aw_iload X dX9_fewestGoings_25 rfl ?_
    refine aw_iload_n X dX9_fewestGoings_27 rfl ?_
    refine aw_isub X dX9_fewestGoings_28 ?_
    refine aw_mmax X (Nat.le_trans (by decide) hfr) dX9_fewestGoings_29 mc_RX9_41 rfl ?_
    refine aw_istore (L' := [some (.ref (zr Z 195)), none, some (.int x2), some (.int x3), some (.int x4), some (.int (-1)), some (.int (jmmax 0 (x4 - x3))), none]) X dX9_fewestGoings_32 (by decide) rfl ?_
    obtain ⟨r13, er13, h⟩ := bnd h
    refine aw_msk [true, false, true, true, true, true, true, false] ?_
    refine it_ok (P := fun y : Int32 × Int32 × Mem => AW Z y.2.2 34 [some (.ref (zr Z 195)), none, some (.int x2), some (.int x3), some (.int x4), some (.int y.1), some (.int y.2.1), none] []) (Q := fun b : Int32 × Mem => AW Z b.2 106 [some (.ref (zr Z 195)), none, some (.int x2), some (.int x3), some (.int x4), some (.int b.1), none, none] []) (fun y q hq hi he => so_X9_fewestGoings_34 hfr Z X a1 h1 x2 x3 x4 y.1 y.2.1 y.2.2 q hq hi he) FUEL _ _ er13 ?_
    refine aw_msk [true, false, true, true, true, true, false, false] ?_
    exact jo_X9_fewestGoings_106 hfr Z X a1 h1 _ _ _ _ _ _ h hi he
set_option maxRecDepth 100000 in
set_option maxHeartbeats 4000000 in
theorem w_X9_fewestGoings {fr : Nat} (hfr : 2 ≤ fr) (Z : AZ) (X : AX Z cX9_fewestGoings 8 RX9 (some .int) 0 fr) (a1 : Nat) (h1 : IO 0 a1 6) (x2 : Int32) (x3 : Int32) (s : Mem) (r : Int32 × Mem) (hz : zres Z = (some (.int r.1), r.2)) (h : f_X9_fewestGoings a1 x2 x3 s = some r) : AW Z s 0 [some (.ref (zr Z 195)), some (.ref (zr Z a1)), some (.int x2), some (.int x3), none, none, none, none] [] := by
  unfold f_X9_fewestGoings at h
  refine aw_aload_n X dX9_fewestGoings_0 rfl ?_
  refine aw_aload_n X dX9_fewestGoings_1 rfl ?_
  obtain ⟨r1, er1, h⟩ := bnd h
  refine aw_callV X dX9_fewestGoings_2 cv_RX9_93 (ok_X9_markBad h1 er1 _ _ _ _ _) iu_RX9 rfl (Nat.le_trans (by decide) hfr) (by decide) rfl rfl (Nat.le_of_ble_eq_true rfl) ?_
  refine aw_aload_n X dX9_fewestGoings_5 rfl ?_
  refine aw_getr X dX9_fewestGoings_6 fl_RX9_15 iu_RX9 gu_RX9_1 ?_
  refine aw_iconst (v := 0) X dX9_fewestGoings_9 (by decide) ?_
  refine aw_iconst (v := 0) X dX9_fewestGoings_10 (by decide) ?_
  obtain ⟨s2, es2, h⟩ := bnd h
  refine aw_iast X dX9_fewestGoings_11 iu_RX9_1 es2 ?_
  refine aw_iconst (v := 1) X dX9_fewestGoings_12 (by decide) ?_
  refine aw_istore (L' := [some (.ref (zr Z 195)), some (.ref (zr Z a1)), some (.int x2), some (.int x3), some (.int 1), none, none, none]) X dX9_fewestGoings_13 (by decide) rfl ?_
  obtain ⟨r15, er15, h⟩ := bnd h
  refine aw_msk [true, false, true, true, true, false, false, false] ?_
  refine it_ok (P := fun y : Int32 × Mem => AW Z y.2 15 [some (.ref (zr Z 195)), none, some (.int x2), some (.int x3), some (.int y.1), none, none, none] []) (Q := fun b : Mem => AW Z b 121 [some (.ref (zr Z 195)), none, some (.int x2), none, none, none, none, none] []) (fun y q hq hi he => so_X9_fewestGoings_15 hfr Z X a1 h1 x2 x3 y.1 y.2 q hq hi he) FUEL _ _ er15 ?_
  refine aw_aload_n X dX9_fewestGoings_121 rfl ?_
  refine aw_getr X dX9_fewestGoings_122 fl_RX9_15 iu_RX9 gu_RX9_1 ?_
  refine aw_iload_n X dX9_fewestGoings_125 rfl ?_
  obtain ⟨v16, ev16, h⟩ := bnd h
  refine aw_iald X dX9_fewestGoings_126 iu_RX9_1 ev16 ?_
  cases h
  exact aw_iret X dX9_fewestGoings_127 rfl hz.symm
set_option maxRecDepth 100000 in
set_option maxHeartbeats 4000000 in
theorem ok_X9_fewestGoings {a1 : Nat} (h1 : IO 0 a1 6) {x2 x3 : Int32} {s : Mem} {r : Int32 × Mem} (h : f_X9_fewestGoings a1 x2 x3 s = some r) (l : Launch) (D : va_G) (ρ : Nat → Nat) (cA : ClassId × ClassId × ClassId) (τ : AT) : AM l D ρ cA 0 τ yX9_fewestGoings cX9_fewestGoings 8 (some .int) 2 [.ref (ρ 195), .ref (ρ a1), .int x2, .int x3] (some (.int r.1)) s r.2 := by
  refine AM_of (L := [some (.ref (ρ 195)), some (.ref (ρ a1)), some (.int x2), some (.int x3), none, none, none, none]) (by decide) (by simp [Value.category]) (Nat.le_of_ble_eq_true rfl) (fun j v q => ?_) (fun Z X hρ hz hτ => ?_)
  · exact aL_ok (n := 4) [.ref (ρ 195), .ref (ρ a1), .int x2, .int x3] j v q
  · subst hρ
    subst hτ
    exact w_X9_fewestGoings (Nat.le_refl _) Z X a1 h1 x2 x3 s r hz h

theorem dX9_isLost_0 : decode cX9_isLost 0 = .ok (.iconst 0, 1) := by decide +kernel
theorem dX9_isLost_1 : decode cX9_isLost 1 = .ok (.istore_n 3, 1) := by decide +kernel
theorem dX9_isLost_2 : decode cX9_isLost 2 = .ok (.iconst 0, 1) := by decide +kernel
theorem dX9_isLost_3 : decode cX9_isLost 3 = .ok (.istore 4, 2) := by decide +kernel
theorem dX9_isLost_5 : decode cX9_isLost 5 = .ok (.iconst 0, 1) := by decide +kernel
theorem dX9_isLost_6 : decode cX9_isLost 6 = .ok (.istore 5, 2) := by decide +kernel
theorem dX9_isLost_8 : decode cX9_isLost 8 = .ok (.iload 5, 2) := by decide +kernel
theorem dX9_isLost_10 : decode cX9_isLost 10 = .ok (.aload_n 0, 1) := by decide +kernel
theorem dX9_isLost_11 : decode cX9_isLost 11 = .ok (.getfield 25, 3) := by decide +kernel
theorem dX9_isLost_14 : decode cX9_isLost 14 = .ok (.if_icmp .ge 50, 3) := by decide +kernel
theorem dX9_isLost_17 : decode cX9_isLost 17 = .ok (.iload 5, 2) := by decide +kernel
theorem dX9_isLost_19 : decode cX9_isLost 19 = .ok (.iload_n 1, 1) := by decide +kernel
theorem dX9_isLost_20 : decode cX9_isLost 20 = .ok (.if_icmp .ne 7, 3) := by decide +kernel
theorem dX9_isLost_23 : decode cX9_isLost 23 = .ok (.iload_n 2, 1) := by decide +kernel
theorem dX9_isLost_24 : decode cX9_isLost 24 = .ok (.goto 9, 3) := by decide +kernel
theorem dX9_isLost_27 : decode cX9_isLost 27 = .ok (.aload_n 0, 1) := by decide +kernel
theorem dX9_isLost_28 : decode cX9_isLost 28 = .ok (.iload 5, 2) := by decide +kernel
theorem dX9_isLost_30 : decode cX9_isLost 30 = .ok (.invokevirtual 31, 3) := by decide +kernel
theorem dX9_isLost_33 : decode cX9_isLost 33 = .ok (.istore 6, 2) := by decide +kernel
theorem dX9_isLost_35 : decode cX9_isLost 35 = .ok (.iload_n 3, 1) := by decide +kernel
theorem dX9_isLost_36 : decode cX9_isLost 36 = .ok (.iload 6, 2) := by decide +kernel
theorem dX9_isLost_38 : decode cX9_isLost 38 = .ok (.ixor, 1) := by decide +kernel
theorem dX9_isLost_39 : decode cX9_isLost 39 = .ok (.istore_n 3, 1) := by decide +kernel
theorem dX9_isLost_40 : decode cX9_isLost 40 = .ok (.iload 4, 2) := by decide +kernel
theorem dX9_isLost_42 : decode cX9_isLost 42 = .ok (.ifCond .ne 9, 3) := by decide +kernel
theorem dX9_isLost_45 : decode cX9_isLost 45 = .ok (.iload 6, 2) := by decide +kernel
theorem dX9_isLost_47 : decode cX9_isLost 47 = .ok (.iconst 1, 1) := by decide +kernel
theorem dX9_isLost_48 : decode cX9_isLost 48 = .ok (.if_icmp .le 7, 3) := by decide +kernel
theorem dX9_isLost_51 : decode cX9_isLost 51 = .ok (.iconst 1, 1) := by decide +kernel
theorem dX9_isLost_52 : decode cX9_isLost 52 = .ok (.goto 4, 3) := by decide +kernel
theorem dX9_isLost_55 : decode cX9_isLost 55 = .ok (.iconst 0, 1) := by decide +kernel
theorem dX9_isLost_56 : decode cX9_isLost 56 = .ok (.istore 4, 2) := by decide +kernel
theorem dX9_isLost_58 : decode cX9_isLost 58 = .ok (.iinc 5 1, 3) := by decide +kernel
theorem dX9_isLost_61 : decode cX9_isLost 61 = .ok (.goto (-53), 3) := by decide +kernel
theorem dX9_isLost_64 : decode cX9_isLost 64 = .ok (.iload 4, 2) := by decide +kernel
theorem dX9_isLost_66 : decode cX9_isLost 66 = .ok (.ifCond .eq 15, 3) := by decide +kernel
theorem dX9_isLost_69 : decode cX9_isLost 69 = .ok (.iload_n 3, 1) := by decide +kernel
theorem dX9_isLost_70 : decode cX9_isLost 70 = .ok (.ifCond .ne 7, 3) := by decide +kernel
theorem dX9_isLost_73 : decode cX9_isLost 73 = .ok (.iconst 1, 1) := by decide +kernel
theorem dX9_isLost_74 : decode cX9_isLost 74 = .ok (.goto 17, 3) := by decide +kernel
theorem dX9_isLost_77 : decode cX9_isLost 77 = .ok (.iconst 0, 1) := by decide +kernel
theorem dX9_isLost_78 : decode cX9_isLost 78 = .ok (.goto 13, 3) := by decide +kernel
theorem dX9_isLost_81 : decode cX9_isLost 81 = .ok (.iload_n 3, 1) := by decide +kernel
theorem dX9_isLost_82 : decode cX9_isLost 82 = .ok (.iconst 1, 1) := by decide +kernel
theorem dX9_isLost_83 : decode cX9_isLost 83 = .ok (.if_icmp .ne 7, 3) := by decide +kernel
theorem dX9_isLost_86 : decode cX9_isLost 86 = .ok (.iconst 1, 1) := by decide +kernel
theorem dX9_isLost_87 : decode cX9_isLost 87 = .ok (.goto 4, 3) := by decide +kernel
theorem dX9_isLost_90 : decode cX9_isLost 90 = .ok (.iconst 0, 1) := by decide +kernel
theorem dX9_isLost_91 : decode cX9_isLost 91 = .ok (.ireturn, 1) := by decide +kernel
set_option maxRecDepth 100000 in
set_option maxHeartbeats 4000000 in
theorem jo_X9_isLost_51 {fr : Nat} (hfr : 1 ≤ fr) (Z : AZ) (X : AX Z cX9_isLost 7 RX9 (some .boolean) 0 fr) (a0 : Nat) (h0 : IO 0 a0 6) (x1 : Int32) (x2 : Int32) (x3 : Int32) (x5 : Int32) (s : Mem) (q : (Int32 × Int32 × Int32 × Mem) ⊕ (Int32 × Int32 × Mem)) (h : jn_X9_isLost_51 a0 x1 x2 x3 x5 s = some q) (hi : ∀ y : Int32 × Int32 × Int32 × Mem, q = .inl y → AW Z y.2.2.2 8 [some (.ref (zr Z a0)), some (.int x1), some (.int x2), some (.int y.1), some (.int y.2.1), some (.int y.2.2.1), none] []) (he : ∀ b : Int32 × Int32 × Mem, q = .inr b → AW Z b.2.2 64 [none, none, none, some (.int b.1), some (.int b.2.1), none, none] []) : AW Z s 51 [some (.ref (zr Z a0)), some (.int x1), some (.int x2), some (.int x3), none, some (.int x5), none] [] := by
  unfold jn_X9_isLost_51 at h
  refine aw_iconst (v := 1) X dX9_isLost_51 (by decide) ?_
  refine aw_goto (tgt := 56) X dX9_isLost_52 (by decide) ?_
  refine aw_istore (L' := [some (.ref (zr Z a0)), some (.int x1), some (.int x2), some (.int x3), some (.int 1), some (.int x5), none]) X dX9_isLost_56 (by decide) rfl ?_
  refine aw_iinc (v := (x5 + 1)) (L' := [some (.ref (zr Z a0)), some (.int x1), some (.int x2), some (.int x3), some (.int 1), some (.int (x5 + 1)), none]) X dX9_isLost_58 rfl rfl (by decide) rfl ?_
  refine aw_goto (tgt := 8) X dX9_isLost_61 (by decide) ?_
  cases h
  refine aw_msk [true, true, true, true, true, true, false] ?_
  exact hi _ rfl
set_option maxRecDepth 100000 in
set_option maxHeartbeats 4000000 in
theorem jo_X9_isLost_33 {fr : Nat} (hfr : 1 ≤ fr) (Z : AZ) (X : AX Z cX9_isLost 7 RX9 (some .boolean) 0 fr) (a0 : Nat) (h0 : IO 0 a0 6) (x1 : Int32) (x2 : Int32) (x3 : Int32) (x4 : Int32) (x5 : Int32) (t0 : Int32) (s : Mem) (q : (Int32 × Int32 × Int32 × Mem) ⊕ (Int32 × Int32 × Mem)) (h : jn_X9_isLost_33 a0 x1 x2 x3 x4 x5 t0 s = some q) (hi : ∀ y : Int32 × Int32 × Int32 × Mem, q = .inl y → AW Z y.2.2.2 8 [some (.ref (zr Z a0)), some (.int x1), some (.int x2), some (.int y.1), some (.int y.2.1), some (.int y.2.2.1), none] []) (he : ∀ b : Int32 × Int32 × Mem, q = .inr b → AW Z b.2.2 64 [none, none, none, some (.int b.1), some (.int b.2.1), none, none] []) : AW Z s 33 [some (.ref (zr Z a0)), some (.int x1), some (.int x2), some (.int x3), some (.int x4), some (.int x5), none] [.int t0] := by
  unfold jn_X9_isLost_33 at h
  refine aw_istore (L' := [some (.ref (zr Z a0)), some (.int x1), some (.int x2), some (.int x3), some (.int x4), some (.int x5), some (.int t0)]) X dX9_isLost_33 (by decide) rfl ?_
  refine aw_iload_n X dX9_isLost_35 rfl ?_
  refine aw_iload X dX9_isLost_36 rfl ?_
  refine aw_ixor X dX9_isLost_38 ?_
  refine aw_istore_n (L' := [some (.ref (zr Z a0)), some (.int x1), some (.int x2), some (.int (x3 ^^^ t0)), some (.int x4), some (.int x5), some (.int t0)]) X dX9_isLost_39 (by decide) rfl ?_
  refine aw_iload X dX9_isLost_40 rfl ?_
  refine aw_if_ne (tgt := 51) X dX9_isLost_42 (by decide) (fun c4 => ?_) (fun c4 => ?_)
  · rw [if_neg c4] at h
    refine aw_msk [true, true, true, true, false, true, false] ?_
    exact jo_X9_isLost_51 hfr Z X a0 h0 _ _ _ _ _ _ h hi he
  · rw [if_pos c4] at h
    refine aw_iload X dX9_isLost_45 rfl ?_
    refine aw_iconst (v := 1) X dX9_isLost_47 (by decide) ?_
    refine aw_icmp_le (tgt := 55) X dX9_isLost_48 (by decide) (fun c5 => ?_) (fun c5 => ?_)
    · rw [if_pos c5] at h
      refine aw_iconst (v := 0) X dX9_isLost_55 (by decide) ?_
      refine aw_istore (L' := [some (.ref (zr Z a0)), some (.int x1), some (.int x2), some (.int (x3 ^^^ t0)), some (.int 0), some (.int x5), some (.int t0)]) X dX9_isLost_56 (by decide) rfl ?_
      refine aw_iinc (v := (x5 + 1)) (L' := [some (.ref (zr Z a0)), some (.int x1), some (.int x2), some (.int (x3 ^^^ t0)), some (.int 0), some (.int (x5 + 1)), some (.int t0)]) X dX9_isLost_58 rfl rfl (by decide) rfl ?_
      refine aw_goto (tgt := 8) X dX9_isLost_61 (by decide) ?_
      cases h
      refine aw_msk [true, true, true, true, true, true, false] ?_
      exact hi _ rfl
    · rw [if_neg c5] at h
      refine aw_msk [true, true, true, true, false, true, false] ?_
      exact jo_X9_isLost_51 hfr Z X a0 h0 _ _ _ _ _ _ h hi he
set_option maxRecDepth 100000 in
set_option maxHeartbeats 4000000 in
theorem so_X9_isLost_8 {fr : Nat} (hfr : 1 ≤ fr) (Z : AZ) (X : AX Z cX9_isLost 7 RX9 (some .boolean) 0 fr) (a0 : Nat) (h0 : IO 0 a0 6) (x1 : Int32) (x2 : Int32) (x3 : Int32) (x4 : Int32) (x5 : Int32) (s : Mem) (q : (Int32 × Int32 × Int32 × Mem) ⊕ (Int32 × Int32 × Mem)) (h : st_X9_isLost_8 a0 x1 x2 x3 x4 x5 s = some q) (hi : ∀ y : Int32 × Int32 × Int32 × Mem, q = .inl y → AW Z y.2.2.2 8 [some (.ref (zr Z a0)), some (.int x1), some (.int x2), some (.int y.1), some (.int y.2.1), some (.int y.2.2.1), none] []) (he : ∀ b : Int32 × Int32 × Mem, q = .inr b → AW Z b.2.2 64 [none, none, none, some (.int b.1), some (.int b.2.1), none, none] []) : AW Z s 8 [some (.ref (zr Z a0)), some (.int x1), some (.int x2), some (.int x3), some (.int x4), some (.int x5), none] [] := by
  unfold st_X9_isLost_8 at h
  refine aw_iload X dX9_isLost_8 rfl ?_
  refine aw_aload_n X dX9_isLost_10 rfl ?_
  refine aw_geti X dX9_isLost_11 fl_RX9_25 h0 (gt_RX7_1 h0) ?_
  refine aw_icmp_ge (tgt := 64) X dX9_isLost_14 (by decide) (fun c1 => ?_) (fun c1 => ?_)
  · rw [if_pos c1] at h
    cases h
    refine aw_msk [false, false, false, true, true, false, false] ?_
    exact he _ rfl
  · rw [if_neg c1] at h
    refine aw_iload X dX9_isLost_17 rfl ?_
    refine aw_iload_n X dX9_isLost_19 rfl ?_
    refine aw_icmp_ne (tgt := 27) X dX9_isLost_20 (by decide) (fun c2 => ?_) (fun c2 => ?_)
    · rw [if_neg c2] at h
      refine aw_aload_n X dX9_isLost_27 rfl ?_
      refine aw_iload X dX9_isLost_28 rfl ?_
      obtain ⟨r3, er3, h⟩ := bnd h
      refine aw_callV X dX9_isLost_30 cv_RX9_31 (ok_X7_at h0 er3 _ _ _ _ _) h0 rfl (Nat.le_trans (by decide) hfr) (by decide) rfl rfl (Nat.le_of_ble_eq_true rfl) ?_
      refine aw_msk [true, true, true, true, true, true, false] ?_
      exact jo_X9_isLost_33 hfr Z X a0 h0 _ _ _ _ _ _ _ _ h hi he
    · rw [if_pos c2] at h
      refine aw_iload_n X dX9_isLost_23 rfl ?_
      refine aw_goto (tgt := 33) X dX9_isLost_24 (by decide) ?_
      refine aw_msk [true, true, true, true, true, true, false] ?_
      exact jo_X9_isLost_33 hfr Z X a0 h0 _ _ _ _ _ _ _ _ h hi he
set_option maxRecDepth 100000 in
set_option maxHeartbeats 4000000 in
theorem w_X9_isLost {fr : Nat} (hfr : 1 ≤ fr) (Z : AZ) (X : AX Z cX9_isLost 7 RX9 (some .boolean) 0 fr) (a0 : Nat) (h0 : IO 0 a0 6) (x1 : Int32) (x2 : Int32) (s : Mem) (r : Int32 × Mem) (hz : zres Z = (some (.int r.1), r.2)) (h : f_X9_isLost a0 x1 x2 s = some r) : AW Z s 0 [some (.ref (zr Z a0)), some (.int x1), some (.int x2), none, none, none, none] [] := by
  unfold f_X9_isLost at h
  refine aw_iconst (v := 0) X dX9_isLost_0 (by decide) ?_
  refine aw_istore_n (L' := [some (.ref (zr Z a0)), some (.int x1), some (.int x2), some (.int 0), none, none, none]) X dX9_isLost_1 (by decide) rfl ?_
  refine aw_iconst (v := 0) X dX9_isLost_2 (by decide) ?_
  refine aw_istore (L' := [some (.ref (zr Z a0)), some (.int x1), some (.int x2), some (.int 0), some (.int 0), none, none]) X dX9_isLost_3 (by decide) rfl ?_
  refine aw_iconst (v := 0) X dX9_isLost_5 (by decide) ?_
  refine aw_istore (L' := [some (.ref (zr Z a0)), some (.int x1), some (.int x2), some (.int 0), some (.int 0), some (.int 0), none]) X dX9_isLost_6 (by decide) rfl ?_
  obtain ⟨r6, er6, h⟩ := bnd h
  refine aw_msk [true, true, true, true, true, true, false] ?_
  refine it_ok (P := fun y : Int32 × Int32 × Int32 × Mem => AW Z y.2.2.2 8 [some (.ref (zr Z a0)), some (.int x1), some (.int x2), some (.int y.1), some (.int y.2.1), some (.int y.2.2.1), none] []) (Q := fun b : Int32 × Int32 × Mem => AW Z b.2.2 64 [none, none, none, some (.int b.1), some (.int b.2.1), none, none] []) (fun y q hq hi he => so_X9_isLost_8 hfr Z X a0 h0 x1 x2 y.1 y.2.1 y.2.2.1 y.2.2.2 q hq hi he) FUEL _ _ er6 ?_
  refine aw_iload X dX9_isLost_64 rfl ?_
  refine aw_if_eq (tgt := 81) X dX9_isLost_66 (by decide) (fun c7 => ?_) (fun c7 => ?_)
  · rw [if_pos c7] at h
    refine aw_iload_n X dX9_isLost_81 rfl ?_
    refine aw_iconst (v := 1) X dX9_isLost_82 (by decide) ?_
    refine aw_icmp_ne (tgt := 90) X dX9_isLost_83 (by decide) (fun c8 => ?_) (fun c8 => ?_)
    · rw [if_neg c8] at h
      refine aw_iconst (v := 0) X dX9_isLost_90 (by decide) ?_
      cases h
      exact aw_zret X dX9_isLost_91 rfl rfl hz.symm
    · rw [if_pos c8] at h
      refine aw_iconst (v := 1) X dX9_isLost_86 (by decide) ?_
      refine aw_goto (tgt := 91) X dX9_isLost_87 (by decide) ?_
      cases h
      exact aw_zret X dX9_isLost_91 rfl rfl hz.symm
  · rw [if_neg c7] at h
    refine aw_iload_n X dX9_isLost_69 rfl ?_
    refine aw_if_ne (tgt := 77) X dX9_isLost_70 (by decide) (fun c9 => ?_) (fun c9 => ?_)
    · rw [if_neg c9] at h
      refine aw_iconst (v := 0) X dX9_isLost_77 (by decide) ?_
      refine aw_goto (tgt := 91) X dX9_isLost_78 (by decide) ?_
      cases h
      exact aw_zret X dX9_isLost_91 rfl rfl hz.symm
    · rw [if_pos c9] at h
      refine aw_iconst (v := 1) X dX9_isLost_73 (by decide) ?_
      refine aw_goto (tgt := 91) X dX9_isLost_74 (by decide) ?_
      cases h
      exact aw_zret X dX9_isLost_91 rfl rfl hz.symm
set_option maxRecDepth 100000 in
set_option maxHeartbeats 4000000 in
theorem ok_X9_isLost {a0 : Nat} (h0 : IO 0 a0 6) {x1 x2 : Int32} {s : Mem} {r : Int32 × Mem} (h : f_X9_isLost a0 x1 x2 s = some r) (l : Launch) (D : va_G) (ρ : Nat → Nat) (cA : ClassId × ClassId × ClassId) (τ : AT) : AM l D ρ cA 0 τ yX9_isLost cX9_isLost 7 (some .boolean) 1 [.ref (ρ a0), .int x1, .int x2] (some (.int r.1)) s r.2 := by
  refine AM_of (L := [some (.ref (ρ a0)), some (.int x1), some (.int x2), none, none, none, none]) (by decide) (by simp [Value.category]) (Nat.le_of_ble_eq_true rfl) (fun j v q => ?_) (fun Z X hρ hz hτ => ?_)
  · exact aL_ok (n := 4) [.ref (ρ a0), .int x1, .int x2] j v q
  · subst hρ
    subst hτ
    exact w_X9_isLost (Nat.le_refl _) Z X a0 h0 x1 x2 s r hz h

theorem dX9_winningMove_0 : decode cX9_winningMove 0 = .ok (.iconst 0, 1) := by decide +kernel
theorem dX9_winningMove_1 : decode cX9_winningMove 1 = .ok (.istore_n 2, 1) := by decide +kernel
theorem dX9_winningMove_2 : decode cX9_winningMove 2 = .ok (.iload_n 2, 1) := by decide +kernel
theorem dX9_winningMove_3 : decode cX9_winningMove 3 = .ok (.aload_n 1, 1) := by decide +kernel
theorem dX9_winningMove_4 : decode cX9_winningMove 4 = .ok (.getfield 25, 3) := by decide +kernel
theorem dX9_winningMove_7 : decode cX9_winningMove 7 = .ok (.if_icmp .ge 48, 3) := by decide +kernel
theorem dX9_winningMove_10 : decode cX9_winningMove 10 = .ok (.iconst 1, 1) := by decide +kernel
theorem dX9_winningMove_11 : decode cX9_winningMove 11 = .ok (.istore_n 3, 1) := by decide +kernel
theorem dX9_winningMove_12 : decode cX9_winningMove 12 = .ok (.iload_n 3, 1) := by decide +kernel
theorem dX9_winningMove_13 : decode cX9_winningMove 13 = .ok (.aload_n 1, 1) := by decide +kernel
theorem dX9_winningMove_14 : decode cX9_winningMove 14 = .ok (.iload_n 2, 1) := by decide +kernel
theorem dX9_winningMove_15 : decode cX9_winningMove 15 = .ok (.invokevirtual 31, 3) := by decide +kernel
theorem dX9_winningMove_18 : decode cX9_winningMove 18 = .ok (.if_icmp .gt 31, 3) := by decide +kernel
theorem dX9_winningMove_21 : decode cX9_winningMove 21 = .ok (.aload_n 1, 1) := by decide +kernel
theorem dX9_winningMove_22 : decode cX9_winningMove 22 = .ok (.iload_n 2, 1) := by decide +kernel
theorem dX9_winningMove_23 : decode cX9_winningMove 23 = .ok (.aload_n 1, 1) := by decide +kernel
theorem dX9_winningMove_24 : decode cX9_winningMove 24 = .ok (.iload_n 2, 1) := by decide +kernel
theorem dX9_winningMove_25 : decode cX9_winningMove 25 = .ok (.invokevirtual 31, 3) := by decide +kernel
theorem dX9_winningMove_28 : decode cX9_winningMove 28 = .ok (.iload_n 3, 1) := by decide +kernel
theorem dX9_winningMove_29 : decode cX9_winningMove 29 = .ok (.isub, 1) := by decide +kernel
theorem dX9_winningMove_30 : decode cX9_winningMove 30 = .ok (.invokestatic 99, 3) := by decide +kernel
theorem dX9_winningMove_33 : decode cX9_winningMove 33 = .ok (.ifCond .eq 10, 3) := by decide +kernel
theorem dX9_winningMove_36 : decode cX9_winningMove 36 = .ok (.bipush 100, 2) := by decide +kernel
theorem dX9_winningMove_38 : decode cX9_winningMove 38 = .ok (.iload_n 2, 1) := by decide +kernel
theorem dX9_winningMove_39 : decode cX9_winningMove 39 = .ok (.imul, 1) := by decide +kernel
theorem dX9_winningMove_40 : decode cX9_winningMove 40 = .ok (.iload_n 3, 1) := by decide +kernel
theorem dX9_winningMove_41 : decode cX9_winningMove 41 = .ok (.iadd, 1) := by decide +kernel
theorem dX9_winningMove_42 : decode cX9_winningMove 42 = .ok (.ireturn, 1) := by decide +kernel
theorem dX9_winningMove_43 : decode cX9_winningMove 43 = .ok (.iinc 3 1, 3) := by decide +kernel
theorem dX9_winningMove_46 : decode cX9_winningMove 46 = .ok (.goto (-34), 3) := by decide +kernel
theorem dX9_winningMove_49 : decode cX9_winningMove 49 = .ok (.iinc 2 1, 3) := by decide +kernel
theorem dX9_winningMove_52 : decode cX9_winningMove 52 = .ok (.goto (-50), 3) := by decide +kernel
theorem dX9_winningMove_55 : decode cX9_winningMove 55 = .ok (.iconst (-1), 1) := by decide +kernel
theorem dX9_winningMove_56 : decode cX9_winningMove 56 = .ok (.ireturn, 1) := by decide +kernel
set_option maxRecDepth 100000 in
set_option maxHeartbeats 4000000 in
theorem so_X9_winningMove_12 {fr : Nat} (hfr : 2 ≤ fr) (Z : AZ) (X : AX Z cX9_winningMove 4 RX9 (some .int) 0 fr) (a1 : Nat) (h1 : IO 0 a1 6) (x2 : Int32) (x3 : Int32) (s : Mem) (q : (Int32 × Mem) ⊕ (Nat × Int32 × Mem)) (h : st_X9_winningMove_12 a1 x2 x3 s = some q) (hi : ∀ y : Int32 × Mem, q = .inl y → AW Z y.2 12 [none, some (.ref (zr Z a1)), some (.int x2), some (.int y.1)] []) (he : ∀ b : Nat × Int32 × Mem, q = .inr b → (b.1 = 0 → AW Z b.2.2 36 [none, none, some (.int x2), some (.int b.2.1)] []) ∧ (b.1 = 1 → AW Z b.2.2 49 [none, some (.ref (zr Z a1)), some (.int x2), none] [])) : AW Z s 12 [none, some (.ref (zr Z a1)), some (.int x2), some (.int x3)] [] := by
  unfold st_X9_winningMove_12 at h
  refine aw_iload_n X dX9_winningMove_12 rfl ?_
  refine aw_aload_n X dX9_winningMove_13 rfl ?_
  refine aw_iload_n X dX9_winningMove_14 rfl ?_
  obtain ⟨r2, er2, h⟩ := bnd h
  refine aw_callV X dX9_winningMove_15 cv_RX9_31 (ok_X7_at h1 er2 _ _ _ _ _) h1 rfl (Nat.le_trans (by decide) hfr) (by decide) rfl rfl (Nat.le_of_ble_eq_true rfl) ?_
  refine aw_icmp_gt (tgt := 49) X dX9_winningMove_18 (by decide) (fun c3 => ?_) (fun c3 => ?_)
  · rw [if_pos c3] at h
    cases h
    refine aw_msk [false, true, true, false] ?_
    exact (he _ rfl).2 rfl
  · rw [if_neg c3] at h
    refine aw_aload_n X dX9_winningMove_21 rfl ?_
    refine aw_iload_n X dX9_winningMove_22 rfl ?_
    refine aw_aload_n X dX9_winningMove_23 rfl ?_
    refine aw_iload_n X dX9_winningMove_24 rfl ?_
    obtain ⟨r4, er4, h⟩ := bnd h
    refine aw_callV X dX9_winningMove_25 cv_RX9_31 (ok_X7_at h1 er4 _ _ _ _ _) h1 rfl (Nat.le_trans (by decide) hfr) (by decide) rfl rfl (Nat.le_of_ble_eq_true rfl) ?_
    refine aw_iload_n X dX9_winningMove_28 rfl ?_
    refine aw_isub X dX9_winningMove_29 ?_
    obtain ⟨r5, er5, h⟩ := bnd h
    refine aw_callS X dX9_winningMove_30 cv_RX9_99 (ok_X9_isLost h1 er5 _ _ _ _ _) (Nat.le_trans (by decide) hfr) (by decide) rfl rfl (Nat.le_of_ble_eq_true rfl) ?_
    refine aw_if_eq (tgt := 43) X dX9_winningMove_33 (by decide) (fun c6 => ?_) (fun c6 => ?_)
    · rw [if_pos c6] at h
      refine aw_iinc (v := (x3 + 1)) (L' := [none, some (.ref (zr Z a1)), some (.int x2), some (.int (x3 + 1))]) X dX9_winningMove_43 rfl rfl (by decide) rfl ?_
      refine aw_goto (tgt := 12) X dX9_winningMove_46 (by decide) ?_
      cases h
      refine aw_msk [false, true, true, true] ?_
      exact hi _ rfl
    · rw [if_neg c6] at h
      cases h
      refine aw_msk [false, false, true, true] ?_
      exact (he _ rfl).1 rfl
set_option maxRecDepth 100000 in
set_option maxHeartbeats 4000000 in
theorem so_X9_winningMove_2 {fr : Nat} (hfr : 2 ≤ fr) (Z : AZ) (X : AX Z cX9_winningMove 4 RX9 (some .int) 0 fr) (a1 : Nat) (h1 : IO 0 a1 6) (x2 : Int32) (s : Mem) (q : (Int32 × Mem) ⊕ (Nat × Int32 × Int32 × Mem)) (h : st_X9_winningMove_2 a1 x2 s = some q) (hi : ∀ y : Int32 × Mem, q = .inl y → AW Z y.2 2 [none, some (.ref (zr Z a1)), some (.int y.1), none] []) (he : ∀ b : Nat × Int32 × Int32 × Mem, q = .inr b → (b.1 = 0 → AW Z b.2.2.2 36 [none, none, some (.int b.2.1), some (.int b.2.2.1)] []) ∧ (b.1 = 1 → AW Z b.2.2.2 55 [none, none, none, none] [])) : AW Z s 2 [none, some (.ref (zr Z a1)), some (.int x2), none] [] := by
  unfold st_X9_winningMove_2 at h
  refine aw_iload_n X dX9_winningMove_2 rfl ?_
  refine aw_aload_n X dX9_winningMove_3 rfl ?_
  refine aw_geti X dX9_winningMove_4 fl_RX9_25 h1 (gt_RX7_1 h1) ?_
  refine aw_icmp_ge (tgt := 55) X dX9_winningMove_7 (by decide) (fun c1 => ?_) (fun c1 => ?_)
  · rw [if_pos c1] at h
    cases h
    refine aw_msk [false, false, false, false] ?_
    exact (he _ rfl).2 rfl
  · rw [if_neg c1] at h
    refine aw_iconst (v := 1) X dX9_winningMove_10 (by decide) ?_
    refine aw_istore_n (L' := [none, some (.ref (zr Z a1)), some (.int x2), some (.int 1)]) X dX9_winningMove_11 (by decide) rfl ?_
    obtain ⟨r7, er7, h⟩ := bnd h
    refine aw_msk [false, true, true, true] ?_
    refine it_ok (P := fun y : Int32 × Mem => AW Z y.2 12 [none, some (.ref (zr Z a1)), some (.int x2), some (.int y.1)] []) (Q := fun b : Nat × Int32 × Mem => (b.1 = 0 → AW Z b.2.2 36 [none, none, some (.int x2), some (.int b.2.1)] []) ∧ (b.1 = 1 → AW Z b.2.2 49 [none, some (.ref (zr Z a1)), some (.int x2), none] [])) (fun y q hq hi he => so_X9_winningMove_12 hfr Z X a1 h1 x2 y.1 y.2 q hq hi he) FUEL _ _ er7 ?_
    refine ⟨fun c0 => ?_, fun c1 => ?_⟩
    · rw [if_pos c0] at h
      cases h
      refine aw_msk [false, false, true, true] ?_
      exact (he _ rfl).1 rfl
    · rw [if_neg (by rw [c1]; decide)] at h
      refine aw_iinc (v := (x2 + 1)) (L' := [none, some (.ref (zr Z a1)), some (.int (x2 + 1)), none]) X dX9_winningMove_49 rfl rfl (by decide) rfl ?_
      refine aw_goto (tgt := 2) X dX9_winningMove_52 (by decide) ?_
      cases h
      refine aw_msk [false, true, true, false] ?_
      exact hi _ rfl
set_option maxRecDepth 100000 in
set_option maxHeartbeats 4000000 in
theorem w_X9_winningMove {fr : Nat} (hfr : 2 ≤ fr) (Z : AZ) (X : AX Z cX9_winningMove 4 RX9 (some .int) 0 fr) (a1 : Nat) (h1 : IO 0 a1 6) (s : Mem) (r : Int32 × Mem) (hz : zres Z = (some (.int r.1), r.2)) (h : f_X9_winningMove a1 s = some r) : AW Z s 0 [some (.ref (zr Z 195)), some (.ref (zr Z a1)), none, none] [] := by
  unfold f_X9_winningMove at h
  refine aw_iconst (v := 0) X dX9_winningMove_0 (by decide) ?_
  refine aw_istore_n (L' := [some (.ref (zr Z 195)), some (.ref (zr Z a1)), some (.int 0), none]) X dX9_winningMove_1 (by decide) rfl ?_
  obtain ⟨r8, er8, h⟩ := bnd h
  refine aw_msk [false, true, true, false] ?_
  refine it_ok (P := fun y : Int32 × Mem => AW Z y.2 2 [none, some (.ref (zr Z a1)), some (.int y.1), none] []) (Q := fun b : Nat × Int32 × Int32 × Mem => (b.1 = 0 → AW Z b.2.2.2 36 [none, none, some (.int b.2.1), some (.int b.2.2.1)] []) ∧ (b.1 = 1 → AW Z b.2.2.2 55 [none, none, none, none] [])) (fun y q hq hi he => so_X9_winningMove_2 hfr Z X a1 h1 y.1 y.2 q hq hi he) FUEL _ _ er8 ?_
  refine ⟨fun c0 => ?_, fun c1 => ?_⟩
  · rw [if_pos c0] at h
    refine aw_bipush (v := 100) X dX9_winningMove_36 (by decide) ?_
    refine aw_iload_n X dX9_winningMove_38 rfl ?_
    refine aw_imul X dX9_winningMove_39 ?_
    refine aw_iload_n X dX9_winningMove_40 rfl ?_
    refine aw_iadd X dX9_winningMove_41 ?_
    cases h
    exact aw_iret X dX9_winningMove_42 rfl hz.symm
  · rw [if_neg (by rw [c1]; decide)] at h
    refine aw_iconst (v := (-1)) X dX9_winningMove_55 (by decide) ?_
    cases h
    exact aw_iret X dX9_winningMove_56 rfl hz.symm
set_option maxRecDepth 100000 in
set_option maxHeartbeats 4000000 in
theorem ok_X9_winningMove {a1 : Nat} (h1 : IO 0 a1 6) {s : Mem} {r : Int32 × Mem} (h : f_X9_winningMove a1 s = some r) (l : Launch) (D : va_G) (ρ : Nat → Nat) (cA : ClassId × ClassId × ClassId) (τ : AT) : AM l D ρ cA 0 τ yX9_winningMove cX9_winningMove 4 (some .int) 2 [.ref (ρ 195), .ref (ρ a1)] (some (.int r.1)) s r.2 := by
  refine AM_of (L := [some (.ref (ρ 195)), some (.ref (ρ a1)), none, none]) (by decide) (by simp [Value.category]) (Nat.le_of_ble_eq_true rfl) (fun j v q => ?_) (fun Z X hρ hz hτ => ?_)
  · exact aL_ok (n := 2) [.ref (ρ 195), .ref (ρ a1)] j v q
  · subst hρ
    subst hτ
    exact w_X9_winningMove (Nat.le_refl _) Z X a1 h1 s r hz h

theorem dX10_copyFrom_0 : decode cX10_copyFrom 0 = .ok (.aload_n 0, 1) := by decide +kernel
theorem dX10_copyFrom_1 : decode cX10_copyFrom 1 = .ok (.getfield 14, 3) := by decide +kernel
theorem dX10_copyFrom_4 : decode cX10_copyFrom 4 = .ok (.aload_n 1, 1) := by decide +kernel
theorem dX10_copyFrom_5 : decode cX10_copyFrom 5 = .ok (.getfield 14, 3) := by decide +kernel
theorem dX10_copyFrom_8 : decode cX10_copyFrom 8 = .ok (.invokevirtual 55, 3) := by decide +kernel
theorem dX10_copyFrom_11 : decode cX10_copyFrom 11 = .ok (.aload_n 0, 1) := by decide +kernel
theorem dX10_copyFrom_12 : decode cX10_copyFrom 12 = .ok (.getfield 23, 3) := by decide +kernel
theorem dX10_copyFrom_15 : decode cX10_copyFrom 15 = .ok (.aload_n 1, 1) := by decide +kernel
theorem dX10_copyFrom_16 : decode cX10_copyFrom 16 = .ok (.getfield 23, 3) := by decide +kernel
theorem dX10_copyFrom_19 : decode cX10_copyFrom 19 = .ok (.invokevirtual 59, 3) := by decide +kernel
theorem dX10_copyFrom_22 : decode cX10_copyFrom 22 = .ok (.aload_n 0, 1) := by decide +kernel
theorem dX10_copyFrom_23 : decode cX10_copyFrom 23 = .ok (.getfield 30, 3) := by decide +kernel
theorem dX10_copyFrom_26 : decode cX10_copyFrom 26 = .ok (.aload_n 1, 1) := by decide +kernel
theorem dX10_copyFrom_27 : decode cX10_copyFrom 27 = .ok (.getfield 30, 3) := by decide +kernel
theorem dX10_copyFrom_30 : decode cX10_copyFrom 30 = .ok (.invokevirtual 62, 3) := by decide +kernel
theorem dX10_copyFrom_33 : decode cX10_copyFrom 33 = .ok (.aload_n 0, 1) := by decide +kernel
theorem dX10_copyFrom_34 : decode cX10_copyFrom 34 = .ok (.getfield 34, 3) := by decide +kernel
theorem dX10_copyFrom_37 : decode cX10_copyFrom 37 = .ok (.aload_n 1, 1) := by decide +kernel
theorem dX10_copyFrom_38 : decode cX10_copyFrom 38 = .ok (.getfield 34, 3) := by decide +kernel
theorem dX10_copyFrom_41 : decode cX10_copyFrom 41 = .ok (.invokevirtual 62, 3) := by decide +kernel
theorem dX10_copyFrom_44 : decode cX10_copyFrom 44 = .ok (.aload_n 0, 1) := by decide +kernel
theorem dX10_copyFrom_45 : decode cX10_copyFrom 45 = .ok (.getfield 40, 3) := by decide +kernel
theorem dX10_copyFrom_48 : decode cX10_copyFrom 48 = .ok (.aload_n 1, 1) := by decide +kernel
theorem dX10_copyFrom_49 : decode cX10_copyFrom 49 = .ok (.getfield 40, 3) := by decide +kernel
theorem dX10_copyFrom_52 : decode cX10_copyFrom 52 = .ok (.invokevirtual 65, 3) := by decide +kernel
theorem dX10_copyFrom_55 : decode cX10_copyFrom 55 = .ok (.aload_n 0, 1) := by decide +kernel
theorem dX10_copyFrom_56 : decode cX10_copyFrom 56 = .ok (.getfield 47, 3) := by decide +kernel
theorem dX10_copyFrom_59 : decode cX10_copyFrom 59 = .ok (.aload_n 1, 1) := by decide +kernel
theorem dX10_copyFrom_60 : decode cX10_copyFrom 60 = .ok (.getfield 47, 3) := by decide +kernel
theorem dX10_copyFrom_63 : decode cX10_copyFrom 63 = .ok (.invokevirtual 68, 3) := by decide +kernel
theorem dX10_copyFrom_66 : decode cX10_copyFrom 66 = .ok (.aload_n 1, 1) := by decide +kernel
theorem dX10_copyFrom_67 : decode cX10_copyFrom 67 = .ok (.getfield 51, 3) := by decide +kernel
theorem dX10_copyFrom_70 : decode cX10_copyFrom 70 = .ok (.iconst 0, 1) := by decide +kernel
theorem dX10_copyFrom_71 : decode cX10_copyFrom 71 = .ok (.aload_n 0, 1) := by decide +kernel
theorem dX10_copyFrom_72 : decode cX10_copyFrom 72 = .ok (.getfield 51, 3) := by decide +kernel
theorem dX10_copyFrom_75 : decode cX10_copyFrom 75 = .ok (.iconst 0, 1) := by decide +kernel
theorem dX10_copyFrom_76 : decode cX10_copyFrom 76 = .ok (.sipush 600, 3) := by decide +kernel
theorem dX10_copyFrom_79 : decode cX10_copyFrom 79 = .ok (.invokestatic 71, 3) := by decide +kernel
theorem dX10_copyFrom_82 : decode cX10_copyFrom 82 = .ok (.return_, 1) := by decide +kernel
set_option maxRecDepth 100000 in
set_option maxHeartbeats 4000000 in
theorem w_X10_copyFrom {fr : Nat} (hfr : 3 ≤ fr) (Z : AZ) (X : AX Z cX10_copyFrom 2 RX10 none 0 fr) (a0 : Nat) (a1 : Nat) (h0 : IO 0 a0 9) (h1 : IO 0 a1 9) (s : Mem) (r : Mem) (hz : zres Z = (none, r)) (h : f_X10_copyFrom a0 a1 s = some r) : AW Z s 0 [some (.ref (zr Z a0)), some (.ref (zr Z a1))] [] := by
  unfold f_X10_copyFrom at h
  refine aw_aload_n X dX10_copyFrom_0 rfl ?_
  refine aw_getr X dX10_copyFrom_1 fl_RX10_14 h0 (gt_RX10_0 h0) ?_
  refine aw_aload_n X dX10_copyFrom_4 rfl ?_
  refine aw_getr X dX10_copyFrom_5 fl_RX10_14 h1 (gt_RX10_0 h1) ?_
  obtain ⟨r1, er1, h⟩ := bnd h
  refine aw_callV X dX10_copyFrom_8 cv_RX10_55 (ok_X0_copyFrom (it_RX10_0 h0) (it_RX10_0 h1) er1 _ _ _ _ _) (it_RX10_0 h0) rfl (Nat.le_trans (by decide) hfr) (by decide) rfl rfl (Nat.le_of_ble_eq_true rfl) ?_
  refine aw_aload_n X dX10_copyFrom_11 rfl ?_
  refine aw_getr X dX10_copyFrom_12 fl_RX10_23 h0 (gt_RX10_1 h0) ?_
  refine aw_aload_n X dX10_copyFrom_15 rfl ?_
  refine aw_getr X dX10_copyFrom_16 fl_RX10_23 h1 (gt_RX10_1 h1) ?_
  obtain ⟨r2, er2, h⟩ := bnd h
  refine aw_callV X dX10_copyFrom_19 cv_RX10_59 (ok_X1_copyFrom (it_RX10_1 h0) (it_RX10_1 h1) er2 _ _ _ _ _) (it_RX10_1 h0) rfl (Nat.le_trans (by decide) hfr) (by decide) rfl rfl (Nat.le_of_ble_eq_true rfl) ?_
  refine aw_aload_n X dX10_copyFrom_22 rfl ?_
  refine aw_getr X dX10_copyFrom_23 fl_RX10_30 h0 (gt_RX10_2 h0) ?_
  refine aw_aload_n X dX10_copyFrom_26 rfl ?_
  refine aw_getr X dX10_copyFrom_27 fl_RX10_30 h1 (gt_RX10_2 h1) ?_
  obtain ⟨r3, er3, h⟩ := bnd h
  refine aw_callV X dX10_copyFrom_30 cv_RX10_62 (ok_X5_copyFrom (it_RX10_2 h0) (it_RX10_2 h1) er3 _ _ _ _ _) (it_RX10_2 h0) rfl (Nat.le_trans (by decide) hfr) (by decide) rfl rfl (Nat.le_of_ble_eq_true rfl) ?_
  refine aw_aload_n X dX10_copyFrom_33 rfl ?_
  refine aw_getr X dX10_copyFrom_34 fl_RX10_34 h0 (gt_RX10_3 h0) ?_
  refine aw_aload_n X dX10_copyFrom_37 rfl ?_
  refine aw_getr X dX10_copyFrom_38 fl_RX10_34 h1 (gt_RX10_3 h1) ?_
  obtain ⟨r4, er4, h⟩ := bnd h
  refine aw_callV X dX10_copyFrom_41 cv_RX10_62 (ok_X5_copyFrom (it_RX10_3 h0) (it_RX10_3 h1) er4 _ _ _ _ _) (it_RX10_3 h0) rfl (Nat.le_trans (by decide) hfr) (by decide) rfl rfl (Nat.le_of_ble_eq_true rfl) ?_
  refine aw_aload_n X dX10_copyFrom_44 rfl ?_
  refine aw_getr X dX10_copyFrom_45 fl_RX10_40 h0 (gt_RX10_4 h0) ?_
  refine aw_aload_n X dX10_copyFrom_48 rfl ?_
  refine aw_getr X dX10_copyFrom_49 fl_RX10_40 h1 (gt_RX10_4 h1) ?_
  obtain ⟨r5, er5, h⟩ := bnd h
  refine aw_callV X dX10_copyFrom_52 cv_RX10_65 (ok_X3_copyFrom (it_RX10_4 h0) (it_RX10_4 h1) er5 _ _ _ _ _) (it_RX10_4 h0) rfl (Nat.le_trans (by decide) hfr) (by decide) rfl rfl (Nat.le_of_ble_eq_true rfl) ?_
  refine aw_aload_n X dX10_copyFrom_55 rfl ?_
  refine aw_getr X dX10_copyFrom_56 fl_RX10_47 h0 (gt_RX10_5 h0) ?_
  refine aw_aload_n X dX10_copyFrom_59 rfl ?_
  refine aw_getr X dX10_copyFrom_60 fl_RX10_47 h1 (gt_RX10_5 h1) ?_
  obtain ⟨r6, er6, h⟩ := bnd h
  refine aw_callV X dX10_copyFrom_63 cv_RX10_68 (ok_X8_copyFrom (it_RX10_5 h0) (it_RX10_5 h1) er6 _ _ _ _ _) (it_RX10_5 h0) rfl (Nat.le_trans (by decide) hfr) (by decide) rfl rfl (Nat.le_of_ble_eq_true rfl) ?_
  refine aw_aload_n X dX10_copyFrom_66 rfl ?_
  refine aw_getr X dX10_copyFrom_67 fl_RX10_51 h1 (gt_RX10_6 h1) ?_
  refine aw_iconst (v := 0) X dX10_copyFrom_70 (by decide) ?_
  refine aw_aload_n X dX10_copyFrom_71 rfl ?_
  refine aw_getr X dX10_copyFrom_72 fl_RX10_51 h0 (gt_RX10_6 h0) ?_
  refine aw_iconst (v := 0) X dX10_copyFrom_75 (by decide) ?_
  refine aw_sipush (v := 600) X dX10_copyFrom_76 (by decide) ?_
  obtain ⟨s7, es7, h⟩ := bnd h
  refine aw_copy X (Nat.le_trans (by decide) hfr) dX10_copyFrom_79 ac_RX10_71 rfl (it_RX10_6 h1) (it_RX10_6 h0) es7 ?_
  cases h
  exact aw_vret X dX10_copyFrom_82 rfl hz.symm
set_option maxRecDepth 100000 in
set_option maxHeartbeats 4000000 in
theorem ok_X10_copyFrom {a0 : Nat} {a1 : Nat} (h0 : IO 0 a0 9) (h1 : IO 0 a1 9) {s : Mem} {r : Mem} (h : f_X10_copyFrom a0 a1 s = some r) (l : Launch) (D : va_G) (ρ : Nat → Nat) (cA : ClassId × ClassId × ClassId) (τ : AT) : AM l D ρ cA 0 τ yX10_copyFrom cX10_copyFrom 2 none 3 [.ref (ρ a0), .ref (ρ a1)] none s r := by
  refine AM_of (L := [some (.ref (ρ a0)), some (.ref (ρ a1))]) (by decide) (by simp [Value.category]) (Nat.le_of_ble_eq_true rfl) (fun j v q => ?_) (fun Z X hρ hz hτ => ?_)
  · exact aL_ok (n := 0) [.ref (ρ a0), .ref (ρ a1)] j v q
  · subst hρ
    subst hτ
    exact w_X10_copyFrom (Nat.le_refl _) Z X a0 a1 h0 h1 s r hz h

theorem dX10_write_0 : decode cX10_write 0 = .ok (.aload_n 1, 1) := by decide +kernel
theorem dX10_write_1 : decode cX10_write 1 = .ok (.getfield 163, 3) := by decide +kernel
theorem dX10_write_4 : decode cX10_write 4 = .ok (.ifCond .ne 13, 3) := by decide +kernel
theorem dX10_write_7 : decode cX10_write 7 = .ok (.aload_n 1, 1) := by decide +kernel
theorem dX10_write_8 : decode cX10_write 8 = .ok (.getfield 188, 3) := by decide +kernel
theorem dX10_write_11 : decode cX10_write 11 = .ok (.sipush 150, 3) := by decide +kernel
theorem dX10_write_14 : decode cX10_write 14 = .ok (.if_icmp .lt 4, 3) := by decide +kernel
theorem dX10_write_17 : decode cX10_write 17 = .ok (.return_, 1) := by decide +kernel
theorem dX10_write_18 : decode cX10_write 18 = .ok (.aload_n 1, 1) := by decide +kernel
theorem dX10_write_19 : decode cX10_write 19 = .ok (.getfield 188, 3) := by decide +kernel
theorem dX10_write_22 : decode cX10_write 22 = .ok (.iconst 4, 1) := by decide +kernel
theorem dX10_write_23 : decode cX10_write 23 = .ok (.imul, 1) := by decide +kernel
theorem dX10_write_24 : decode cX10_write 24 = .ok (.istore 5, 2) := by decide +kernel
theorem dX10_write_26 : decode cX10_write 26 = .ok (.aload_n 0, 1) := by decide +kernel
theorem dX10_write_27 : decode cX10_write 27 = .ok (.getfield 51, 3) := by decide +kernel
theorem dX10_write_30 : decode cX10_write 30 = .ok (.iload 5, 2) := by decide +kernel
theorem dX10_write_32 : decode cX10_write 32 = .ok (.aload_n 1, 1) := by decide +kernel
theorem dX10_write_33 : decode cX10_write 33 = .ok (.getfield 84, 3) := by decide +kernel
theorem dX10_write_36 : decode cX10_write 36 = .ok (.iastore, 1) := by decide +kernel
theorem dX10_write_37 : decode cX10_write 37 = .ok (.aload_n 0, 1) := by decide +kernel
theorem dX10_write_38 : decode cX10_write 38 = .ok (.getfield 51, 3) := by decide +kernel
theorem dX10_write_41 : decode cX10_write 41 = .ok (.iload 5, 2) := by decide +kernel
theorem dX10_write_43 : decode cX10_write 43 = .ok (.iconst 1, 1) := by decide +kernel
theorem dX10_write_44 : decode cX10_write 44 = .ok (.iadd, 1) := by decide +kernel
theorem dX10_write_45 : decode cX10_write 45 = .ok (.iload_n 2, 1) := by decide +kernel
theorem dX10_write_46 : decode cX10_write 46 = .ok (.iastore, 1) := by decide +kernel
theorem dX10_write_47 : decode cX10_write 47 = .ok (.aload_n 0, 1) := by decide +kernel
theorem dX10_write_48 : decode cX10_write 48 = .ok (.getfield 51, 3) := by decide +kernel
theorem dX10_write_51 : decode cX10_write 51 = .ok (.iload 5, 2) := by decide +kernel
theorem dX10_write_53 : decode cX10_write 53 = .ok (.iconst 2, 1) := by decide +kernel
theorem dX10_write_54 : decode cX10_write 54 = .ok (.iadd, 1) := by decide +kernel
theorem dX10_write_55 : decode cX10_write 55 = .ok (.iload_n 3, 1) := by decide +kernel
theorem dX10_write_56 : decode cX10_write 56 = .ok (.iastore, 1) := by decide +kernel
theorem dX10_write_57 : decode cX10_write 57 = .ok (.aload_n 0, 1) := by decide +kernel
theorem dX10_write_58 : decode cX10_write 58 = .ok (.getfield 51, 3) := by decide +kernel
theorem dX10_write_61 : decode cX10_write 61 = .ok (.iload 5, 2) := by decide +kernel
theorem dX10_write_63 : decode cX10_write 63 = .ok (.iconst 3, 1) := by decide +kernel
theorem dX10_write_64 : decode cX10_write 64 = .ok (.iadd, 1) := by decide +kernel
theorem dX10_write_65 : decode cX10_write 65 = .ok (.iload 4, 2) := by decide +kernel
theorem dX10_write_67 : decode cX10_write 67 = .ok (.iastore, 1) := by decide +kernel
theorem dX10_write_68 : decode cX10_write 68 = .ok (.aload_n 1, 1) := by decide +kernel
theorem dX10_write_69 : decode cX10_write 69 = .ok (.dup, 1) := by decide +kernel
theorem dX10_write_70 : decode cX10_write 70 = .ok (.getfield 188, 3) := by decide +kernel
theorem dX10_write_73 : decode cX10_write 73 = .ok (.iconst 1, 1) := by decide +kernel
theorem dX10_write_74 : decode cX10_write 74 = .ok (.iadd, 1) := by decide +kernel
theorem dX10_write_75 : decode cX10_write 75 = .ok (.putfield 188, 3) := by decide +kernel
theorem dX10_write_78 : decode cX10_write 78 = .ok (.return_, 1) := by decide +kernel
set_option maxRecDepth 100000 in
set_option maxHeartbeats 4000000 in
theorem w_X10_write {fr : Nat} (hfr : 0 ≤ fr) (Z : AZ) (X : AX Z cX10_write 6 RX10 none 0 fr) (a0 : Nat) (a1 : Nat) (h0 : IO 0 a0 9) (h1 : IO 0 a1 0) (x2 : Int32) (x3 : Int32) (x4 : Int32) (s : Mem) (r : Mem) (hz : zres Z = (none, r)) (h : f_X10_write a0 a1 x2 x3 x4 s = some r) : AW Z s 0 [some (.ref (zr Z a0)), some (.ref (zr Z a1)), some (.int x2), some (.int x3), some (.int x4), none] [] := by
  unfold f_X10_write at h
  refine aw_aload_n X dX10_write_0 rfl ?_
  refine aw_geti X dX10_write_1 fl_RX10_163 h1 (gt_RX0_0 h1) ?_
  refine aw_if_ne (tgt := 17) X dX10_write_4 (by decide) (fun c1 => ?_) (fun c1 => ?_)
  · rw [if_neg c1] at h
    cases h
    exact aw_vret X dX10_write_17 rfl hz.symm
  · rw [if_pos c1] at h
    refine aw_aload_n X dX10_write_7 rfl ?_
    refine aw_geti X dX10_write_8 fl_RX10_188 h1 (gt_RX0_12 h1) ?_
    refine aw_sipush (v := 150) X dX10_write_11 (by decide) ?_
    refine aw_icmp_lt (tgt := 18) X dX10_write_14 (by decide) (fun c2 => ?_) (fun c2 => ?_)
    · rw [if_pos c2] at h
      refine aw_aload_n X dX10_write_18 rfl ?_
      refine aw_geti X dX10_write_19 fl_RX10_188 h1 (gt_RX0_12 h1) ?_
      refine aw_iconst (v := 4) X dX10_write_22 (by decide) ?_
      refine aw_imul X dX10_write_23 ?_
      refine aw_istore (L' := [some (.ref (zr Z a0)), some (.ref (zr Z a1)), some (.int x2), some (.int x3), some (.int x4), some (.int ((s a1 12) * 4))]) X dX10_write_24 (by decide) rfl ?_
      refine aw_aload_n X dX10_write_26 rfl ?_
      refine aw_getr X dX10_write_27 fl_RX10_51 h0 (gt_RX10_6 h0) ?_
      refine aw_iload X dX10_write_30 rfl ?_
      refine aw_aload_n X dX10_write_32 rfl ?_
      refine aw_geti X dX10_write_33 fl_RX10_84 h1 (gt_RX0_10 h1) ?_
      obtain ⟨s3, es3, h⟩ := bnd h
      refine aw_iast X dX10_write_36 (it_RX10_6 h0) es3 ?_
      refine aw_aload_n X dX10_write_37 rfl ?_
      refine aw_getr X dX10_write_38 fl_RX10_51 h0 (gt_RX10_6 h0) ?_
      refine aw_iload X dX10_write_41 rfl ?_
      refine aw_iconst (v := 1) X dX10_write_43 (by decide) ?_
      refine aw_iadd X dX10_write_44 ?_
      refine aw_iload_n X dX10_write_45 rfl ?_
      obtain ⟨s4, es4, h⟩ := bnd h
      refine aw_iast X dX10_write_46 (it_RX10_6 h0) es4 ?_
      refine aw_aload_n X dX10_write_47 rfl ?_
      refine aw_getr X dX10_write_48 fl_RX10_51 h0 (gt_RX10_6 h0) ?_
      refine aw_iload X dX10_write_51 rfl ?_
      refine aw_iconst (v := 2) X dX10_write_53 (by decide) ?_
      refine aw_iadd X dX10_write_54 ?_
      refine aw_iload_n X dX10_write_55 rfl ?_
      obtain ⟨s5, es5, h⟩ := bnd h
      refine aw_iast X dX10_write_56 (it_RX10_6 h0) es5 ?_
      refine aw_aload_n X dX10_write_57 rfl ?_
      refine aw_getr X dX10_write_58 fl_RX10_51 h0 (gt_RX10_6 h0) ?_
      refine aw_iload X dX10_write_61 rfl ?_
      refine aw_iconst (v := 3) X dX10_write_63 (by decide) ?_
      refine aw_iadd X dX10_write_64 ?_
      refine aw_iload X dX10_write_65 rfl ?_
      obtain ⟨s6, es6, h⟩ := bnd h
      refine aw_iast X dX10_write_67 (it_RX10_6 h0) es6 ?_
      refine aw_aload_n X dX10_write_68 rfl ?_
      refine aw_dup X dX10_write_69 rfl ?_
      refine aw_geti X dX10_write_70 fl_RX10_188 h1 (gt_RX0_12 h1) ?_
      refine aw_iconst (v := 1) X dX10_write_73 (by decide) ?_
      refine aw_iadd X dX10_write_74 ?_
      refine aw_put X dX10_write_75 fp_RX10_188 h1 (gt_RX0_12 h1) rfl rfl ?_
      cases h
      exact aw_vret X dX10_write_78 rfl hz.symm
    · rw [if_neg c2] at h
      cases h
      exact aw_vret X dX10_write_17 rfl hz.symm
set_option maxRecDepth 100000 in
set_option maxHeartbeats 4000000 in
theorem ok_X10_write {a0 : Nat} {a1 : Nat} (h0 : IO 0 a0 9) (h1 : IO 0 a1 0) {x2 x3 x4 : Int32} {s : Mem} {r : Mem} (h : f_X10_write a0 a1 x2 x3 x4 s = some r) (l : Launch) (D : va_G) (ρ : Nat → Nat) (cA : ClassId × ClassId × ClassId) (τ : AT) : AM l D ρ cA 0 τ yX10_write cX10_write 6 none 0 [.ref (ρ a0), .ref (ρ a1), .int x2, .int x3, .int x4] none s r := by
  refine AM_of (L := [some (.ref (ρ a0)), some (.ref (ρ a1)), some (.int x2), some (.int x3), some (.int x4), none]) (by decide) (by simp [Value.category]) (Nat.le_of_ble_eq_true rfl) (fun j v q => ?_) (fun Z X hρ hz hτ => ?_)
  · exact aL_ok (n := 1) [.ref (ρ a0), .ref (ρ a1), .int x2, .int x3, .int x4] j v q
  · subst hρ
    subst hτ
    exact w_X10_write (Nat.le_refl _) Z X a0 a1 h0 h1 x2 x3 x4 s r hz h

theorem dX10_nameOne_0 : decode cX10_nameOne 0 = .ok (.aload_n 1, 1) := by decide +kernel
theorem dX10_nameOne_1 : decode cX10_nameOne 1 = .ok (.getfield 127, 3) := by decide +kernel
theorem dX10_nameOne_4 : decode cX10_nameOne 4 = .ok (.iload_n 3, 1) := by decide +kernel
theorem dX10_nameOne_5 : decode cX10_nameOne 5 = .ok (.dup2, 1) := by decide +kernel
theorem dX10_nameOne_6 : decode cX10_nameOne 6 = .ok (.iaload, 1) := by decide +kernel
theorem dX10_nameOne_7 : decode cX10_nameOne 7 = .ok (.iconst 1, 1) := by decide +kernel
theorem dX10_nameOne_8 : decode cX10_nameOne 8 = .ok (.iadd, 1) := by decide +kernel
theorem dX10_nameOne_9 : decode cX10_nameOne 9 = .ok (.iastore, 1) := by decide +kernel
theorem dX10_nameOne_10 : decode cX10_nameOne 10 = .ok (.aload_n 1, 1) := by decide +kernel
theorem dX10_nameOne_11 : decode cX10_nameOne 11 = .ok (.iload_n 3, 1) := by decide +kernel
theorem dX10_nameOne_12 : decode cX10_nameOne 12 = .ok (.aload_n 1, 1) := by decide +kernel
theorem dX10_nameOne_13 : decode cX10_nameOne 13 = .ok (.getfield 110, 3) := by decide +kernel
theorem dX10_nameOne_16 : decode cX10_nameOne 16 = .ok (.iload_n 3, 1) := by decide +kernel
theorem dX10_nameOne_17 : decode cX10_nameOne 17 = .ok (.iaload, 1) := by decide +kernel
theorem dX10_nameOne_18 : decode cX10_nameOne 18 = .ok (.aload_n 0, 1) := by decide +kernel
theorem dX10_nameOne_19 : decode cX10_nameOne 19 = .ok (.getfield 23, 3) := by decide +kernel
theorem dX10_nameOne_22 : decode cX10_nameOne 22 = .ok (.iconst 0, 1) := by decide +kernel
theorem dX10_nameOne_23 : decode cX10_nameOne 23 = .ok (.aload_n 1, 1) := by decide +kernel
theorem dX10_nameOne_24 : decode cX10_nameOne 24 = .ok (.iload_n 3, 1) := by decide +kernel
theorem dX10_nameOne_25 : decode cX10_nameOne 25 = .ok (.invokevirtual 130, 3) := by decide +kernel
theorem dX10_nameOne_28 : decode cX10_nameOne 28 = .ok (.iadd, 1) := by decide +kernel
theorem dX10_nameOne_29 : decode cX10_nameOne 29 = .ok (.invokevirtual 134, 3) := by decide +kernel
theorem dX10_nameOne_32 : decode cX10_nameOne 32 = .ok (.aload_n 1, 1) := by decide +kernel
theorem dX10_nameOne_33 : decode cX10_nameOne 33 = .ok (.iload_n 3, 1) := by decide +kernel
theorem dX10_nameOne_34 : decode cX10_nameOne 34 = .ok (.iload_n 2, 1) := by decide +kernel
theorem dX10_nameOne_35 : decode cX10_nameOne 35 = .ok (.invokevirtual 138, 3) := by decide +kernel
theorem dX10_nameOne_38 : decode cX10_nameOne 38 = .ok (.aload_n 0, 1) := by decide +kernel
theorem dX10_nameOne_39 : decode cX10_nameOne 39 = .ok (.aload_n 1, 1) := by decide +kernel
theorem dX10_nameOne_40 : decode cX10_nameOne 40 = .ok (.iconst 0, 1) := by decide +kernel
theorem dX10_nameOne_41 : decode cX10_nameOne 41 = .ok (.iload_n 3, 1) := by decide +kernel
theorem dX10_nameOne_42 : decode cX10_nameOne 42 = .ok (.aload_n 1, 1) := by decide +kernel
theorem dX10_nameOne_43 : decode cX10_nameOne 43 = .ok (.getfield 110, 3) := by decide +kernel
theorem dX10_nameOne_46 : decode cX10_nameOne 46 = .ok (.iload_n 3, 1) := by decide +kernel
theorem dX10_nameOne_47 : decode cX10_nameOne 47 = .ok (.iaload, 1) := by decide +kernel
theorem dX10_nameOne_48 : decode cX10_nameOne 48 = .ok (.invokevirtual 141, 3) := by decide +kernel
theorem dX10_nameOne_51 : decode cX10_nameOne 51 = .ok (.return_, 1) := by decide +kernel
set_option maxRecDepth 100000 in
set_option maxHeartbeats 4000000 in
theorem w_X10_nameOne {fr : Nat} (hfr : 4 ≤ fr) (Z : AZ) (X : AX Z cX10_nameOne 4 RX10 none 0 fr) (a0 : Nat) (a1 : Nat) (h0 : IO 0 a0 9) (h1 : IO 0 a1 0) (x2 : Int32) (x3 : Int32) (s : Mem) (r : Mem) (hz : zres Z = (none, r)) (h : f_X10_nameOne a0 a1 x2 x3 s = some r) : AW Z s 0 [some (.ref (zr Z a0)), some (.ref (zr Z a1)), some (.int x2), some (.int x3)] [] := by
  unfold f_X10_nameOne at h
  refine aw_aload_n X dX10_nameOne_0 rfl ?_
  refine aw_getr X dX10_nameOne_1 fl_RX10_127 h1 (gt_RX0_6 h1) ?_
  refine aw_iload_n X dX10_nameOne_4 rfl ?_
  refine aw_dup2 X dX10_nameOne_5 rfl rfl ?_
  obtain ⟨v1, ev1, h⟩ := bnd h
  refine aw_iald X dX10_nameOne_6 (it_RX0_6 h1) ev1 ?_
  refine aw_iconst (v := 1) X dX10_nameOne_7 (by decide) ?_
  refine aw_iadd X dX10_nameOne_8 ?_
  obtain ⟨s2, es2, h⟩ := bnd h
  refine aw_iast X dX10_nameOne_9 (it_RX0_6 h1) es2 ?_
  refine aw_aload_n X dX10_nameOne_10 rfl ?_
  refine aw_iload_n X dX10_nameOne_11 rfl ?_
  refine aw_aload_n X dX10_nameOne_12 rfl ?_
  refine aw_getr X dX10_nameOne_13 fl_RX10_110 h1 (gt_RX0_3 h1) ?_
  refine aw_iload_n X dX10_nameOne_16 rfl ?_
  obtain ⟨v3, ev3, h⟩ := bnd h
  refine aw_iald X dX10_nameOne_17 (it_RX0_3 h1) ev3 ?_
  refine aw_aload_n X dX10_nameOne_18 rfl ?_
  refine aw_getr X dX10_nameOne_19 fl_RX10_23 h0 (gt_RX10_1 h0) ?_
  refine aw_iconst (v := 0) X dX10_nameOne_22 (by decide) ?_
  refine aw_aload_n X dX10_nameOne_23 rfl ?_
  refine aw_iload_n X dX10_nameOne_24 rfl ?_
  obtain ⟨r4, er4, h⟩ := bnd h
  refine aw_callV X dX10_nameOne_25 cv_RX10_130 (ok_X1_ask (it_RX10_1 h0) h1 er4 _ _ _ _ _) (it_RX10_1 h0) rfl (Nat.le_trans (by decide) hfr) (by decide) rfl rfl (Nat.le_of_ble_eq_true rfl) ?_
  refine aw_iadd X dX10_nameOne_28 ?_
  obtain ⟨r5, er5, h⟩ := bnd h
  refine aw_callV X dX10_nameOne_29 cv_RX10_134 (ok_X0_hiccup h1 er5 _ _ _ _ _) h1 rfl (Nat.le_trans (by decide) hfr) (by decide) rfl rfl (Nat.le_of_ble_eq_true rfl) ?_
  refine aw_aload_n X dX10_nameOne_32 rfl ?_
  refine aw_iload_n X dX10_nameOne_33 rfl ?_
  refine aw_iload_n X dX10_nameOne_34 rfl ?_
  obtain ⟨r6, er6, h⟩ := bnd h
  refine aw_callV X dX10_nameOne_35 cv_RX10_138 (ok_X0_blame h1 er6 _ _ _ _ _) h1 rfl (Nat.le_trans (by decide) hfr) (by decide) rfl rfl (Nat.le_of_ble_eq_true rfl) ?_
  refine aw_aload_n X dX10_nameOne_38 rfl ?_
  refine aw_aload_n X dX10_nameOne_39 rfl ?_
  refine aw_iconst (v := 0) X dX10_nameOne_40 (by decide) ?_
  refine aw_iload_n X dX10_nameOne_41 rfl ?_
  refine aw_aload_n X dX10_nameOne_42 rfl ?_
  refine aw_getr X dX10_nameOne_43 fl_RX10_110 h1 (gt_RX0_3 h1) ?_
  refine aw_iload_n X dX10_nameOne_46 rfl ?_
  obtain ⟨v7, ev7, h⟩ := bnd h
  refine aw_iald X dX10_nameOne_47 (it_RX0_3 h1) ev7 ?_
  obtain ⟨r8, er8, h⟩ := bnd h
  refine aw_callV X dX10_nameOne_48 cv_RX10_141 (ok_X10_write h0 h1 er8 _ _ _ _ _) h0 rfl (Nat.le_trans (by decide) hfr) (by decide) rfl rfl (Nat.le_of_ble_eq_true rfl) ?_
  cases h
  exact aw_vret X dX10_nameOne_51 rfl hz.symm
set_option maxRecDepth 100000 in
set_option maxHeartbeats 4000000 in
theorem ok_X10_nameOne {a0 : Nat} {a1 : Nat} (h0 : IO 0 a0 9) (h1 : IO 0 a1 0) {x2 x3 : Int32} {s : Mem} {r : Mem} (h : f_X10_nameOne a0 a1 x2 x3 s = some r) (l : Launch) (D : va_G) (ρ : Nat → Nat) (cA : ClassId × ClassId × ClassId) (τ : AT) : AM l D ρ cA 0 τ yX10_nameOne cX10_nameOne 4 none 4 [.ref (ρ a0), .ref (ρ a1), .int x2, .int x3] none s r := by
  refine AM_of (L := [some (.ref (ρ a0)), some (.ref (ρ a1)), some (.int x2), some (.int x3)]) (by decide) (by simp [Value.category]) (Nat.le_of_ble_eq_true rfl) (fun j v q => ?_) (fun Z X hρ hz hτ => ?_)
  · exact aL_ok (n := 0) [.ref (ρ a0), .ref (ρ a1), .int x2, .int x3] j v q
  · subst hρ
    subst hτ
    exact w_X10_nameOne (Nat.le_refl _) Z X a0 a1 h0 h1 x2 x3 s r hz h

theorem dX10_frighten_0 : decode cX10_frighten 0 = .ok (.aload_n 1, 1) := by decide +kernel
theorem dX10_frighten_1 : decode cX10_frighten 1 = .ok (.iload_n 2, 1) := by decide +kernel
theorem dX10_frighten_2 : decode cX10_frighten 2 = .ok (.aload_n 1, 1) := by decide +kernel
theorem dX10_frighten_3 : decode cX10_frighten 3 = .ok (.getfield 110, 3) := by decide +kernel
theorem dX10_frighten_6 : decode cX10_frighten 6 = .ok (.iload_n 2, 1) := by decide +kernel
theorem dX10_frighten_7 : decode cX10_frighten 7 = .ok (.iaload, 1) := by decide +kernel
theorem dX10_frighten_8 : decode cX10_frighten 8 = .ok (.iconst 2, 1) := by decide +kernel
theorem dX10_frighten_9 : decode cX10_frighten 9 = .ok (.idiv, 1) := by decide +kernel
theorem dX10_frighten_10 : decode cX10_frighten 10 = .ok (.invokevirtual 134, 3) := by decide +kernel
theorem dX10_frighten_13 : decode cX10_frighten 13 = .ok (.aload_n 1, 1) := by decide +kernel
theorem dX10_frighten_14 : decode cX10_frighten 14 = .ok (.getfield 160, 3) := by decide +kernel
theorem dX10_frighten_17 : decode cX10_frighten 17 = .ok (.iload_n 2, 1) := by decide +kernel
theorem dX10_frighten_18 : decode cX10_frighten 18 = .ok (.dup2, 1) := by decide +kernel
theorem dX10_frighten_19 : decode cX10_frighten 19 = .ok (.iaload, 1) := by decide +kernel
theorem dX10_frighten_20 : decode cX10_frighten 20 = .ok (.iconst 1, 1) := by decide +kernel
theorem dX10_frighten_21 : decode cX10_frighten 21 = .ok (.iadd, 1) := by decide +kernel
theorem dX10_frighten_22 : decode cX10_frighten 22 = .ok (.iastore, 1) := by decide +kernel
theorem dX10_frighten_23 : decode cX10_frighten 23 = .ok (.aload_n 0, 1) := by decide +kernel
theorem dX10_frighten_24 : decode cX10_frighten 24 = .ok (.aload_n 1, 1) := by decide +kernel
theorem dX10_frighten_25 : decode cX10_frighten 25 = .ok (.iconst 5, 1) := by decide +kernel
theorem dX10_frighten_26 : decode cX10_frighten 26 = .ok (.iload_n 2, 1) := by decide +kernel
theorem dX10_frighten_27 : decode cX10_frighten 27 = .ok (.aload_n 1, 1) := by decide +kernel
theorem dX10_frighten_28 : decode cX10_frighten 28 = .ok (.getfield 110, 3) := by decide +kernel
theorem dX10_frighten_31 : decode cX10_frighten 31 = .ok (.iload_n 2, 1) := by decide +kernel
theorem dX10_frighten_32 : decode cX10_frighten 32 = .ok (.iaload, 1) := by decide +kernel
theorem dX10_frighten_33 : decode cX10_frighten 33 = .ok (.invokevirtual 141, 3) := by decide +kernel
theorem dX10_frighten_36 : decode cX10_frighten 36 = .ok (.return_, 1) := by decide +kernel
set_option maxRecDepth 100000 in
set_option maxHeartbeats 4000000 in
theorem w_X10_frighten {fr : Nat} (hfr : 2 ≤ fr) (Z : AZ) (X : AX Z cX10_frighten 3 RX10 none 0 fr) (a0 : Nat) (a1 : Nat) (h0 : IO 0 a0 9) (h1 : IO 0 a1 0) (x2 : Int32) (s : Mem) (r : Mem) (hz : zres Z = (none, r)) (h : f_X10_frighten a0 a1 x2 s = some r) : AW Z s 0 [some (.ref (zr Z a0)), some (.ref (zr Z a1)), some (.int x2)] [] := by
  unfold f_X10_frighten at h
  refine aw_aload_n X dX10_frighten_0 rfl ?_
  refine aw_iload_n X dX10_frighten_1 rfl ?_
  refine aw_aload_n X dX10_frighten_2 rfl ?_
  refine aw_getr X dX10_frighten_3 fl_RX10_110 h1 (gt_RX0_3 h1) ?_
  refine aw_iload_n X dX10_frighten_6 rfl ?_
  obtain ⟨v1, ev1, h⟩ := bnd h
  refine aw_iald X dX10_frighten_7 (it_RX0_3 h1) ev1 ?_
  refine aw_iconst (v := 2) X dX10_frighten_8 (by decide) ?_
  refine aw_idiv X dX10_frighten_9 (by decide) ?_
  obtain ⟨r2, er2, h⟩ := bnd h
  refine aw_callV X dX10_frighten_10 cv_RX10_134 (ok_X0_hiccup h1 er2 _ _ _ _ _) h1 rfl (Nat.le_trans (by decide) hfr) (by decide) rfl rfl (Nat.le_of_ble_eq_true rfl) ?_
  refine aw_aload_n X dX10_frighten_13 rfl ?_
  refine aw_getr X dX10_frighten_14 fl_RX10_160 h1 (gt_RX0_8 h1) ?_
  refine aw_iload_n X dX10_frighten_17 rfl ?_
  refine aw_dup2 X dX10_frighten_18 rfl rfl ?_
  obtain ⟨v3, ev3, h⟩ := bnd h
  refine aw_iald X dX10_frighten_19 (it_RX0_8 h1) ev3 ?_
  refine aw_iconst (v := 1) X dX10_frighten_20 (by decide) ?_
  refine aw_iadd X dX10_frighten_21 ?_
  obtain ⟨s4, es4, h⟩ := bnd h
  refine aw_iast X dX10_frighten_22 (it_RX0_8 h1) es4 ?_
  refine aw_aload_n X dX10_frighten_23 rfl ?_
  refine aw_aload_n X dX10_frighten_24 rfl ?_
  refine aw_iconst (v := 5) X dX10_frighten_25 (by decide) ?_
  refine aw_iload_n X dX10_frighten_26 rfl ?_
  refine aw_aload_n X dX10_frighten_27 rfl ?_
  refine aw_getr X dX10_frighten_28 fl_RX10_110 h1 (gt_RX0_3 h1) ?_
  refine aw_iload_n X dX10_frighten_31 rfl ?_
  obtain ⟨v5, ev5, h⟩ := bnd h
  refine aw_iald X dX10_frighten_32 (it_RX0_3 h1) ev5 ?_
  obtain ⟨r6, er6, h⟩ := bnd h
  refine aw_callV X dX10_frighten_33 cv_RX10_141 (ok_X10_write h0 h1 er6 _ _ _ _ _) h0 rfl (Nat.le_trans (by decide) hfr) (by decide) rfl rfl (Nat.le_of_ble_eq_true rfl) ?_
  cases h
  exact aw_vret X dX10_frighten_36 rfl hz.symm
set_option maxRecDepth 100000 in
set_option maxHeartbeats 4000000 in
theorem ok_X10_frighten {a0 : Nat} {a1 : Nat} (h0 : IO 0 a0 9) (h1 : IO 0 a1 0) {x2 : Int32} {s : Mem} {r : Mem} (h : f_X10_frighten a0 a1 x2 s = some r) (l : Launch) (D : va_G) (ρ : Nat → Nat) (cA : ClassId × ClassId × ClassId) (τ : AT) : AM l D ρ cA 0 τ yX10_frighten cX10_frighten 3 none 2 [.ref (ρ a0), .ref (ρ a1), .int x2] none s r := by
  refine AM_of (L := [some (.ref (ρ a0)), some (.ref (ρ a1)), some (.int x2)]) (by decide) (by simp [Value.category]) (Nat.le_of_ble_eq_true rfl) (fun j v q => ?_) (fun Z X hρ hz hτ => ?_)
  · exact aL_ok (n := 0) [.ref (ρ a0), .ref (ρ a1), .int x2] j v q
  · subst hρ
    subst hτ
    exact w_X10_frighten (Nat.le_refl _) Z X a0 a1 h0 h1 x2 s r hz h

theorem dX10_handOn_0 : decode cX10_handOn 0 = .ok (.aload_n 1, 1) := by decide +kernel
theorem dX10_handOn_1 : decode cX10_handOn 1 = .ok (.getfield 110, 3) := by decide +kernel
theorem dX10_handOn_4 : decode cX10_handOn 4 = .ok (.iload_n 2, 1) := by decide +kernel
theorem dX10_handOn_5 : decode cX10_handOn 5 = .ok (.iaload, 1) := by decide +kernel
theorem dX10_handOn_6 : decode cX10_handOn 6 = .ok (.ifCond .le 49, 3) := by decide +kernel
theorem dX10_handOn_9 : decode cX10_handOn 9 = .ok (.aload_n 1, 1) := by decide +kernel
theorem dX10_handOn_10 : decode cX10_handOn 10 = .ok (.iload_n 3, 1) := by decide +kernel
theorem dX10_handOn_11 : decode cX10_handOn 11 = .ok (.invokevirtual 89, 3) := by decide +kernel
theorem dX10_handOn_14 : decode cX10_handOn 14 = .ok (.ifCond .eq 41, 3) := by decide +kernel
theorem dX10_handOn_17 : decode cX10_handOn 17 = .ok (.aload_n 1, 1) := by decide +kernel
theorem dX10_handOn_18 : decode cX10_handOn 18 = .ok (.iload_n 3, 1) := by decide +kernel
theorem dX10_handOn_19 : decode cX10_handOn 19 = .ok (.aload_n 1, 1) := by decide +kernel
theorem dX10_handOn_20 : decode cX10_handOn 20 = .ok (.getfield 110, 3) := by decide +kernel
theorem dX10_handOn_23 : decode cX10_handOn 23 = .ok (.iload_n 3, 1) := by decide +kernel
theorem dX10_handOn_24 : decode cX10_handOn 24 = .ok (.iaload, 1) := by decide +kernel
theorem dX10_handOn_25 : decode cX10_handOn 25 = .ok (.aload_n 1, 1) := by decide +kernel
theorem dX10_handOn_26 : decode cX10_handOn 26 = .ok (.getfield 110, 3) := by decide +kernel
theorem dX10_handOn_29 : decode cX10_handOn 29 = .ok (.iload_n 2, 1) := by decide +kernel
theorem dX10_handOn_30 : decode cX10_handOn 30 = .ok (.iaload, 1) := by decide +kernel
theorem dX10_handOn_31 : decode cX10_handOn 31 = .ok (.iadd, 1) := by decide +kernel
theorem dX10_handOn_32 : decode cX10_handOn 32 = .ok (.invokevirtual 134, 3) := by decide +kernel
theorem dX10_handOn_35 : decode cX10_handOn 35 = .ok (.aload_n 1, 1) := by decide +kernel
theorem dX10_handOn_36 : decode cX10_handOn 36 = .ok (.iload_n 3, 1) := by decide +kernel
theorem dX10_handOn_37 : decode cX10_handOn 37 = .ok (.iload_n 2, 1) := by decide +kernel
theorem dX10_handOn_38 : decode cX10_handOn 38 = .ok (.invokevirtual 138, 3) := by decide +kernel
theorem dX10_handOn_41 : decode cX10_handOn 41 = .ok (.aload_n 1, 1) := by decide +kernel
theorem dX10_handOn_42 : decode cX10_handOn 42 = .ok (.iload_n 2, 1) := by decide +kernel
theorem dX10_handOn_43 : decode cX10_handOn 43 = .ok (.iconst 0, 1) := by decide +kernel
theorem dX10_handOn_44 : decode cX10_handOn 44 = .ok (.invokevirtual 134, 3) := by decide +kernel
theorem dX10_handOn_47 : decode cX10_handOn 47 = .ok (.aload_n 0, 1) := by decide +kernel
theorem dX10_handOn_48 : decode cX10_handOn 48 = .ok (.aload_n 1, 1) := by decide +kernel
theorem dX10_handOn_49 : decode cX10_handOn 49 = .ok (.iconst 4, 1) := by decide +kernel
theorem dX10_handOn_50 : decode cX10_handOn 50 = .ok (.iload_n 2, 1) := by decide +kernel
theorem dX10_handOn_51 : decode cX10_handOn 51 = .ok (.iload_n 3, 1) := by decide +kernel
theorem dX10_handOn_52 : decode cX10_handOn 52 = .ok (.invokevirtual 141, 3) := by decide +kernel
theorem dX10_handOn_55 : decode cX10_handOn 55 = .ok (.return_, 1) := by decide +kernel
set_option maxRecDepth 100000 in
set_option maxHeartbeats 4000000 in
theorem w_X10_handOn {fr : Nat} (hfr : 2 ≤ fr) (Z : AZ) (X : AX Z cX10_handOn 4 RX10 none 0 fr) (a0 : Nat) (a1 : Nat) (h0 : IO 0 a0 9) (h1 : IO 0 a1 0) (x2 : Int32) (x3 : Int32) (s : Mem) (r : Mem) (hz : zres Z = (none, r)) (h : f_X10_handOn a0 a1 x2 x3 s = some r) : AW Z s 0 [some (.ref (zr Z a0)), some (.ref (zr Z a1)), some (.int x2), some (.int x3)] [] := by
  unfold f_X10_handOn at h
  refine aw_aload_n X dX10_handOn_0 rfl ?_
  refine aw_getr X dX10_handOn_1 fl_RX10_110 h1 (gt_RX0_3 h1) ?_
  refine aw_iload_n X dX10_handOn_4 rfl ?_
  obtain ⟨v1, ev1, h⟩ := bnd h
  refine aw_iald X dX10_handOn_5 (it_RX0_3 h1) ev1 ?_
  refine aw_if_le (tgt := 55) X dX10_handOn_6 (by decide) (fun c2 => ?_) (fun c2 => ?_)
  · rw [if_pos c2] at h
    cases h
    exact aw_vret X dX10_handOn_55 rfl hz.symm
  · rw [if_neg c2] at h
    refine aw_aload_n X dX10_handOn_9 rfl ?_
    refine aw_iload_n X dX10_handOn_10 rfl ?_
    obtain ⟨r3, er3, h⟩ := bnd h
    refine aw_callV X dX10_handOn_11 cv_RX10_89 (ok_X0_has h1 er3 _ _ _ _ _) h1 rfl (Nat.le_trans (by decide) hfr) (by decide) rfl rfl (Nat.le_of_ble_eq_true rfl) ?_
    refine aw_if_eq (tgt := 55) X dX10_handOn_14 (by decide) (fun c4 => ?_) (fun c4 => ?_)
    · rw [if_pos c4] at h
      cases h
      exact aw_vret X dX10_handOn_55 rfl hz.symm
    · rw [if_neg c4] at h
      refine aw_aload_n X dX10_handOn_17 rfl ?_
      refine aw_iload_n X dX10_handOn_18 rfl ?_
      refine aw_aload_n X dX10_handOn_19 rfl ?_
      refine aw_getr X dX10_handOn_20 fl_RX10_110 h1 (gt_RX0_3 h1) ?_
      refine aw_iload_n X dX10_handOn_23 rfl ?_
      obtain ⟨v5, ev5, h⟩ := bnd h
      refine aw_iald X dX10_handOn_24 (it_RX0_3 h1) ev5 ?_
      refine aw_aload_n X dX10_handOn_25 rfl ?_
      refine aw_getr X dX10_handOn_26 fl_RX10_110 h1 (gt_RX0_3 h1) ?_
      refine aw_iload_n X dX10_handOn_29 rfl ?_
      obtain ⟨v6, ev6, h⟩ := bnd h
      refine aw_iald X dX10_handOn_30 (it_RX0_3 h1) ev6 ?_
      refine aw_iadd X dX10_handOn_31 ?_
      obtain ⟨r7, er7, h⟩ := bnd h
      refine aw_callV X dX10_handOn_32 cv_RX10_134 (ok_X0_hiccup h1 er7 _ _ _ _ _) h1 rfl (Nat.le_trans (by decide) hfr) (by decide) rfl rfl (Nat.le_of_ble_eq_true rfl) ?_
      refine aw_aload_n X dX10_handOn_35 rfl ?_
      refine aw_iload_n X dX10_handOn_36 rfl ?_
      refine aw_iload_n X dX10_handOn_37 rfl ?_
      obtain ⟨r8, er8, h⟩ := bnd h
      refine aw_callV X dX10_handOn_38 cv_RX10_138 (ok_X0_blame h1 er8 _ _ _ _ _) h1 rfl (Nat.le_trans (by decide) hfr) (by decide) rfl rfl (Nat.le_of_ble_eq_true rfl) ?_
      refine aw_aload_n X dX10_handOn_41 rfl ?_
      refine aw_iload_n X dX10_handOn_42 rfl ?_
      refine aw_iconst (v := 0) X dX10_handOn_43 (by decide) ?_
      obtain ⟨r9, er9, h⟩ := bnd h
      refine aw_callV X dX10_handOn_44 cv_RX10_134 (ok_X0_hiccup h1 er9 _ _ _ _ _) h1 rfl (Nat.le_trans (by decide) hfr) (by decide) rfl rfl (Nat.le_of_ble_eq_true rfl) ?_
      refine aw_aload_n X dX10_handOn_47 rfl ?_
      refine aw_aload_n X dX10_handOn_48 rfl ?_
      refine aw_iconst (v := 4) X dX10_handOn_49 (by decide) ?_
      refine aw_iload_n X dX10_handOn_50 rfl ?_
      refine aw_iload_n X dX10_handOn_51 rfl ?_
      obtain ⟨r10, er10, h⟩ := bnd h
      refine aw_callV X dX10_handOn_52 cv_RX10_141 (ok_X10_write h0 h1 er10 _ _ _ _ _) h0 rfl (Nat.le_trans (by decide) hfr) (by decide) rfl rfl (Nat.le_of_ble_eq_true rfl) ?_
      cases h
      exact aw_vret X dX10_handOn_55 rfl hz.symm
set_option maxRecDepth 100000 in
set_option maxHeartbeats 4000000 in
theorem ok_X10_handOn {a0 : Nat} {a1 : Nat} (h0 : IO 0 a0 9) (h1 : IO 0 a1 0) {x2 x3 : Int32} {s : Mem} {r : Mem} (h : f_X10_handOn a0 a1 x2 x3 s = some r) (l : Launch) (D : va_G) (ρ : Nat → Nat) (cA : ClassId × ClassId × ClassId) (τ : AT) : AM l D ρ cA 0 τ yX10_handOn cX10_handOn 4 none 2 [.ref (ρ a0), .ref (ρ a1), .int x2, .int x3] none s r := by
  refine AM_of (L := [some (.ref (ρ a0)), some (.ref (ρ a1)), some (.int x2), some (.int x3)]) (by decide) (by simp [Value.category]) (Nat.le_of_ble_eq_true rfl) (fun j v q => ?_) (fun Z X hρ hz hτ => ?_)
  · exact aL_ok (n := 0) [.ref (ρ a0), .ref (ρ a1), .int x2, .int x3] j v q
  · subst hρ
    subst hτ
    exact w_X10_handOn (Nat.le_refl _) Z X a0 a1 h0 h1 x2 x3 s r hz h

theorem dX10_cure_0 : decode cX10_cure 0 = .ok (.iload_n 2, 1) := by decide +kernel
theorem dX10_cure_1 : decode cX10_cure 1 = .ok (.tableswitch 64 1 3 #[27, 36, 53], 27) := by decide +kernel
theorem dX10_cure_28 : decode cX10_cure 28 = .ok (.aload_n 0, 1) := by decide +kernel
theorem dX10_cure_29 : decode cX10_cure 29 = .ok (.aload_n 1, 1) := by decide +kernel
theorem dX10_cure_30 : decode cX10_cure 30 = .ok (.iload_n 3, 1) := by decide +kernel
theorem dX10_cure_31 : decode cX10_cure 31 = .ok (.invokevirtual 144, 3) := by decide +kernel
theorem dX10_cure_34 : decode cX10_cure 34 = .ok (.goto 50, 3) := by decide +kernel
theorem dX10_cure_37 : decode cX10_cure 37 = .ok (.aload_n 1, 1) := by decide +kernel
theorem dX10_cure_38 : decode cX10_cure 38 = .ok (.iload_n 3, 1) := by decide +kernel
theorem dX10_cure_39 : decode cX10_cure 39 = .ok (.aload_n 1, 1) := by decide +kernel
theorem dX10_cure_40 : decode cX10_cure 40 = .ok (.getfield 110, 3) := by decide +kernel
theorem dX10_cure_43 : decode cX10_cure 43 = .ok (.iload_n 3, 1) := by decide +kernel
theorem dX10_cure_44 : decode cX10_cure 44 = .ok (.iaload, 1) := by decide +kernel
theorem dX10_cure_45 : decode cX10_cure 45 = .ok (.iload 4, 2) := by decide +kernel
theorem dX10_cure_47 : decode cX10_cure 47 = .ok (.isub, 1) := by decide +kernel
theorem dX10_cure_48 : decode cX10_cure 48 = .ok (.invokevirtual 134, 3) := by decide +kernel
theorem dX10_cure_51 : decode cX10_cure 51 = .ok (.goto 33, 3) := by decide +kernel
theorem dX10_cure_54 : decode cX10_cure 54 = .ok (.aload_n 0, 1) := by decide +kernel
theorem dX10_cure_55 : decode cX10_cure 55 = .ok (.aload_n 1, 1) := by decide +kernel
theorem dX10_cure_56 : decode cX10_cure 56 = .ok (.iload_n 3, 1) := by decide +kernel
theorem dX10_cure_57 : decode cX10_cure 57 = .ok (.iload 4, 2) := by decide +kernel
theorem dX10_cure_59 : decode cX10_cure 59 = .ok (.invokevirtual 148, 3) := by decide +kernel
theorem dX10_cure_62 : decode cX10_cure 62 = .ok (.goto 22, 3) := by decide +kernel
theorem dX10_cure_65 : decode cX10_cure 65 = .ok (.aload_n 1, 1) := by decide +kernel
theorem dX10_cure_66 : decode cX10_cure 66 = .ok (.getfield 151, 3) := by decide +kernel
theorem dX10_cure_69 : decode cX10_cure 69 = .ok (.iload_n 3, 1) := by decide +kernel
theorem dX10_cure_70 : decode cX10_cure 70 = .ok (.bipush 9, 2) := by decide +kernel
theorem dX10_cure_72 : decode cX10_cure 72 = .ok (.aload_n 1, 1) := by decide +kernel
theorem dX10_cure_73 : decode cX10_cure 73 = .ok (.getfield 151, 3) := by decide +kernel
theorem dX10_cure_76 : decode cX10_cure 76 = .ok (.iload_n 3, 1) := by decide +kernel
theorem dX10_cure_77 : decode cX10_cure 77 = .ok (.iaload, 1) := by decide +kernel
theorem dX10_cure_78 : decode cX10_cure 78 = .ok (.iconst 1, 1) := by decide +kernel
theorem dX10_cure_79 : decode cX10_cure 79 = .ok (.iadd, 1) := by decide +kernel
theorem dX10_cure_80 : decode cX10_cure 80 = .ok (.invokestatic 154, 3) := by decide +kernel
theorem dX10_cure_83 : decode cX10_cure 83 = .ok (.iastore, 1) := by decide +kernel
theorem dX10_cure_84 : decode cX10_cure 84 = .ok (.return_, 1) := by decide +kernel
set_option maxRecDepth 100000 in
set_option maxHeartbeats 4000000 in
theorem w_X10_cure {fr : Nat} (hfr : 3 ≤ fr) (Z : AZ) (X : AX Z cX10_cure 5 RX10 none 0 fr) (a0 : Nat) (a1 : Nat) (h0 : IO 0 a0 9) (h1 : IO 0 a1 0) (x2 : Int32) (x3 : Int32) (x4 : Int32) (s : Mem) (r : Mem) (hz : zres Z = (none, r)) (h : f_X10_cure a0 a1 x2 x3 x4 s = some r) : AW Z s 0 [some (.ref (zr Z a0)), some (.ref (zr Z a1)), some (.int x2), some (.int x3), some (.int x4)] [] := by
  unfold f_X10_cure at h
  refine aw_iload_n X dX10_cure_0 rfl ?_
  by_cases c1 : x2 = 1
  · rw [if_pos c1] at h
    refine aw_tsw (tgt := 28) X dX10_cure_1 (by rw [c1]; decide) ?_
    refine aw_aload_n X dX10_cure_28 rfl ?_
    refine aw_aload_n X dX10_cure_29 rfl ?_
    refine aw_iload_n X dX10_cure_30 rfl ?_
    obtain ⟨r2, er2, h⟩ := bnd h
    refine aw_callV X dX10_cure_31 cv_RX10_144 (ok_X10_frighten h0 h1 er2 _ _ _ _ _) h0 rfl (Nat.le_trans (by decide) hfr) (by decide) rfl rfl (Nat.le_of_ble_eq_true rfl) ?_
    refine aw_goto (tgt := 84) X dX10_cure_34 (by decide) ?_
    cases h
    exact aw_vret X dX10_cure_84 rfl hz.symm
  rw [if_neg c1] at h
  by_cases c3 : x2 = 2
  · rw [if_pos c3] at h
    refine aw_tsw (tgt := 37) X dX10_cure_1 (by rw [c3]; decide) ?_
    refine aw_aload_n X dX10_cure_37 rfl ?_
    refine aw_iload_n X dX10_cure_38 rfl ?_
    refine aw_aload_n X dX10_cure_39 rfl ?_
    refine aw_getr X dX10_cure_40 fl_RX10_110 h1 (gt_RX0_3 h1) ?_
    refine aw_iload_n X dX10_cure_43 rfl ?_
    obtain ⟨v4, ev4, h⟩ := bnd h
    refine aw_iald X dX10_cure_44 (it_RX0_3 h1) ev4 ?_
    refine aw_iload X dX10_cure_45 rfl ?_
    refine aw_isub X dX10_cure_47 ?_
    obtain ⟨r5, er5, h⟩ := bnd h
    refine aw_callV X dX10_cure_48 cv_RX10_134 (ok_X0_hiccup h1 er5 _ _ _ _ _) h1 rfl (Nat.le_trans (by decide) hfr) (by decide) rfl rfl (Nat.le_of_ble_eq_true rfl) ?_
    refine aw_goto (tgt := 84) X dX10_cure_51 (by decide) ?_
    cases h
    exact aw_vret X dX10_cure_84 rfl hz.symm
  rw [if_neg c3] at h
  by_cases c6 : x2 = 3
  · rw [if_pos c6] at h
    refine aw_tsw (tgt := 54) X dX10_cure_1 (by rw [c6]; decide) ?_
    refine aw_aload_n X dX10_cure_54 rfl ?_
    refine aw_aload_n X dX10_cure_55 rfl ?_
    refine aw_iload_n X dX10_cure_56 rfl ?_
    refine aw_iload X dX10_cure_57 rfl ?_
    obtain ⟨r7, er7, h⟩ := bnd h
    refine aw_callV X dX10_cure_59 cv_RX10_148 (ok_X10_handOn h0 h1 er7 _ _ _ _ _) h0 rfl (Nat.le_trans (by decide) hfr) (by decide) rfl rfl (Nat.le_of_ble_eq_true rfl) ?_
    refine aw_goto (tgt := 84) X dX10_cure_62 (by decide) ?_
    cases h
    exact aw_vret X dX10_cure_84 rfl hz.symm
  rw [if_neg c6] at h
  refine aw_tswd (tgt := 65) X dX10_cure_1 (by decide) (fun z h1 h2 => ?_) ?_
  · have hz9 : z = 1 ∨ z = 2 ∨ z = 3 := by omega
    rcases hz9 with rfl | rfl | rfl
    · exact c1
    · exact c3
    · exact c6
  refine aw_aload_n X dX10_cure_65 rfl ?_
  refine aw_getr X dX10_cure_66 fl_RX10_151 h1 (gt_RX0_2 h1) ?_
  refine aw_iload_n X dX10_cure_69 rfl ?_
  refine aw_bipush (v := 9) X dX10_cure_70 (by decide) ?_
  refine aw_aload_n X dX10_cure_72 rfl ?_
  refine aw_getr X dX10_cure_73 fl_RX10_151 h1 (gt_RX0_2 h1) ?_
  refine aw_iload_n X dX10_cure_76 rfl ?_
  obtain ⟨v8, ev8, h⟩ := bnd h
  refine aw_iald X dX10_cure_77 (it_RX0_2 h1) ev8 ?_
  refine aw_iconst (v := 1) X dX10_cure_78 (by decide) ?_
  refine aw_iadd X dX10_cure_79 ?_
  refine aw_mmin X (Nat.le_trans (by decide) hfr) dX10_cure_80 mc_RX10_154 rfl ?_
  obtain ⟨s9, es9, h⟩ := bnd h
  refine aw_iast X dX10_cure_83 (it_RX0_2 h1) es9 ?_
  cases h
  exact aw_vret X dX10_cure_84 rfl hz.symm
set_option maxRecDepth 100000 in
set_option maxHeartbeats 4000000 in
theorem ok_X10_cure {a0 : Nat} {a1 : Nat} (h0 : IO 0 a0 9) (h1 : IO 0 a1 0) {x2 x3 x4 : Int32} {s : Mem} {r : Mem} (h : f_X10_cure a0 a1 x2 x3 x4 s = some r) (l : Launch) (D : va_G) (ρ : Nat → Nat) (cA : ClassId × ClassId × ClassId) (τ : AT) : AM l D ρ cA 0 τ yX10_cure cX10_cure 5 none 3 [.ref (ρ a0), .ref (ρ a1), .int x2, .int x3, .int x4] none s r := by
  refine AM_of (L := [some (.ref (ρ a0)), some (.ref (ρ a1)), some (.int x2), some (.int x3), some (.int x4)]) (by decide) (by simp [Value.category]) (Nat.le_of_ble_eq_true rfl) (fun j v q => ?_) (fun Z X hρ hz hτ => ?_)
  · exact aL_ok (n := 0) [.ref (ρ a0), .ref (ρ a1), .int x2, .int x3, .int x4] j v q
  · subst hρ
    subst hτ
    exact w_X10_cure (Nat.le_refl _) Z X a0 a1 h0 h1 x2 x3 x4 s r hz h

theorem dX10_stops_0 : decode cX10_stops 0 = .ok (.aload_n 0, 1) := by decide +kernel
theorem dX10_stops_1 : decode cX10_stops 1 = .ok (.getfield 23, 3) := by decide +kernel
theorem dX10_stops_4 : decode cX10_stops 4 = .ok (.iconst 1, 1) := by decide +kernel
theorem dX10_stops_5 : decode cX10_stops 5 = .ok (.aload_n 1, 1) := by decide +kernel
theorem dX10_stops_6 : decode cX10_stops 6 = .ok (.iload_n 2, 1) := by decide +kernel
theorem dX10_stops_7 : decode cX10_stops 7 = .ok (.invokevirtual 130, 3) := by decide +kernel
theorem dX10_stops_10 : decode cX10_stops 10 = .ok (.istore_n 3, 1) := by decide +kernel
theorem dX10_stops_11 : decode cX10_stops 11 = .ok (.aload_n 1, 1) := by decide +kernel
theorem dX10_stops_12 : decode cX10_stops 12 = .ok (.getfield 163, 3) := by decide +kernel
theorem dX10_stops_15 : decode cX10_stops 15 = .ok (.ifCond .eq 18, 3) := by decide +kernel
theorem dX10_stops_18 : decode cX10_stops 18 = .ok (.iload_n 3, 1) := by decide +kernel
theorem dX10_stops_19 : decode cX10_stops 19 = .ok (.sipush 500, 3) := by decide +kernel
theorem dX10_stops_22 : decode cX10_stops 22 = .ok (.if_icmp .lt 7, 3) := by decide +kernel
theorem dX10_stops_25 : decode cX10_stops 25 = .ok (.iconst 1, 1) := by decide +kernel
theorem dX10_stops_26 : decode cX10_stops 26 = .ok (.goto 27, 3) := by decide +kernel
theorem dX10_stops_29 : decode cX10_stops 29 = .ok (.iconst 0, 1) := by decide +kernel
theorem dX10_stops_30 : decode cX10_stops 30 = .ok (.goto 23, 3) := by decide +kernel
theorem dX10_stops_33 : decode cX10_stops 33 = .ok (.iload_n 3, 1) := by decide +kernel
theorem dX10_stops_34 : decode cX10_stops 34 = .ok (.ifCond .le 18, 3) := by decide +kernel
theorem dX10_stops_37 : decode cX10_stops 37 = .ok (.aload_n 1, 1) := by decide +kernel
theorem dX10_stops_38 : decode cX10_stops 38 = .ok (.sipush 1000, 3) := by decide +kernel
theorem dX10_stops_41 : decode cX10_stops 41 = .ok (.invokevirtual 167, 3) := by decide +kernel
theorem dX10_stops_44 : decode cX10_stops 44 = .ok (.iload_n 3, 1) := by decide +kernel
theorem dX10_stops_45 : decode cX10_stops 45 = .ok (.if_icmp .ge 7, 3) := by decide +kernel
theorem dX10_stops_48 : decode cX10_stops 48 = .ok (.iconst 1, 1) := by decide +kernel
theorem dX10_stops_49 : decode cX10_stops 49 = .ok (.goto 4, 3) := by decide +kernel
theorem dX10_stops_52 : decode cX10_stops 52 = .ok (.iconst 0, 1) := by decide +kernel
theorem dX10_stops_53 : decode cX10_stops 53 = .ok (.istore 4, 2) := by decide +kernel
theorem dX10_stops_55 : decode cX10_stops 55 = .ok (.iload 4, 2) := by decide +kernel
theorem dX10_stops_57 : decode cX10_stops 57 = .ok (.ifCond .eq 22, 3) := by decide +kernel
theorem dX10_stops_60 : decode cX10_stops 60 = .ok (.aload_n 0, 1) := by decide +kernel
theorem dX10_stops_61 : decode cX10_stops 61 = .ok (.aload_n 1, 1) := by decide +kernel
theorem dX10_stops_62 : decode cX10_stops 62 = .ok (.iconst 1, 1) := by decide +kernel
theorem dX10_stops_63 : decode cX10_stops 63 = .ok (.iload_n 2, 1) := by decide +kernel
theorem dX10_stops_64 : decode cX10_stops 64 = .ok (.aload_n 1, 1) := by decide +kernel
theorem dX10_stops_65 : decode cX10_stops 65 = .ok (.getfield 110, 3) := by decide +kernel
theorem dX10_stops_68 : decode cX10_stops 68 = .ok (.iload_n 2, 1) := by decide +kernel
theorem dX10_stops_69 : decode cX10_stops 69 = .ok (.iaload, 1) := by decide +kernel
theorem dX10_stops_70 : decode cX10_stops 70 = .ok (.invokevirtual 141, 3) := by decide +kernel
theorem dX10_stops_73 : decode cX10_stops 73 = .ok (.aload_n 1, 1) := by decide +kernel
theorem dX10_stops_74 : decode cX10_stops 74 = .ok (.iload_n 2, 1) := by decide +kernel
theorem dX10_stops_75 : decode cX10_stops 75 = .ok (.iconst 0, 1) := by decide +kernel
theorem dX10_stops_76 : decode cX10_stops 76 = .ok (.invokevirtual 134, 3) := by decide +kernel
theorem dX10_stops_79 : decode cX10_stops 79 = .ok (.iload 4, 2) := by decide +kernel
theorem dX10_stops_81 : decode cX10_stops 81 = .ok (.ireturn, 1) := by decide +kernel
set_option maxRecDepth 100000 in
set_option maxHeartbeats 4000000 in
theorem jo_X10_stops_53 {fr : Nat} (hfr : 4 ≤ fr) (Z : AZ) (X : AX Z cX10_stops 5 RX10 (some .boolean) 0 fr) (a0 : Nat) (a1 : Nat) (h0 : IO 0 a0 9) (h1 : IO 0 a1 0) (x2 : Int32) (t0 : Int32) (s : Mem) (r : Int32 × Mem) (hz : zres Z = (some (.int r.1), r.2)) (h : jn_X10_stops_53 a0 a1 x2 t0 s = some r) : AW Z s 53 [some (.ref (zr Z a0)), some (.ref (zr Z a1)), some (.int x2), none, none] [.int t0] := by
  unfold jn_X10_stops_53 at h
  refine aw_istore (L' := [some (.ref (zr Z a0)), some (.ref (zr Z a1)), some (.int x2), none, some (.int t0)]) X dX10_stops_53 (by decide) rfl ?_
  refine aw_iload X dX10_stops_55 rfl ?_
  refine aw_if_eq (tgt := 79) X dX10_stops_57 (by decide) (fun c4 => ?_) (fun c4 => ?_)
  · rw [if_pos c4] at h
    refine aw_iload X dX10_stops_79 rfl ?_
    by_cases c5 : ¬ (t0 = 0 ∨ t0 = 1)
    · rw [if_pos c5] at h
      cases h
    rw [if_neg c5] at h
    cases h
    exact aw_zret X dX10_stops_81 rfl (bz_n (Decidable.of_not_not c5)) hz.symm
  · rw [if_neg c4] at h
    refine aw_aload_n X dX10_stops_60 rfl ?_
    refine aw_aload_n X dX10_stops_61 rfl ?_
    refine aw_iconst (v := 1) X dX10_stops_62 (by decide) ?_
    refine aw_iload_n X dX10_stops_63 rfl ?_
    refine aw_aload_n X dX10_stops_64 rfl ?_
    refine aw_getr X dX10_stops_65 fl_RX10_110 h1 (gt_RX0_3 h1) ?_
    refine aw_iload_n X dX10_stops_68 rfl ?_
    obtain ⟨v6, ev6, h⟩ := bnd h
    refine aw_iald X dX10_stops_69 (it_RX0_3 h1) ev6 ?_
    obtain ⟨r7, er7, h⟩ := bnd h
    refine aw_callV X dX10_stops_70 cv_RX10_141 (ok_X10_write h0 h1 er7 _ _ _ _ _) h0 rfl (Nat.le_trans (by decide) hfr) (by decide) rfl rfl (Nat.le_of_ble_eq_true rfl) ?_
    refine aw_aload_n X dX10_stops_73 rfl ?_
    refine aw_iload_n X dX10_stops_74 rfl ?_
    refine aw_iconst (v := 0) X dX10_stops_75 (by decide) ?_
    obtain ⟨r8, er8, h⟩ := bnd h
    refine aw_callV X dX10_stops_76 cv_RX10_134 (ok_X0_hiccup h1 er8 _ _ _ _ _) h1 rfl (Nat.le_trans (by decide) hfr) (by decide) rfl rfl (Nat.le_of_ble_eq_true rfl) ?_
    refine aw_iload X dX10_stops_79 rfl ?_
    by_cases c9 : ¬ (t0 = 0 ∨ t0 = 1)
    · rw [if_pos c9] at h
      cases h
    rw [if_neg c9] at h
    cases h
    exact aw_zret X dX10_stops_81 rfl (bz_n (Decidable.of_not_not c9)) hz.symm
set_option maxRecDepth 100000 in
set_option maxHeartbeats 4000000 in
theorem jo_X10_stops_52 {fr : Nat} (hfr : 4 ≤ fr) (Z : AZ) (X : AX Z cX10_stops 5 RX10 (some .boolean) 0 fr) (a0 : Nat) (a1 : Nat) (h0 : IO 0 a0 9) (h1 : IO 0 a1 0) (x2 : Int32) (s : Mem) (r : Int32 × Mem) (hz : zres Z = (some (.int r.1), r.2)) (h : jn_X10_stops_52 a0 a1 x2 s = some r) : AW Z s 52 [some (.ref (zr Z a0)), some (.ref (zr Z a1)), some (.int x2), none, none] [] := by
  unfold jn_X10_stops_52 at h
  refine aw_iconst (v := 0) X dX10_stops_52 (by decide) ?_
  refine aw_msk [true, true, true, false, false] ?_
  exact jo_X10_stops_53 hfr Z X a0 a1 h0 h1 _ _ _ _ hz h
set_option maxRecDepth 100000 in
set_option maxHeartbeats 4000000 in
theorem w_X10_stops {fr : Nat} (hfr : 4 ≤ fr) (Z : AZ) (X : AX Z cX10_stops 5 RX10 (some .boolean) 0 fr) (a0 : Nat) (a1 : Nat) (h0 : IO 0 a0 9) (h1 : IO 0 a1 0) (x2 : Int32) (s : Mem) (r : Int32 × Mem) (hz : zres Z = (some (.int r.1), r.2)) (h : f_X10_stops a0 a1 x2 s = some r) : AW Z s 0 [some (.ref (zr Z a0)), some (.ref (zr Z a1)), some (.int x2), none, none] [] := by
  unfold f_X10_stops at h
  refine aw_aload_n X dX10_stops_0 rfl ?_
  refine aw_getr X dX10_stops_1 fl_RX10_23 h0 (gt_RX10_1 h0) ?_
  refine aw_iconst (v := 1) X dX10_stops_4 (by decide) ?_
  refine aw_aload_n X dX10_stops_5 rfl ?_
  refine aw_iload_n X dX10_stops_6 rfl ?_
  obtain ⟨r1, er1, h⟩ := bnd h
  refine aw_callV X dX10_stops_7 cv_RX10_130 (ok_X1_ask (it_RX10_1 h0) h1 er1 _ _ _ _ _) (it_RX10_1 h0) rfl (Nat.le_trans (by decide) hfr) (by decide) rfl rfl (Nat.le_of_ble_eq_true rfl) ?_
  refine aw_istore_n (L' := [some (.ref (zr Z a0)), some (.ref (zr Z a1)), some (.int x2), some (.int r1.1), none]) X dX10_stops_10 (by decide) rfl ?_
  refine aw_aload_n X dX10_stops_11 rfl ?_
  refine aw_geti X dX10_stops_12 fl_RX10_163 h1 (gt_RX0_0 h1) ?_
  refine aw_if_eq (tgt := 33) X dX10_stops_15 (by decide) (fun c2 => ?_) (fun c2 => ?_)
  · rw [if_pos c2] at h
    refine aw_iload_n X dX10_stops_33 rfl ?_
    refine aw_if_le (tgt := 52) X dX10_stops_34 (by decide) (fun c3 => ?_) (fun c3 => ?_)
    · rw [if_pos c3] at h
      refine aw_msk [true, true, true, false, false] ?_
      exact jo_X10_stops_52 hfr Z X a0 a1 h0 h1 _ _ _ hz h
    · rw [if_neg c3] at h
      refine aw_aload_n X dX10_stops_37 rfl ?_
      refine aw_sipush (v := 1000) X dX10_stops_38 (by decide) ?_
      obtain ⟨r10, er10, h⟩ := bnd h
      refine aw_callV X dX10_stops_41 cv_RX10_167 (ok_X0_draw h1 er10 _ _ _ _ _) h1 rfl (Nat.le_trans (by decide) hfr) (by decide) rfl rfl (Nat.le_of_ble_eq_true rfl) ?_
      refine aw_iload_n X dX10_stops_44 rfl ?_
      refine aw_icmp_ge (tgt := 52) X dX10_stops_45 (by decide) (fun c11 => ?_) (fun c11 => ?_)
      · rw [if_pos c11] at h
        refine aw_msk [true, true, true, false, false] ?_
        exact jo_X10_stops_52 hfr Z X a0 a1 h0 h1 _ _ _ hz h
      · rw [if_neg c11] at h
        refine aw_iconst (v := 1) X dX10_stops_48 (by decide) ?_
        refine aw_goto (tgt := 53) X dX10_stops_49 (by decide) ?_
        refine aw_msk [true, true, true, false, false] ?_
        exact jo_X10_stops_53 hfr Z X a0 a1 h0 h1 _ _ _ _ hz h
  · rw [if_neg c2] at h
    refine aw_iload_n X dX10_stops_18 rfl ?_
    refine aw_sipush (v := 500) X dX10_stops_19 (by decide) ?_
    refine aw_icmp_lt (tgt := 29) X dX10_stops_22 (by decide) (fun c12 => ?_) (fun c12 => ?_)
    · rw [if_pos c12] at h
      refine aw_iconst (v := 0) X dX10_stops_29 (by decide) ?_
      refine aw_goto (tgt := 53) X dX10_stops_30 (by decide) ?_
      refine aw_msk [true, true, true, false, false] ?_
      exact jo_X10_stops_53 hfr Z X a0 a1 h0 h1 _ _ _ _ hz h
    · rw [if_neg c12] at h
      refine aw_iconst (v := 1) X dX10_stops_25 (by decide) ?_
      refine aw_goto (tgt := 53) X dX10_stops_26 (by decide) ?_
      refine aw_msk [true, true, true, false, false] ?_
      exact jo_X10_stops_53 hfr Z X a0 a1 h0 h1 _ _ _ _ hz h
set_option maxRecDepth 100000 in
set_option maxHeartbeats 4000000 in
theorem ok_X10_stops {a0 : Nat} {a1 : Nat} (h0 : IO 0 a0 9) (h1 : IO 0 a1 0) {x2 : Int32} {s : Mem} {r : Int32 × Mem} (h : f_X10_stops a0 a1 x2 s = some r) (l : Launch) (D : va_G) (ρ : Nat → Nat) (cA : ClassId × ClassId × ClassId) (τ : AT) : AM l D ρ cA 0 τ yX10_stops cX10_stops 5 (some .boolean) 4 [.ref (ρ a0), .ref (ρ a1), .int x2] (some (.int r.1)) s r.2 := by
  refine AM_of (L := [some (.ref (ρ a0)), some (.ref (ρ a1)), some (.int x2), none, none]) (by decide) (by simp [Value.category]) (Nat.le_of_ble_eq_true rfl) (fun j v q => ?_) (fun Z X hρ hz hτ => ?_)
  · exact aL_ok (n := 2) [.ref (ρ a0), .ref (ρ a1), .int x2] j v q
  · subst hρ
    subst hτ
    exact w_X10_stops (Nat.le_refl _) Z X a0 a1 h0 h1 x2 s r hz h

theorem dX10_nextName_0 : decode cX10_nextName 0 = .ok (.aload_n 0, 1) := by decide +kernel
theorem dX10_nextName_1 : decode cX10_nextName 1 = .ok (.getfield 40, 3) := by decide +kernel
theorem dX10_nextName_4 : decode cX10_nextName 4 = .ok (.iload_n 2, 1) := by decide +kernel
theorem dX10_nextName_5 : decode cX10_nextName 5 = .ok (.aload_n 1, 1) := by decide +kernel
theorem dX10_nextName_6 : decode cX10_nextName 6 = .ok (.getfield 107, 3) := by decide +kernel
theorem dX10_nextName_9 : decode cX10_nextName 9 = .ok (.aload_n 1, 1) := by decide +kernel
theorem dX10_nextName_10 : decode cX10_nextName 10 = .ok (.getfield 171, 3) := by decide +kernel
theorem dX10_nextName_13 : decode cX10_nextName 13 = .ok (.iload_n 2, 1) := by decide +kernel
theorem dX10_nextName_14 : decode cX10_nextName 14 = .ok (.iaload, 1) := by decide +kernel
theorem dX10_nextName_15 : decode cX10_nextName 15 = .ok (.invokevirtual 174, 3) := by decide +kernel
theorem dX10_nextName_18 : decode cX10_nextName 18 = .ok (.ireturn, 1) := by decide +kernel
set_option maxRecDepth 100000 in
set_option maxHeartbeats 4000000 in
theorem w_X10_nextName {fr : Nat} (hfr : 3 ≤ fr) (Z : AZ) (X : AX Z cX10_nextName 3 RX10 (some .int) 0 fr) (a0 : Nat) (a1 : Nat) (h0 : IO 0 a0 9) (h1 : IO 0 a1 0) (x2 : Int32) (s : Mem) (r : Int32 × Mem) (hz : zres Z = (some (.int r.1), r.2)) (h : f_X10_nextName a0 a1 x2 s = some r) : AW Z s 0 [some (.ref (zr Z a0)), some (.ref (zr Z a1)), some (.int x2)] [] := by
  unfold f_X10_nextName at h
  refine aw_aload_n X dX10_nextName_0 rfl ?_
  refine aw_getr X dX10_nextName_1 fl_RX10_40 h0 (gt_RX10_4 h0) ?_
  refine aw_iload_n X dX10_nextName_4 rfl ?_
  refine aw_aload_n X dX10_nextName_5 rfl ?_
  refine aw_geti X dX10_nextName_6 fl_RX10_107 h1 (gt_RX0_1 h1) ?_
  refine aw_aload_n X dX10_nextName_9 rfl ?_
  refine aw_getr X dX10_nextName_10 fl_RX10_171 h1 (gt_RX0_5 h1) ?_
  refine aw_iload_n X dX10_nextName_13 rfl ?_
  obtain ⟨v1, ev1, h⟩ := bnd h
  refine aw_iald X dX10_nextName_14 (it_RX0_5 h1) ev1 ?_
  obtain ⟨r2, er2, h⟩ := bnd h
  refine aw_callV X dX10_nextName_15 cv_RX10_174 (ok_X3_firstUntried (it_RX10_4 h0) er2 _ _ _ _ _) (it_RX10_4 h0) rfl (Nat.le_trans (by decide) hfr) (by decide) rfl rfl (Nat.le_of_ble_eq_true rfl) ?_
  cases h
  exact aw_iret X dX10_nextName_18 rfl hz.symm
set_option maxRecDepth 100000 in
set_option maxHeartbeats 4000000 in
theorem ok_X10_nextName {a0 : Nat} {a1 : Nat} (h0 : IO 0 a0 9) (h1 : IO 0 a1 0) {x2 : Int32} {s : Mem} {r : Int32 × Mem} (h : f_X10_nextName a0 a1 x2 s = some r) (l : Launch) (D : va_G) (ρ : Nat → Nat) (cA : ClassId × ClassId × ClassId) (τ : AT) : AM l D ρ cA 0 τ yX10_nextName cX10_nextName 3 (some .int) 3 [.ref (ρ a0), .ref (ρ a1), .int x2] (some (.int r.1)) s r.2 := by
  refine AM_of (L := [some (.ref (ρ a0)), some (.ref (ρ a1)), some (.int x2)]) (by decide) (by simp [Value.category]) (Nat.le_of_ble_eq_true rfl) (fun j v q => ?_) (fun Z X hρ hz hτ => ?_)
  · exact aL_ok (n := 0) [.ref (ρ a0), .ref (ρ a1), .int x2] j v q
  · subst hρ
    subst hτ
    exact w_X10_nextName (Nat.le_refl _) Z X a0 a1 h0 h1 x2 s r hz h

theorem dX10_speak_0 : decode cX10_speak 0 = .ok (.aload_n 0, 1) := by decide +kernel
theorem dX10_speak_1 : decode cX10_speak 1 = .ok (.aload_n 1, 1) := by decide +kernel
theorem dX10_speak_2 : decode cX10_speak 2 = .ok (.iload_n 2, 1) := by decide +kernel
theorem dX10_speak_3 : decode cX10_speak 3 = .ok (.invokevirtual 178, 3) := by decide +kernel
theorem dX10_speak_6 : decode cX10_speak 6 = .ok (.istore_n 3, 1) := by decide +kernel
theorem dX10_speak_7 : decode cX10_speak 7 = .ok (.iload_n 3, 1) := by decide +kernel
theorem dX10_speak_8 : decode cX10_speak 8 = .ok (.iconst (-1), 1) := by decide +kernel
theorem dX10_speak_9 : decode cX10_speak 9 = .ok (.if_icmp .ne 32, 3) := by decide +kernel
theorem dX10_speak_12 : decode cX10_speak 12 = .ok (.aload_n 1, 1) := by decide +kernel
theorem dX10_speak_13 : decode cX10_speak 13 = .ok (.iload_n 2, 1) := by decide +kernel
theorem dX10_speak_14 : decode cX10_speak 14 = .ok (.aload_n 1, 1) := by decide +kernel
theorem dX10_speak_15 : decode cX10_speak 15 = .ok (.getfield 110, 3) := by decide +kernel
theorem dX10_speak_18 : decode cX10_speak 18 = .ok (.iload_n 2, 1) := by decide +kernel
theorem dX10_speak_19 : decode cX10_speak 19 = .ok (.iaload, 1) := by decide +kernel
theorem dX10_speak_20 : decode cX10_speak 20 = .ok (.iconst 1, 1) := by decide +kernel
theorem dX10_speak_21 : decode cX10_speak 21 = .ok (.isub, 1) := by decide +kernel
theorem dX10_speak_22 : decode cX10_speak 22 = .ok (.invokevirtual 134, 3) := by decide +kernel
theorem dX10_speak_25 : decode cX10_speak 25 = .ok (.aload_n 0, 1) := by decide +kernel
theorem dX10_speak_26 : decode cX10_speak 26 = .ok (.aload_n 1, 1) := by decide +kernel
theorem dX10_speak_27 : decode cX10_speak 27 = .ok (.bipush 6, 2) := by decide +kernel
theorem dX10_speak_29 : decode cX10_speak 29 = .ok (.iload_n 2, 1) := by decide +kernel
theorem dX10_speak_30 : decode cX10_speak 30 = .ok (.aload_n 1, 1) := by decide +kernel
theorem dX10_speak_31 : decode cX10_speak 31 = .ok (.getfield 110, 3) := by decide +kernel
theorem dX10_speak_34 : decode cX10_speak 34 = .ok (.iload_n 2, 1) := by decide +kernel
theorem dX10_speak_35 : decode cX10_speak 35 = .ok (.iaload, 1) := by decide +kernel
theorem dX10_speak_36 : decode cX10_speak 36 = .ok (.invokevirtual 141, 3) := by decide +kernel
theorem dX10_speak_39 : decode cX10_speak 39 = .ok (.iconst 0, 1) := by decide +kernel
theorem dX10_speak_40 : decode cX10_speak 40 = .ok (.ireturn, 1) := by decide +kernel
theorem dX10_speak_41 : decode cX10_speak 41 = .ok (.iload_n 3, 1) := by decide +kernel
theorem dX10_speak_42 : decode cX10_speak 42 = .ok (.aload_n 1, 1) := by decide +kernel
theorem dX10_speak_43 : decode cX10_speak 43 = .ok (.getfield 182, 3) := by decide +kernel
theorem dX10_speak_46 : decode cX10_speak 46 = .ok (.iload_n 2, 1) := by decide +kernel
theorem dX10_speak_47 : decode cX10_speak 47 = .ok (.iaload, 1) := by decide +kernel
theorem dX10_speak_48 : decode cX10_speak 48 = .ok (.if_icmp .eq 25, 3) := by decide +kernel
theorem dX10_speak_51 : decode cX10_speak 51 = .ok (.aload_n 1, 1) := by decide +kernel
theorem dX10_speak_52 : decode cX10_speak 52 = .ok (.getfield 171, 3) := by decide +kernel
theorem dX10_speak_55 : decode cX10_speak 55 = .ok (.iload_n 2, 1) := by decide +kernel
theorem dX10_speak_56 : decode cX10_speak 56 = .ok (.dup2, 1) := by decide +kernel
theorem dX10_speak_57 : decode cX10_speak 57 = .ok (.iaload, 1) := by decide +kernel
theorem dX10_speak_58 : decode cX10_speak 58 = .ok (.iconst 1, 1) := by decide +kernel
theorem dX10_speak_59 : decode cX10_speak 59 = .ok (.iload_n 3, 1) := by decide +kernel
theorem dX10_speak_60 : decode cX10_speak 60 = .ok (.ishl, 1) := by decide +kernel
theorem dX10_speak_61 : decode cX10_speak 61 = .ok (.ior, 1) := by decide +kernel
theorem dX10_speak_62 : decode cX10_speak 62 = .ok (.iastore, 1) := by decide +kernel
theorem dX10_speak_63 : decode cX10_speak 63 = .ok (.aload_n 0, 1) := by decide +kernel
theorem dX10_speak_64 : decode cX10_speak 64 = .ok (.aload_n 1, 1) := by decide +kernel
theorem dX10_speak_65 : decode cX10_speak 65 = .ok (.iconst 2, 1) := by decide +kernel
theorem dX10_speak_66 : decode cX10_speak 66 = .ok (.iload_n 2, 1) := by decide +kernel
theorem dX10_speak_67 : decode cX10_speak 67 = .ok (.iload_n 3, 1) := by decide +kernel
theorem dX10_speak_68 : decode cX10_speak 68 = .ok (.invokevirtual 141, 3) := by decide +kernel
theorem dX10_speak_71 : decode cX10_speak 71 = .ok (.iconst 0, 1) := by decide +kernel
theorem dX10_speak_72 : decode cX10_speak 72 = .ok (.ireturn, 1) := by decide +kernel
theorem dX10_speak_73 : decode cX10_speak 73 = .ok (.aload_n 1, 1) := by decide +kernel
theorem dX10_speak_74 : decode cX10_speak 74 = .ok (.getfield 185, 3) := by decide +kernel
theorem dX10_speak_77 : decode cX10_speak 77 = .ok (.iload_n 3, 1) := by decide +kernel
theorem dX10_speak_78 : decode cX10_speak 78 = .ok (.dup2, 1) := by decide +kernel
theorem dX10_speak_79 : decode cX10_speak 79 = .ok (.iaload, 1) := by decide +kernel
theorem dX10_speak_80 : decode cX10_speak 80 = .ok (.iconst 1, 1) := by decide +kernel
theorem dX10_speak_81 : decode cX10_speak 81 = .ok (.iadd, 1) := by decide +kernel
theorem dX10_speak_82 : decode cX10_speak 82 = .ok (.iastore, 1) := by decide +kernel
theorem dX10_speak_83 : decode cX10_speak 83 = .ok (.aload_n 0, 1) := by decide +kernel
theorem dX10_speak_84 : decode cX10_speak 84 = .ok (.getfield 23, 3) := by decide +kernel
theorem dX10_speak_87 : decode cX10_speak 87 = .ok (.iconst 2, 1) := by decide +kernel
theorem dX10_speak_88 : decode cX10_speak 88 = .ok (.aload_n 1, 1) := by decide +kernel
theorem dX10_speak_89 : decode cX10_speak 89 = .ok (.iload_n 2, 1) := by decide +kernel
theorem dX10_speak_90 : decode cX10_speak 90 = .ok (.invokevirtual 130, 3) := by decide +kernel
theorem dX10_speak_93 : decode cX10_speak 93 = .ok (.istore 4, 2) := by decide +kernel
theorem dX10_speak_95 : decode cX10_speak 95 = .ok (.aload_n 1, 1) := by decide +kernel
theorem dX10_speak_96 : decode cX10_speak 96 = .ok (.iload_n 3, 1) := by decide +kernel
theorem dX10_speak_97 : decode cX10_speak 97 = .ok (.aload_n 1, 1) := by decide +kernel
theorem dX10_speak_98 : decode cX10_speak 98 = .ok (.getfield 110, 3) := by decide +kernel
theorem dX10_speak_101 : decode cX10_speak 101 = .ok (.iload_n 3, 1) := by decide +kernel
theorem dX10_speak_102 : decode cX10_speak 102 = .ok (.iaload, 1) := by decide +kernel
theorem dX10_speak_103 : decode cX10_speak 103 = .ok (.iload 4, 2) := by decide +kernel
theorem dX10_speak_105 : decode cX10_speak 105 = .ok (.iadd, 1) := by decide +kernel
theorem dX10_speak_106 : decode cX10_speak 106 = .ok (.invokevirtual 134, 3) := by decide +kernel
theorem dX10_speak_109 : decode cX10_speak 109 = .ok (.iload 4, 2) := by decide +kernel
theorem dX10_speak_111 : decode cX10_speak 111 = .ok (.ifCond .le 9, 3) := by decide +kernel
theorem dX10_speak_114 : decode cX10_speak 114 = .ok (.aload_n 1, 1) := by decide +kernel
theorem dX10_speak_115 : decode cX10_speak 115 = .ok (.iload_n 3, 1) := by decide +kernel
theorem dX10_speak_116 : decode cX10_speak 116 = .ok (.iload_n 2, 1) := by decide +kernel
theorem dX10_speak_117 : decode cX10_speak 117 = .ok (.invokevirtual 138, 3) := by decide +kernel
theorem dX10_speak_120 : decode cX10_speak 120 = .ok (.aload_n 1, 1) := by decide +kernel
theorem dX10_speak_121 : decode cX10_speak 121 = .ok (.iload_n 2, 1) := by decide +kernel
theorem dX10_speak_122 : decode cX10_speak 122 = .ok (.iconst 0, 1) := by decide +kernel
theorem dX10_speak_123 : decode cX10_speak 123 = .ok (.invokevirtual 134, 3) := by decide +kernel
theorem dX10_speak_126 : decode cX10_speak 126 = .ok (.aload_n 0, 1) := by decide +kernel
theorem dX10_speak_127 : decode cX10_speak 127 = .ok (.aload_n 1, 1) := by decide +kernel
theorem dX10_speak_128 : decode cX10_speak 128 = .ok (.iconst 3, 1) := by decide +kernel
theorem dX10_speak_129 : decode cX10_speak 129 = .ok (.iload_n 2, 1) := by decide +kernel
theorem dX10_speak_130 : decode cX10_speak 130 = .ok (.iload_n 3, 1) := by decide +kernel
theorem dX10_speak_131 : decode cX10_speak 131 = .ok (.invokevirtual 141, 3) := by decide +kernel
theorem dX10_speak_134 : decode cX10_speak 134 = .ok (.iconst 1, 1) := by decide +kernel
theorem dX10_speak_135 : decode cX10_speak 135 = .ok (.ireturn, 1) := by decide +kernel
set_option maxRecDepth 100000 in
set_option maxHeartbeats 4000000 in
theorem jo_X10_speak_120 {fr : Nat} (hfr : 4 ≤ fr) (Z : AZ) (X : AX Z cX10_speak 5 RX10 (some .boolean) 0 fr) (a0 : Nat) (a1 : Nat) (h0 : IO 0 a0 9) (h1 : IO 0 a1 0) (x2 : Int32) (x3 : Int32) (s : Mem) (r : Int32 × Mem) (hz : zres Z = (some (.int r.1), r.2)) (h : jn_X10_speak_120 a0 a1 x2 x3 s = some r) : AW Z s 120 [some (.ref (zr Z a0)), some (.ref (zr Z a1)), some (.int x2), some (.int x3), none] [] := by
  unfold jn_X10_speak_120 at h
  refine aw_aload_n X dX10_speak_120 rfl ?_
  refine aw_iload_n X dX10_speak_121 rfl ?_
  refine aw_iconst (v := 0) X dX10_speak_122 (by decide) ?_
  obtain ⟨r11, er11, h⟩ := bnd h
  refine aw_callV X dX10_speak_123 cv_RX10_134 (ok_X0_hiccup h1 er11 _ _ _ _ _) h1 rfl (Nat.le_trans (by decide) hfr) (by decide) rfl rfl (Nat.le_of_ble_eq_true rfl) ?_
  refine aw_aload_n X dX10_speak_126 rfl ?_
  refine aw_aload_n X dX10_speak_127 rfl ?_
  refine aw_iconst (v := 3) X dX10_speak_128 (by decide) ?_
  refine aw_iload_n X dX10_speak_129 rfl ?_
  refine aw_iload_n X dX10_speak_130 rfl ?_
  obtain ⟨r12, er12, h⟩ := bnd h
  refine aw_callV X dX10_speak_131 cv_RX10_141 (ok_X10_write h0 h1 er12 _ _ _ _ _) h0 rfl (Nat.le_trans (by decide) hfr) (by decide) rfl rfl (Nat.le_of_ble_eq_true rfl) ?_
  refine aw_iconst (v := 1) X dX10_speak_134 (by decide) ?_
  cases h
  exact aw_zret X dX10_speak_135 rfl rfl hz.symm
set_option maxRecDepth 100000 in
set_option maxHeartbeats 4000000 in
theorem w_X10_speak {fr : Nat} (hfr : 4 ≤ fr) (Z : AZ) (X : AX Z cX10_speak 5 RX10 (some .boolean) 0 fr) (a0 : Nat) (a1 : Nat) (h0 : IO 0 a0 9) (h1 : IO 0 a1 0) (x2 : Int32) (s : Mem) (r : Int32 × Mem) (hz : zres Z = (some (.int r.1), r.2)) (h : f_X10_speak a0 a1 x2 s = some r) : AW Z s 0 [some (.ref (zr Z a0)), some (.ref (zr Z a1)), some (.int x2), none, none] [] := by
  unfold f_X10_speak at h
  refine aw_aload_n X dX10_speak_0 rfl ?_
  refine aw_aload_n X dX10_speak_1 rfl ?_
  refine aw_iload_n X dX10_speak_2 rfl ?_
  obtain ⟨r1, er1, h⟩ := bnd h
  refine aw_callV X dX10_speak_3 cv_RX10_178 (ok_X10_nextName h0 h1 er1 _ _ _ _ _) h0 rfl (Nat.le_trans (by decide) hfr) (by decide) rfl rfl (Nat.le_of_ble_eq_true rfl) ?_
  refine aw_istore_n (L' := [some (.ref (zr Z a0)), some (.ref (zr Z a1)), some (.int x2), some (.int r1.1), none]) X dX10_speak_6 (by decide) rfl ?_
  refine aw_iload_n X dX10_speak_7 rfl ?_
  refine aw_iconst (v := (-1)) X dX10_speak_8 (by decide) ?_
  refine aw_icmp_ne (tgt := 41) X dX10_speak_9 (by decide) (fun c2 => ?_) (fun c2 => ?_)
  · rw [if_neg c2] at h
    refine aw_iload_n X dX10_speak_41 rfl ?_
    refine aw_aload_n X dX10_speak_42 rfl ?_
    refine aw_getr X dX10_speak_43 fl_RX10_182 h1 (gt_RX0_4 h1) ?_
    refine aw_iload_n X dX10_speak_46 rfl ?_
    obtain ⟨v3, ev3, h⟩ := bnd h
    refine aw_iald X dX10_speak_47 (it_RX0_4 h1) ev3 ?_
    refine aw_icmp_eq (tgt := 73) X dX10_speak_48 (by decide) (fun c4 => ?_) (fun c4 => ?_)
    · rw [if_pos c4] at h
      refine aw_aload_n X dX10_speak_73 rfl ?_
      refine aw_getr X dX10_speak_74 fl_RX10_185 h1 (gt_RX0_7 h1) ?_
      refine aw_iload_n X dX10_speak_77 rfl ?_
      refine aw_dup2 X dX10_speak_78 rfl rfl ?_
      obtain ⟨v5, ev5, h⟩ := bnd h
      refine aw_iald X dX10_speak_79 (it_RX0_7 h1) ev5 ?_
      refine aw_iconst (v := 1) X dX10_speak_80 (by decide) ?_
      refine aw_iadd X dX10_speak_81 ?_
      obtain ⟨s6, es6, h⟩ := bnd h
      refine aw_iast X dX10_speak_82 (it_RX0_7 h1) es6 ?_
      refine aw_aload_n X dX10_speak_83 rfl ?_
      refine aw_getr X dX10_speak_84 fl_RX10_23 h0 (gt_RX10_1 h0) ?_
      refine aw_iconst (v := 2) X dX10_speak_87 (by decide) ?_
      refine aw_aload_n X dX10_speak_88 rfl ?_
      refine aw_iload_n X dX10_speak_89 rfl ?_
      obtain ⟨r7, er7, h⟩ := bnd h
      refine aw_callV X dX10_speak_90 cv_RX10_130 (ok_X1_ask (it_RX10_1 h0) h1 er7 _ _ _ _ _) (it_RX10_1 h0) rfl (Nat.le_trans (by decide) hfr) (by decide) rfl rfl (Nat.le_of_ble_eq_true rfl) ?_
      refine aw_istore (L' := [some (.ref (zr Z a0)), some (.ref (zr Z a1)), some (.int x2), some (.int r1.1), some (.int r7.1)]) X dX10_speak_93 (by decide) rfl ?_
      refine aw_aload_n X dX10_speak_95 rfl ?_
      refine aw_iload_n X dX10_speak_96 rfl ?_
      refine aw_aload_n X dX10_speak_97 rfl ?_
      refine aw_getr X dX10_speak_98 fl_RX10_110 h1 (gt_RX0_3 h1) ?_
      refine aw_iload_n X dX10_speak_101 rfl ?_
      obtain ⟨v8, ev8, h⟩ := bnd h
      refine aw_iald X dX10_speak_102 (it_RX0_3 h1) ev8 ?_
      refine aw_iload X dX10_speak_103 rfl ?_
      refine aw_iadd X dX10_speak_105 ?_
      obtain ⟨r9, er9, h⟩ := bnd h
      refine aw_callV X dX10_speak_106 cv_RX10_134 (ok_X0_hiccup h1 er9 _ _ _ _ _) h1 rfl (Nat.le_trans (by decide) hfr) (by decide) rfl rfl (Nat.le_of_ble_eq_true rfl) ?_
      refine aw_iload X dX10_speak_109 rfl ?_
      refine aw_if_le (tgt := 120) X dX10_speak_111 (by decide) (fun c10 => ?_) (fun c10 => ?_)
      · rw [if_pos c10] at h
        refine aw_msk [true, true, true, true, false] ?_
        exact jo_X10_speak_120 hfr Z X a0 a1 h0 h1 _ _ _ _ hz h
      · rw [if_neg c10] at h
        refine aw_aload_n X dX10_speak_114 rfl ?_
        refine aw_iload_n X dX10_speak_115 rfl ?_
        refine aw_iload_n X dX10_speak_116 rfl ?_
        obtain ⟨r13, er13, h⟩ := bnd h
        refine aw_callV X dX10_speak_117 cv_RX10_138 (ok_X0_blame h1 er13 _ _ _ _ _) h1 rfl (Nat.le_trans (by decide) hfr) (by decide) rfl rfl (Nat.le_of_ble_eq_true rfl) ?_
        refine aw_msk [true, true, true, true, false] ?_
        exact jo_X10_speak_120 hfr Z X a0 a1 h0 h1 _ _ _ _ hz h
    · rw [if_neg c4] at h
      refine aw_aload_n X dX10_speak_51 rfl ?_
      refine aw_getr X dX10_speak_52 fl_RX10_171 h1 (gt_RX0_5 h1) ?_
      refine aw_iload_n X dX10_speak_55 rfl ?_
      refine aw_dup2 X dX10_speak_56 rfl rfl ?_
      obtain ⟨v14, ev14, h⟩ := bnd h
      refine aw_iald X dX10_speak_57 (it_RX0_5 h1) ev14 ?_
      refine aw_iconst (v := 1) X dX10_speak_58 (by decide) ?_
      refine aw_iload_n X dX10_speak_59 rfl ?_
      refine aw_ishl X dX10_speak_60 ?_
      refine aw_ior X dX10_speak_61 ?_
      obtain ⟨s15, es15, h⟩ := bnd h
      refine aw_iast X dX10_speak_62 (it_RX0_5 h1) es15 ?_
      refine aw_aload_n X dX10_speak_63 rfl ?_
      refine aw_aload_n X dX10_speak_64 rfl ?_
      refine aw_iconst (v := 2) X dX10_speak_65 (by decide) ?_
      refine aw_iload_n X dX10_speak_66 rfl ?_
      refine aw_iload_n X dX10_speak_67 rfl ?_
      obtain ⟨r16, er16, h⟩ := bnd h
      refine aw_callV X dX10_speak_68 cv_RX10_141 (ok_X10_write h0 h1 er16 _ _ _ _ _) h0 rfl (Nat.le_trans (by decide) hfr) (by decide) rfl rfl (Nat.le_of_ble_eq_true rfl) ?_
      refine aw_iconst (v := 0) X dX10_speak_71 (by decide) ?_
      cases h
      exact aw_zret X dX10_speak_72 rfl rfl hz.symm
  · rw [if_pos c2] at h
    refine aw_aload_n X dX10_speak_12 rfl ?_
    refine aw_iload_n X dX10_speak_13 rfl ?_
    refine aw_aload_n X dX10_speak_14 rfl ?_
    refine aw_getr X dX10_speak_15 fl_RX10_110 h1 (gt_RX0_3 h1) ?_
    refine aw_iload_n X dX10_speak_18 rfl ?_
    obtain ⟨v17, ev17, h⟩ := bnd h
    refine aw_iald X dX10_speak_19 (it_RX0_3 h1) ev17 ?_
    refine aw_iconst (v := 1) X dX10_speak_20 (by decide) ?_
    refine aw_isub X dX10_speak_21 ?_
    obtain ⟨r18, er18, h⟩ := bnd h
    refine aw_callV X dX10_speak_22 cv_RX10_134 (ok_X0_hiccup h1 er18 _ _ _ _ _) h1 rfl (Nat.le_trans (by decide) hfr) (by decide) rfl rfl (Nat.le_of_ble_eq_true rfl) ?_
    refine aw_aload_n X dX10_speak_25 rfl ?_
    refine aw_aload_n X dX10_speak_26 rfl ?_
    refine aw_bipush (v := 6) X dX10_speak_27 (by decide) ?_
    refine aw_iload_n X dX10_speak_29 rfl ?_
    refine aw_aload_n X dX10_speak_30 rfl ?_
    refine aw_getr X dX10_speak_31 fl_RX10_110 h1 (gt_RX0_3 h1) ?_
    refine aw_iload_n X dX10_speak_34 rfl ?_
    obtain ⟨v19, ev19, h⟩ := bnd h
    refine aw_iald X dX10_speak_35 (it_RX0_3 h1) ev19 ?_
    obtain ⟨r20, er20, h⟩ := bnd h
    refine aw_callV X dX10_speak_36 cv_RX10_141 (ok_X10_write h0 h1 er20 _ _ _ _ _) h0 rfl (Nat.le_trans (by decide) hfr) (by decide) rfl rfl (Nat.le_of_ble_eq_true rfl) ?_
    refine aw_iconst (v := 0) X dX10_speak_39 (by decide) ?_
    cases h
    exact aw_zret X dX10_speak_40 rfl rfl hz.symm
set_option maxRecDepth 100000 in
set_option maxHeartbeats 4000000 in
theorem ok_X10_speak {a0 : Nat} {a1 : Nat} (h0 : IO 0 a0 9) (h1 : IO 0 a1 0) {x2 : Int32} {s : Mem} {r : Int32 × Mem} (h : f_X10_speak a0 a1 x2 s = some r) (l : Launch) (D : va_G) (ρ : Nat → Nat) (cA : ClassId × ClassId × ClassId) (τ : AT) : AM l D ρ cA 0 τ yX10_speak cX10_speak 5 (some .boolean) 4 [.ref (ρ a0), .ref (ρ a1), .int x2] (some (.int r.1)) s r.2 := by
  refine AM_of (L := [some (.ref (ρ a0)), some (.ref (ρ a1)), some (.int x2), none, none]) (by decide) (by simp [Value.category]) (Nat.le_of_ble_eq_true rfl) (fun j v q => ?_) (fun Z X hρ hz hτ => ?_)
  · exact aL_ok (n := 2) [.ref (ρ a0), .ref (ρ a1), .int x2] j v q
  · subst hρ
    subst hτ
    exact w_X10_speak (Nat.le_refl _) Z X a0 a1 h0 h1 x2 s r hz h

theorem dX10_passMinute_0 : decode cX10_passMinute 0 = .ok (.iconst 0, 1) := by decide +kernel
theorem dX10_passMinute_1 : decode cX10_passMinute 1 = .ok (.istore_n 2, 1) := by decide +kernel
theorem dX10_passMinute_2 : decode cX10_passMinute 2 = .ok (.iload_n 2, 1) := by decide +kernel
theorem dX10_passMinute_3 : decode cX10_passMinute 3 = .ok (.aload_n 0, 1) := by decide +kernel
theorem dX10_passMinute_4 : decode cX10_passMinute 4 = .ok (.getfield 30, 3) := by decide +kernel
theorem dX10_passMinute_7 : decode cX10_passMinute 7 = .ok (.getfield 77, 3) := by decide +kernel
theorem dX10_passMinute_10 : decode cX10_passMinute 10 = .ok (.if_icmp .ge 80, 3) := by decide +kernel
theorem dX10_passMinute_13 : decode cX10_passMinute 13 = .ok (.aload_n 0, 1) := by decide +kernel
theorem dX10_passMinute_14 : decode cX10_passMinute 14 = .ok (.getfield 30, 3) := by decide +kernel
theorem dX10_passMinute_17 : decode cX10_passMinute 17 = .ok (.getfield 81, 3) := by decide +kernel
theorem dX10_passMinute_20 : decode cX10_passMinute 20 = .ok (.iload_n 2, 1) := by decide +kernel
theorem dX10_passMinute_21 : decode cX10_passMinute 21 = .ok (.iaload, 1) := by decide +kernel
theorem dX10_passMinute_22 : decode cX10_passMinute 22 = .ok (.aload_n 1, 1) := by decide +kernel
theorem dX10_passMinute_23 : decode cX10_passMinute 23 = .ok (.getfield 84, 3) := by decide +kernel
theorem dX10_passMinute_26 : decode cX10_passMinute 26 = .ok (.if_icmp .ne 58, 3) := by decide +kernel
theorem dX10_passMinute_29 : decode cX10_passMinute 29 = .ok (.aload_n 1, 1) := by decide +kernel
theorem dX10_passMinute_30 : decode cX10_passMinute 30 = .ok (.aload_n 0, 1) := by decide +kernel
theorem dX10_passMinute_31 : decode cX10_passMinute 31 = .ok (.getfield 30, 3) := by decide +kernel
theorem dX10_passMinute_34 : decode cX10_passMinute 34 = .ok (.getfield 86, 3) := by decide +kernel
theorem dX10_passMinute_37 : decode cX10_passMinute 37 = .ok (.iload_n 2, 1) := by decide +kernel
theorem dX10_passMinute_38 : decode cX10_passMinute 38 = .ok (.iaload, 1) := by decide +kernel
theorem dX10_passMinute_39 : decode cX10_passMinute 39 = .ok (.invokevirtual 89, 3) := by decide +kernel
theorem dX10_passMinute_42 : decode cX10_passMinute 42 = .ok (.ifCond .eq 42, 3) := by decide +kernel
theorem dX10_passMinute_45 : decode cX10_passMinute 45 = .ok (.aload_n 1, 1) := by decide +kernel
theorem dX10_passMinute_46 : decode cX10_passMinute 46 = .ok (.aload_n 0, 1) := by decide +kernel
theorem dX10_passMinute_47 : decode cX10_passMinute 47 = .ok (.getfield 30, 3) := by decide +kernel
theorem dX10_passMinute_50 : decode cX10_passMinute 50 = .ok (.getfield 93, 3) := by decide +kernel
theorem dX10_passMinute_53 : decode cX10_passMinute 53 = .ok (.iload_n 2, 1) := by decide +kernel
theorem dX10_passMinute_54 : decode cX10_passMinute 54 = .ok (.iaload, 1) := by decide +kernel
theorem dX10_passMinute_55 : decode cX10_passMinute 55 = .ok (.invokevirtual 89, 3) := by decide +kernel
theorem dX10_passMinute_58 : decode cX10_passMinute 58 = .ok (.ifCond .eq 26, 3) := by decide +kernel
theorem dX10_passMinute_61 : decode cX10_passMinute 61 = .ok (.aload_n 0, 1) := by decide +kernel
theorem dX10_passMinute_62 : decode cX10_passMinute 62 = .ok (.aload_n 1, 1) := by decide +kernel
theorem dX10_passMinute_63 : decode cX10_passMinute 63 = .ok (.aload_n 0, 1) := by decide +kernel
theorem dX10_passMinute_64 : decode cX10_passMinute 64 = .ok (.getfield 30, 3) := by decide +kernel
theorem dX10_passMinute_67 : decode cX10_passMinute 67 = .ok (.getfield 86, 3) := by decide +kernel
theorem dX10_passMinute_70 : decode cX10_passMinute 70 = .ok (.iload_n 2, 1) := by decide +kernel
theorem dX10_passMinute_71 : decode cX10_passMinute 71 = .ok (.iaload, 1) := by decide +kernel
theorem dX10_passMinute_72 : decode cX10_passMinute 72 = .ok (.aload_n 0, 1) := by decide +kernel
theorem dX10_passMinute_73 : decode cX10_passMinute 73 = .ok (.getfield 30, 3) := by decide +kernel
theorem dX10_passMinute_76 : decode cX10_passMinute 76 = .ok (.getfield 93, 3) := by decide +kernel
theorem dX10_passMinute_79 : decode cX10_passMinute 79 = .ok (.iload_n 2, 1) := by decide +kernel
theorem dX10_passMinute_80 : decode cX10_passMinute 80 = .ok (.iaload, 1) := by decide +kernel
theorem dX10_passMinute_81 : decode cX10_passMinute 81 = .ok (.invokevirtual 96, 3) := by decide +kernel
theorem dX10_passMinute_84 : decode cX10_passMinute 84 = .ok (.iinc 2 1, 3) := by decide +kernel
theorem dX10_passMinute_87 : decode cX10_passMinute 87 = .ok (.goto (-85), 3) := by decide +kernel
theorem dX10_passMinute_90 : decode cX10_passMinute 90 = .ok (.iconst 0, 1) := by decide +kernel
theorem dX10_passMinute_91 : decode cX10_passMinute 91 = .ok (.istore_n 2, 1) := by decide +kernel
theorem dX10_passMinute_92 : decode cX10_passMinute 92 = .ok (.iload_n 2, 1) := by decide +kernel
theorem dX10_passMinute_93 : decode cX10_passMinute 93 = .ok (.aload_n 0, 1) := by decide +kernel
theorem dX10_passMinute_94 : decode cX10_passMinute 94 = .ok (.getfield 34, 3) := by decide +kernel
theorem dX10_passMinute_97 : decode cX10_passMinute 97 = .ok (.getfield 77, 3) := by decide +kernel
theorem dX10_passMinute_100 : decode cX10_passMinute 100 = .ok (.if_icmp .ge 73, 3) := by decide +kernel
theorem dX10_passMinute_103 : decode cX10_passMinute 103 = .ok (.aload_n 0, 1) := by decide +kernel
theorem dX10_passMinute_104 : decode cX10_passMinute 104 = .ok (.getfield 34, 3) := by decide +kernel
theorem dX10_passMinute_107 : decode cX10_passMinute 107 = .ok (.getfield 81, 3) := by decide +kernel
theorem dX10_passMinute_110 : decode cX10_passMinute 110 = .ok (.iload_n 2, 1) := by decide +kernel
theorem dX10_passMinute_111 : decode cX10_passMinute 111 = .ok (.iaload, 1) := by decide +kernel
theorem dX10_passMinute_112 : decode cX10_passMinute 112 = .ok (.aload_n 1, 1) := by decide +kernel
theorem dX10_passMinute_113 : decode cX10_passMinute 113 = .ok (.getfield 84, 3) := by decide +kernel
theorem dX10_passMinute_116 : decode cX10_passMinute 116 = .ok (.if_icmp .ne 51, 3) := by decide +kernel
theorem dX10_passMinute_119 : decode cX10_passMinute 119 = .ok (.aload_n 1, 1) := by decide +kernel
theorem dX10_passMinute_120 : decode cX10_passMinute 120 = .ok (.aload_n 0, 1) := by decide +kernel
theorem dX10_passMinute_121 : decode cX10_passMinute 121 = .ok (.getfield 34, 3) := by decide +kernel
theorem dX10_passMinute_124 : decode cX10_passMinute 124 = .ok (.getfield 86, 3) := by decide +kernel
theorem dX10_passMinute_127 : decode cX10_passMinute 127 = .ok (.iload_n 2, 1) := by decide +kernel
theorem dX10_passMinute_128 : decode cX10_passMinute 128 = .ok (.iaload, 1) := by decide +kernel
theorem dX10_passMinute_129 : decode cX10_passMinute 129 = .ok (.invokevirtual 89, 3) := by decide +kernel
theorem dX10_passMinute_132 : decode cX10_passMinute 132 = .ok (.ifCond .eq 35, 3) := by decide +kernel
theorem dX10_passMinute_135 : decode cX10_passMinute 135 = .ok (.aload_n 0, 1) := by decide +kernel
theorem dX10_passMinute_136 : decode cX10_passMinute 136 = .ok (.aload_n 1, 1) := by decide +kernel
theorem dX10_passMinute_137 : decode cX10_passMinute 137 = .ok (.aload_n 0, 1) := by decide +kernel
theorem dX10_passMinute_138 : decode cX10_passMinute 138 = .ok (.getfield 34, 3) := by decide +kernel
theorem dX10_passMinute_141 : decode cX10_passMinute 141 = .ok (.getfield 100, 3) := by decide +kernel
theorem dX10_passMinute_144 : decode cX10_passMinute 144 = .ok (.iload_n 2, 1) := by decide +kernel
theorem dX10_passMinute_145 : decode cX10_passMinute 145 = .ok (.iaload, 1) := by decide +kernel
theorem dX10_passMinute_146 : decode cX10_passMinute 146 = .ok (.aload_n 0, 1) := by decide +kernel
theorem dX10_passMinute_147 : decode cX10_passMinute 147 = .ok (.getfield 34, 3) := by decide +kernel
theorem dX10_passMinute_150 : decode cX10_passMinute 150 = .ok (.getfield 86, 3) := by decide +kernel
theorem dX10_passMinute_153 : decode cX10_passMinute 153 = .ok (.iload_n 2, 1) := by decide +kernel
theorem dX10_passMinute_154 : decode cX10_passMinute 154 = .ok (.iaload, 1) := by decide +kernel
theorem dX10_passMinute_155 : decode cX10_passMinute 155 = .ok (.aload_n 0, 1) := by decide +kernel
theorem dX10_passMinute_156 : decode cX10_passMinute 156 = .ok (.getfield 34, 3) := by decide +kernel
theorem dX10_passMinute_159 : decode cX10_passMinute 159 = .ok (.getfield 93, 3) := by decide +kernel
theorem dX10_passMinute_162 : decode cX10_passMinute 162 = .ok (.iload_n 2, 1) := by decide +kernel
theorem dX10_passMinute_163 : decode cX10_passMinute 163 = .ok (.iaload, 1) := by decide +kernel
theorem dX10_passMinute_164 : decode cX10_passMinute 164 = .ok (.invokevirtual 103, 3) := by decide +kernel
theorem dX10_passMinute_167 : decode cX10_passMinute 167 = .ok (.iinc 2 1, 3) := by decide +kernel
theorem dX10_passMinute_170 : decode cX10_passMinute 170 = .ok (.goto (-78), 3) := by decide +kernel
theorem dX10_passMinute_173 : decode cX10_passMinute 173 = .ok (.iconst 0, 1) := by decide +kernel
theorem dX10_passMinute_174 : decode cX10_passMinute 174 = .ok (.istore_n 2, 1) := by decide +kernel
theorem dX10_passMinute_175 : decode cX10_passMinute 175 = .ok (.iconst 0, 1) := by decide +kernel
theorem dX10_passMinute_176 : decode cX10_passMinute 176 = .ok (.istore_n 3, 1) := by decide +kernel
theorem dX10_passMinute_177 : decode cX10_passMinute 177 = .ok (.iload_n 3, 1) := by decide +kernel
theorem dX10_passMinute_178 : decode cX10_passMinute 178 = .ok (.aload_n 1, 1) := by decide +kernel
theorem dX10_passMinute_179 : decode cX10_passMinute 179 = .ok (.getfield 107, 3) := by decide +kernel
theorem dX10_passMinute_182 : decode cX10_passMinute 182 = .ok (.if_icmp .ge 39, 3) := by decide +kernel
theorem dX10_passMinute_185 : decode cX10_passMinute 185 = .ok (.aload_n 1, 1) := by decide +kernel
theorem dX10_passMinute_186 : decode cX10_passMinute 186 = .ok (.getfield 110, 3) := by decide +kernel
theorem dX10_passMinute_189 : decode cX10_passMinute 189 = .ok (.iload_n 3, 1) := by decide +kernel
theorem dX10_passMinute_190 : decode cX10_passMinute 190 = .ok (.iaload, 1) := by decide +kernel
theorem dX10_passMinute_191 : decode cX10_passMinute 191 = .ok (.ifCond .le 24, 3) := by decide +kernel
theorem dX10_passMinute_194 : decode cX10_passMinute 194 = .ok (.aload_n 0, 1) := by decide +kernel
theorem dX10_passMinute_195 : decode cX10_passMinute 195 = .ok (.aload_n 1, 1) := by decide +kernel
theorem dX10_passMinute_196 : decode cX10_passMinute 196 = .ok (.iload_n 3, 1) := by decide +kernel
theorem dX10_passMinute_197 : decode cX10_passMinute 197 = .ok (.invokevirtual 113, 3) := by decide +kernel
theorem dX10_passMinute_200 : decode cX10_passMinute 200 = .ok (.ifCond .ne 15, 3) := by decide +kernel
theorem dX10_passMinute_203 : decode cX10_passMinute 203 = .ok (.aload_n 0, 1) := by decide +kernel
theorem dX10_passMinute_204 : decode cX10_passMinute 204 = .ok (.aload_n 1, 1) := by decide +kernel
theorem dX10_passMinute_205 : decode cX10_passMinute 205 = .ok (.iload_n 3, 1) := by decide +kernel
theorem dX10_passMinute_206 : decode cX10_passMinute 206 = .ok (.invokevirtual 117, 3) := by decide +kernel
theorem dX10_passMinute_209 : decode cX10_passMinute 209 = .ok (.ifCond .eq 6, 3) := by decide +kernel
theorem dX10_passMinute_212 : decode cX10_passMinute 212 = .ok (.iinc 2 1, 3) := by decide +kernel
theorem dX10_passMinute_215 : decode cX10_passMinute 215 = .ok (.iinc 3 1, 3) := by decide +kernel
theorem dX10_passMinute_218 : decode cX10_passMinute 218 = .ok (.goto (-41), 3) := by decide +kernel
theorem dX10_passMinute_221 : decode cX10_passMinute 221 = .ok (.aload_n 1, 1) := by decide +kernel
theorem dX10_passMinute_222 : decode cX10_passMinute 222 = .ok (.invokevirtual 120, 3) := by decide +kernel
theorem dX10_passMinute_225 : decode cX10_passMinute 225 = .ok (.ifCond .ne 13, 3) := by decide +kernel
theorem dX10_passMinute_228 : decode cX10_passMinute 228 = .ok (.aload_n 1, 1) := by decide +kernel
theorem dX10_passMinute_229 : decode cX10_passMinute 229 = .ok (.dup, 1) := by decide +kernel
theorem dX10_passMinute_230 : decode cX10_passMinute 230 = .ok (.getfield 124, 3) := by decide +kernel
theorem dX10_passMinute_233 : decode cX10_passMinute 233 = .ok (.iconst 1, 1) := by decide +kernel
theorem dX10_passMinute_234 : decode cX10_passMinute 234 = .ok (.iadd, 1) := by decide +kernel
theorem dX10_passMinute_235 : decode cX10_passMinute 235 = .ok (.putfield 124, 3) := by decide +kernel
theorem dX10_passMinute_238 : decode cX10_passMinute 238 = .ok (.aload_n 1, 1) := by decide +kernel
theorem dX10_passMinute_239 : decode cX10_passMinute 239 = .ok (.dup, 1) := by decide +kernel
theorem dX10_passMinute_240 : decode cX10_passMinute 240 = .ok (.getfield 84, 3) := by decide +kernel
theorem dX10_passMinute_243 : decode cX10_passMinute 243 = .ok (.iconst 1, 1) := by decide +kernel
theorem dX10_passMinute_244 : decode cX10_passMinute 244 = .ok (.iadd, 1) := by decide +kernel
theorem dX10_passMinute_245 : decode cX10_passMinute 245 = .ok (.putfield 84, 3) := by decide +kernel
theorem dX10_passMinute_248 : decode cX10_passMinute 248 = .ok (.iload_n 2, 1) := by decide +kernel
theorem dX10_passMinute_249 : decode cX10_passMinute 249 = .ok (.ireturn, 1) := by decide +kernel
set_option maxRecDepth 100000 in
set_option maxHeartbeats 4000000 in
theorem so_X10_passMinute_2 {fr : Nat} (hfr : 5 ≤ fr) (Z : AZ) (X : AX Z cX10_passMinute 4 RX10 (some .int) 0 fr) (a0 : Nat) (a1 : Nat) (h0 : IO 0 a0 9) (h1 : IO 0 a1 0) (x2 : Int32) (s : Mem) (q : (Int32 × Mem) ⊕ (Mem)) (h : st_X10_passMinute_2 a0 a1 x2 s = some q) (hi : ∀ y : Int32 × Mem, q = .inl y → AW Z y.2 2 [some (.ref (zr Z a0)), some (.ref (zr Z a1)), some (.int y.1), none] []) (he : ∀ b : Mem, q = .inr b → AW Z b 90 [some (.ref (zr Z a0)), some (.ref (zr Z a1)), none, none] []) : AW Z s 2 [some (.ref (zr Z a0)), some (.ref (zr Z a1)), some (.int x2), none] [] := by
  unfold st_X10_passMinute_2 at h
  refine aw_iload_n X dX10_passMinute_2 rfl ?_
  refine aw_aload_n X dX10_passMinute_3 rfl ?_
  refine aw_getr X dX10_passMinute_4 fl_RX10_30 h0 (gt_RX10_2 h0) ?_
  refine aw_geti X dX10_passMinute_7 fl_RX10_77 (it_RX10_2 h0) (gt_RX5_0 (it_RX10_2 h0)) ?_
  refine aw_icmp_ge (tgt := 90) X dX10_passMinute_10 (by decide) (fun c1 => ?_) (fun c1 => ?_)
  · rw [if_pos c1] at h
    cases h
    refine aw_msk [true, true, false, false] ?_
    exact he _ rfl
  · rw [if_neg c1] at h
    refine aw_aload_n X dX10_passMinute_13 rfl ?_
    refine aw_getr X dX10_passMinute_14 fl_RX10_30 h0 (gt_RX10_2 h0) ?_
    refine aw_getr X dX10_passMinute_17 fl_RX10_81 (it_RX10_2 h0) (gt_RX5_1 (it_RX10_2 h0)) ?_
    refine aw_iload_n X dX10_passMinute_20 rfl ?_
    obtain ⟨v2, ev2, h⟩ := bnd h
    refine aw_iald X dX10_passMinute_21 (it_RX5_1 (it_RX10_2 h0)) ev2 ?_
    refine aw_aload_n X dX10_passMinute_22 rfl ?_
    refine aw_geti X dX10_passMinute_23 fl_RX10_84 h1 (gt_RX0_10 h1) ?_
    refine aw_icmp_ne (tgt := 84) X dX10_passMinute_26 (by decide) (fun c3 => ?_) (fun c3 => ?_)
    · rw [if_neg c3] at h
      refine aw_iinc (v := (x2 + 1)) (L' := [some (.ref (zr Z a0)), some (.ref (zr Z a1)), some (.int (x2 + 1)), none]) X dX10_passMinute_84 rfl rfl (by decide) rfl ?_
      refine aw_goto (tgt := 2) X dX10_passMinute_87 (by decide) ?_
      cases h
      refine aw_msk [true, true, true, false] ?_
      exact hi _ rfl
    · rw [if_pos c3] at h
      refine aw_aload_n X dX10_passMinute_29 rfl ?_
      refine aw_aload_n X dX10_passMinute_30 rfl ?_
      refine aw_getr X dX10_passMinute_31 fl_RX10_30 h0 (gt_RX10_2 h0) ?_
      refine aw_getr X dX10_passMinute_34 fl_RX10_86 (it_RX10_2 h0) (gt_RX5_3 (it_RX10_2 h0)) ?_
      refine aw_iload_n X dX10_passMinute_37 rfl ?_
      obtain ⟨v4, ev4, h⟩ := bnd h
      refine aw_iald X dX10_passMinute_38 (it_RX5_3 (it_RX10_2 h0)) ev4 ?_
      obtain ⟨r5, er5, h⟩ := bnd h
      refine aw_callV X dX10_passMinute_39 cv_RX10_89 (ok_X0_has h1 er5 _ _ _ _ _) h1 rfl (Nat.le_trans (by decide) hfr) (by decide) rfl rfl (Nat.le_of_ble_eq_true rfl) ?_
      refine aw_if_eq (tgt := 84) X dX10_passMinute_42 (by decide) (fun c6 => ?_) (fun c6 => ?_)
      · rw [if_pos c6] at h
        refine aw_iinc (v := (x2 + 1)) (L' := [some (.ref (zr Z a0)), some (.ref (zr Z a1)), some (.int (x2 + 1)), none]) X dX10_passMinute_84 rfl rfl (by decide) rfl ?_
        refine aw_goto (tgt := 2) X dX10_passMinute_87 (by decide) ?_
        cases h
        refine aw_msk [true, true, true, false] ?_
        exact hi _ rfl
      · rw [if_neg c6] at h
        refine aw_aload_n X dX10_passMinute_45 rfl ?_
        refine aw_aload_n X dX10_passMinute_46 rfl ?_
        refine aw_getr X dX10_passMinute_47 fl_RX10_30 h0 (gt_RX10_2 h0) ?_
        refine aw_getr X dX10_passMinute_50 fl_RX10_93 (it_RX10_2 h0) (gt_RX5_4 (it_RX10_2 h0)) ?_
        refine aw_iload_n X dX10_passMinute_53 rfl ?_
        obtain ⟨v7, ev7, h⟩ := bnd h
        refine aw_iald X dX10_passMinute_54 (it_RX5_4 (it_RX10_2 h0)) ev7 ?_
        obtain ⟨r8, er8, h⟩ := bnd h
        refine aw_callV X dX10_passMinute_55 cv_RX10_89 (ok_X0_has h1 er8 _ _ _ _ _) h1 rfl (Nat.le_trans (by decide) hfr) (by decide) rfl rfl (Nat.le_of_ble_eq_true rfl) ?_
        refine aw_if_eq (tgt := 84) X dX10_passMinute_58 (by decide) (fun c9 => ?_) (fun c9 => ?_)
        · rw [if_pos c9] at h
          refine aw_iinc (v := (x2 + 1)) (L' := [some (.ref (zr Z a0)), some (.ref (zr Z a1)), some (.int (x2 + 1)), none]) X dX10_passMinute_84 rfl rfl (by decide) rfl ?_
          refine aw_goto (tgt := 2) X dX10_passMinute_87 (by decide) ?_
          cases h
          refine aw_msk [true, true, true, false] ?_
          exact hi _ rfl
        · rw [if_neg c9] at h
          refine aw_aload_n X dX10_passMinute_61 rfl ?_
          refine aw_aload_n X dX10_passMinute_62 rfl ?_
          refine aw_aload_n X dX10_passMinute_63 rfl ?_
          refine aw_getr X dX10_passMinute_64 fl_RX10_30 h0 (gt_RX10_2 h0) ?_
          refine aw_getr X dX10_passMinute_67 fl_RX10_86 (it_RX10_2 h0) (gt_RX5_3 (it_RX10_2 h0)) ?_
          refine aw_iload_n X dX10_passMinute_70 rfl ?_
          obtain ⟨v10, ev10, h⟩ := bnd h
          refine aw_iald X dX10_passMinute_71 (it_RX5_3 (it_RX10_2 h0)) ev10 ?_
          refine aw_aload_n X dX10_passMinute_72 rfl ?_
          refine aw_getr X dX10_passMinute_73 fl_RX10_30 h0 (gt_RX10_2 h0) ?_
          refine aw_getr X dX10_passMinute_76 fl_RX10_93 (it_RX10_2 h0) (gt_RX5_4 (it_RX10_2 h0)) ?_
          refine aw_iload_n X dX10_passMinute_79 rfl ?_
          obtain ⟨v11, ev11, h⟩ := bnd h
          refine aw_iald X dX10_passMinute_80 (it_RX5_4 (it_RX10_2 h0)) ev11 ?_
          obtain ⟨r12, er12, h⟩ := bnd h
          refine aw_callV X dX10_passMinute_81 cv_RX10_96 (ok_X10_nameOne h0 h1 er12 _ _ _ _ _) h0 rfl (Nat.le_trans (by decide) hfr) (by decide) rfl rfl (Nat.le_of_ble_eq_true rfl) ?_
          refine aw_iinc (v := (x2 + 1)) (L' := [some (.ref (zr Z a0)), some (.ref (zr Z a1)), some (.int (x2 + 1)), none]) X dX10_passMinute_84 rfl rfl (by decide) rfl ?_
          refine aw_goto (tgt := 2) X dX10_passMinute_87 (by decide) ?_
          cases h
          refine aw_msk [true, true, true, false] ?_
          exact hi _ rfl
set_option maxRecDepth 100000 in
set_option maxHeartbeats 4000000 in
theorem so_X10_passMinute_92 {fr : Nat} (hfr : 5 ≤ fr) (Z : AZ) (X : AX Z cX10_passMinute 4 RX10 (some .int) 0 fr) (a0 : Nat) (a1 : Nat) (h0 : IO 0 a0 9) (h1 : IO 0 a1 0) (x2 : Int32) (s : Mem) (q : (Int32 × Mem) ⊕ (Mem)) (h : st_X10_passMinute_92 a0 a1 x2 s = some q) (hi : ∀ y : Int32 × Mem, q = .inl y → AW Z y.2 92 [some (.ref (zr Z a0)), some (.ref (zr Z a1)), some (.int y.1), none] []) (he : ∀ b : Mem, q = .inr b → AW Z b 173 [some (.ref (zr Z a0)), some (.ref (zr Z a1)), none, none] []) : AW Z s 92 [some (.ref (zr Z a0)), some (.ref (zr Z a1)), some (.int x2), none] [] := by
  unfold st_X10_passMinute_92 at h
  refine aw_iload_n X dX10_passMinute_92 rfl ?_
  refine aw_aload_n X dX10_passMinute_93 rfl ?_
  refine aw_getr X dX10_passMinute_94 fl_RX10_34 h0 (gt_RX10_3 h0) ?_
  refine aw_geti X dX10_passMinute_97 fl_RX10_77 (it_RX10_3 h0) (gt_RX5_0 (it_RX10_3 h0)) ?_
  refine aw_icmp_ge (tgt := 173) X dX10_passMinute_100 (by decide) (fun c14 => ?_) (fun c14 => ?_)
  · rw [if_pos c14] at h
    cases h
    refine aw_msk [true, true, false, false] ?_
    exact he _ rfl
  · rw [if_neg c14] at h
    refine aw_aload_n X dX10_passMinute_103 rfl ?_
    refine aw_getr X dX10_passMinute_104 fl_RX10_34 h0 (gt_RX10_3 h0) ?_
    refine aw_getr X dX10_passMinute_107 fl_RX10_81 (it_RX10_3 h0) (gt_RX5_1 (it_RX10_3 h0)) ?_
    refine aw_iload_n X dX10_passMinute_110 rfl ?_
    obtain ⟨v15, ev15, h⟩ := bnd h
    refine aw_iald X dX10_passMinute_111 (it_RX5_1 (it_RX10_3 h0)) ev15 ?_
    refine aw_aload_n X dX10_passMinute_112 rfl ?_
    refine aw_geti X dX10_passMinute_113 fl_RX10_84 h1 (gt_RX0_10 h1) ?_
    refine aw_icmp_ne (tgt := 167) X dX10_passMinute_116 (by decide) (fun c16 => ?_) (fun c16 => ?_)
    · rw [if_neg c16] at h
      refine aw_iinc (v := (x2 + 1)) (L' := [some (.ref (zr Z a0)), some (.ref (zr Z a1)), some (.int (x2 + 1)), none]) X dX10_passMinute_167 rfl rfl (by decide) rfl ?_
      refine aw_goto (tgt := 92) X dX10_passMinute_170 (by decide) ?_
      cases h
      refine aw_msk [true, true, true, false] ?_
      exact hi _ rfl
    · rw [if_pos c16] at h
      refine aw_aload_n X dX10_passMinute_119 rfl ?_
      refine aw_aload_n X dX10_passMinute_120 rfl ?_
      refine aw_getr X dX10_passMinute_121 fl_RX10_34 h0 (gt_RX10_3 h0) ?_
      refine aw_getr X dX10_passMinute_124 fl_RX10_86 (it_RX10_3 h0) (gt_RX5_3 (it_RX10_3 h0)) ?_
      refine aw_iload_n X dX10_passMinute_127 rfl ?_
      obtain ⟨v17, ev17, h⟩ := bnd h
      refine aw_iald X dX10_passMinute_128 (it_RX5_3 (it_RX10_3 h0)) ev17 ?_
      obtain ⟨r18, er18, h⟩ := bnd h
      refine aw_callV X dX10_passMinute_129 cv_RX10_89 (ok_X0_has h1 er18 _ _ _ _ _) h1 rfl (Nat.le_trans (by decide) hfr) (by decide) rfl rfl (Nat.le_of_ble_eq_true rfl) ?_
      refine aw_if_eq (tgt := 167) X dX10_passMinute_132 (by decide) (fun c19 => ?_) (fun c19 => ?_)
      · rw [if_pos c19] at h
        refine aw_iinc (v := (x2 + 1)) (L' := [some (.ref (zr Z a0)), some (.ref (zr Z a1)), some (.int (x2 + 1)), none]) X dX10_passMinute_167 rfl rfl (by decide) rfl ?_
        refine aw_goto (tgt := 92) X dX10_passMinute_170 (by decide) ?_
        cases h
        refine aw_msk [true, true, true, false] ?_
        exact hi _ rfl
      · rw [if_neg c19] at h
        refine aw_aload_n X dX10_passMinute_135 rfl ?_
        refine aw_aload_n X dX10_passMinute_136 rfl ?_
        refine aw_aload_n X dX10_passMinute_137 rfl ?_
        refine aw_getr X dX10_passMinute_138 fl_RX10_34 h0 (gt_RX10_3 h0) ?_
        refine aw_getr X dX10_passMinute_141 fl_RX10_100 (it_RX10_3 h0) (gt_RX5_2 (it_RX10_3 h0)) ?_
        refine aw_iload_n X dX10_passMinute_144 rfl ?_
        obtain ⟨v20, ev20, h⟩ := bnd h
        refine aw_iald X dX10_passMinute_145 (it_RX5_2 (it_RX10_3 h0)) ev20 ?_
        refine aw_aload_n X dX10_passMinute_146 rfl ?_
        refine aw_getr X dX10_passMinute_147 fl_RX10_34 h0 (gt_RX10_3 h0) ?_
        refine aw_getr X dX10_passMinute_150 fl_RX10_86 (it_RX10_3 h0) (gt_RX5_3 (it_RX10_3 h0)) ?_
        refine aw_iload_n X dX10_passMinute_153 rfl ?_
        obtain ⟨v21, ev21, h⟩ := bnd h
        refine aw_iald X dX10_passMinute_154 (it_RX5_3 (it_RX10_3 h0)) ev21 ?_
        refine aw_aload_n X dX10_passMinute_155 rfl ?_
        refine aw_getr X dX10_passMinute_156 fl_RX10_34 h0 (gt_RX10_3 h0) ?_
        refine aw_getr X dX10_passMinute_159 fl_RX10_93 (it_RX10_3 h0) (gt_RX5_4 (it_RX10_3 h0)) ?_
        refine aw_iload_n X dX10_passMinute_162 rfl ?_
        obtain ⟨v22, ev22, h⟩ := bnd h
        refine aw_iald X dX10_passMinute_163 (it_RX5_4 (it_RX10_3 h0)) ev22 ?_
        obtain ⟨r23, er23, h⟩ := bnd h
        refine aw_callV X dX10_passMinute_164 cv_RX10_103 (ok_X10_cure h0 h1 er23 _ _ _ _ _) h0 rfl (Nat.le_trans (by decide) hfr) (by decide) rfl rfl (Nat.le_of_ble_eq_true rfl) ?_
        refine aw_iinc (v := (x2 + 1)) (L' := [some (.ref (zr Z a0)), some (.ref (zr Z a1)), some (.int (x2 + 1)), none]) X dX10_passMinute_167 rfl rfl (by decide) rfl ?_
        refine aw_goto (tgt := 92) X dX10_passMinute_170 (by decide) ?_
        cases h
        refine aw_msk [true, true, true, false] ?_
        exact hi _ rfl
set_option maxRecDepth 100000 in
set_option maxHeartbeats 4000000 in
theorem so_X10_passMinute_177 {fr : Nat} (hfr : 5 ≤ fr) (Z : AZ) (X : AX Z cX10_passMinute 4 RX10 (some .int) 0 fr) (a0 : Nat) (a1 : Nat) (h0 : IO 0 a0 9) (h1 : IO 0 a1 0) (x2 : Int32) (x3 : Int32) (s : Mem) (q : (Int32 × Int32 × Mem) ⊕ (Int32 × Mem)) (h : st_X10_passMinute_177 a0 a1 x2 x3 s = some q) (hi : ∀ y : Int32 × Int32 × Mem, q = .inl y → AW Z y.2.2 177 [some (.ref (zr Z a0)), some (.ref (zr Z a1)), some (.int y.1), some (.int y.2.1)] []) (he : ∀ b : Int32 × Mem, q = .inr b → AW Z b.2 221 [none, some (.ref (zr Z a1)), some (.int b.1), none] []) : AW Z s 177 [some (.ref (zr Z a0)), some (.ref (zr Z a1)), some (.int x2), some (.int x3)] [] := by
  unfold st_X10_passMinute_177 at h
  refine aw_iload_n X dX10_passMinute_177 rfl ?_
  refine aw_aload_n X dX10_passMinute_178 rfl ?_
  refine aw_geti X dX10_passMinute_179 fl_RX10_107 h1 (gt_RX0_1 h1) ?_
  refine aw_icmp_ge (tgt := 221) X dX10_passMinute_182 (by decide) (fun c25 => ?_) (fun c25 => ?_)
  · rw [if_pos c25] at h
    cases h
    refine aw_msk [false, true, true, false] ?_
    exact he _ rfl
  · rw [if_neg c25] at h
    refine aw_aload_n X dX10_passMinute_185 rfl ?_
    refine aw_getr X dX10_passMinute_186 fl_RX10_110 h1 (gt_RX0_3 h1) ?_
    refine aw_iload_n X dX10_passMinute_189 rfl ?_
    obtain ⟨v26, ev26, h⟩ := bnd h
    refine aw_iald X dX10_passMinute_190 (it_RX0_3 h1) ev26 ?_
    refine aw_if_le (tgt := 215) X dX10_passMinute_191 (by decide) (fun c27 => ?_) (fun c27 => ?_)
    · rw [if_pos c27] at h
      refine aw_iinc (v := (x3 + 1)) (L' := [some (.ref (zr Z a0)), some (.ref (zr Z a1)), some (.int x2), some (.int (x3 + 1))]) X dX10_passMinute_215 rfl rfl (by decide) rfl ?_
      refine aw_goto (tgt := 177) X dX10_passMinute_218 (by decide) ?_
      cases h
      refine aw_msk [true, true, true, true] ?_
      exact hi _ rfl
    · rw [if_neg c27] at h
      refine aw_aload_n X dX10_passMinute_194 rfl ?_
      refine aw_aload_n X dX10_passMinute_195 rfl ?_
      refine aw_iload_n X dX10_passMinute_196 rfl ?_
      obtain ⟨r28, er28, h⟩ := bnd h
      refine aw_callV X dX10_passMinute_197 cv_RX10_113 (ok_X10_stops h0 h1 er28 _ _ _ _ _) h0 rfl (Nat.le_trans (by decide) hfr) (by decide) rfl rfl (Nat.le_of_ble_eq_true rfl) ?_
      refine aw_if_ne (tgt := 215) X dX10_passMinute_200 (by decide) (fun c29 => ?_) (fun c29 => ?_)
      · rw [if_neg c29] at h
        refine aw_iinc (v := (x3 + 1)) (L' := [some (.ref (zr Z a0)), some (.ref (zr Z a1)), some (.int x2), some (.int (x3 + 1))]) X dX10_passMinute_215 rfl rfl (by decide) rfl ?_
        refine aw_goto (tgt := 177) X dX10_passMinute_218 (by decide) ?_
        cases h
        refine aw_msk [true, true, true, true] ?_
        exact hi _ rfl
      · rw [if_pos c29] at h
        refine aw_aload_n X dX10_passMinute_203 rfl ?_
        refine aw_aload_n X dX10_passMinute_204 rfl ?_
        refine aw_iload_n X dX10_passMinute_205 rfl ?_
        obtain ⟨r30, er30, h⟩ := bnd h
        refine aw_callV X dX10_passMinute_206 cv_RX10_117 (ok_X10_speak h0 h1 er30 _ _ _ _ _) h0 rfl (Nat.le_trans (by decide) hfr) (by decide) rfl rfl (Nat.le_of_ble_eq_true rfl) ?_
        refine aw_if_eq (tgt := 215) X dX10_passMinute_209 (by decide) (fun c31 => ?_) (fun c31 => ?_)
        · rw [if_pos c31] at h
          refine aw_iinc (v := (x3 + 1)) (L' := [some (.ref (zr Z a0)), some (.ref (zr Z a1)), some (.int x2), some (.int (x3 + 1))]) X dX10_passMinute_215 rfl rfl (by decide) rfl ?_
          refine aw_goto (tgt := 177) X dX10_passMinute_218 (by decide) ?_
          cases h
          refine aw_msk [true, true, true, true] ?_
          exact hi _ rfl
        · rw [if_neg c31] at h
          refine aw_iinc (v := (x2 + 1)) (L' := [some (.ref (zr Z a0)), some (.ref (zr Z a1)), some (.int (x2 + 1)), some (.int x3)]) X dX10_passMinute_212 rfl rfl (by decide) rfl ?_
          refine aw_iinc (v := (x3 + 1)) (L' := [some (.ref (zr Z a0)), some (.ref (zr Z a1)), some (.int (x2 + 1)), some (.int (x3 + 1))]) X dX10_passMinute_215 rfl rfl (by decide) rfl ?_
          refine aw_goto (tgt := 177) X dX10_passMinute_218 (by decide) ?_
          cases h
          refine aw_msk [true, true, true, true] ?_
          exact hi _ rfl
set_option maxRecDepth 100000 in
set_option maxHeartbeats 4000000 in
theorem jo_X10_passMinute_238 {fr : Nat} (hfr : 5 ≤ fr) (Z : AZ) (X : AX Z cX10_passMinute 4 RX10 (some .int) 0 fr) (a0 : Nat) (a1 : Nat) (h0 : IO 0 a0 9) (h1 : IO 0 a1 0) (x2 : Int32) (s : Mem) (r : Int32 × Mem) (hz : zres Z = (some (.int r.1), r.2)) (h : jn_X10_passMinute_238 a0 a1 x2 s = some r) : AW Z s 238 [none, some (.ref (zr Z a1)), some (.int x2), none] [] := by
  unfold jn_X10_passMinute_238 at h
  refine aw_aload_n X dX10_passMinute_238 rfl ?_
  refine aw_dup X dX10_passMinute_239 rfl ?_
  refine aw_geti X dX10_passMinute_240 fl_RX10_84 h1 (gt_RX0_10 h1) ?_
  refine aw_iconst (v := 1) X dX10_passMinute_243 (by decide) ?_
  refine aw_iadd X dX10_passMinute_244 ?_
  refine aw_put X dX10_passMinute_245 fp_RX10_84 h1 (gt_RX0_10 h1) rfl rfl ?_
  refine aw_iload_n X dX10_passMinute_248 rfl ?_
  cases h
  exact aw_iret X dX10_passMinute_249 rfl hz.symm
set_option maxRecDepth 100000 in
set_option maxHeartbeats 4000000 in
theorem w_X10_passMinute {fr : Nat} (hfr : 5 ≤ fr) (Z : AZ) (X : AX Z cX10_passMinute 4 RX10 (some .int) 0 fr) (a0 : Nat) (a1 : Nat) (h0 : IO 0 a0 9) (h1 : IO 0 a1 0) (s : Mem) (r : Int32 × Mem) (hz : zres Z = (some (.int r.1), r.2)) (h : f_X10_passMinute a0 a1 s = some r) : AW Z s 0 [some (.ref (zr Z a0)), some (.ref (zr Z a1)), none, none] [] := by
  unfold f_X10_passMinute at h
  refine aw_iconst (v := 0) X dX10_passMinute_0 (by decide) ?_
  refine aw_istore_n (L' := [some (.ref (zr Z a0)), some (.ref (zr Z a1)), some (.int 0), none]) X dX10_passMinute_1 (by decide) rfl ?_
  obtain ⟨r13, er13, h⟩ := bnd h
  refine aw_msk [true, true, true, false] ?_
  refine it_ok (P := fun y : Int32 × Mem => AW Z y.2 2 [some (.ref (zr Z a0)), some (.ref (zr Z a1)), some (.int y.1), none] []) (Q := fun b : Mem => AW Z b 90 [some (.ref (zr Z a0)), some (.ref (zr Z a1)), none, none] []) (fun y q hq hi he => so_X10_passMinute_2 hfr Z X a0 a1 h0 h1 y.1 y.2 q hq hi he) FUEL _ _ er13 ?_
  refine aw_iconst (v := 0) X dX10_passMinute_90 (by decide) ?_
  refine aw_istore_n (L' := [some (.ref (zr Z a0)), some (.ref (zr Z a1)), some (.int 0), none]) X dX10_passMinute_91 (by decide) rfl ?_
  obtain ⟨r24, er24, h⟩ := bnd h
  refine aw_msk [true, true, true, false] ?_
  refine it_ok (P := fun y : Int32 × Mem => AW Z y.2 92 [some (.ref (zr Z a0)), some (.ref (zr Z a1)), some (.int y.1), none] []) (Q := fun b : Mem => AW Z b 173 [some (.ref (zr Z a0)), some (.ref (zr Z a1)), none, none] []) (fun y q hq hi he => so_X10_passMinute_92 hfr Z X a0 a1 h0 h1 y.1 y.2 q hq hi he) FUEL _ _ er24 ?_
  refine aw_iconst (v := 0) X dX10_passMinute_173 (by decide) ?_
  refine aw_istore_n (L' := [some (.ref (zr Z a0)), some (.ref (zr Z a1)), some (.int 0), none]) X dX10_passMinute_174 (by decide) rfl ?_
  refine aw_iconst (v := 0) X dX10_passMinute_175 (by decide) ?_
  refine aw_istore_n (L' := [some (.ref (zr Z a0)), some (.ref (zr Z a1)), some (.int 0), some (.int 0)]) X dX10_passMinute_176 (by decide) rfl ?_
  obtain ⟨r32, er32, h⟩ := bnd h
  refine aw_msk [true, true, true, true] ?_
  refine it_ok (P := fun y : Int32 × Int32 × Mem => AW Z y.2.2 177 [some (.ref (zr Z a0)), some (.ref (zr Z a1)), some (.int y.1), some (.int y.2.1)] []) (Q := fun b : Int32 × Mem => AW Z b.2 221 [none, some (.ref (zr Z a1)), some (.int b.1), none] []) (fun y q hq hi he => so_X10_passMinute_177 hfr Z X a0 a1 h0 h1 y.1 y.2.1 y.2.2 q hq hi he) FUEL _ _ er32 ?_
  refine aw_aload_n X dX10_passMinute_221 rfl ?_
  obtain ⟨r33, er33, h⟩ := bnd h
  refine aw_callV X dX10_passMinute_222 cv_RX10_120 (ok_X0_havers h1 er33 _ _ _ _ _) h1 rfl (Nat.le_trans (by decide) hfr) (by decide) rfl rfl (Nat.le_of_ble_eq_true rfl) ?_
  refine aw_if_ne (tgt := 238) X dX10_passMinute_225 (by decide) (fun c34 => ?_) (fun c34 => ?_)
  · rw [if_neg c34] at h
    refine aw_msk [false, true, true, false] ?_
    exact jo_X10_passMinute_238 hfr Z X a0 a1 h0 h1 _ _ _ hz h
  · rw [if_pos c34] at h
    refine aw_aload_n X dX10_passMinute_228 rfl ?_
    refine aw_dup X dX10_passMinute_229 rfl ?_
    refine aw_geti X dX10_passMinute_230 fl_RX10_124 h1 (gt_RX0_9 h1) ?_
    refine aw_iconst (v := 1) X dX10_passMinute_233 (by decide) ?_
    refine aw_iadd X dX10_passMinute_234 ?_
    refine aw_put X dX10_passMinute_235 fp_RX10_124 h1 (gt_RX0_9 h1) rfl rfl ?_
    refine aw_msk [false, true, true, false] ?_
    exact jo_X10_passMinute_238 hfr Z X a0 a1 h0 h1 _ _ _ hz h
set_option maxRecDepth 100000 in
set_option maxHeartbeats 4000000 in
theorem ok_X10_passMinute {a0 : Nat} {a1 : Nat} (h0 : IO 0 a0 9) (h1 : IO 0 a1 0) {s : Mem} {r : Int32 × Mem} (h : f_X10_passMinute a0 a1 s = some r) (l : Launch) (D : va_G) (ρ : Nat → Nat) (cA : ClassId × ClassId × ClassId) (τ : AT) : AM l D ρ cA 0 τ yX10_passMinute cX10_passMinute 4 (some .int) 5 [.ref (ρ a0), .ref (ρ a1)] (some (.int r.1)) s r.2 := by
  refine AM_of (L := [some (.ref (ρ a0)), some (.ref (ρ a1)), none, none]) (by decide) (by simp [Value.category]) (Nat.le_of_ble_eq_true rfl) (fun j v q => ?_) (fun Z X hρ hz hτ => ?_)
  · exact aL_ok (n := 2) [.ref (ρ a0), .ref (ρ a1)] j v q
  · subst hρ
    subst hτ
    exact w_X10_passMinute (Nat.le_refl _) Z X a0 a1 h0 h1 s r hz h

theorem dX11_forget_0 : decode cX11_forget 0 = .ok (.aload_n 0, 1) := by decide +kernel
theorem dX11_forget_1 : decode cX11_forget 1 = .ok (.iconst 0, 1) := by decide +kernel
theorem dX11_forget_2 : decode cX11_forget 2 = .ok (.putfield 36, 3) := by decide +kernel
theorem dX11_forget_5 : decode cX11_forget 5 = .ok (.return_, 1) := by decide +kernel
set_option maxRecDepth 100000 in
set_option maxHeartbeats 4000000 in
theorem w_X11_forget {fr : Nat} (hfr : 0 ≤ fr) (Z : AZ) (X : AX Z cX11_forget 1 RX11 none 0 fr) (s : Mem) (r : Mem) (hz : zres Z = (none, r)) (h : f_X11_forget s = some r) : AW Z s 0 [some (.ref (zr Z 0))] [] := by
  unfold f_X11_forget at h
  refine aw_aload_n X dX11_forget_0 rfl ?_
  refine aw_iconst (v := 0) X dX11_forget_1 (by decide) ?_
  refine aw_put X dX11_forget_2 fp_RX11_36 iu_RX11 gu_RX11_5 rfl rfl ?_
  cases h
  exact aw_vret X dX11_forget_5 rfl hz.symm
set_option maxRecDepth 100000 in
set_option maxHeartbeats 4000000 in
theorem ok_X11_forget {s : Mem} {r : Mem} (h : f_X11_forget s = some r) (l : Launch) (D : va_G) (ρ : Nat → Nat) (cA : ClassId × ClassId × ClassId) (τ : AT) : AM l D ρ cA 0 τ yX11_forget cX11_forget 1 none 0 [.ref (ρ 0)] none s r := by
  refine AM_of (L := [some (.ref (ρ 0))]) (by decide) (by simp [Value.category]) (Nat.le_of_ble_eq_true rfl) (fun j v q => ?_) (fun Z X hρ hz hτ => ?_)
  · exact aL_ok (n := 0) [.ref (ρ 0)] j v q
  · subst hρ
    subst hτ
    exact w_X11_forget (Nat.le_refl _) Z X s r hz h

theorem dX11_state_0 : decode cX11_state 0 = .ok (.aload_n 0, 1) := by decide +kernel
theorem dX11_state_1 : decode cX11_state 1 = .ok (.getfield 10, 3) := by decide +kernel
theorem dX11_state_4 : decode cX11_state 4 = .ok (.getfield 57, 3) := by decide +kernel
theorem dX11_state_7 : decode cX11_state 7 = .ok (.getfield 60, 3) := by decide +kernel
theorem dX11_state_10 : decode cX11_state 10 = .ok (.istore_n 2, 1) := by decide +kernel
theorem dX11_state_11 : decode cX11_state 11 = .ok (.aload_n 0, 1) := by decide +kernel
theorem dX11_state_12 : decode cX11_state 12 = .ok (.getfield 10, 3) := by decide +kernel
theorem dX11_state_15 : decode cX11_state 15 = .ok (.getfield 57, 3) := by decide +kernel
theorem dX11_state_18 : decode cX11_state 18 = .ok (.iload_n 1, 1) := by decide +kernel
theorem dX11_state_19 : decode cX11_state 19 = .ok (.putfield 60, 3) := by decide +kernel
theorem dX11_state_22 : decode cX11_state 22 = .ok (.aload_n 0, 1) := by decide +kernel
theorem dX11_state_23 : decode cX11_state 23 = .ok (.invokevirtual 63, 3) := by decide +kernel
theorem dX11_state_26 : decode cX11_state 26 = .ok (.iload_n 2, 1) := by decide +kernel
theorem dX11_state_27 : decode cX11_state 27 = .ok (.ireturn, 1) := by decide +kernel
set_option maxRecDepth 100000 in
set_option maxHeartbeats 4000000 in
theorem w_X11_state {fr : Nat} (hfr : 1 ≤ fr) (Z : AZ) (X : AX Z cX11_state 3 RX11 (some .int) 0 fr) (x1 : Int32) (s : Mem) (r : Int32 × Mem) (hz : zres Z = (some (.int r.1), r.2)) (h : f_X11_state x1 s = some r) : AW Z s 0 [some (.ref (zr Z 0)), some (.int x1), none] [] := by
  unfold f_X11_state at h
  refine aw_aload_n X dX11_state_0 rfl ?_
  refine aw_getr X dX11_state_1 fl_RX11_10 iu_RX11 gu_RX11_0 ?_
  refine aw_getr X dX11_state_4 fl_RX11_57 iu_RX11_0 (gt_RX10_0 iu_RX11_0) ?_
  refine aw_geti X dX11_state_7 fl_RX11_60 (it_RX10_0 iu_RX11_0) (gt_RX0_11 (it_RX10_0 iu_RX11_0)) ?_
  refine aw_istore_n (L' := [some (.ref (zr Z 0)), some (.int x1), some (.int (s (1 + 1) 11))]) X dX11_state_10 (by decide) rfl ?_
  refine aw_aload_n X dX11_state_11 rfl ?_
  refine aw_getr X dX11_state_12 fl_RX11_10 iu_RX11 gu_RX11_0 ?_
  refine aw_getr X dX11_state_15 fl_RX11_57 iu_RX11_0 (gt_RX10_0 iu_RX11_0) ?_
  refine aw_iload_n X dX11_state_18 rfl ?_
  refine aw_put X dX11_state_19 fp_RX11_60 (it_RX10_0 iu_RX11_0) (gt_RX0_11 (it_RX10_0 iu_RX11_0)) rfl rfl ?_
  refine aw_aload_n X dX11_state_22 rfl ?_
  obtain ⟨r1, er1, h⟩ := bnd h
  refine aw_callV X dX11_state_23 cv_RX11_63 (ok_X11_forget er1 _ _ _ _ _) iu_RX11 rfl (Nat.le_trans (by decide) hfr) (by decide) rfl rfl (Nat.le_of_ble_eq_true rfl) ?_
  refine aw_iload_n X dX11_state_26 rfl ?_
  cases h
  exact aw_iret X dX11_state_27 rfl hz.symm
set_option maxRecDepth 100000 in
set_option maxHeartbeats 4000000 in
theorem ok_X11_state {x1 : Int32} {s : Mem} {r : Int32 × Mem} (h : f_X11_state x1 s = some r) (l : Launch) (D : va_G) (ρ : Nat → Nat) (cA : ClassId × ClassId × ClassId) (τ : AT) : AM l D ρ cA 0 τ yX11_state cX11_state 3 (some .int) 1 [.ref (ρ 0), .int x1] (some (.int r.1)) s r.2 := by
  refine AM_of (L := [some (.ref (ρ 0)), some (.int x1), none]) (by decide) (by simp [Value.category]) (Nat.le_of_ble_eq_true rfl) (fun j v q => ?_) (fun Z X hρ hz hτ => ?_)
  · exact aL_ok (n := 1) [.ref (ρ 0), .int x1] j v q
  · subst hρ
    subst hτ
    exact w_X11_state (Nat.le_refl _) Z X x1 s r hz h

theorem dX11_person_0 : decode cX11_person 0 = .ok (.iload_n 1, 1) := by decide +kernel
theorem dX11_person_1 : decode cX11_person 1 = .ok (.ifCond .lt 24, 3) := by decide +kernel
theorem dX11_person_4 : decode cX11_person 4 = .ok (.iload_n 1, 1) := by decide +kernel
theorem dX11_person_5 : decode cX11_person 5 = .ok (.bipush 9, 2) := by decide +kernel
theorem dX11_person_7 : decode cX11_person 7 = .ok (.if_icmp .gt 18, 3) := by decide +kernel
theorem dX11_person_10 : decode cX11_person 10 = .ok (.aload_n 0, 1) := by decide +kernel
theorem dX11_person_11 : decode cX11_person 11 = .ok (.getfield 10, 3) := by decide +kernel
theorem dX11_person_14 : decode cX11_person 14 = .ok (.getfield 57, 3) := by decide +kernel
theorem dX11_person_17 : decode cX11_person 17 = .ok (.getfield 66, 3) := by decide +kernel
theorem dX11_person_20 : decode cX11_person 20 = .ok (.bipush 14, 2) := by decide +kernel
theorem dX11_person_22 : decode cX11_person 22 = .ok (.if_icmp .lt 5, 3) := by decide +kernel
theorem dX11_person_25 : decode cX11_person 25 = .ok (.iconst (-1), 1) := by decide +kernel
theorem dX11_person_26 : decode cX11_person 26 = .ok (.ireturn, 1) := by decide +kernel
theorem dX11_person_27 : decode cX11_person 27 = .ok (.aload_n 0, 1) := by decide +kernel
theorem dX11_person_28 : decode cX11_person 28 = .ok (.invokevirtual 63, 3) := by decide +kernel
theorem dX11_person_31 : decode cX11_person 31 = .ok (.aload_n 0, 1) := by decide +kernel
theorem dX11_person_32 : decode cX11_person 32 = .ok (.getfield 10, 3) := by decide +kernel
theorem dX11_person_35 : decode cX11_person 35 = .ok (.getfield 57, 3) := by decide +kernel
theorem dX11_person_38 : decode cX11_person 38 = .ok (.iload_n 1, 1) := by decide +kernel
theorem dX11_person_39 : decode cX11_person 39 = .ok (.invokevirtual 69, 3) := by decide +kernel
theorem dX11_person_42 : decode cX11_person 42 = .ok (.ireturn, 1) := by decide +kernel
set_option maxRecDepth 100000 in
set_option maxHeartbeats 4000000 in
theorem w_X11_person {fr : Nat} (hfr : 1 ≤ fr) (Z : AZ) (X : AX Z cX11_person 2 RX11 (some .int) 0 fr) (x1 : Int32) (s : Mem) (r : Int32 × Mem) (hz : zres Z = (some (.int r.1), r.2)) (h : f_X11_person x1 s = some r) : AW Z s 0 [some (.ref (zr Z 0)), some (.int x1)] [] := by
  unfold f_X11_person at h
  refine aw_iload_n X dX11_person_0 rfl ?_
  refine aw_if_lt (tgt := 25) X dX11_person_1 (by decide) (fun c1 => ?_) (fun c1 => ?_)
  · rw [if_pos c1] at h
    refine aw_iconst (v := (-1)) X dX11_person_25 (by decide) ?_
    cases h
    exact aw_iret X dX11_person_26 rfl hz.symm
  · rw [if_neg c1] at h
    refine aw_iload_n X dX11_person_4 rfl ?_
    refine aw_bipush (v := 9) X dX11_person_5 (by decide) ?_
    refine aw_icmp_gt (tgt := 25) X dX11_person_7 (by decide) (fun c2 => ?_) (fun c2 => ?_)
    · rw [if_pos c2] at h
      refine aw_iconst (v := (-1)) X dX11_person_25 (by decide) ?_
      cases h
      exact aw_iret X dX11_person_26 rfl hz.symm
    · rw [if_neg c2] at h
      refine aw_aload_n X dX11_person_10 rfl ?_
      refine aw_getr X dX11_person_11 fl_RX11_10 iu_RX11 gu_RX11_0 ?_
      refine aw_getr X dX11_person_14 fl_RX11_57 iu_RX11_0 (gt_RX10_0 iu_RX11_0) ?_
      refine aw_geti X dX11_person_17 fl_RX11_66 (it_RX10_0 iu_RX11_0) (gt_RX0_1 (it_RX10_0 iu_RX11_0)) ?_
      refine aw_bipush (v := 14) X dX11_person_20 (by decide) ?_
      refine aw_icmp_lt (tgt := 27) X dX11_person_22 (by decide) (fun c3 => ?_) (fun c3 => ?_)
      · rw [if_pos c3] at h
        refine aw_aload_n X dX11_person_27 rfl ?_
        obtain ⟨r4, er4, h⟩ := bnd h
        refine aw_callV X dX11_person_28 cv_RX11_63 (ok_X11_forget er4 _ _ _ _ _) iu_RX11 rfl (Nat.le_trans (by decide) hfr) (by decide) rfl rfl (Nat.le_of_ble_eq_true rfl) ?_
        refine aw_aload_n X dX11_person_31 rfl ?_
        refine aw_getr X dX11_person_32 fl_RX11_10 iu_RX11 gu_RX11_0 ?_
        refine aw_getr X dX11_person_35 fl_RX11_57 iu_RX11_0 (gt_RX10_0 iu_RX11_0) ?_
        refine aw_iload_n X dX11_person_38 rfl ?_
        obtain ⟨r5, er5, h⟩ := bnd h
        refine aw_callV X dX11_person_39 cv_RX11_69 (ok_X0_welcome (it_RX10_0 iu_RX11_0) er5 _ _ _ _ _) (it_RX10_0 iu_RX11_0) rfl (Nat.le_trans (by decide) hfr) (by decide) rfl rfl (Nat.le_of_ble_eq_true rfl) ?_
        cases h
        exact aw_iret X dX11_person_42 rfl hz.symm
      · rw [if_neg c3] at h
        refine aw_iconst (v := (-1)) X dX11_person_25 (by decide) ?_
        cases h
        exact aw_iret X dX11_person_26 rfl hz.symm
set_option maxRecDepth 100000 in
set_option maxHeartbeats 4000000 in
theorem ok_X11_person {x1 : Int32} {s : Mem} {r : Int32 × Mem} (h : f_X11_person x1 s = some r) (l : Launch) (D : va_G) (ρ : Nat → Nat) (cA : ClassId × ClassId × ClassId) (τ : AT) : AM l D ρ cA 0 τ yX11_person cX11_person 2 (some .int) 1 [.ref (ρ 0), .int x1] (some (.int r.1)) s r.2 := by
  refine AM_of (L := [some (.ref (ρ 0)), some (.int x1)]) (by decide) (by simp [Value.category]) (Nat.le_of_ble_eq_true rfl) (fun j v q => ?_) (fun Z X hρ hz hτ => ?_)
  · exact aL_ok (n := 0) [.ref (ρ 0), .int x1] j v q
  · subst hρ
    subst hτ
    exact w_X11_person (Nat.le_refl _) Z X x1 s r hz h

theorem dX11_set_0 : decode cX11_set 0 = .ok (.aload_n 0, 1) := by decide +kernel
theorem dX11_set_1 : decode cX11_set 1 = .ok (.getfield 10, 3) := by decide +kernel
theorem dX11_set_4 : decode cX11_set 4 = .ok (.getfield 57, 3) := by decide +kernel
theorem dX11_set_7 : decode cX11_set 7 = .ok (.astore 4, 2) := by decide +kernel
theorem dX11_set_9 : decode cX11_set 9 = .ok (.aload 4, 2) := by decide +kernel
theorem dX11_set_11 : decode cX11_set 11 = .ok (.iload_n 2, 1) := by decide +kernel
theorem dX11_set_12 : decode cX11_set 12 = .ok (.invokevirtual 73, 3) := by decide +kernel
theorem dX11_set_15 : decode cX11_set 15 = .ok (.ifCond .eq 7, 3) := by decide +kernel
theorem dX11_set_18 : decode cX11_set 18 = .ok (.iload_n 3, 1) := by decide +kernel
theorem dX11_set_19 : decode cX11_set 19 = .ok (.ifCond .ge 5, 3) := by decide +kernel
theorem dX11_set_22 : decode cX11_set 22 = .ok (.iconst 0, 1) := by decide +kernel
theorem dX11_set_23 : decode cX11_set 23 = .ok (.ireturn, 1) := by decide +kernel
theorem dX11_set_24 : decode cX11_set 24 = .ok (.iload_n 1, 1) := by decide +kernel
theorem dX11_set_25 : decode cX11_set 25 = .ok (.ifCond .ne 20, 3) := by decide +kernel
theorem dX11_set_28 : decode cX11_set 28 = .ok (.iload_n 3, 1) := by decide +kernel
theorem dX11_set_29 : decode cX11_set 29 = .ok (.bipush 9, 2) := by decide +kernel
theorem dX11_set_31 : decode cX11_set 31 = .ok (.if_icmp .gt 14, 3) := by decide +kernel
theorem dX11_set_34 : decode cX11_set 34 = .ok (.aload 4, 2) := by decide +kernel
theorem dX11_set_36 : decode cX11_set 36 = .ok (.getfield 77, 3) := by decide +kernel
theorem dX11_set_39 : decode cX11_set 39 = .ok (.iload_n 2, 1) := by decide +kernel
theorem dX11_set_40 : decode cX11_set 40 = .ok (.iload_n 3, 1) := by decide +kernel
theorem dX11_set_41 : decode cX11_set 41 = .ok (.iastore, 1) := by decide +kernel
theorem dX11_set_42 : decode cX11_set 42 = .ok (.goto 26, 3) := by decide +kernel
theorem dX11_set_45 : decode cX11_set 45 = .ok (.iload_n 1, 1) := by decide +kernel
theorem dX11_set_46 : decode cX11_set 46 = .ok (.iconst 1, 1) := by decide +kernel
theorem dX11_set_47 : decode cX11_set 47 = .ok (.if_icmp .ne 19, 3) := by decide +kernel
theorem dX11_set_50 : decode cX11_set 50 = .ok (.iload_n 3, 1) := by decide +kernel
theorem dX11_set_51 : decode cX11_set 51 = .ok (.bipush 99, 2) := by decide +kernel
theorem dX11_set_53 : decode cX11_set 53 = .ok (.if_icmp .gt 13, 3) := by decide +kernel
theorem dX11_set_56 : decode cX11_set 56 = .ok (.aload 4, 2) := by decide +kernel
theorem dX11_set_58 : decode cX11_set 58 = .ok (.iload_n 2, 1) := by decide +kernel
theorem dX11_set_59 : decode cX11_set 59 = .ok (.iload_n 3, 1) := by decide +kernel
theorem dX11_set_60 : decode cX11_set 60 = .ok (.invokevirtual 81, 3) := by decide +kernel
theorem dX11_set_63 : decode cX11_set 63 = .ok (.goto 5, 3) := by decide +kernel
theorem dX11_set_66 : decode cX11_set 66 = .ok (.iconst 0, 1) := by decide +kernel
theorem dX11_set_67 : decode cX11_set 67 = .ok (.ireturn, 1) := by decide +kernel
theorem dX11_set_68 : decode cX11_set 68 = .ok (.aload_n 0, 1) := by decide +kernel
theorem dX11_set_69 : decode cX11_set 69 = .ok (.invokevirtual 63, 3) := by decide +kernel
theorem dX11_set_72 : decode cX11_set 72 = .ok (.iconst 1, 1) := by decide +kernel
theorem dX11_set_73 : decode cX11_set 73 = .ok (.ireturn, 1) := by decide +kernel
set_option maxRecDepth 100000 in
set_option maxHeartbeats 4000000 in
theorem jo_X11_set_68 {fr : Nat} (hfr : 2 ≤ fr) (Z : AZ) (X : AX Z cX11_set 5 RX11 (some .boolean) 0 fr) (s : Mem) (r : Int32 × Mem) (hz : zres Z = (some (.int r.1), r.2)) (h : jn_X11_set_68 s = some r) : AW Z s 68 [some (.ref (zr Z 0)), none, none, none, none] [] := by
  unfold jn_X11_set_68 at h
  refine aw_aload_n X dX11_set_68 rfl ?_
  obtain ⟨r8, er8, h⟩ := bnd h
  refine aw_callV X dX11_set_69 cv_RX11_63 (ok_X11_forget er8 _ _ _ _ _) iu_RX11 rfl (Nat.le_trans (by decide) hfr) (by decide) rfl rfl (Nat.le_of_ble_eq_true rfl) ?_
  refine aw_iconst (v := 1) X dX11_set_72 (by decide) ?_
  cases h
  exact aw_zret X dX11_set_73 rfl rfl hz.symm
set_option maxRecDepth 100000 in
set_option maxHeartbeats 4000000 in
theorem jo_X11_set_45 {fr : Nat} (hfr : 2 ≤ fr) (Z : AZ) (X : AX Z cX11_set 5 RX11 (some .boolean) 0 fr) (x1 : Int32) (x2 : Int32) (x3 : Int32) (s : Mem) (r : Int32 × Mem) (hz : zres Z = (some (.int r.1), r.2)) (h : jn_X11_set_45 x1 x2 x3 s = some r) : AW Z s 45 [some (.ref (zr Z 0)), some (.int x1), some (.int x2), some (.int x3), some (.ref (zr Z (1 + 1)))] [] := by
  unfold jn_X11_set_45 at h
  refine aw_iload_n X dX11_set_45 rfl ?_
  refine aw_iconst (v := 1) X dX11_set_46 (by decide) ?_
  refine aw_icmp_ne (tgt := 66) X dX11_set_47 (by decide) (fun c5 => ?_) (fun c5 => ?_)
  · rw [if_neg c5] at h
    refine aw_iconst (v := 0) X dX11_set_66 (by decide) ?_
    cases h
    exact aw_zret X dX11_set_67 rfl rfl hz.symm
  · rw [if_pos c5] at h
    refine aw_iload_n X dX11_set_50 rfl ?_
    refine aw_bipush (v := 99) X dX11_set_51 (by decide) ?_
    refine aw_icmp_gt (tgt := 66) X dX11_set_53 (by decide) (fun c6 => ?_) (fun c6 => ?_)
    · rw [if_pos c6] at h
      refine aw_iconst (v := 0) X dX11_set_66 (by decide) ?_
      cases h
      exact aw_zret X dX11_set_67 rfl rfl hz.symm
    · rw [if_neg c6] at h
      refine aw_aload X dX11_set_56 rfl ?_
      refine aw_iload_n X dX11_set_58 rfl ?_
      refine aw_iload_n X dX11_set_59 rfl ?_
      obtain ⟨r7, er7, h⟩ := bnd h
      refine aw_callV X dX11_set_60 cv_RX11_81 (ok_X0_hiccup (it_RX10_0 iu_RX11_0) er7 _ _ _ _ _) (it_RX10_0 iu_RX11_0) rfl (Nat.le_trans (by decide) hfr) (by decide) rfl rfl (Nat.le_of_ble_eq_true rfl) ?_
      refine aw_goto (tgt := 68) X dX11_set_63 (by decide) ?_
      refine aw_msk [true, false, false, false, false] ?_
      exact jo_X11_set_68 hfr Z X _ _ hz h
set_option maxRecDepth 100000 in
set_option maxHeartbeats 4000000 in
theorem w_X11_set {fr : Nat} (hfr : 2 ≤ fr) (Z : AZ) (X : AX Z cX11_set 5 RX11 (some .boolean) 0 fr) (x1 : Int32) (x2 : Int32) (x3 : Int32) (s : Mem) (r : Int32 × Mem) (hz : zres Z = (some (.int r.1), r.2)) (h : f_X11_set x1 x2 x3 s = some r) : AW Z s 0 [some (.ref (zr Z 0)), some (.int x1), some (.int x2), some (.int x3), none] [] := by
  unfold f_X11_set at h
  refine aw_aload_n X dX11_set_0 rfl ?_
  refine aw_getr X dX11_set_1 fl_RX11_10 iu_RX11 gu_RX11_0 ?_
  refine aw_getr X dX11_set_4 fl_RX11_57 iu_RX11_0 (gt_RX10_0 iu_RX11_0) ?_
  refine aw_astore (L' := [some (.ref (zr Z 0)), some (.int x1), some (.int x2), some (.int x3), some (.ref (zr Z (1 + 1)))]) X dX11_set_7 (by decide) rfl ?_
  refine aw_aload X dX11_set_9 rfl ?_
  refine aw_iload_n X dX11_set_11 rfl ?_
  obtain ⟨r1, er1, h⟩ := bnd h
  refine aw_callV X dX11_set_12 cv_RX11_73 (ok_X0_has (it_RX10_0 iu_RX11_0) er1 _ _ _ _ _) (it_RX10_0 iu_RX11_0) rfl (Nat.le_trans (by decide) hfr) (by decide) rfl rfl (Nat.le_of_ble_eq_true rfl) ?_
  refine aw_if_eq (tgt := 22) X dX11_set_15 (by decide) (fun c2 => ?_) (fun c2 => ?_)
  · rw [if_pos c2] at h
    refine aw_iconst (v := 0) X dX11_set_22 (by decide) ?_
    cases h
    exact aw_zret X dX11_set_23 rfl rfl hz.symm
  · rw [if_neg c2] at h
    refine aw_iload_n X dX11_set_18 rfl ?_
    refine aw_if_ge (tgt := 24) X dX11_set_19 (by decide) (fun c3 => ?_) (fun c3 => ?_)
    · rw [if_pos c3] at h
      refine aw_iload_n X dX11_set_24 rfl ?_
      refine aw_if_ne (tgt := 45) X dX11_set_25 (by decide) (fun c4 => ?_) (fun c4 => ?_)
      · rw [if_neg c4] at h
        refine aw_msk [true, true, true, true, true] ?_
        exact jo_X11_set_45 hfr Z X _ _ _ _ _ hz h
      · rw [if_pos c4] at h
        refine aw_iload_n X dX11_set_28 rfl ?_
        refine aw_bipush (v := 9) X dX11_set_29 (by decide) ?_
        refine aw_icmp_gt (tgt := 45) X dX11_set_31 (by decide) (fun c9 => ?_) (fun c9 => ?_)
        · rw [if_pos c9] at h
          refine aw_msk [true, true, true, true, true] ?_
          exact jo_X11_set_45 hfr Z X _ _ _ _ _ hz h
        · rw [if_neg c9] at h
          refine aw_aload X dX11_set_34 rfl ?_
          refine aw_getr X dX11_set_36 fl_RX11_77 (it_RX10_0 iu_RX11_0) (gt_RX0_2 (it_RX10_0 iu_RX11_0)) ?_
          refine aw_iload_n X dX11_set_39 rfl ?_
          refine aw_iload_n X dX11_set_40 rfl ?_
          obtain ⟨s10, es10, h⟩ := bnd h
          refine aw_iast X dX11_set_41 (it_RX0_2 (it_RX10_0 iu_RX11_0)) es10 ?_
          refine aw_goto (tgt := 68) X dX11_set_42 (by decide) ?_
          refine aw_msk [true, false, false, false, false] ?_
          exact jo_X11_set_68 hfr Z X _ _ hz h
    · rw [if_neg c3] at h
      refine aw_iconst (v := 0) X dX11_set_22 (by decide) ?_
      cases h
      exact aw_zret X dX11_set_23 rfl rfl hz.symm
set_option maxRecDepth 100000 in
set_option maxHeartbeats 4000000 in
theorem ok_X11_set {x1 x2 x3 : Int32} {s : Mem} {r : Int32 × Mem} (h : f_X11_set x1 x2 x3 s = some r) (l : Launch) (D : va_G) (ρ : Nat → Nat) (cA : ClassId × ClassId × ClassId) (τ : AT) : AM l D ρ cA 0 τ yX11_set cX11_set 5 (some .boolean) 2 [.ref (ρ 0), .int x1, .int x2, .int x3] (some (.int r.1)) s r.2 := by
  refine AM_of (L := [some (.ref (ρ 0)), some (.int x1), some (.int x2), some (.int x3), none]) (by decide) (by simp [Value.category]) (Nat.le_of_ble_eq_true rfl) (fun j v q => ?_) (fun Z X hρ hz hτ => ?_)
  · exact aL_ok (n := 1) [.ref (ρ 0), .int x1, .int x2, .int x3] j v q
  · subst hρ
    subst hτ
    exact w_X11_set (Nat.le_refl _) Z X x1 x2 x3 s r hz h
