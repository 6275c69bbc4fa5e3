/-! ===== walks: X10_nextName .. X11_call ===== -/
theorem dX10_nextName_0 : decode cX10_nextName 0 = .ok (.aload_n 0, 1) := by decide +kernel
theorem dX10_nextName_1 : decode cX10_nextName 1 = .ok (.getfield 40, 3) := by decide +kernel
theorem dX10_nextName_4 : decode cX10_nextName 4 = .ok (.iload_n 2, 1) := by decide +kernel
theorem dX10_nextName_5 : decode cX10_nextName 5 = .ok (.aload_n 1, 1) := by decide +kernel
theorem dX10_nextName_6 : decode cX10_nextName 6 = .ok (.getfield 103, 3) := by decide +kernel
theorem dX10_nextName_9 : decode cX10_nextName 9 = .ok (.aload_n 1, 1) := by decide +kernel
theorem dX10_nextName_10 : decode cX10_nextName 10 = .ok (.getfield 167, 3) := by decide +kernel
theorem dX10_nextName_13 : decode cX10_nextName 13 = .ok (.iload_n 2, 1) := by decide +kernel
theorem dX10_nextName_14 : decode cX10_nextName 14 = .ok (.iaload, 1) := by decide +kernel
theorem dX10_nextName_15 : decode cX10_nextName 15 = .ok (.invokevirtual 170, 3) := by decide +kernel
theorem dX10_nextName_18 : decode cX10_nextName 18 = .ok (.ireturn, 1) := by decide +kernel
def f_X10_nextName (a0 : Nat) (a1 : Nat) (x2 : Int32) (s : Mem) : Option (Int32 × Mem) :=
  (rd 14 (s (a1 + 4)) x2).bind fun v1 =>
  (f_X3_firstUntried (a0 + 26) x2 (s a1 1) v1 s).bind fun r2 =>
  some (r2.1, r2.2)
set_option maxRecDepth 100000 in
set_option maxHeartbeats 4000000 in
theorem w_X10_nextName {fr : Nat} (hfr : 3 ≤ fr) (Z : AZ) (X : AX Z cX10_nextName 3 RX10 (some .int) 0 fr) (a0 : Nat) (a1 : Nat) (h0 : IO 0 a0 9) (h1 : IO 0 a1 0) (x2 : Int32) (s : Mem) (r : Int32 × Mem) (hz : zres Z = (some (.int r.1), r.2)) (h : f_X10_nextName a0 a1 x2 s = some r) : AW Z s 0 [some (.ref (zr Z a0)), some (.ref (zr Z a1)), some (.int x2)] [] := by
  unfold f_X10_nextName at h
  refine aw_aload_n X dX10_nextName_0 rfl ?_
  refine aw_getr X dX10_nextName_1 fl_RX10_40 h0 (gt_RX10_4 h0) ?_
  refine aw_iload_n X dX10_nextName_4 rfl ?_
  refine aw_aload_n X dX10_nextName_5 rfl ?_
  refine aw_geti X dX10_nextName_6 fl_RX10_103 h1 (gt_RX0_1 h1) ?_
  refine aw_aload_n X dX10_nextName_9 rfl ?_
  refine aw_getr X dX10_nextName_10 fl_RX10_167 h1 (gt_RX0_5 h1) ?_
  refine aw_iload_n X dX10_nextName_13 rfl ?_
  obtain ⟨v1, ev1, h⟩ := bnd h
  refine aw_iald X dX10_nextName_14 (it_RX0_5 h1) ev1 ?_
  obtain ⟨r2, er2, h⟩ := bnd h
  refine aw_callV X dX10_nextName_15 cv_RX10_170 (ok_X3_firstUntried (it_RX10_4 h0) er2 _ _ _ _ _) (it_RX10_4 h0) rfl (Nat.le_trans (by decide) hfr) (by decide) rfl rfl (Nat.le_of_ble_eq_true rfl) ?_
  cases h
  exact aw_iret X dX10_nextName_18 rfl hz.symm
set_option maxRecDepth 100000 in
set_option maxHeartbeats 4000000 in
theorem ok_X10_nextName {a0 : Nat} {a1 : Nat} (h0 : IO 0 a0 9) (h1 : IO 0 a1 0) {x2 : Int32} {s : Mem} {r : Int32 × Mem} (h : f_X10_nextName a0 a1 x2 s = some r) (l : Launch) (D : va_G) (ρ : Nat → Nat) (cA : ClassId × ClassId × ClassId) (τ : AT) : AM l D ρ cA 0 τ yX10_nextName cX10_nextName 3 (some .int) 3 [.ref (ρ a0), .ref (ρ a1), .int x2] (some (.int r.1)) s r.2 := by
  refine AM_of (L := [some (.ref (ρ a0)), some (.ref (ρ a1)), some (.int x2)]) (by decide) (by simp [Value.category]) (Nat.le_of_ble_eq_true rfl) (fun j v q => ?_) (fun Z X hρ hz => ?_)
  · exact aL_ok (n := 0) [.ref (ρ a0), .ref (ρ a1), .int x2] j v q
  · subst hρ
    exact w_X10_nextName (Nat.le_refl _) Z X a0 a1 h0 h1 x2 s r hz h

theorem dX10_speak_0 : decode cX10_speak 0 = .ok (.aload_n 0, 1) := by decide +kernel
theorem dX10_speak_1 : decode cX10_speak 1 = .ok (.aload_n 1, 1) := by decide +kernel
theorem dX10_speak_2 : decode cX10_speak 2 = .ok (.iload_n 2, 1) := by decide +kernel
theorem dX10_speak_3 : decode cX10_speak 3 = .ok (.invokevirtual 174, 3) := by decide +kernel
theorem dX10_speak_6 : decode cX10_speak 6 = .ok (.istore_n 3, 1) := by decide +kernel
theorem dX10_speak_7 : decode cX10_speak 7 = .ok (.iload_n 3, 1) := by decide +kernel
theorem dX10_speak_8 : decode cX10_speak 8 = .ok (.iconst (-1), 1) := by decide +kernel
theorem dX10_speak_9 : decode cX10_speak 9 = .ok (.if_icmp .ne 32, 3) := by decide +kernel
theorem dX10_speak_12 : decode cX10_speak 12 = .ok (.aload_n 1, 1) := by decide +kernel
theorem dX10_speak_13 : decode cX10_speak 13 = .ok (.iload_n 2, 1) := by decide +kernel
theorem dX10_speak_14 : decode cX10_speak 14 = .ok (.aload_n 1, 1) := by decide +kernel
theorem dX10_speak_15 : decode cX10_speak 15 = .ok (.getfield 106, 3) := by decide +kernel
theorem dX10_speak_18 : decode cX10_speak 18 = .ok (.iload_n 2, 1) := by decide +kernel
theorem dX10_speak_19 : decode cX10_speak 19 = .ok (.iaload, 1) := by decide +kernel
theorem dX10_speak_20 : decode cX10_speak 20 = .ok (.iconst 1, 1) := by decide +kernel
theorem dX10_speak_21 : decode cX10_speak 21 = .ok (.isub, 1) := by decide +kernel
theorem dX10_speak_22 : decode cX10_speak 22 = .ok (.invokevirtual 130, 3) := by decide +kernel
theorem dX10_speak_25 : decode cX10_speak 25 = .ok (.aload_n 0, 1) := by decide +kernel
theorem dX10_speak_26 : decode cX10_speak 26 = .ok (.aload_n 1, 1) := by decide +kernel
theorem dX10_speak_27 : decode cX10_speak 27 = .ok (.bipush 6, 2) := by decide +kernel
theorem dX10_speak_29 : decode cX10_speak 29 = .ok (.iload_n 2, 1) := by decide +kernel
theorem dX10_speak_30 : decode cX10_speak 30 = .ok (.aload_n 1, 1) := by decide +kernel
theorem dX10_speak_31 : decode cX10_speak 31 = .ok (.getfield 106, 3) := by decide +kernel
theorem dX10_speak_34 : decode cX10_speak 34 = .ok (.iload_n 2, 1) := by decide +kernel
theorem dX10_speak_35 : decode cX10_speak 35 = .ok (.iaload, 1) := by decide +kernel
theorem dX10_speak_36 : decode cX10_speak 36 = .ok (.invokevirtual 137, 3) := by decide +kernel
theorem dX10_speak_39 : decode cX10_speak 39 = .ok (.iconst 0, 1) := by decide +kernel
theorem dX10_speak_40 : decode cX10_speak 40 = .ok (.ireturn, 1) := by decide +kernel
theorem dX10_speak_41 : decode cX10_speak 41 = .ok (.iload_n 3, 1) := by decide +kernel
theorem dX10_speak_42 : decode cX10_speak 42 = .ok (.aload_n 1, 1) := by decide +kernel
theorem dX10_speak_43 : decode cX10_speak 43 = .ok (.getfield 178, 3) := by decide +kernel
theorem dX10_speak_46 : decode cX10_speak 46 = .ok (.iload_n 2, 1) := by decide +kernel
theorem dX10_speak_47 : decode cX10_speak 47 = .ok (.iaload, 1) := by decide +kernel
theorem dX10_speak_48 : decode cX10_speak 48 = .ok (.if_icmp .eq 25, 3) := by decide +kernel
theorem dX10_speak_51 : decode cX10_speak 51 = .ok (.aload_n 1, 1) := by decide +kernel
theorem dX10_speak_52 : decode cX10_speak 52 = .ok (.getfield 167, 3) := by decide +kernel
theorem dX10_speak_55 : decode cX10_speak 55 = .ok (.iload_n 2, 1) := by decide +kernel
theorem dX10_speak_56 : decode cX10_speak 56 = .ok (.dup2, 1) := by decide +kernel
theorem dX10_speak_57 : decode cX10_speak 57 = .ok (.iaload, 1) := by decide +kernel
theorem dX10_speak_58 : decode cX10_speak 58 = .ok (.iconst 1, 1) := by decide +kernel
theorem dX10_speak_59 : decode cX10_speak 59 = .ok (.iload_n 3, 1) := by decide +kernel
theorem dX10_speak_60 : decode cX10_speak 60 = .ok (.ishl, 1) := by decide +kernel
theorem dX10_speak_61 : decode cX10_speak 61 = .ok (.ior, 1) := by decide +kernel
theorem dX10_speak_62 : decode cX10_speak 62 = .ok (.iastore, 1) := by decide +kernel
theorem dX10_speak_63 : decode cX10_speak 63 = .ok (.aload_n 0, 1) := by decide +kernel
theorem dX10_speak_64 : decode cX10_speak 64 = .ok (.aload_n 1, 1) := by decide +kernel
theorem dX10_speak_65 : decode cX10_speak 65 = .ok (.iconst 2, 1) := by decide +kernel
theorem dX10_speak_66 : decode cX10_speak 66 = .ok (.iload_n 2, 1) := by decide +kernel
theorem dX10_speak_67 : decode cX10_speak 67 = .ok (.iload_n 3, 1) := by decide +kernel
theorem dX10_speak_68 : decode cX10_speak 68 = .ok (.invokevirtual 137, 3) := by decide +kernel
theorem dX10_speak_71 : decode cX10_speak 71 = .ok (.iconst 0, 1) := by decide +kernel
theorem dX10_speak_72 : decode cX10_speak 72 = .ok (.ireturn, 1) := by decide +kernel
theorem dX10_speak_73 : decode cX10_speak 73 = .ok (.aload_n 1, 1) := by decide +kernel
theorem dX10_speak_74 : decode cX10_speak 74 = .ok (.getfield 181, 3) := by decide +kernel
theorem dX10_speak_77 : decode cX10_speak 77 = .ok (.iload_n 3, 1) := by decide +kernel
theorem dX10_speak_78 : decode cX10_speak 78 = .ok (.dup2, 1) := by decide +kernel
theorem dX10_speak_79 : decode cX10_speak 79 = .ok (.iaload, 1) := by decide +kernel
theorem dX10_speak_80 : decode cX10_speak 80 = .ok (.iconst 1, 1) := by decide +kernel
theorem dX10_speak_81 : decode cX10_speak 81 = .ok (.iadd, 1) := by decide +kernel
theorem dX10_speak_82 : decode cX10_speak 82 = .ok (.iastore, 1) := by decide +kernel
theorem dX10_speak_83 : decode cX10_speak 83 = .ok (.aload_n 0, 1) := by decide +kernel
theorem dX10_speak_84 : decode cX10_speak 84 = .ok (.getfield 23, 3) := by decide +kernel
theorem dX10_speak_87 : decode cX10_speak 87 = .ok (.iconst 2, 1) := by decide +kernel
theorem dX10_speak_88 : decode cX10_speak 88 = .ok (.aload_n 1, 1) := by decide +kernel
theorem dX10_speak_89 : decode cX10_speak 89 = .ok (.iload_n 2, 1) := by decide +kernel
theorem dX10_speak_90 : decode cX10_speak 90 = .ok (.invokevirtual 126, 3) := by decide +kernel
theorem dX10_speak_93 : decode cX10_speak 93 = .ok (.istore 4, 2) := by decide +kernel
theorem dX10_speak_95 : decode cX10_speak 95 = .ok (.aload_n 1, 1) := by decide +kernel
theorem dX10_speak_96 : decode cX10_speak 96 = .ok (.iload_n 3, 1) := by decide +kernel
theorem dX10_speak_97 : decode cX10_speak 97 = .ok (.aload_n 1, 1) := by decide +kernel
theorem dX10_speak_98 : decode cX10_speak 98 = .ok (.getfield 106, 3) := by decide +kernel
theorem dX10_speak_101 : decode cX10_speak 101 = .ok (.iload_n 3, 1) := by decide +kernel
theorem dX10_speak_102 : decode cX10_speak 102 = .ok (.iaload, 1) := by decide +kernel
theorem dX10_speak_103 : decode cX10_speak 103 = .ok (.iload 4, 2) := by decide +kernel
theorem dX10_speak_105 : decode cX10_speak 105 = .ok (.iadd, 1) := by decide +kernel
theorem dX10_speak_106 : decode cX10_speak 106 = .ok (.invokevirtual 130, 3) := by decide +kernel
theorem dX10_speak_109 : decode cX10_speak 109 = .ok (.iload 4, 2) := by decide +kernel
theorem dX10_speak_111 : decode cX10_speak 111 = .ok (.ifCond .le 9, 3) := by decide +kernel
theorem dX10_speak_114 : decode cX10_speak 114 = .ok (.aload_n 1, 1) := by decide +kernel
theorem dX10_speak_115 : decode cX10_speak 115 = .ok (.iload_n 3, 1) := by decide +kernel
theorem dX10_speak_116 : decode cX10_speak 116 = .ok (.iload_n 2, 1) := by decide +kernel
theorem dX10_speak_117 : decode cX10_speak 117 = .ok (.invokevirtual 134, 3) := by decide +kernel
theorem dX10_speak_120 : decode cX10_speak 120 = .ok (.aload_n 1, 1) := by decide +kernel
theorem dX10_speak_121 : decode cX10_speak 121 = .ok (.iload_n 2, 1) := by decide +kernel
theorem dX10_speak_122 : decode cX10_speak 122 = .ok (.iconst 0, 1) := by decide +kernel
theorem dX10_speak_123 : decode cX10_speak 123 = .ok (.invokevirtual 130, 3) := by decide +kernel
theorem dX10_speak_126 : decode cX10_speak 126 = .ok (.aload_n 0, 1) := by decide +kernel
theorem dX10_speak_127 : decode cX10_speak 127 = .ok (.aload_n 1, 1) := by decide +kernel
theorem dX10_speak_128 : decode cX10_speak 128 = .ok (.iconst 3, 1) := by decide +kernel
theorem dX10_speak_129 : decode cX10_speak 129 = .ok (.iload_n 2, 1) := by decide +kernel
theorem dX10_speak_130 : decode cX10_speak 130 = .ok (.iload_n 3, 1) := by decide +kernel
theorem dX10_speak_131 : decode cX10_speak 131 = .ok (.invokevirtual 137, 3) := by decide +kernel
theorem dX10_speak_134 : decode cX10_speak 134 = .ok (.iconst 1, 1) := by decide +kernel
theorem dX10_speak_135 : decode cX10_speak 135 = .ok (.ireturn, 1) := by decide +kernel
def jn_X10_speak_120 (a0 : Nat) (a1 : Nat) (x2 : Int32) (x3 : Int32) (s : Mem) : Option (Int32 × Mem) :=
  (f_X0_hiccup a1 x2 0 s).bind fun r11 =>
  (f_X10_write a0 a1 3 x2 x3 r11).bind fun r12 =>
  some (1, r12)
def f_X10_speak (a0 : Nat) (a1 : Nat) (x2 : Int32) (s : Mem) : Option (Int32 × Mem) :=
  (f_X10_nextName a0 a1 x2 s).bind fun r1 =>
  if r1.1 = (-1) then
  (rd 14 (r1.2 (a1 + 2)) x2).bind fun v17 =>
  (f_X0_hiccup a1 x2 (v17 - 1) r1.2).bind fun r18 =>
  (rd 14 (r18 (a1 + 2)) x2).bind fun v19 =>
  (f_X10_write a0 a1 6 x2 v19 r18).bind fun r20 =>
  some (0, r20)
  else
  (rd 14 (r1.2 (a1 + 3)) x2).bind fun v3 =>
  if r1.1 = v3 then
  (rd 14 (r1.2 (a1 + 6)) r1.1).bind fun v5 =>
  (wr 14 r1.2 (a1 + 6) r1.1 (v5 + 1)).bind fun s6 =>
  (f_X1_ask (a0 + 9) a1 2 x2 s6).bind fun r7 =>
  (rd 14 (r7.2 (a1 + 2)) r1.1).bind fun v8 =>
  (f_X0_hiccup a1 r1.1 (v8 + r7.1) r7.2).bind fun r9 =>
  if r7.1 ≤ 0 then
  jn_X10_speak_120 a0 a1 x2 r1.1 r9
  else
  (f_X0_blame a1 r1.1 x2 r9).bind fun r13 =>
  jn_X10_speak_120 a0 a1 x2 r1.1 r13
  else
  (rd 14 (r1.2 (a1 + 4)) x2).bind fun v14 =>
  (wr 14 r1.2 (a1 + 4) x2 (v14 ||| (1 <<< (r1.1 &&& 31)))).bind fun s15 =>
  (f_X10_write a0 a1 2 x2 r1.1 s15).bind fun r16 =>
  some (0, r16)
set_option maxRecDepth 100000 in
set_option maxHeartbeats 4000000 in
theorem jo_X10_speak_120 {fr : Nat} (hfr : 4 ≤ fr) (Z : AZ) (X : AX Z cX10_speak 5 RX10 (some .boolean) 0 fr) (a0 : Nat) (a1 : Nat) (h0 : IO 0 a0 9) (h1 : IO 0 a1 0) (x2 : Int32) (x3 : Int32) (s : Mem) (r : Int32 × Mem) (hz : zres Z = (some (.int r.1), r.2)) (h : jn_X10_speak_120 a0 a1 x2 x3 s = some r) : AW Z s 120 [some (.ref (zr Z a0)), some (.ref (zr Z a1)), some (.int x2), some (.int x3), none] [] := by
  unfold jn_X10_speak_120 at h
  refine aw_aload_n X dX10_speak_120 rfl ?_
  refine aw_iload_n X dX10_speak_121 rfl ?_
  refine aw_iconst (v := 0) X dX10_speak_122 (by decide) ?_
  obtain ⟨r11, er11, h⟩ := bnd h
  refine aw_callV X dX10_speak_123 cv_RX10_130 (ok_X0_hiccup h1 er11 _ _ _ _ _) h1 rfl (Nat.le_trans (by decide) hfr) (by decide) rfl rfl (Nat.le_of_ble_eq_true rfl) ?_
  refine aw_aload_n X dX10_speak_126 rfl ?_
  refine aw_aload_n X dX10_speak_127 rfl ?_
  refine aw_iconst (v := 3) X dX10_speak_128 (by decide) ?_
  refine aw_iload_n X dX10_speak_129 rfl ?_
  refine aw_iload_n X dX10_speak_130 rfl ?_
  obtain ⟨r12, er12, h⟩ := bnd h
  refine aw_callV X dX10_speak_131 cv_RX10_137 (ok_X10_write h0 h1 er12 _ _ _ _ _) h0 rfl (Nat.le_trans (by decide) hfr) (by decide) rfl rfl (Nat.le_of_ble_eq_true rfl) ?_
  refine aw_iconst (v := 1) X dX10_speak_134 (by decide) ?_
  cases h
  exact aw_zret X dX10_speak_135 rfl rfl hz.symm
set_option maxRecDepth 100000 in
set_option maxHeartbeats 4000000 in
theorem w_X10_speak {fr : Nat} (hfr : 4 ≤ fr) (Z : AZ) (X : AX Z cX10_speak 5 RX10 (some .boolean) 0 fr) (a0 : Nat) (a1 : Nat) (h0 : IO 0 a0 9) (h1 : IO 0 a1 0) (x2 : Int32) (s : Mem) (r : Int32 × Mem) (hz : zres Z = (some (.int r.1), r.2)) (h : f_X10_speak a0 a1 x2 s = some r) : AW Z s 0 [some (.ref (zr Z a0)), some (.ref (zr Z a1)), some (.int x2), none, none] [] := by
  unfold f_X10_speak at h
  refine aw_aload_n X dX10_speak_0 rfl ?_
  refine aw_aload_n X dX10_speak_1 rfl ?_
  refine aw_iload_n X dX10_speak_2 rfl ?_
  obtain ⟨r1, er1, h⟩ := bnd h
  refine aw_callV X dX10_speak_3 cv_RX10_174 (ok_X10_nextName h0 h1 er1 _ _ _ _ _) h0 rfl (Nat.le_trans (by decide) hfr) (by decide) rfl rfl (Nat.le_of_ble_eq_true rfl) ?_
  refine aw_istore_n (L' := [some (.ref (zr Z a0)), some (.ref (zr Z a1)), some (.int x2), some (.int r1.1), none]) X dX10_speak_6 (by decide) rfl ?_
  refine aw_iload_n X dX10_speak_7 rfl ?_
  refine aw_iconst (v := (-1)) X dX10_speak_8 (by decide) ?_
  refine aw_icmp_ne (tgt := 41) X dX10_speak_9 (by decide) (fun c2 => ?_) (fun c2 => ?_)
  · rw [if_neg c2] at h
    refine aw_iload_n X dX10_speak_41 rfl ?_
    refine aw_aload_n X dX10_speak_42 rfl ?_
    refine aw_getr X dX10_speak_43 fl_RX10_178 h1 (gt_RX0_4 h1) ?_
    refine aw_iload_n X dX10_speak_46 rfl ?_
    obtain ⟨v3, ev3, h⟩ := bnd h
    refine aw_iald X dX10_speak_47 (it_RX0_4 h1) ev3 ?_
    refine aw_icmp_eq (tgt := 73) X dX10_speak_48 (by decide) (fun c4 => ?_) (fun c4 => ?_)
    · rw [if_pos c4] at h
      refine aw_aload_n X dX10_speak_73 rfl ?_
      refine aw_getr X dX10_speak_74 fl_RX10_181 h1 (gt_RX0_7 h1) ?_
      refine aw_iload_n X dX10_speak_77 rfl ?_
      refine aw_dup2 X dX10_speak_78 rfl rfl ?_
      obtain ⟨v5, ev5, h⟩ := bnd h
      refine aw_iald X dX10_speak_79 (it_RX0_7 h1) ev5 ?_
      refine aw_iconst (v := 1) X dX10_speak_80 (by decide) ?_
      refine aw_iadd X dX10_speak_81 ?_
      obtain ⟨s6, es6, h⟩ := bnd h
      refine aw_iast X dX10_speak_82 (it_RX0_7 h1) es6 ?_
      refine aw_aload_n X dX10_speak_83 rfl ?_
      refine aw_getr X dX10_speak_84 fl_RX10_23 h0 (gt_RX10_1 h0) ?_
      refine aw_iconst (v := 2) X dX10_speak_87 (by decide) ?_
      refine aw_aload_n X dX10_speak_88 rfl ?_
      refine aw_iload_n X dX10_speak_89 rfl ?_
      obtain ⟨r7, er7, h⟩ := bnd h
      refine aw_callV X dX10_speak_90 cv_RX10_126 (ok_X1_ask (it_RX10_1 h0) h1 er7 _ _ _ _ _) (it_RX10_1 h0) rfl (Nat.le_trans (by decide) hfr) (by decide) rfl rfl (Nat.le_of_ble_eq_true rfl) ?_
      refine aw_istore (L' := [some (.ref (zr Z a0)), some (.ref (zr Z a1)), some (.int x2), some (.int r1.1), some (.int r7.1)]) X dX10_speak_93 (by decide) rfl ?_
      refine aw_aload_n X dX10_speak_95 rfl ?_
      refine aw_iload_n X dX10_speak_96 rfl ?_
      refine aw_aload_n X dX10_speak_97 rfl ?_
      refine aw_getr X dX10_speak_98 fl_RX10_106 h1 (gt_RX0_3 h1) ?_
      refine aw_iload_n X dX10_speak_101 rfl ?_
      obtain ⟨v8, ev8, h⟩ := bnd h
      refine aw_iald X dX10_speak_102 (it_RX0_3 h1) ev8 ?_
      refine aw_iload X dX10_speak_103 rfl ?_
      refine aw_iadd X dX10_speak_105 ?_
      obtain ⟨r9, er9, h⟩ := bnd h
      refine aw_callV X dX10_speak_106 cv_RX10_130 (ok_X0_hiccup h1 er9 _ _ _ _ _) h1 rfl (Nat.le_trans (by decide) hfr) (by decide) rfl rfl (Nat.le_of_ble_eq_true rfl) ?_
      refine aw_iload X dX10_speak_109 rfl ?_
      refine aw_if_le (tgt := 120) X dX10_speak_111 (by decide) (fun c10 => ?_) (fun c10 => ?_)
      · rw [if_pos c10] at h
        refine aw_msk [true, true, true, true, false] ?_
        exact jo_X10_speak_120 hfr Z X a0 a1 h0 h1 _ _ _ _ hz h
      · rw [if_neg c10] at h
        refine aw_aload_n X dX10_speak_114 rfl ?_
        refine aw_iload_n X dX10_speak_115 rfl ?_
        refine aw_iload_n X dX10_speak_116 rfl ?_
        obtain ⟨r13, er13, h⟩ := bnd h
        refine aw_callV X dX10_speak_117 cv_RX10_134 (ok_X0_blame h1 er13 _ _ _ _ _) h1 rfl (Nat.le_trans (by decide) hfr) (by decide) rfl rfl (Nat.le_of_ble_eq_true rfl) ?_
        refine aw_msk [true, true, true, true, false] ?_
        exact jo_X10_speak_120 hfr Z X a0 a1 h0 h1 _ _ _ _ hz h
    · rw [if_neg c4] at h
      refine aw_aload_n X dX10_speak_51 rfl ?_
      refine aw_getr X dX10_speak_52 fl_RX10_167 h1 (gt_RX0_5 h1) ?_
      refine aw_iload_n X dX10_speak_55 rfl ?_
      refine aw_dup2 X dX10_speak_56 rfl rfl ?_
      obtain ⟨v14, ev14, h⟩ := bnd h
      refine aw_iald X dX10_speak_57 (it_RX0_5 h1) ev14 ?_
      refine aw_iconst (v := 1) X dX10_speak_58 (by decide) ?_
      refine aw_iload_n X dX10_speak_59 rfl ?_
      refine aw_ishl X dX10_speak_60 ?_
      refine aw_ior X dX10_speak_61 ?_
      obtain ⟨s15, es15, h⟩ := bnd h
      refine aw_iast X dX10_speak_62 (it_RX0_5 h1) es15 ?_
      refine aw_aload_n X dX10_speak_63 rfl ?_
      refine aw_aload_n X dX10_speak_64 rfl ?_
      refine aw_iconst (v := 2) X dX10_speak_65 (by decide) ?_
      refine aw_iload_n X dX10_speak_66 rfl ?_
      refine aw_iload_n X dX10_speak_67 rfl ?_
      obtain ⟨r16, er16, h⟩ := bnd h
      refine aw_callV X dX10_speak_68 cv_RX10_137 (ok_X10_write h0 h1 er16 _ _ _ _ _) h0 rfl (Nat.le_trans (by decide) hfr) (by decide) rfl rfl (Nat.le_of_ble_eq_true rfl) ?_
      refine aw_iconst (v := 0) X dX10_speak_71 (by decide) ?_
      cases h
      exact aw_zret X dX10_speak_72 rfl rfl hz.symm
  · rw [if_pos c2] at h
    refine aw_aload_n X dX10_speak_12 rfl ?_
    refine aw_iload_n X dX10_speak_13 rfl ?_
    refine aw_aload_n X dX10_speak_14 rfl ?_
    refine aw_getr X dX10_speak_15 fl_RX10_106 h1 (gt_RX0_3 h1) ?_
    refine aw_iload_n X dX10_speak_18 rfl ?_
    obtain ⟨v17, ev17, h⟩ := bnd h
    refine aw_iald X dX10_speak_19 (it_RX0_3 h1) ev17 ?_
    refine aw_iconst (v := 1) X dX10_speak_20 (by decide) ?_
    refine aw_isub X dX10_speak_21 ?_
    obtain ⟨r18, er18, h⟩ := bnd h
    refine aw_callV X dX10_speak_22 cv_RX10_130 (ok_X0_hiccup h1 er18 _ _ _ _ _) h1 rfl (Nat.le_trans (by decide) hfr) (by decide) rfl rfl (Nat.le_of_ble_eq_true rfl) ?_
    refine aw_aload_n X dX10_speak_25 rfl ?_
    refine aw_aload_n X dX10_speak_26 rfl ?_
    refine aw_bipush (v := 6) X dX10_speak_27 (by decide) ?_
    refine aw_iload_n X dX10_speak_29 rfl ?_
    refine aw_aload_n X dX10_speak_30 rfl ?_
    refine aw_getr X dX10_speak_31 fl_RX10_106 h1 (gt_RX0_3 h1) ?_
    refine aw_iload_n X dX10_speak_34 rfl ?_
    obtain ⟨v19, ev19, h⟩ := bnd h
    refine aw_iald X dX10_speak_35 (it_RX0_3 h1) ev19 ?_
    obtain ⟨r20, er20, h⟩ := bnd h
    refine aw_callV X dX10_speak_36 cv_RX10_137 (ok_X10_write h0 h1 er20 _ _ _ _ _) h0 rfl (Nat.le_trans (by decide) hfr) (by decide) rfl rfl (Nat.le_of_ble_eq_true rfl) ?_
    refine aw_iconst (v := 0) X dX10_speak_39 (by decide) ?_
    cases h
    exact aw_zret X dX10_speak_40 rfl rfl hz.symm
set_option maxRecDepth 100000 in
set_option maxHeartbeats 4000000 in
theorem ok_X10_speak {a0 : Nat} {a1 : Nat} (h0 : IO 0 a0 9) (h1 : IO 0 a1 0) {x2 : Int32} {s : Mem} {r : Int32 × Mem} (h : f_X10_speak a0 a1 x2 s = some r) (l : Launch) (D : va_G) (ρ : Nat → Nat) (cA : ClassId × ClassId × ClassId) (τ : AT) : AM l D ρ cA 0 τ yX10_speak cX10_speak 5 (some .boolean) 4 [.ref (ρ a0), .ref (ρ a1), .int x2] (some (.int r.1)) s r.2 := by
  refine AM_of (L := [some (.ref (ρ a0)), some (.ref (ρ a1)), some (.int x2), none, none]) (by decide) (by simp [Value.category]) (Nat.le_of_ble_eq_true rfl) (fun j v q => ?_) (fun Z X hρ hz => ?_)
  · exact aL_ok (n := 2) [.ref (ρ a0), .ref (ρ a1), .int x2] j v q
  · subst hρ
    exact w_X10_speak (Nat.le_refl _) Z X a0 a1 h0 h1 x2 s r hz h

theorem dX10_passMinute_0 : decode cX10_passMinute 0 = .ok (.iconst 0, 1) := by decide +kernel
theorem dX10_passMinute_1 : decode cX10_passMinute 1 = .ok (.istore_n 2, 1) := by decide +kernel
theorem dX10_passMinute_2 : decode cX10_passMinute 2 = .ok (.iload_n 2, 1) := by decide +kernel
theorem dX10_passMinute_3 : decode cX10_passMinute 3 = .ok (.aload_n 0, 1) := by decide +kernel
theorem dX10_passMinute_4 : decode cX10_passMinute 4 = .ok (.getfield 30, 3) := by decide +kernel
theorem dX10_passMinute_7 : decode cX10_passMinute 7 = .ok (.getfield 77, 3) := by decide +kernel
theorem dX10_passMinute_10 : decode cX10_passMinute 10 = .ok (.if_icmp .ge 48, 3) := by decide +kernel
theorem dX10_passMinute_13 : decode cX10_passMinute 13 = .ok (.aload_n 0, 1) := by decide +kernel
theorem dX10_passMinute_14 : decode cX10_passMinute 14 = .ok (.getfield 30, 3) := by decide +kernel
theorem dX10_passMinute_17 : decode cX10_passMinute 17 = .ok (.getfield 81, 3) := by decide +kernel
theorem dX10_passMinute_20 : decode cX10_passMinute 20 = .ok (.iload_n 2, 1) := by decide +kernel
theorem dX10_passMinute_21 : decode cX10_passMinute 21 = .ok (.iaload, 1) := by decide +kernel
theorem dX10_passMinute_22 : decode cX10_passMinute 22 = .ok (.aload_n 1, 1) := by decide +kernel
theorem dX10_passMinute_23 : decode cX10_passMinute 23 = .ok (.getfield 84, 3) := by decide +kernel
theorem dX10_passMinute_26 : decode cX10_passMinute 26 = .ok (.if_icmp .ne 26, 3) := by decide +kernel
theorem dX10_passMinute_29 : decode cX10_passMinute 29 = .ok (.aload_n 0, 1) := by decide +kernel
theorem dX10_passMinute_30 : decode cX10_passMinute 30 = .ok (.aload_n 1, 1) := by decide +kernel
theorem dX10_passMinute_31 : decode cX10_passMinute 31 = .ok (.aload_n 0, 1) := by decide +kernel
theorem dX10_passMinute_32 : decode cX10_passMinute 32 = .ok (.getfield 30, 3) := by decide +kernel
theorem dX10_passMinute_35 : decode cX10_passMinute 35 = .ok (.getfield 86, 3) := by decide +kernel
theorem dX10_passMinute_38 : decode cX10_passMinute 38 = .ok (.iload_n 2, 1) := by decide +kernel
theorem dX10_passMinute_39 : decode cX10_passMinute 39 = .ok (.iaload, 1) := by decide +kernel
theorem dX10_passMinute_40 : decode cX10_passMinute 40 = .ok (.aload_n 0, 1) := by decide +kernel
theorem dX10_passMinute_41 : decode cX10_passMinute 41 = .ok (.getfield 30, 3) := by decide +kernel
theorem dX10_passMinute_44 : decode cX10_passMinute 44 = .ok (.getfield 89, 3) := by decide +kernel
theorem dX10_passMinute_47 : decode cX10_passMinute 47 = .ok (.iload_n 2, 1) := by decide +kernel
theorem dX10_passMinute_48 : decode cX10_passMinute 48 = .ok (.iaload, 1) := by decide +kernel
theorem dX10_passMinute_49 : decode cX10_passMinute 49 = .ok (.invokevirtual 92, 3) := by decide +kernel
theorem dX10_passMinute_52 : decode cX10_passMinute 52 = .ok (.iinc 2 1, 3) := by decide +kernel
theorem dX10_passMinute_55 : decode cX10_passMinute 55 = .ok (.goto (-53), 3) := by decide +kernel
theorem dX10_passMinute_58 : decode cX10_passMinute 58 = .ok (.iconst 0, 1) := by decide +kernel
theorem dX10_passMinute_59 : decode cX10_passMinute 59 = .ok (.istore_n 2, 1) := by decide +kernel
theorem dX10_passMinute_60 : decode cX10_passMinute 60 = .ok (.iload_n 2, 1) := by decide +kernel
theorem dX10_passMinute_61 : decode cX10_passMinute 61 = .ok (.aload_n 0, 1) := by decide +kernel
theorem dX10_passMinute_62 : decode cX10_passMinute 62 = .ok (.getfield 34, 3) := by decide +kernel
theorem dX10_passMinute_65 : decode cX10_passMinute 65 = .ok (.getfield 77, 3) := by decide +kernel
theorem dX10_passMinute_68 : decode cX10_passMinute 68 = .ok (.if_icmp .ge 57, 3) := by decide +kernel
theorem dX10_passMinute_71 : decode cX10_passMinute 71 = .ok (.aload_n 0, 1) := by decide +kernel
theorem dX10_passMinute_72 : decode cX10_passMinute 72 = .ok (.getfield 34, 3) := by decide +kernel
theorem dX10_passMinute_75 : decode cX10_passMinute 75 = .ok (.getfield 81, 3) := by decide +kernel
theorem dX10_passMinute_78 : decode cX10_passMinute 78 = .ok (.iload_n 2, 1) := by decide +kernel
theorem dX10_passMinute_79 : decode cX10_passMinute 79 = .ok (.iaload, 1) := by decide +kernel
theorem dX10_passMinute_80 : decode cX10_passMinute 80 = .ok (.aload_n 1, 1) := by decide +kernel
theorem dX10_passMinute_81 : decode cX10_passMinute 81 = .ok (.getfield 84, 3) := by decide +kernel
theorem dX10_passMinute_84 : decode cX10_passMinute 84 = .ok (.if_icmp .ne 35, 3) := by decide +kernel
theorem dX10_passMinute_87 : decode cX10_passMinute 87 = .ok (.aload_n 0, 1) := by decide +kernel
theorem dX10_passMinute_88 : decode cX10_passMinute 88 = .ok (.aload_n 1, 1) := by decide +kernel
theorem dX10_passMinute_89 : decode cX10_passMinute 89 = .ok (.aload_n 0, 1) := by decide +kernel
theorem dX10_passMinute_90 : decode cX10_passMinute 90 = .ok (.getfield 34, 3) := by decide +kernel
theorem dX10_passMinute_93 : decode cX10_passMinute 93 = .ok (.getfield 96, 3) := by decide +kernel
theorem dX10_passMinute_96 : decode cX10_passMinute 96 = .ok (.iload_n 2, 1) := by decide +kernel
theorem dX10_passMinute_97 : decode cX10_passMinute 97 = .ok (.iaload, 1) := by decide +kernel
theorem dX10_passMinute_98 : decode cX10_passMinute 98 = .ok (.aload_n 0, 1) := by decide +kernel
theorem dX10_passMinute_99 : decode cX10_passMinute 99 = .ok (.getfield 34, 3) := by decide +kernel
theorem dX10_passMinute_102 : decode cX10_passMinute 102 = .ok (.getfield 86, 3) := by decide +kernel
theorem dX10_passMinute_105 : decode cX10_passMinute 105 = .ok (.iload_n 2, 1) := by decide +kernel
theorem dX10_passMinute_106 : decode cX10_passMinute 106 = .ok (.iaload, 1) := by decide +kernel
theorem dX10_passMinute_107 : decode cX10_passMinute 107 = .ok (.aload_n 0, 1) := by decide +kernel
theorem dX10_passMinute_108 : decode cX10_passMinute 108 = .ok (.getfield 34, 3) := by decide +kernel
theorem dX10_passMinute_111 : decode cX10_passMinute 111 = .ok (.getfield 89, 3) := by decide +kernel
theorem dX10_passMinute_114 : decode cX10_passMinute 114 = .ok (.iload_n 2, 1) := by decide +kernel
theorem dX10_passMinute_115 : decode cX10_passMinute 115 = .ok (.iaload, 1) := by decide +kernel
theorem dX10_passMinute_116 : decode cX10_passMinute 116 = .ok (.invokevirtual 99, 3) := by decide +kernel
theorem dX10_passMinute_119 : decode cX10_passMinute 119 = .ok (.iinc 2 1, 3) := by decide +kernel
theorem dX10_passMinute_122 : decode cX10_passMinute 122 = .ok (.goto (-62), 3) := by decide +kernel
theorem dX10_passMinute_125 : decode cX10_passMinute 125 = .ok (.iconst 0, 1) := by decide +kernel
theorem dX10_passMinute_126 : decode cX10_passMinute 126 = .ok (.istore_n 2, 1) := by decide +kernel
theorem dX10_passMinute_127 : decode cX10_passMinute 127 = .ok (.iconst 0, 1) := by decide +kernel
theorem dX10_passMinute_128 : decode cX10_passMinute 128 = .ok (.istore_n 3, 1) := by decide +kernel
theorem dX10_passMinute_129 : decode cX10_passMinute 129 = .ok (.iload_n 3, 1) := by decide +kernel
theorem dX10_passMinute_130 : decode cX10_passMinute 130 = .ok (.aload_n 1, 1) := by decide +kernel
theorem dX10_passMinute_131 : decode cX10_passMinute 131 = .ok (.getfield 103, 3) := by decide +kernel
theorem dX10_passMinute_134 : decode cX10_passMinute 134 = .ok (.if_icmp .ge 39, 3) := by decide +kernel
theorem dX10_passMinute_137 : decode cX10_passMinute 137 = .ok (.aload_n 1, 1) := by decide +kernel
theorem dX10_passMinute_138 : decode cX10_passMinute 138 = .ok (.getfield 106, 3) := by decide +kernel
theorem dX10_passMinute_141 : decode cX10_passMinute 141 = .ok (.iload_n 3, 1) := by decide +kernel
theorem dX10_passMinute_142 : decode cX10_passMinute 142 = .ok (.iaload, 1) := by decide +kernel
theorem dX10_passMinute_143 : decode cX10_passMinute 143 = .ok (.ifCond .le 24, 3) := by decide +kernel
theorem dX10_passMinute_146 : decode cX10_passMinute 146 = .ok (.aload_n 0, 1) := by decide +kernel
theorem dX10_passMinute_147 : decode cX10_passMinute 147 = .ok (.aload_n 1, 1) := by decide +kernel
theorem dX10_passMinute_148 : decode cX10_passMinute 148 = .ok (.iload_n 3, 1) := by decide +kernel
theorem dX10_passMinute_149 : decode cX10_passMinute 149 = .ok (.invokevirtual 109, 3) := by decide +kernel
theorem dX10_passMinute_152 : decode cX10_passMinute 152 = .ok (.ifCond .ne 15, 3) := by decide +kernel
theorem dX10_passMinute_155 : decode cX10_passMinute 155 = .ok (.aload_n 0, 1) := by decide +kernel
theorem dX10_passMinute_156 : decode cX10_passMinute 156 = .ok (.aload_n 1, 1) := by decide +kernel
theorem dX10_passMinute_157 : decode cX10_passMinute 157 = .ok (.iload_n 3, 1) := by decide +kernel
theorem dX10_passMinute_158 : decode cX10_passMinute 158 = .ok (.invokevirtual 113, 3) := by decide +kernel
theorem dX10_passMinute_161 : decode cX10_passMinute 161 = .ok (.ifCond .eq 6, 3) := by decide +kernel
theorem dX10_passMinute_164 : decode cX10_passMinute 164 = .ok (.iinc 2 1, 3) := by decide +kernel
theorem dX10_passMinute_167 : decode cX10_passMinute 167 = .ok (.iinc 3 1, 3) := by decide +kernel
theorem dX10_passMinute_170 : decode cX10_passMinute 170 = .ok (.goto (-41), 3) := by decide +kernel
theorem dX10_passMinute_173 : decode cX10_passMinute 173 = .ok (.aload_n 1, 1) := by decide +kernel
theorem dX10_passMinute_174 : decode cX10_passMinute 174 = .ok (.invokevirtual 116, 3) := by decide +kernel
theorem dX10_passMinute_177 : decode cX10_passMinute 177 = .ok (.ifCond .ne 13, 3) := by decide +kernel
theorem dX10_passMinute_180 : decode cX10_passMinute 180 = .ok (.aload_n 1, 1) := by decide +kernel
theorem dX10_passMinute_181 : decode cX10_passMinute 181 = .ok (.dup, 1) := by decide +kernel
theorem dX10_passMinute_182 : decode cX10_passMinute 182 = .ok (.getfield 120, 3) := by decide +kernel
theorem dX10_passMinute_185 : decode cX10_passMinute 185 = .ok (.iconst 1, 1) := by decide +kernel
theorem dX10_passMinute_186 : decode cX10_passMinute 186 = .ok (.iadd, 1) := by decide +kernel
theorem dX10_passMinute_187 : decode cX10_passMinute 187 = .ok (.putfield 120, 3) := by decide +kernel
theorem dX10_passMinute_190 : decode cX10_passMinute 190 = .ok (.aload_n 1, 1) := by decide +kernel
theorem dX10_passMinute_191 : decode cX10_passMinute 191 = .ok (.dup, 1) := by decide +kernel
theorem dX10_passMinute_192 : decode cX10_passMinute 192 = .ok (.getfield 84, 3) := by decide +kernel
theorem dX10_passMinute_195 : decode cX10_passMinute 195 = .ok (.iconst 1, 1) := by decide +kernel
theorem dX10_passMinute_196 : decode cX10_passMinute 196 = .ok (.iadd, 1) := by decide +kernel
theorem dX10_passMinute_197 : decode cX10_passMinute 197 = .ok (.putfield 84, 3) := by decide +kernel
theorem dX10_passMinute_200 : decode cX10_passMinute 200 = .ok (.iload_n 2, 1) := by decide +kernel
theorem dX10_passMinute_201 : decode cX10_passMinute 201 = .ok (.ireturn, 1) := by decide +kernel
def st_X10_passMinute_2 (a0 : Nat) (a1 : Nat) (x2 : Int32) (s : Mem) : Option ((Int32 × Mem) ⊕ (Mem)) :=
  if (s (a0 + 16) 0) ≤ x2 then
  some (.inr (s))
  else
  (rd 16 (s ((a0 + 16) + 1)) x2).bind fun v2 =>
  if v2 = (s a1 10) then
  (rd 16 (s ((a0 + 16) + 3)) x2).bind fun v4 =>
  (rd 16 (s ((a0 + 16) + 4)) x2).bind fun v5 =>
  (f_X10_nameOne a0 a1 v4 v5 s).bind fun r6 =>
  some (.inl ((x2 + 1), r6))
  else
  some (.inl ((x2 + 1), s))
def st_X10_passMinute_60 (a0 : Nat) (a1 : Nat) (x2 : Int32) (s : Mem) : Option ((Int32 × Mem) ⊕ (Mem)) :=
  if (s (a0 + 21) 0) ≤ x2 then
  some (.inr (s))
  else
  (rd 16 (s ((a0 + 21) + 1)) x2).bind fun v9 =>
  if v9 = (s a1 10) then
  (rd 16 (s ((a0 + 21) + 2)) x2).bind fun v11 =>
  (rd 16 (s ((a0 + 21) + 3)) x2).bind fun v12 =>
  (rd 16 (s ((a0 + 21) + 4)) x2).bind fun v13 =>
  (f_X10_cure a0 a1 v11 v12 v13 s).bind fun r14 =>
  some (.inl ((x2 + 1), r14))
  else
  some (.inl ((x2 + 1), s))
def st_X10_passMinute_129 (a0 : Nat) (a1 : Nat) (x2 : Int32) (x3 : Int32) (s : Mem) : Option ((Int32 × Int32 × Mem) ⊕ (Int32 × Mem)) :=
  if (s a1 1) ≤ x3 then
  some (.inr (x2, s))
  else
  (rd 14 (s (a1 + 2)) x3).bind fun v17 =>
  if v17 ≤ 0 then
  some (.inl (x2, (x3 + 1), s))
  else
  (f_X10_stops a0 a1 x3 s).bind fun r19 =>
  if r19.1 = 0 then
  (f_X10_speak a0 a1 x3 r19.2).bind fun r21 =>
  if r21.1 = 0 then
  some (.inl (x2, (x3 + 1), r21.2))
  else
  some (.inl ((x2 + 1), (x3 + 1), r21.2))
  else
  some (.inl (x2, (x3 + 1), r19.2))
def jn_X10_passMinute_190 (a0 : Nat) (a1 : Nat) (x2 : Int32) (s : Mem) : Option (Int32 × Mem) :=
  some (x2, (mset s a1 10 ((s a1 10) + 1)))
def f_X10_passMinute (a0 : Nat) (a1 : Nat) (s : Mem) : Option (Int32 × Mem) :=
  (it FUEL (fun y => st_X10_passMinute_2 a0 a1 y.1 y.2) (0, s)).bind fun r7 =>
  (it FUEL (fun y => st_X10_passMinute_60 a0 a1 y.1 y.2) (0, r7)).bind fun r15 =>
  (it FUEL (fun y => st_X10_passMinute_129 a0 a1 y.1 y.2.1 y.2.2) (0, 0, r15)).bind fun r23 =>
  (f_X0_havers a1 r23.2).bind fun r24 =>
  if r24.1 = 0 then
  jn_X10_passMinute_190 a0 a1 r23.1 (mset r24.2 a1 9 ((r24.2 a1 9) + 1))
  else
  jn_X10_passMinute_190 a0 a1 r23.1 r24.2
set_option maxRecDepth 100000 in
set_option maxHeartbeats 4000000 in
theorem so_X10_passMinute_2 {fr : Nat} (hfr : 5 ≤ fr) (Z : AZ) (X : AX Z cX10_passMinute 4 RX10 (some .int) 0 fr) (a0 : Nat) (a1 : Nat) (h0 : IO 0 a0 9) (h1 : IO 0 a1 0) (x2 : Int32) (s : Mem) (q : (Int32 × Mem) ⊕ (Mem)) (h : st_X10_passMinute_2 a0 a1 x2 s = some q) (hi : ∀ y : Int32 × Mem, q = .inl y → AW Z y.2 2 [some (.ref (zr Z a0)), some (.ref (zr Z a1)), some (.int y.1), none] []) (he : ∀ b : Mem, q = .inr b → AW Z b 58 [some (.ref (zr Z a0)), some (.ref (zr Z a1)), none, none] []) : AW Z s 2 [some (.ref (zr Z a0)), some (.ref (zr Z a1)), some (.int x2), none] [] := by
  unfold st_X10_passMinute_2 at h
  refine aw_iload_n X dX10_passMinute_2 rfl ?_
  refine aw_aload_n X dX10_passMinute_3 rfl ?_
  refine aw_getr X dX10_passMinute_4 fl_RX10_30 h0 (gt_RX10_2 h0) ?_
  refine aw_geti X dX10_passMinute_7 fl_RX10_77 (it_RX10_2 h0) (gt_RX5_0 (it_RX10_2 h0)) ?_
  refine aw_icmp_ge (tgt := 58) X dX10_passMinute_10 (by decide) (fun c1 => ?_) (fun c1 => ?_)
  · rw [if_pos c1] at h
    cases h
    refine aw_msk [true, true, false, false] ?_
    exact he _ rfl
  · rw [if_neg c1] at h
    refine aw_aload_n X dX10_passMinute_13 rfl ?_
    refine aw_getr X dX10_passMinute_14 fl_RX10_30 h0 (gt_RX10_2 h0) ?_
    refine aw_getr X dX10_passMinute_17 fl_RX10_81 (it_RX10_2 h0) (gt_RX5_1 (it_RX10_2 h0)) ?_
    refine aw_iload_n X dX10_passMinute_20 rfl ?_
    obtain ⟨v2, ev2, h⟩ := bnd h
    refine aw_iald X dX10_passMinute_21 (it_RX5_1 (it_RX10_2 h0)) ev2 ?_
    refine aw_aload_n X dX10_passMinute_22 rfl ?_
    refine aw_geti X dX10_passMinute_23 fl_RX10_84 h1 (gt_RX0_10 h1) ?_
    refine aw_icmp_ne (tgt := 52) X dX10_passMinute_26 (by decide) (fun c3 => ?_) (fun c3 => ?_)
    · rw [if_neg c3] at h
      refine aw_iinc (v := (x2 + 1)) (L' := [some (.ref (zr Z a0)), some (.ref (zr Z a1)), some (.int (x2 + 1)), none]) X dX10_passMinute_52 rfl rfl (by decide) rfl ?_
      refine aw_goto (tgt := 2) X dX10_passMinute_55 (by decide) ?_
      cases h
      refine aw_msk [true, true, true, false] ?_
      exact hi _ rfl
    · rw [if_pos c3] at h
      refine aw_aload_n X dX10_passMinute_29 rfl ?_
      refine aw_aload_n X dX10_passMinute_30 rfl ?_
      refine aw_aload_n X dX10_passMinute_31 rfl ?_
      refine aw_getr X dX10_passMinute_32 fl_RX10_30 h0 (gt_RX10_2 h0) ?_
      refine aw_getr X dX10_passMinute_35 fl_RX10_86 (it_RX10_2 h0) (gt_RX5_3 (it_RX10_2 h0)) ?_
      refine aw_iload_n X dX10_passMinute_38 rfl ?_
      obtain ⟨v4, ev4, h⟩ := bnd h
      refine aw_iald X dX10_passMinute_39 (it_RX5_3 (it_RX10_2 h0)) ev4 ?_
      refine aw_aload_n X dX10_passMinute_40 rfl ?_
      refine aw_getr X dX10_passMinute_41 fl_RX10_30 h0 (gt_RX10_2 h0) ?_
      refine aw_getr X dX10_passMinute_44 fl_RX10_89 (it_RX10_2 h0) (gt_RX5_4 (it_RX10_2 h0)) ?_
      refine aw_iload_n X dX10_passMinute_47 rfl ?_
      obtain ⟨v5, ev5, h⟩ := bnd h
      refine aw_iald X dX10_passMinute_48 (it_RX5_4 (it_RX10_2 h0)) ev5 ?_
      obtain ⟨r6, er6, h⟩ := bnd h
      refine aw_callV X dX10_passMinute_49 cv_RX10_92 (ok_X10_nameOne h0 h1 er6 _ _ _ _ _) h0 rfl (Nat.le_trans (by decide) hfr) (by decide) rfl rfl (Nat.le_of_ble_eq_true rfl) ?_
      refine aw_iinc (v := (x2 + 1)) (L' := [some (.ref (zr Z a0)), some (.ref (zr Z a1)), some (.int (x2 + 1)), none]) X dX10_passMinute_52 rfl rfl (by decide) rfl ?_
      refine aw_goto (tgt := 2) X dX10_passMinute_55 (by decide) ?_
      cases h
      refine aw_msk [true, true, true, false] ?_
      exact hi _ rfl
set_option maxRecDepth 100000 in
set_option maxHeartbeats 4000000 in
theorem so_X10_passMinute_60 {fr : Nat} (hfr : 5 ≤ fr) (Z : AZ) (X : AX Z cX10_passMinute 4 RX10 (some .int) 0 fr) (a0 : Nat) (a1 : Nat) (h0 : IO 0 a0 9) (h1 : IO 0 a1 0) (x2 : Int32) (s : Mem) (q : (Int32 × Mem) ⊕ (Mem)) (h : st_X10_passMinute_60 a0 a1 x2 s = some q) (hi : ∀ y : Int32 × Mem, q = .inl y → AW Z y.2 60 [some (.ref (zr Z a0)), some (.ref (zr Z a1)), some (.int y.1), none] []) (he : ∀ b : Mem, q = .inr b → AW Z b 125 [some (.ref (zr Z a0)), some (.ref (zr Z a1)), none, none] []) : AW Z s 60 [some (.ref (zr Z a0)), some (.ref (zr Z a1)), some (.int x2), none] [] := by
  unfold st_X10_passMinute_60 at h
  refine aw_iload_n X dX10_passMinute_60 rfl ?_
  refine aw_aload_n X dX10_passMinute_61 rfl ?_
  refine aw_getr X dX10_passMinute_62 fl_RX10_34 h0 (gt_RX10_3 h0) ?_
  refine aw_geti X dX10_passMinute_65 fl_RX10_77 (it_RX10_3 h0) (gt_RX5_0 (it_RX10_3 h0)) ?_
  refine aw_icmp_ge (tgt := 125) X dX10_passMinute_68 (by decide) (fun c8 => ?_) (fun c8 => ?_)
  · rw [if_pos c8] at h
    cases h
    refine aw_msk [true, true, false, false] ?_
    exact he _ rfl
  · rw [if_neg c8] at h
    refine aw_aload_n X dX10_passMinute_71 rfl ?_
    refine aw_getr X dX10_passMinute_72 fl_RX10_34 h0 (gt_RX10_3 h0) ?_
    refine aw_getr X dX10_passMinute_75 fl_RX10_81 (it_RX10_3 h0) (gt_RX5_1 (it_RX10_3 h0)) ?_
    refine aw_iload_n X dX10_passMinute_78 rfl ?_
    obtain ⟨v9, ev9, h⟩ := bnd h
    refine aw_iald X dX10_passMinute_79 (it_RX5_1 (it_RX10_3 h0)) ev9 ?_
    refine aw_aload_n X dX10_passMinute_80 rfl ?_
    refine aw_geti X dX10_passMinute_81 fl_RX10_84 h1 (gt_RX0_10 h1) ?_
    refine aw_icmp_ne (tgt := 119) X dX10_passMinute_84 (by decide) (fun c10 => ?_) (fun c10 => ?_)
    · rw [if_neg c10] at h
      refine aw_iinc (v := (x2 + 1)) (L' := [some (.ref (zr Z a0)), some (.ref (zr Z a1)), some (.int (x2 + 1)), none]) X dX10_passMinute_119 rfl rfl (by decide) rfl ?_
      refine aw_goto (tgt := 60) X dX10_passMinute_122 (by decide) ?_
      cases h
      refine aw_msk [true, true, true, false] ?_
      exact hi _ rfl
    · rw [if_pos c10] at h
      refine aw_aload_n X dX10_passMinute_87 rfl ?_
      refine aw_aload_n X dX10_passMinute_88 rfl ?_
      refine aw_aload_n X dX10_passMinute_89 rfl ?_
      refine aw_getr X dX10_passMinute_90 fl_RX10_34 h0 (gt_RX10_3 h0) ?_
      refine aw_getr X dX10_passMinute_93 fl_RX10_96 (it_RX10_3 h0) (gt_RX5_2 (it_RX10_3 h0)) ?_
      refine aw_iload_n X dX10_passMinute_96 rfl ?_
      obtain ⟨v11, ev11, h⟩ := bnd h
      refine aw_iald X dX10_passMinute_97 (it_RX5_2 (it_RX10_3 h0)) ev11 ?_
      refine aw_aload_n X dX10_passMinute_98 rfl ?_
      refine aw_getr X dX10_passMinute_99 fl_RX10_34 h0 (gt_RX10_3 h0) ?_
      refine aw_getr X dX10_passMinute_102 fl_RX10_86 (it_RX10_3 h0) (gt_RX5_3 (it_RX10_3 h0)) ?_
      refine aw_iload_n X dX10_passMinute_105 rfl ?_
      obtain ⟨v12, ev12, h⟩ := bnd h
      refine aw_iald X dX10_passMinute_106 (it_RX5_3 (it_RX10_3 h0)) ev12 ?_
      refine aw_aload_n X dX10_passMinute_107 rfl ?_
      refine aw_getr X dX10_passMinute_108 fl_RX10_34 h0 (gt_RX10_3 h0) ?_
      refine aw_getr X dX10_passMinute_111 fl_RX10_89 (it_RX10_3 h0) (gt_RX5_4 (it_RX10_3 h0)) ?_
      refine aw_iload_n X dX10_passMinute_114 rfl ?_
      obtain ⟨v13, ev13, h⟩ := bnd h
      refine aw_iald X dX10_passMinute_115 (it_RX5_4 (it_RX10_3 h0)) ev13 ?_
      obtain ⟨r14, er14, h⟩ := bnd h
      refine aw_callV X dX10_passMinute_116 cv_RX10_99 (ok_X10_cure h0 h1 er14 _ _ _ _ _) h0 rfl (Nat.le_trans (by decide) hfr) (by decide) rfl rfl (Nat.le_of_ble_eq_true rfl) ?_
      refine aw_iinc (v := (x2 + 1)) (L' := [some (.ref (zr Z a0)), some (.ref (zr Z a1)), some (.int (x2 + 1)), none]) X dX10_passMinute_119 rfl rfl (by decide) rfl ?_
      refine aw_goto (tgt := 60) X dX10_passMinute_122 (by decide) ?_
      cases h
      refine aw_msk [true, true, true, false] ?_
      exact hi _ rfl
set_option maxRecDepth 100000 in
set_option maxHeartbeats 4000000 in
theorem so_X10_passMinute_129 {fr : Nat} (hfr : 5 ≤ fr) (Z : AZ) (X : AX Z cX10_passMinute 4 RX10 (some .int) 0 fr) (a0 : Nat) (a1 : Nat) (h0 : IO 0 a0 9) (h1 : IO 0 a1 0) (x2 : Int32) (x3 : Int32) (s : Mem) (q : (Int32 × Int32 × Mem) ⊕ (Int32 × Mem)) (h : st_X10_passMinute_129 a0 a1 x2 x3 s = some q) (hi : ∀ y : Int32 × Int32 × Mem, q = .inl y → AW Z y.2.2 129 [some (.ref (zr Z a0)), some (.ref (zr Z a1)), some (.int y.1), some (.int y.2.1)] []) (he : ∀ b : Int32 × Mem, q = .inr b → AW Z b.2 173 [none, some (.ref (zr Z a1)), some (.int b.1), none] []) : AW Z s 129 [some (.ref (zr Z a0)), some (.ref (zr Z a1)), some (.int x2), some (.int x3)] [] := by
  unfold st_X10_passMinute_129 at h
  refine aw_iload_n X dX10_passMinute_129 rfl ?_
  refine aw_aload_n X dX10_passMinute_130 rfl ?_
  refine aw_geti X dX10_passMinute_131 fl_RX10_103 h1 (gt_RX0_1 h1) ?_
  refine aw_icmp_ge (tgt := 173) X dX10_passMinute_134 (by decide) (fun c16 => ?_) (fun c16 => ?_)
  · rw [if_pos c16] at h
    cases h
    refine aw_msk [false, true, true, false] ?_
    exact he _ rfl
  · rw [if_neg c16] at h
    refine aw_aload_n X dX10_passMinute_137 rfl ?_
    refine aw_getr X dX10_passMinute_138 fl_RX10_106 h1 (gt_RX0_3 h1) ?_
    refine aw_iload_n X dX10_passMinute_141 rfl ?_
    obtain ⟨v17, ev17, h⟩ := bnd h
    refine aw_iald X dX10_passMinute_142 (it_RX0_3 h1) ev17 ?_
    refine aw_if_le (tgt := 167) X dX10_passMinute_143 (by decide) (fun c18 => ?_) (fun c18 => ?_)
    · rw [if_pos c18] at h
      refine aw_iinc (v := (x3 + 1)) (L' := [some (.ref (zr Z a0)), some (.ref (zr Z a1)), some (.int x2), some (.int (x3 + 1))]) X dX10_passMinute_167 rfl rfl (by decide) rfl ?_
      refine aw_goto (tgt := 129) X dX10_passMinute_170 (by decide) ?_
      cases h
      refine aw_msk [true, true, true, true] ?_
      exact hi _ rfl
    · rw [if_neg c18] at h
      refine aw_aload_n X dX10_passMinute_146 rfl ?_
      refine aw_aload_n X dX10_passMinute_147 rfl ?_
      refine aw_iload_n X dX10_passMinute_148 rfl ?_
      obtain ⟨r19, er19, h⟩ := bnd h
      refine aw_callV X dX10_passMinute_149 cv_RX10_109 (ok_X10_stops h0 h1 er19 _ _ _ _ _) h0 rfl (Nat.le_trans (by decide) hfr) (by decide) rfl rfl (Nat.le_of_ble_eq_true rfl) ?_
      refine aw_if_ne (tgt := 167) X dX10_passMinute_152 (by decide) (fun c20 => ?_) (fun c20 => ?_)
      · rw [if_neg c20] at h
        refine aw_iinc (v := (x3 + 1)) (L' := [some (.ref (zr Z a0)), some (.ref (zr Z a1)), some (.int x2), some (.int (x3 + 1))]) X dX10_passMinute_167 rfl rfl (by decide) rfl ?_
        refine aw_goto (tgt := 129) X dX10_passMinute_170 (by decide) ?_
        cases h
        refine aw_msk [true, true, true, true] ?_
        exact hi _ rfl
      · rw [if_pos c20] at h
        refine aw_aload_n X dX10_passMinute_155 rfl ?_
        refine aw_aload_n X dX10_passMinute_156 rfl ?_
        refine aw_iload_n X dX10_passMinute_157 rfl ?_
        obtain ⟨r21, er21, h⟩ := bnd h
        refine aw_callV X dX10_passMinute_158 cv_RX10_113 (ok_X10_speak h0 h1 er21 _ _ _ _ _) h0 rfl (Nat.le_trans (by decide) hfr) (by decide) rfl rfl (Nat.le_of_ble_eq_true rfl) ?_
        refine aw_if_eq (tgt := 167) X dX10_passMinute_161 (by decide) (fun c22 => ?_) (fun c22 => ?_)
        · rw [if_pos c22] at h
          refine aw_iinc (v := (x3 + 1)) (L' := [some (.ref (zr Z a0)), some (.ref (zr Z a1)), some (.int x2), some (.int (x3 + 1))]) X dX10_passMinute_167 rfl rfl (by decide) rfl ?_
          refine aw_goto (tgt := 129) X dX10_passMinute_170 (by decide) ?_
          cases h
          refine aw_msk [true, true, true, true] ?_
          exact hi _ rfl
        · rw [if_neg c22] at h
          refine aw_iinc (v := (x2 + 1)) (L' := [some (.ref (zr Z a0)), some (.ref (zr Z a1)), some (.int (x2 + 1)), some (.int x3)]) X dX10_passMinute_164 rfl rfl (by decide) rfl ?_
          refine aw_iinc (v := (x3 + 1)) (L' := [some (.ref (zr Z a0)), some (.ref (zr Z a1)), some (.int (x2 + 1)), some (.int (x3 + 1))]) X dX10_passMinute_167 rfl rfl (by decide) rfl ?_
          refine aw_goto (tgt := 129) X dX10_passMinute_170 (by decide) ?_
          cases h
          refine aw_msk [true, true, true, true] ?_
          exact hi _ rfl
set_option maxRecDepth 100000 in
set_option maxHeartbeats 4000000 in
theorem jo_X10_passMinute_190 {fr : Nat} (hfr : 5 ≤ fr) (Z : AZ) (X : AX Z cX10_passMinute 4 RX10 (some .int) 0 fr) (a0 : Nat) (a1 : Nat) (h0 : IO 0 a0 9) (h1 : IO 0 a1 0) (x2 : Int32) (s : Mem) (r : Int32 × Mem) (hz : zres Z = (some (.int r.1), r.2)) (h : jn_X10_passMinute_190 a0 a1 x2 s = some r) : AW Z s 190 [none, some (.ref (zr Z a1)), some (.int x2), none] [] := by
  unfold jn_X10_passMinute_190 at h
  refine aw_aload_n X dX10_passMinute_190 rfl ?_
  refine aw_dup X dX10_passMinute_191 rfl ?_
  refine aw_geti X dX10_passMinute_192 fl_RX10_84 h1 (gt_RX0_10 h1) ?_
  refine aw_iconst (v := 1) X dX10_passMinute_195 (by decide) ?_
  refine aw_iadd X dX10_passMinute_196 ?_
  refine aw_put X dX10_passMinute_197 fp_RX10_84 h1 (gt_RX0_10 h1) rfl rfl ?_
  refine aw_iload_n X dX10_passMinute_200 rfl ?_
  cases h
  exact aw_iret X dX10_passMinute_201 rfl hz.symm
set_option maxRecDepth 100000 in
set_option maxHeartbeats 4000000 in
theorem w_X10_passMinute {fr : Nat} (hfr : 5 ≤ fr) (Z : AZ) (X : AX Z cX10_passMinute 4 RX10 (some .int) 0 fr) (a0 : Nat) (a1 : Nat) (h0 : IO 0 a0 9) (h1 : IO 0 a1 0) (s : Mem) (r : Int32 × Mem) (hz : zres Z = (some (.int r.1), r.2)) (h : f_X10_passMinute a0 a1 s = some r) : AW Z s 0 [some (.ref (zr Z a0)), some (.ref (zr Z a1)), none, none] [] := by
  unfold f_X10_passMinute at h
  refine aw_iconst (v := 0) X dX10_passMinute_0 (by decide) ?_
  refine aw_istore_n (L' := [some (.ref (zr Z a0)), some (.ref (zr Z a1)), some (.int 0), none]) X dX10_passMinute_1 (by decide) rfl ?_
  obtain ⟨r7, er7, h⟩ := bnd h
  refine aw_msk [true, true, true, false] ?_
  refine it_ok (P := fun y : Int32 × Mem => AW Z y.2 2 [some (.ref (zr Z a0)), some (.ref (zr Z a1)), some (.int y.1), none] []) (Q := fun b : Mem => AW Z b 58 [some (.ref (zr Z a0)), some (.ref (zr Z a1)), none, none] []) (fun y q hq hi he => so_X10_passMinute_2 hfr Z X a0 a1 h0 h1 y.1 y.2 q hq hi he) FUEL _ _ er7 ?_
  refine aw_iconst (v := 0) X dX10_passMinute_58 (by decide) ?_
  refine aw_istore_n (L' := [some (.ref (zr Z a0)), some (.ref (zr Z a1)), some (.int 0), none]) X dX10_passMinute_59 (by decide) rfl ?_
  obtain ⟨r15, er15, h⟩ := bnd h
  refine aw_msk [true, true, true, false] ?_
  refine it_ok (P := fun y : Int32 × Mem => AW Z y.2 60 [some (.ref (zr Z a0)), some (.ref (zr Z a1)), some (.int y.1), none] []) (Q := fun b : Mem => AW Z b 125 [some (.ref (zr Z a0)), some (.ref (zr Z a1)), none, none] []) (fun y q hq hi he => so_X10_passMinute_60 hfr Z X a0 a1 h0 h1 y.1 y.2 q hq hi he) FUEL _ _ er15 ?_
  refine aw_iconst (v := 0) X dX10_passMinute_125 (by decide) ?_
  refine aw_istore_n (L' := [some (.ref (zr Z a0)), some (.ref (zr Z a1)), some (.int 0), none]) X dX10_passMinute_126 (by decide) rfl ?_
  refine aw_iconst (v := 0) X dX10_passMinute_127 (by decide) ?_
  refine aw_istore_n (L' := [some (.ref (zr Z a0)), some (.ref (zr Z a1)), some (.int 0), some (.int 0)]) X dX10_passMinute_128 (by decide) rfl ?_
  obtain ⟨r23, er23, h⟩ := bnd h
  refine aw_msk [true, true, true, true] ?_
  refine it_ok (P := fun y : Int32 × Int32 × Mem => AW Z y.2.2 129 [some (.ref (zr Z a0)), some (.ref (zr Z a1)), some (.int y.1), some (.int y.2.1)] []) (Q := fun b : Int32 × Mem => AW Z b.2 173 [none, some (.ref (zr Z a1)), some (.int b.1), none] []) (fun y q hq hi he => so_X10_passMinute_129 hfr Z X a0 a1 h0 h1 y.1 y.2.1 y.2.2 q hq hi he) FUEL _ _ er23 ?_
  refine aw_aload_n X dX10_passMinute_173 rfl ?_
  obtain ⟨r24, er24, h⟩ := bnd h
  refine aw_callV X dX10_passMinute_174 cv_RX10_116 (ok_X0_havers h1 er24 _ _ _ _ _) h1 rfl (Nat.le_trans (by decide) hfr) (by decide) rfl rfl (Nat.le_of_ble_eq_true rfl) ?_
  refine aw_if_ne (tgt := 190) X dX10_passMinute_177 (by decide) (fun c25 => ?_) (fun c25 => ?_)
  · rw [if_neg c25] at h
    refine aw_msk [false, true, true, false] ?_
    exact jo_X10_passMinute_190 hfr Z X a0 a1 h0 h1 _ _ _ hz h
  · rw [if_pos c25] at h
    refine aw_aload_n X dX10_passMinute_180 rfl ?_
    refine aw_dup X dX10_passMinute_181 rfl ?_
    refine aw_geti X dX10_passMinute_182 fl_RX10_120 h1 (gt_RX0_9 h1) ?_
    refine aw_iconst (v := 1) X dX10_passMinute_185 (by decide) ?_
    refine aw_iadd X dX10_passMinute_186 ?_
    refine aw_put X dX10_passMinute_187 fp_RX10_120 h1 (gt_RX0_9 h1) rfl rfl ?_
    refine aw_msk [false, true, true, false] ?_
    exact jo_X10_passMinute_190 hfr Z X a0 a1 h0 h1 _ _ _ hz h
set_option maxRecDepth 100000 in
set_option maxHeartbeats 4000000 in
theorem ok_X10_passMinute {a0 : Nat} {a1 : Nat} (h0 : IO 0 a0 9) (h1 : IO 0 a1 0) {s : Mem} {r : Int32 × Mem} (h : f_X10_passMinute a0 a1 s = some r) (l : Launch) (D : va_G) (ρ : Nat → Nat) (cA : ClassId × ClassId × ClassId) (τ : AT) : AM l D ρ cA 0 τ yX10_passMinute cX10_passMinute 4 (some .int) 5 [.ref (ρ a0), .ref (ρ a1)] (some (.int r.1)) s r.2 := by
  refine AM_of (L := [some (.ref (ρ a0)), some (.ref (ρ a1)), none, none]) (by decide) (by simp [Value.category]) (Nat.le_of_ble_eq_true rfl) (fun j v q => ?_) (fun Z X hρ hz => ?_)
  · exact aL_ok (n := 2) [.ref (ρ a0), .ref (ρ a1)] j v q
  · subst hρ
    exact w_X10_passMinute (Nat.le_refl _) Z X a0 a1 h0 h1 s r hz h

theorem dX11_forget_0 : decode cX11_forget 0 = .ok (.aload_n 0, 1) := by decide +kernel
theorem dX11_forget_1 : decode cX11_forget 1 = .ok (.iconst 0, 1) := by decide +kernel
theorem dX11_forget_2 : decode cX11_forget 2 = .ok (.putfield 36, 3) := by decide +kernel
theorem dX11_forget_5 : decode cX11_forget 5 = .ok (.return_, 1) := by decide +kernel
def f_X11_forget (s : Mem) : Option (Mem) :=
  some (mset s 0 5 0)
set_option maxRecDepth 100000 in
set_option maxHeartbeats 4000000 in
theorem w_X11_forget {fr : Nat} (hfr : 0 ≤ fr) (Z : AZ) (X : AX Z cX11_forget 1 RX11 none 0 fr) (s : Mem) (r : Mem) (hz : zres Z = (none, r)) (h : f_X11_forget s = some r) : AW Z s 0 [some (.ref (zr Z 0))] [] := by
  unfold f_X11_forget at h
  refine aw_aload_n X dX11_forget_0 rfl ?_
  refine aw_iconst (v := 0) X dX11_forget_1 (by decide) ?_
  refine aw_put X dX11_forget_2 fp_RX11_36 iu_RX11 gu_RX11_5 rfl rfl ?_
  cases h
  exact aw_vret X dX11_forget_5 rfl hz.symm
set_option maxRecDepth 100000 in
set_option maxHeartbeats 4000000 in
theorem ok_X11_forget {s : Mem} {r : Mem} (h : f_X11_forget s = some r) (l : Launch) (D : va_G) (ρ : Nat → Nat) (cA : ClassId × ClassId × ClassId) (τ : AT) : AM l D ρ cA 0 τ yX11_forget cX11_forget 1 none 0 [.ref (ρ 0)] none s r := by
  refine AM_of (L := [some (.ref (ρ 0))]) (by decide) (by simp [Value.category]) (Nat.le_of_ble_eq_true rfl) (fun j v q => ?_) (fun Z X hρ hz => ?_)
  · exact aL_ok (n := 0) [.ref (ρ 0)] j v q
  · subst hρ
    exact w_X11_forget (Nat.le_refl _) Z X s r hz h

theorem dX11_state_0 : decode cX11_state 0 = .ok (.aload_n 0, 1) := by decide +kernel
theorem dX11_state_1 : decode cX11_state 1 = .ok (.getfield 10, 3) := by decide +kernel
theorem dX11_state_4 : decode cX11_state 4 = .ok (.getfield 57, 3) := by decide +kernel
theorem dX11_state_7 : decode cX11_state 7 = .ok (.getfield 60, 3) := by decide +kernel
theorem dX11_state_10 : decode cX11_state 10 = .ok (.istore_n 2, 1) := by decide +kernel
theorem dX11_state_11 : decode cX11_state 11 = .ok (.aload_n 0, 1) := by decide +kernel
theorem dX11_state_12 : decode cX11_state 12 = .ok (.getfield 10, 3) := by decide +kernel
theorem dX11_state_15 : decode cX11_state 15 = .ok (.getfield 57, 3) := by decide +kernel
theorem dX11_state_18 : decode cX11_state 18 = .ok (.iload_n 1, 1) := by decide +kernel
theorem dX11_state_19 : decode cX11_state 19 = .ok (.putfield 60, 3) := by decide +kernel
theorem dX11_state_22 : decode cX11_state 22 = .ok (.aload_n 0, 1) := by decide +kernel
theorem dX11_state_23 : decode cX11_state 23 = .ok (.invokevirtual 63, 3) := by decide +kernel
theorem dX11_state_26 : decode cX11_state 26 = .ok (.iload_n 2, 1) := by decide +kernel
theorem dX11_state_27 : decode cX11_state 27 = .ok (.ireturn, 1) := by decide +kernel
def f_X11_state (x1 : Int32) (s : Mem) : Option (Int32 × Mem) :=
  (f_X11_forget (mset s (1 + 1) 11 x1)).bind fun r1 =>
  some ((s (1 + 1) 11), r1)
set_option maxRecDepth 100000 in
set_option maxHeartbeats 4000000 in
theorem w_X11_state {fr : Nat} (hfr : 1 ≤ fr) (Z : AZ) (X : AX Z cX11_state 3 RX11 (some .int) 0 fr) (x1 : Int32) (s : Mem) (r : Int32 × Mem) (hz : zres Z = (some (.int r.1), r.2)) (h : f_X11_state x1 s = some r) : AW Z s 0 [some (.ref (zr Z 0)), some (.int x1), none] [] := by
  unfold f_X11_state at h
  refine aw_aload_n X dX11_state_0 rfl ?_
  refine aw_getr X dX11_state_1 fl_RX11_10 iu_RX11 gu_RX11_0 ?_
  refine aw_getr X dX11_state_4 fl_RX11_57 iu_RX11_0 (gt_RX10_0 iu_RX11_0) ?_
  refine aw_geti X dX11_state_7 fl_RX11_60 (it_RX10_0 iu_RX11_0) (gt_RX0_11 (it_RX10_0 iu_RX11_0)) ?_
  refine aw_istore_n (L' := [some (.ref (zr Z 0)), some (.int x1), some (.int (s (1 + 1) 11))]) X dX11_state_10 (by decide) rfl ?_
  refine aw_aload_n X dX11_state_11 rfl ?_
  refine aw_getr X dX11_state_12 fl_RX11_10 iu_RX11 gu_RX11_0 ?_
  refine aw_getr X dX11_state_15 fl_RX11_57 iu_RX11_0 (gt_RX10_0 iu_RX11_0) ?_
  refine aw_iload_n X dX11_state_18 rfl ?_
  refine aw_put X dX11_state_19 fp_RX11_60 (it_RX10_0 iu_RX11_0) (gt_RX0_11 (it_RX10_0 iu_RX11_0)) rfl rfl ?_
  refine aw_aload_n X dX11_state_22 rfl ?_
  obtain ⟨r1, er1, h⟩ := bnd h
  refine aw_callV X dX11_state_23 cv_RX11_63 (ok_X11_forget er1 _ _ _ _ _) iu_RX11 rfl (Nat.le_trans (by decide) hfr) (by decide) rfl rfl (Nat.le_of_ble_eq_true rfl) ?_
  refine aw_iload_n X dX11_state_26 rfl ?_
  cases h
  exact aw_iret X dX11_state_27 rfl hz.symm
set_option maxRecDepth 100000 in
set_option maxHeartbeats 4000000 in
theorem ok_X11_state {x1 : Int32} {s : Mem} {r : Int32 × Mem} (h : f_X11_state x1 s = some r) (l : Launch) (D : va_G) (ρ : Nat → Nat) (cA : ClassId × ClassId × ClassId) (τ : AT) : AM l D ρ cA 0 τ yX11_state cX11_state 3 (some .int) 1 [.ref (ρ 0), .int x1] (some (.int r.1)) s r.2 := by
  refine AM_of (L := [some (.ref (ρ 0)), some (.int x1), none]) (by decide) (by simp [Value.category]) (Nat.le_of_ble_eq_true rfl) (fun j v q => ?_) (fun Z X hρ hz => ?_)
  · exact aL_ok (n := 1) [.ref (ρ 0), .int x1] j v q
  · subst hρ
    exact w_X11_state (Nat.le_refl _) Z X x1 s r hz h

theorem dX11_person_0 : decode cX11_person 0 = .ok (.iload_n 1, 1) := by decide +kernel
theorem dX11_person_1 : decode cX11_person 1 = .ok (.ifCond .lt 24, 3) := by decide +kernel
theorem dX11_person_4 : decode cX11_person 4 = .ok (.iload_n 1, 1) := by decide +kernel
theorem dX11_person_5 : decode cX11_person 5 = .ok (.bipush 9, 2) := by decide +kernel
theorem dX11_person_7 : decode cX11_person 7 = .ok (.if_icmp .gt 18, 3) := by decide +kernel
theorem dX11_person_10 : decode cX11_person 10 = .ok (.aload_n 0, 1) := by decide +kernel
theorem dX11_person_11 : decode cX11_person 11 = .ok (.getfield 10, 3) := by decide +kernel
theorem dX11_person_14 : decode cX11_person 14 = .ok (.getfield 57, 3) := by decide +kernel
theorem dX11_person_17 : decode cX11_person 17 = .ok (.getfield 66, 3) := by decide +kernel
theorem dX11_person_20 : decode cX11_person 20 = .ok (.bipush 14, 2) := by decide +kernel
theorem dX11_person_22 : decode cX11_person 22 = .ok (.if_icmp .lt 5, 3) := by decide +kernel
theorem dX11_person_25 : decode cX11_person 25 = .ok (.iconst (-1), 1) := by decide +kernel
theorem dX11_person_26 : decode cX11_person 26 = .ok (.ireturn, 1) := by decide +kernel
theorem dX11_person_27 : decode cX11_person 27 = .ok (.aload_n 0, 1) := by decide +kernel
theorem dX11_person_28 : decode cX11_person 28 = .ok (.invokevirtual 63, 3) := by decide +kernel
theorem dX11_person_31 : decode cX11_person 31 = .ok (.aload_n 0, 1) := by decide +kernel
theorem dX11_person_32 : decode cX11_person 32 = .ok (.getfield 10, 3) := by decide +kernel
theorem dX11_person_35 : decode cX11_person 35 = .ok (.getfield 57, 3) := by decide +kernel
theorem dX11_person_38 : decode cX11_person 38 = .ok (.iload_n 1, 1) := by decide +kernel
theorem dX11_person_39 : decode cX11_person 39 = .ok (.invokevirtual 69, 3) := by decide +kernel
theorem dX11_person_42 : decode cX11_person 42 = .ok (.ireturn, 1) := by decide +kernel
def f_X11_person (x1 : Int32) (s : Mem) : Option (Int32 × Mem) :=
  if x1 < 0 then
  some ((-1), s)
  else
  if 9 < x1 then
  some ((-1), s)
  else
  if (s (1 + 1) 1) < 14 then
  (f_X11_forget s).bind fun r4 =>
  (f_X0_welcome (1 + 1) x1 r4).bind fun r5 =>
  some (r5.1, r5.2)
  else
  some ((-1), s)
set_option maxRecDepth 100000 in
set_option maxHeartbeats 4000000 in
theorem w_X11_person {fr : Nat} (hfr : 1 ≤ fr) (Z : AZ) (X : AX Z cX11_person 2 RX11 (some .int) 0 fr) (x1 : Int32) (s : Mem) (r : Int32 × Mem) (hz : zres Z = (some (.int r.1), r.2)) (h : f_X11_person x1 s = some r) : AW Z s 0 [some (.ref (zr Z 0)), some (.int x1)] [] := by
  unfold f_X11_person at h
  refine aw_iload_n X dX11_person_0 rfl ?_
  refine aw_if_lt (tgt := 25) X dX11_person_1 (by decide) (fun c1 => ?_) (fun c1 => ?_)
  · rw [if_pos c1] at h
    refine aw_iconst (v := (-1)) X dX11_person_25 (by decide) ?_
    cases h
    exact aw_iret X dX11_person_26 rfl hz.symm
  · rw [if_neg c1] at h
    refine aw_iload_n X dX11_person_4 rfl ?_
    refine aw_bipush (v := 9) X dX11_person_5 (by decide) ?_
    refine aw_icmp_gt (tgt := 25) X dX11_person_7 (by decide) (fun c2 => ?_) (fun c2 => ?_)
    · rw [if_pos c2] at h
      refine aw_iconst (v := (-1)) X dX11_person_25 (by decide) ?_
      cases h
      exact aw_iret X dX11_person_26 rfl hz.symm
    · rw [if_neg c2] at h
      refine aw_aload_n X dX11_person_10 rfl ?_
      refine aw_getr X dX11_person_11 fl_RX11_10 iu_RX11 gu_RX11_0 ?_
      refine aw_getr X dX11_person_14 fl_RX11_57 iu_RX11_0 (gt_RX10_0 iu_RX11_0) ?_
      refine aw_geti X dX11_person_17 fl_RX11_66 (it_RX10_0 iu_RX11_0) (gt_RX0_1 (it_RX10_0 iu_RX11_0)) ?_
      refine aw_bipush (v := 14) X dX11_person_20 (by decide) ?_
      refine aw_icmp_lt (tgt := 27) X dX11_person_22 (by decide) (fun c3 => ?_) (fun c3 => ?_)
      · rw [if_pos c3] at h
        refine aw_aload_n X dX11_person_27 rfl ?_
        obtain ⟨r4, er4, h⟩ := bnd h
        refine aw_callV X dX11_person_28 cv_RX11_63 (ok_X11_forget er4 _ _ _ _ _) iu_RX11 rfl (Nat.le_trans (by decide) hfr) (by decide) rfl rfl (Nat.le_of_ble_eq_true rfl) ?_
        refine aw_aload_n X dX11_person_31 rfl ?_
        refine aw_getr X dX11_person_32 fl_RX11_10 iu_RX11 gu_RX11_0 ?_
        refine aw_getr X dX11_person_35 fl_RX11_57 iu_RX11_0 (gt_RX10_0 iu_RX11_0) ?_
        refine aw_iload_n X dX11_person_38 rfl ?_
        obtain ⟨r5, er5, h⟩ := bnd h
        refine aw_callV X dX11_person_39 cv_RX11_69 (ok_X0_welcome (it_RX10_0 iu_RX11_0) er5 _ _ _ _ _) (it_RX10_0 iu_RX11_0) rfl (Nat.le_trans (by decide) hfr) (by decide) rfl rfl (Nat.le_of_ble_eq_true rfl) ?_
        cases h
        exact aw_iret X dX11_person_42 rfl hz.symm
      · rw [if_neg c3] at h
        refine aw_iconst (v := (-1)) X dX11_person_25 (by decide) ?_
        cases h
        exact aw_iret X dX11_person_26 rfl hz.symm
set_option maxRecDepth 100000 in
set_option maxHeartbeats 4000000 in
theorem ok_X11_person {x1 : Int32} {s : Mem} {r : Int32 × Mem} (h : f_X11_person x1 s = some r) (l : Launch) (D : va_G) (ρ : Nat → Nat) (cA : ClassId × ClassId × ClassId) (τ : AT) : AM l D ρ cA 0 τ yX11_person cX11_person 2 (some .int) 1 [.ref (ρ 0), .int x1] (some (.int r.1)) s r.2 := by
  refine AM_of (L := [some (.ref (ρ 0)), some (.int x1)]) (by decide) (by simp [Value.category]) (Nat.le_of_ble_eq_true rfl) (fun j v q => ?_) (fun Z X hρ hz => ?_)
  · exact aL_ok (n := 0) [.ref (ρ 0), .int x1] j v q
  · subst hρ
    exact w_X11_person (Nat.le_refl _) Z X x1 s r hz h

theorem dX11_set_0 : decode cX11_set 0 = .ok (.aload_n 0, 1) := by decide +kernel
theorem dX11_set_1 : decode cX11_set 1 = .ok (.getfield 10, 3) := by decide +kernel
theorem dX11_set_4 : decode cX11_set 4 = .ok (.getfield 57, 3) := by decide +kernel
theorem dX11_set_7 : decode cX11_set 7 = .ok (.astore 4, 2) := by decide +kernel
theorem dX11_set_9 : decode cX11_set 9 = .ok (.aload 4, 2) := by decide +kernel
theorem dX11_set_11 : decode cX11_set 11 = .ok (.iload_n 2, 1) := by decide +kernel
theorem dX11_set_12 : decode cX11_set 12 = .ok (.invokevirtual 73, 3) := by decide +kernel
theorem dX11_set_15 : decode cX11_set 15 = .ok (.ifCond .eq 7, 3) := by decide +kernel
theorem dX11_set_18 : decode cX11_set 18 = .ok (.iload_n 3, 1) := by decide +kernel
theorem dX11_set_19 : decode cX11_set 19 = .ok (.ifCond .ge 5, 3) := by decide +kernel
theorem dX11_set_22 : decode cX11_set 22 = .ok (.iconst 0, 1) := by decide +kernel
theorem dX11_set_23 : decode cX11_set 23 = .ok (.ireturn, 1) := by decide +kernel
theorem dX11_set_24 : decode cX11_set 24 = .ok (.iload_n 1, 1) := by decide +kernel
theorem dX11_set_25 : decode cX11_set 25 = .ok (.ifCond .ne 20, 3) := by decide +kernel
theorem dX11_set_28 : decode cX11_set 28 = .ok (.iload_n 3, 1) := by decide +kernel
theorem dX11_set_29 : decode cX11_set 29 = .ok (.bipush 9, 2) := by decide +kernel
theorem dX11_set_31 : decode cX11_set 31 = .ok (.if_icmp .gt 14, 3) := by decide +kernel
theorem dX11_set_34 : decode cX11_set 34 = .ok (.aload 4, 2) := by decide +kernel
theorem dX11_set_36 : decode cX11_set 36 = .ok (.getfield 77, 3) := by decide +kernel
theorem dX11_set_39 : decode cX11_set 39 = .ok (.iload_n 2, 1) := by decide +kernel
theorem dX11_set_40 : decode cX11_set 40 = .ok (.iload_n 3, 1) := by decide +kernel
theorem dX11_set_41 : decode cX11_set 41 = .ok (.iastore, 1) := by decide +kernel
theorem dX11_set_42 : decode cX11_set 42 = .ok (.goto 26, 3) := by decide +kernel
theorem dX11_set_45 : decode cX11_set 45 = .ok (.iload_n 1, 1) := by decide +kernel
theorem dX11_set_46 : decode cX11_set 46 = .ok (.iconst 1, 1) := by decide +kernel
theorem dX11_set_47 : decode cX11_set 47 = .ok (.if_icmp .ne 19, 3) := by decide +kernel
theorem dX11_set_50 : decode cX11_set 50 = .ok (.iload_n 3, 1) := by decide +kernel
theorem dX11_set_51 : decode cX11_set 51 = .ok (.bipush 99, 2) := by decide +kernel
theorem dX11_set_53 : decode cX11_set 53 = .ok (.if_icmp .gt 13, 3) := by decide +kernel
theorem dX11_set_56 : decode cX11_set 56 = .ok (.aload 4, 2) := by decide +kernel
theorem dX11_set_58 : decode cX11_set 58 = .ok (.iload_n 2, 1) := by decide +kernel
theorem dX11_set_59 : decode cX11_set 59 = .ok (.iload_n 3, 1) := by decide +kernel
theorem dX11_set_60 : decode cX11_set 60 = .ok (.invokevirtual 81, 3) := by decide +kernel
theorem dX11_set_63 : decode cX11_set 63 = .ok (.goto 5, 3) := by decide +kernel
theorem dX11_set_66 : decode cX11_set 66 = .ok (.iconst 0, 1) := by decide +kernel
theorem dX11_set_67 : decode cX11_set 67 = .ok (.ireturn, 1) := by decide +kernel
theorem dX11_set_68 : decode cX11_set 68 = .ok (.aload_n 0, 1) := by decide +kernel
theorem dX11_set_69 : decode cX11_set 69 = .ok (.invokevirtual 63, 3) := by decide +kernel
theorem dX11_set_72 : decode cX11_set 72 = .ok (.iconst 1, 1) := by decide +kernel
theorem dX11_set_73 : decode cX11_set 73 = .ok (.ireturn, 1) := by decide +kernel
def jn_X11_set_68 (s : Mem) : Option (Int32 × Mem) :=
  (f_X11_forget s).bind fun r8 =>
  some (1, r8)
def jn_X11_set_45 (x1 : Int32) (x2 : Int32) (x3 : Int32) (s : Mem) : Option (Int32 × Mem) :=
  if x1 = 1 then
  if 99 < x3 then
  some (0, s)
  else
  (f_X0_hiccup (1 + 1) x2 x3 s).bind fun r7 =>
  jn_X11_set_68 r7
  else
  some (0, s)
def f_X11_set (x1 : Int32) (x2 : Int32) (x3 : Int32) (s : Mem) : Option (Int32 × Mem) :=
  (f_X0_has (1 + 1) x2 s).bind fun r1 =>
  if r1.1 = 0 then
  some (0, r1.2)
  else
  if 0 ≤ x3 then
  if x1 = 0 then
  if 9 < x3 then
  jn_X11_set_45 x1 x2 x3 r1.2
  else
  (wr 14 r1.2 ((1 + 1) + 1) x2 x3).bind fun s10 =>
  jn_X11_set_68 s10
  else
  jn_X11_set_45 x1 x2 x3 r1.2
  else
  some (0, r1.2)
set_option maxRecDepth 100000 in
set_option maxHeartbeats 4000000 in
theorem jo_X11_set_68 {fr : Nat} (hfr : 2 ≤ fr) (Z : AZ) (X : AX Z cX11_set 5 RX11 (some .boolean) 0 fr) (s : Mem) (r : Int32 × Mem) (hz : zres Z = (some (.int r.1), r.2)) (h : jn_X11_set_68 s = some r) : AW Z s 68 [some (.ref (zr Z 0)), none, none, none, none] [] := by
  unfold jn_X11_set_68 at h
  refine aw_aload_n X dX11_set_68 rfl ?_
  obtain ⟨r8, er8, h⟩ := bnd h
  refine aw_callV X dX11_set_69 cv_RX11_63 (ok_X11_forget er8 _ _ _ _ _) iu_RX11 rfl (Nat.le_trans (by decide) hfr) (by decide) rfl rfl (Nat.le_of_ble_eq_true rfl) ?_
  refine aw_iconst (v := 1) X dX11_set_72 (by decide) ?_
  cases h
  exact aw_zret X dX11_set_73 rfl rfl hz.symm
set_option maxRecDepth 100000 in
set_option maxHeartbeats 4000000 in
theorem jo_X11_set_45 {fr : Nat} (hfr : 2 ≤ fr) (Z : AZ) (X : AX Z cX11_set 5 RX11 (some .boolean) 0 fr) (x1 : Int32) (x2 : Int32) (x3 : Int32) (s : Mem) (r : Int32 × Mem) (hz : zres Z = (some (.int r.1), r.2)) (h : jn_X11_set_45 x1 x2 x3 s = some r) : AW Z s 45 [some (.ref (zr Z 0)), some (.int x1), some (.int x2), some (.int x3), some (.ref (zr Z (1 + 1)))] [] := by
  unfold jn_X11_set_45 at h
  refine aw_iload_n X dX11_set_45 rfl ?_
  refine aw_iconst (v := 1) X dX11_set_46 (by decide) ?_
  refine aw_icmp_ne (tgt := 66) X dX11_set_47 (by decide) (fun c5 => ?_) (fun c5 => ?_)
  · rw [if_neg c5] at h
    refine aw_iconst (v := 0) X dX11_set_66 (by decide) ?_
    cases h
    exact aw_zret X dX11_set_67 rfl rfl hz.symm
  · rw [if_pos c5] at h
    refine aw_iload_n X dX11_set_50 rfl ?_
    refine aw_bipush (v := 99) X dX11_set_51 (by decide) ?_
    refine aw_icmp_gt (tgt := 66) X dX11_set_53 (by decide) (fun c6 => ?_) (fun c6 => ?_)
    · rw [if_pos c6] at h
      refine aw_iconst (v := 0) X dX11_set_66 (by decide) ?_
      cases h
      exact aw_zret X dX11_set_67 rfl rfl hz.symm
    · rw [if_neg c6] at h
      refine aw_aload X dX11_set_56 rfl ?_
      refine aw_iload_n X dX11_set_58 rfl ?_
      refine aw_iload_n X dX11_set_59 rfl ?_
      obtain ⟨r7, er7, h⟩ := bnd h
      refine aw_callV X dX11_set_60 cv_RX11_81 (ok_X0_hiccup (it_RX10_0 iu_RX11_0) er7 _ _ _ _ _) (it_RX10_0 iu_RX11_0) rfl (Nat.le_trans (by decide) hfr) (by decide) rfl rfl (Nat.le_of_ble_eq_true rfl) ?_
      refine aw_goto (tgt := 68) X dX11_set_63 (by decide) ?_
      refine aw_msk [true, false, false, false, false] ?_
      exact jo_X11_set_68 hfr Z X _ _ hz h
set_option maxRecDepth 100000 in
set_option maxHeartbeats 4000000 in
theorem w_X11_set {fr : Nat} (hfr : 2 ≤ fr) (Z : AZ) (X : AX Z cX11_set 5 RX11 (some .boolean) 0 fr) (x1 : Int32) (x2 : Int32) (x3 : Int32) (s : Mem) (r : Int32 × Mem) (hz : zres Z = (some (.int r.1), r.2)) (h : f_X11_set x1 x2 x3 s = some r) : AW Z s 0 [some (.ref (zr Z 0)), some (.int x1), some (.int x2), some (.int x3), none] [] := by
  unfold f_X11_set at h
  refine aw_aload_n X dX11_set_0 rfl ?_
  refine aw_getr X dX11_set_1 fl_RX11_10 iu_RX11 gu_RX11_0 ?_
  refine aw_getr X dX11_set_4 fl_RX11_57 iu_RX11_0 (gt_RX10_0 iu_RX11_0) ?_
  refine aw_astore (L' := [some (.ref (zr Z 0)), some (.int x1), some (.int x2), some (.int x3), some (.ref (zr Z (1 + 1)))]) X dX11_set_7 (by decide) rfl ?_
  refine aw_aload X dX11_set_9 rfl ?_
  refine aw_iload_n X dX11_set_11 rfl ?_
  obtain ⟨r1, er1, h⟩ := bnd h
  refine aw_callV X dX11_set_12 cv_RX11_73 (ok_X0_has (it_RX10_0 iu_RX11_0) er1 _ _ _ _ _) (it_RX10_0 iu_RX11_0) rfl (Nat.le_trans (by decide) hfr) (by decide) rfl rfl (Nat.le_of_ble_eq_true rfl) ?_
  refine aw_if_eq (tgt := 22) X dX11_set_15 (by decide) (fun c2 => ?_) (fun c2 => ?_)
  · rw [if_pos c2] at h
    refine aw_iconst (v := 0) X dX11_set_22 (by decide) ?_
    cases h
    exact aw_zret X dX11_set_23 rfl rfl hz.symm
  · rw [if_neg c2] at h
    refine aw_iload_n X dX11_set_18 rfl ?_
    refine aw_if_ge (tgt := 24) X dX11_set_19 (by decide) (fun c3 => ?_) (fun c3 => ?_)
    · rw [if_pos c3] at h
      refine aw_iload_n X dX11_set_24 rfl ?_
      refine aw_if_ne (tgt := 45) X dX11_set_25 (by decide) (fun c4 => ?_) (fun c4 => ?_)
      · rw [if_neg c4] at h
        refine aw_msk [true, true, true, true, true] ?_
        exact jo_X11_set_45 hfr Z X _ _ _ _ _ hz h
      · rw [if_pos c4] at h
        refine aw_iload_n X dX11_set_28 rfl ?_
        refine aw_bipush (v := 9) X dX11_set_29 (by decide) ?_
        refine aw_icmp_gt (tgt := 45) X dX11_set_31 (by decide) (fun c9 => ?_) (fun c9 => ?_)
        · rw [if_pos c9] at h
          refine aw_msk [true, true, true, true, true] ?_
          exact jo_X11_set_45 hfr Z X _ _ _ _ _ hz h
        · rw [if_neg c9] at h
          refine aw_aload X dX11_set_34 rfl ?_
          refine aw_getr X dX11_set_36 fl_RX11_77 (it_RX10_0 iu_RX11_0) (gt_RX0_2 (it_RX10_0 iu_RX11_0)) ?_
          refine aw_iload_n X dX11_set_39 rfl ?_
          refine aw_iload_n X dX11_set_40 rfl ?_
          obtain ⟨s10, es10, h⟩ := bnd h
          refine aw_iast X dX11_set_41 (it_RX0_2 (it_RX10_0 iu_RX11_0)) es10 ?_
          refine aw_goto (tgt := 68) X dX11_set_42 (by decide) ?_
          refine aw_msk [true, false, false, false, false] ?_
          exact jo_X11_set_68 hfr Z X _ _ hz h
    · rw [if_neg c3] at h
      refine aw_iconst (v := 0) X dX11_set_22 (by decide) ?_
      cases h
      exact aw_zret X dX11_set_23 rfl rfl hz.symm
set_option maxRecDepth 100000 in
set_option maxHeartbeats 4000000 in
theorem ok_X11_set {x1 x2 x3 : Int32} {s : Mem} {r : Int32 × Mem} (h : f_X11_set x1 x2 x3 s = some r) (l : Launch) (D : va_G) (ρ : Nat → Nat) (cA : ClassId × ClassId × ClassId) (τ : AT) : AM l D ρ cA 0 τ yX11_set cX11_set 5 (some .boolean) 2 [.ref (ρ 0), .int x1, .int x2, .int x3] (some (.int r.1)) s r.2 := by
  refine AM_of (L := [some (.ref (ρ 0)), some (.int x1), some (.int x2), some (.int x3), none]) (by decide) (by simp [Value.category]) (Nat.le_of_ble_eq_true rfl) (fun j v q => ?_) (fun Z X hρ hz => ?_)
  · exact aL_ok (n := 1) [.ref (ρ 0), .int x1, .int x2, .int x3] j v q
  · subst hρ
    exact w_X11_set (Nat.le_refl _) Z X x1 x2 x3 s r hz h

theorem dX11_canAct_0 : decode cX11_canAct 0 = .ok (.aload_n 0, 1) := by decide +kernel
theorem dX11_canAct_1 : decode cX11_canAct 1 = .ok (.getfield 10, 3) := by decide +kernel
theorem dX11_canAct_4 : decode cX11_canAct 4 = .ok (.getfield 57, 3) := by decide +kernel
theorem dX11_canAct_7 : decode cX11_canAct 7 = .ok (.astore 4, 2) := by decide +kernel
theorem dX11_canAct_9 : decode cX11_canAct 9 = .ok (.aload 4, 2) := by decide +kernel
theorem dX11_canAct_11 : decode cX11_canAct 11 = .ok (.iload_n 2, 1) := by decide +kernel
theorem dX11_canAct_12 : decode cX11_canAct 12 = .ok (.invokevirtual 73, 3) := by decide +kernel
theorem dX11_canAct_15 : decode cX11_canAct 15 = .ok (.ifCond .ne 5, 3) := by decide +kernel
theorem dX11_canAct_18 : decode cX11_canAct 18 = .ok (.iconst 0, 1) := by decide +kernel
theorem dX11_canAct_19 : decode cX11_canAct 19 = .ok (.ireturn, 1) := by decide +kernel
theorem dX11_canAct_20 : decode cX11_canAct 20 = .ok (.aload 4, 2) := by decide +kernel
theorem dX11_canAct_22 : decode cX11_canAct 22 = .ok (.iload_n 3, 1) := by decide +kernel
theorem dX11_canAct_23 : decode cX11_canAct 23 = .ok (.invokevirtual 73, 3) := by decide +kernel
theorem dX11_canAct_26 : decode cX11_canAct 26 = .ok (.ifCond .eq 12, 3) := by decide +kernel
theorem dX11_canAct_29 : decode cX11_canAct 29 = .ok (.iload_n 3, 1) := by decide +kernel
theorem dX11_canAct_30 : decode cX11_canAct 30 = .ok (.iload_n 2, 1) := by decide +kernel
theorem dX11_canAct_31 : decode cX11_canAct 31 = .ok (.if_icmp .eq 7, 3) := by decide +kernel
theorem dX11_canAct_34 : decode cX11_canAct 34 = .ok (.iconst 1, 1) := by decide +kernel
theorem dX11_canAct_35 : decode cX11_canAct 35 = .ok (.goto 4, 3) := by decide +kernel
theorem dX11_canAct_38 : decode cX11_canAct 38 = .ok (.iconst 0, 1) := by decide +kernel
theorem dX11_canAct_39 : decode cX11_canAct 39 = .ok (.istore 5, 2) := by decide +kernel
theorem dX11_canAct_41 : decode cX11_canAct 41 = .ok (.iload_n 1, 1) := by decide +kernel
theorem dX11_canAct_42 : decode cX11_canAct 42 = .ok (.tableswitch 70 0 3 #[30, 33, 49, 33], 30) := by decide +kernel
theorem dX11_canAct_72 : decode cX11_canAct 72 = .ok (.iload 5, 2) := by decide +kernel
theorem dX11_canAct_74 : decode cX11_canAct 74 = .ok (.ireturn, 1) := by decide +kernel
theorem dX11_canAct_75 : decode cX11_canAct 75 = .ok (.aload 4, 2) := by decide +kernel
theorem dX11_canAct_77 : decode cX11_canAct 77 = .ok (.getfield 199, 3) := by decide +kernel
theorem dX11_canAct_80 : decode cX11_canAct 80 = .ok (.iload_n 2, 1) := by decide +kernel
theorem dX11_canAct_81 : decode cX11_canAct 81 = .ok (.iaload, 1) := by decide +kernel
theorem dX11_canAct_82 : decode cX11_canAct 82 = .ok (.ifCond .le 7, 3) := by decide +kernel
theorem dX11_canAct_85 : decode cX11_canAct 85 = .ok (.iconst 1, 1) := by decide +kernel
theorem dX11_canAct_86 : decode cX11_canAct 86 = .ok (.goto 4, 3) := by decide +kernel
theorem dX11_canAct_89 : decode cX11_canAct 89 = .ok (.iconst 0, 1) := by decide +kernel
theorem dX11_canAct_90 : decode cX11_canAct 90 = .ok (.ireturn, 1) := by decide +kernel
theorem dX11_canAct_91 : decode cX11_canAct 91 = .ok (.iload 5, 2) := by decide +kernel
theorem dX11_canAct_93 : decode cX11_canAct 93 = .ok (.ifCond .eq 17, 3) := by decide +kernel
theorem dX11_canAct_96 : decode cX11_canAct 96 = .ok (.aload 4, 2) := by decide +kernel
theorem dX11_canAct_98 : decode cX11_canAct 98 = .ok (.getfield 199, 3) := by decide +kernel
theorem dX11_canAct_101 : decode cX11_canAct 101 = .ok (.iload_n 2, 1) := by decide +kernel
theorem dX11_canAct_102 : decode cX11_canAct 102 = .ok (.iaload, 1) := by decide +kernel
theorem dX11_canAct_103 : decode cX11_canAct 103 = .ok (.ifCond .le 7, 3) := by decide +kernel
theorem dX11_canAct_106 : decode cX11_canAct 106 = .ok (.iconst 1, 1) := by decide +kernel
theorem dX11_canAct_107 : decode cX11_canAct 107 = .ok (.goto 4, 3) := by decide +kernel
theorem dX11_canAct_110 : decode cX11_canAct 110 = .ok (.iconst 0, 1) := by decide +kernel
theorem dX11_canAct_111 : decode cX11_canAct 111 = .ok (.ireturn, 1) := by decide +kernel
theorem dX11_canAct_112 : decode cX11_canAct 112 = .ok (.iconst 0, 1) := by decide +kernel
theorem dX11_canAct_113 : decode cX11_canAct 113 = .ok (.ireturn, 1) := by decide +kernel
def jn_X11_canAct_75 (x2 : Int32) (s : Mem) : Option (Int32 × Mem) :=
  (rd 14 (s ((1 + 1) + 2)) x2).bind fun v8 =>
  if v8 ≤ 0 then
  some (0, s)
  else
  some (1, s)
def jn_X11_canAct_39 (x1 : Int32) (x2 : Int32) (t0 : Int32) (s : Mem) : Option (Int32 × Mem) :=
  if x1 = 0 then
  if ¬ (t0 = 0 ∨ t0 = 1) then none else some (t0, s)
  else if x1 = 1 then
  jn_X11_canAct_75 x2 s
  else if x1 = 2 then
  if t0 = 0 then
  some (0, s)
  else
  (rd 14 (s ((1 + 1) + 2)) x2).bind fun v12 =>
  if v12 ≤ 0 then
  some (0, s)
  else
  some (1, s)
  else if x1 = 3 then
  jn_X11_canAct_75 x2 s
  else 
  some (0, s)
def jn_X11_canAct_38 (x1 : Int32) (x2 : Int32) (s : Mem) : Option (Int32 × Mem) :=
  jn_X11_canAct_39 x1 x2 0 s
def f_X11_canAct (x1 : Int32) (x2 : Int32) (x3 : Int32) (s : Mem) : Option (Int32 × Mem) :=
  (f_X0_has (1 + 1) x2 s).bind fun r1 =>
  if r1.1 = 0 then
  some (0, r1.2)
  else
  (f_X0_has (1 + 1) x3 r1.2).bind fun r3 =>
  if r3.1 = 0 then
  jn_X11_canAct_38 x1 x2 r3.2
  else
  if x3 = x2 then
  jn_X11_canAct_38 x1 x2 r3.2
  else
  jn_X11_canAct_39 x1 x2 1 r3.2
set_option maxRecDepth 100000 in
set_option maxHeartbeats 4000000 in
theorem jo_X11_canAct_75 {fr : Nat} (hfr : 1 ≤ fr) (Z : AZ) (X : AX Z cX11_canAct 6 RX11 (some .boolean) 0 fr) (x2 : Int32) (s : Mem) (r : Int32 × Mem) (hz : zres Z = (some (.int r.1), r.2)) (h : jn_X11_canAct_75 x2 s = some r) : AW Z s 75 [none, none, some (.int x2), none, some (.ref (zr Z (1 + 1))), none] [] := by
  unfold jn_X11_canAct_75 at h
  refine aw_aload X dX11_canAct_75 rfl ?_
  refine aw_getr X dX11_canAct_77 fl_RX11_199 (it_RX10_0 iu_RX11_0) (gt_RX0_3 (it_RX10_0 iu_RX11_0)) ?_
  refine aw_iload_n X dX11_canAct_80 rfl ?_
  obtain ⟨v8, ev8, h⟩ := bnd h
  refine aw_iald X dX11_canAct_81 (it_RX0_3 (it_RX10_0 iu_RX11_0)) ev8 ?_
  refine aw_if_le (tgt := 89) X dX11_canAct_82 (by decide) (fun c9 => ?_) (fun c9 => ?_)
  · rw [if_pos c9] at h
    refine aw_iconst (v := 0) X dX11_canAct_89 (by decide) ?_
    cases h
    exact aw_zret X dX11_canAct_90 rfl rfl hz.symm
  · rw [if_neg c9] at h
    refine aw_iconst (v := 1) X dX11_canAct_85 (by decide) ?_
    refine aw_goto (tgt := 90) X dX11_canAct_86 (by decide) ?_
    cases h
    exact aw_zret X dX11_canAct_90 rfl rfl hz.symm
set_option maxRecDepth 100000 in
set_option maxHeartbeats 4000000 in
theorem jo_X11_canAct_39 {fr : Nat} (hfr : 1 ≤ fr) (Z : AZ) (X : AX Z cX11_canAct 6 RX11 (some .boolean) 0 fr) (x1 : Int32) (x2 : Int32) (t0 : Int32) (s : Mem) (r : Int32 × Mem) (hz : zres Z = (some (.int r.1), r.2)) (h : jn_X11_canAct_39 x1 x2 t0 s = some r) : AW Z s 39 [none, some (.int x1), some (.int x2), none, some (.ref (zr Z (1 + 1))), none] [.int t0] := by
  unfold jn_X11_canAct_39 at h
  refine aw_istore (L' := [none, some (.int x1), some (.int x2), none, some (.ref (zr Z (1 + 1))), some (.int t0)]) X dX11_canAct_39 (by decide) rfl ?_
  refine aw_iload_n X dX11_canAct_41 rfl ?_
  by_cases c5 : x1 = 0
  · rw [if_pos c5] at h
    refine aw_tsw (tgt := 72) X dX11_canAct_42 (by rw [c5]; decide) ?_
    refine aw_iload X dX11_canAct_72 rfl ?_
    by_cases c6 : ¬ (t0 = 0 ∨ t0 = 1)
    · rw [if_pos c6] at h
      cases h
    rw [if_neg c6] at h
    cases h
    exact aw_zret X dX11_canAct_74 rfl (bz_n (Decidable.of_not_not c6)) hz.symm
  rw [if_neg c5] at h
  by_cases c7 : x1 = 1
  · rw [if_pos c7] at h
    refine aw_tsw (tgt := 75) X dX11_canAct_42 (by rw [c7]; decide) ?_
    refine aw_msk [false, false, true, false, true, false] ?_
    exact jo_X11_canAct_75 hfr Z X _ _ _ hz h
  rw [if_neg c7] at h
  by_cases c10 : x1 = 2
  · rw [if_pos c10] at h
    refine aw_tsw (tgt := 91) X dX11_canAct_42 (by rw [c10]; decide) ?_
    refine aw_iload X dX11_canAct_91 rfl ?_
    refine aw_if_eq (tgt := 110) X dX11_canAct_93 (by decide) (fun c11 => ?_) (fun c11 => ?_)
    · rw [if_pos c11] at h
      refine aw_iconst (v := 0) X dX11_canAct_110 (by decide) ?_
      cases h
      exact aw_zret X dX11_canAct_111 rfl rfl hz.symm
    · rw [if_neg c11] at h
      refine aw_aload X dX11_canAct_96 rfl ?_
      refine aw_getr X dX11_canAct_98 fl_RX11_199 (it_RX10_0 iu_RX11_0) (gt_RX0_3 (it_RX10_0 iu_RX11_0)) ?_
      refine aw_iload_n X dX11_canAct_101 rfl ?_
      obtain ⟨v12, ev12, h⟩ := bnd h
      refine aw_iald X dX11_canAct_102 (it_RX0_3 (it_RX10_0 iu_RX11_0)) ev12 ?_
      refine aw_if_le (tgt := 110) X dX11_canAct_103 (by decide) (fun c13 => ?_) (fun c13 => ?_)
      · rw [if_pos c13] at h
        refine aw_iconst (v := 0) X dX11_canAct_110 (by decide) ?_
        cases h
        exact aw_zret X dX11_canAct_111 rfl rfl hz.symm
      · rw [if_neg c13] at h
        refine aw_iconst (v := 1) X dX11_canAct_106 (by decide) ?_
        refine aw_goto (tgt := 111) X dX11_canAct_107 (by decide) ?_
        cases h
        exact aw_zret X dX11_canAct_111 rfl rfl hz.symm
  rw [if_neg c10] at h
  by_cases c14 : x1 = 3
  · rw [if_pos c14] at h
    refine aw_tsw (tgt := 75) X dX11_canAct_42 (by rw [c14]; decide) ?_
    refine aw_msk [false, false, true, false, true, false] ?_
    exact jo_X11_canAct_75 hfr Z X _ _ _ hz h
  rw [if_neg c14] at h
  refine aw_tswd (tgt := 112) X dX11_canAct_42 (by decide) (fun z h1 h2 => ?_) ?_
  · have hz9 : z = 0 ∨ z = 1 ∨ z = 2 ∨ z = 3 := by omega
    rcases hz9 with rfl | rfl | rfl | rfl
    · exact c5
    · exact c7
    · exact c10
    · exact c14
  refine aw_iconst (v := 0) X dX11_canAct_112 (by decide) ?_
  cases h
  exact aw_zret X dX11_canAct_113 rfl rfl hz.symm
set_option maxRecDepth 100000 in
set_option maxHeartbeats 4000000 in
theorem jo_X11_canAct_38 {fr : Nat} (hfr : 1 ≤ fr) (Z : AZ) (X : AX Z cX11_canAct 6 RX11 (some .boolean) 0 fr) (x1 : Int32) (x2 : Int32) (s : Mem) (r : Int32 × Mem) (hz : zres Z = (some (.int r.1), r.2)) (h : jn_X11_canAct_38 x1 x2 s = some r) : AW Z s 38 [none, some (.int x1), some (.int x2), none, some (.ref (zr Z (1 + 1))), none] [] := by
  unfold jn_X11_canAct_38 at h
  refine aw_iconst (v := 0) X dX11_canAct_38 (by decide) ?_
  refine aw_msk [false, true, true, false, true, false] ?_
  exact jo_X11_canAct_39 hfr Z X _ _ _ _ _ hz h
set_option maxRecDepth 100000 in
set_option maxHeartbeats 4000000 in
theorem w_X11_canAct {fr : Nat} (hfr : 1 ≤ fr) (Z : AZ) (X : AX Z cX11_canAct 6 RX11 (some .boolean) 0 fr) (x1 : Int32) (x2 : Int32) (x3 : Int32) (s : Mem) (r : Int32 × Mem) (hz : zres Z = (some (.int r.1), r.2)) (h : f_X11_canAct x1 x2 x3 s = some r) : AW Z s 0 [some (.ref (zr Z 0)), some (.int x1), some (.int x2), some (.int x3), none, none] [] := by
  unfold f_X11_canAct at h
  refine aw_aload_n X dX11_canAct_0 rfl ?_
  refine aw_getr X dX11_canAct_1 fl_RX11_10 iu_RX11 gu_RX11_0 ?_
  refine aw_getr X dX11_canAct_4 fl_RX11_57 iu_RX11_0 (gt_RX10_0 iu_RX11_0) ?_
  refine aw_astore (L' := [some (.ref (zr Z 0)), some (.int x1), some (.int x2), some (.int x3), some (.ref (zr Z (1 + 1))), none]) X dX11_canAct_7 (by decide) rfl ?_
  refine aw_aload X dX11_canAct_9 rfl ?_
  refine aw_iload_n X dX11_canAct_11 rfl ?_
  obtain ⟨r1, er1, h⟩ := bnd h
  refine aw_callV X dX11_canAct_12 cv_RX11_73 (ok_X0_has (it_RX10_0 iu_RX11_0) er1 _ _ _ _ _) (it_RX10_0 iu_RX11_0) rfl (Nat.le_trans (by decide) hfr) (by decide) rfl rfl (Nat.le_of_ble_eq_true rfl) ?_
  refine aw_if_ne (tgt := 20) X dX11_canAct_15 (by decide) (fun c2 => ?_) (fun c2 => ?_)
  · rw [if_neg c2] at h
    refine aw_aload X dX11_canAct_20 rfl ?_
    refine aw_iload_n X dX11_canAct_22 rfl ?_
    obtain ⟨r3, er3, h⟩ := bnd h
    refine aw_callV X dX11_canAct_23 cv_RX11_73 (ok_X0_has (it_RX10_0 iu_RX11_0) er3 _ _ _ _ _) (it_RX10_0 iu_RX11_0) rfl (Nat.le_trans (by decide) hfr) (by decide) rfl rfl (Nat.le_of_ble_eq_true rfl) ?_
    refine aw_if_eq (tgt := 38) X dX11_canAct_26 (by decide) (fun c4 => ?_) (fun c4 => ?_)
    · rw [if_pos c4] at h
      refine aw_msk [false, true, true, false, true, false] ?_
      exact jo_X11_canAct_38 hfr Z X _ _ _ _ hz h
    · rw [if_neg c4] at h
      refine aw_iload_n X dX11_canAct_29 rfl ?_
      refine aw_iload_n X dX11_canAct_30 rfl ?_
      refine aw_icmp_eq (tgt := 38) X dX11_canAct_31 (by decide) (fun c15 => ?_) (fun c15 => ?_)
      · rw [if_pos c15] at h
        refine aw_msk [false, true, true, false, true, false] ?_
        exact jo_X11_canAct_38 hfr Z X _ _ _ _ hz h
      · rw [if_neg c15] at h
        refine aw_iconst (v := 1) X dX11_canAct_34 (by decide) ?_
        refine aw_goto (tgt := 39) X dX11_canAct_35 (by decide) ?_
        refine aw_msk [false, true, true, false, true, false] ?_
        exact jo_X11_canAct_39 hfr Z X _ _ _ _ _ hz h
  · rw [if_pos c2] at h
    refine aw_iconst (v := 0) X dX11_canAct_18 (by decide) ?_
    cases h
    exact aw_zret X dX11_canAct_19 rfl rfl hz.symm
set_option maxRecDepth 100000 in
set_option maxHeartbeats 4000000 in
theorem ok_X11_canAct {x1 x2 x3 : Int32} {s : Mem} {r : Int32 × Mem} (h : f_X11_canAct x1 x2 x3 s = some r) (l : Launch) (D : va_G) (ρ : Nat → Nat) (cA : ClassId × ClassId × ClassId) (τ : AT) : AM l D ρ cA 0 τ yX11_canAct cX11_canAct 6 (some .boolean) 1 [.ref (ρ 0), .int x1, .int x2, .int x3] (some (.int r.1)) s r.2 := by
  refine AM_of (L := [some (.ref (ρ 0)), some (.int x1), some (.int x2), some (.int x3), none, none]) (by decide) (by simp [Value.category]) (Nat.le_of_ble_eq_true rfl) (fun j v q => ?_) (fun Z X hρ hz => ?_)
  · exact aL_ok (n := 2) [.ref (ρ 0), .int x1, .int x2, .int x3] j v q
  · subst hρ
    exact w_X11_canAct (Nat.le_refl _) Z X x1 x2 x3 s r hz h

theorem dX11_keep_0 : decode cX11_keep 0 = .ok (.aload_n 0, 1) := by decide +kernel
theorem dX11_keep_1 : decode cX11_keep 1 = .ok (.getfield 32, 3) := by decide +kernel
theorem dX11_keep_4 : decode cX11_keep 4 = .ok (.aload_n 0, 1) := by decide +kernel
theorem dX11_keep_5 : decode cX11_keep 5 = .ok (.getfield 40, 3) := by decide +kernel
theorem dX11_keep_8 : decode cX11_keep 8 = .ok (.aaload, 1) := by decide +kernel
theorem dX11_keep_9 : decode cX11_keep 9 = .ok (.aload_n 0, 1) := by decide +kernel
theorem dX11_keep_10 : decode cX11_keep 10 = .ok (.getfield 10, 3) := by decide +kernel
theorem dX11_keep_13 : decode cX11_keep 13 = .ok (.getfield 57, 3) := by decide +kernel
theorem dX11_keep_16 : decode cX11_keep 16 = .ok (.invokevirtual 195, 3) := by decide +kernel
theorem dX11_keep_19 : decode cX11_keep 19 = .ok (.aload_n 0, 1) := by decide +kernel
theorem dX11_keep_20 : decode cX11_keep 20 = .ok (.aload_n 0, 1) := by decide +kernel
theorem dX11_keep_21 : decode cX11_keep 21 = .ok (.getfield 40, 3) := by decide +kernel
theorem dX11_keep_24 : decode cX11_keep 24 = .ok (.iconst 5, 1) := by decide +kernel
theorem dX11_keep_25 : decode cX11_keep 25 = .ok (.if_icmp .ne 7, 3) := by decide +kernel
theorem dX11_keep_28 : decode cX11_keep 28 = .ok (.iconst 0, 1) := by decide +kernel
theorem dX11_keep_29 : decode cX11_keep 29 = .ok (.goto 9, 3) := by decide +kernel
theorem dX11_keep_32 : decode cX11_keep 32 = .ok (.aload_n 0, 1) := by decide +kernel
theorem dX11_keep_33 : decode cX11_keep 33 = .ok (.getfield 40, 3) := by decide +kernel
theorem dX11_keep_36 : decode cX11_keep 36 = .ok (.iconst 1, 1) := by decide +kernel
theorem dX11_keep_37 : decode cX11_keep 37 = .ok (.iadd, 1) := by decide +kernel
theorem dX11_keep_38 : decode cX11_keep 38 = .ok (.putfield 40, 3) := by decide +kernel
theorem dX11_keep_41 : decode cX11_keep 41 = .ok (.aload_n 0, 1) := by decide +kernel
theorem dX11_keep_42 : decode cX11_keep 42 = .ok (.bipush 6, 2) := by decide +kernel
theorem dX11_keep_44 : decode cX11_keep 44 = .ok (.aload_n 0, 1) := by decide +kernel
theorem dX11_keep_45 : decode cX11_keep 45 = .ok (.getfield 36, 3) := by decide +kernel
theorem dX11_keep_48 : decode cX11_keep 48 = .ok (.iconst 1, 1) := by decide +kernel
theorem dX11_keep_49 : decode cX11_keep 49 = .ok (.iadd, 1) := by decide +kernel
theorem dX11_keep_50 : decode cX11_keep 50 = .ok (.invokestatic 401, 3) := by decide +kernel
theorem dX11_keep_53 : decode cX11_keep 53 = .ok (.putfield 36, 3) := by decide +kernel
theorem dX11_keep_56 : decode cX11_keep 56 = .ok (.return_, 1) := by decide +kernel
def jn_X11_keep_38 (t1 : Int32) (s : Mem) : Option (Mem) :=
  some (mset (mset s 0 6 t1) 0 5 (jmmin 6 (((mset s 0 6 t1) 0 5) + 1)))
def f_X11_keep (s : Mem) : Option (Mem) :=
  (rdq 6 123 (s 0 6)).bind fun v1 =>
  (f_X0_copyFrom v1 (1 + 1) s).bind fun r2 =>
  if (r2 0 6) = 5 then
  jn_X11_keep_38 0 r2
  else
  jn_X11_keep_38 ((r2 0 6) + 1) r2
set_option maxRecDepth 100000 in
set_option maxHeartbeats 4000000 in
theorem jo_X11_keep_38 {fr : Nat} (hfr : 1 ≤ fr) (Z : AZ) (X : AX Z cX11_keep 1 RX11 none 0 fr) (t1 : Int32) (s : Mem) (r : Mem) (hz : zres Z = (none, r)) (h : jn_X11_keep_38 t1 s = some r) : AW Z s 38 [some (.ref (zr Z 0))] [.int t1, .ref (zr Z 0)] := by
  unfold jn_X11_keep_38 at h
  refine aw_put X dX11_keep_38 fp_RX11_40 iu_RX11 gu_RX11_6 rfl rfl ?_
  refine aw_aload_n X dX11_keep_41 rfl ?_
  refine aw_bipush (v := 6) X dX11_keep_42 (by decide) ?_
  refine aw_aload_n X dX11_keep_44 rfl ?_
  refine aw_geti X dX11_keep_45 fl_RX11_36 iu_RX11 gu_RX11_5 ?_
  refine aw_iconst (v := 1) X dX11_keep_48 (by decide) ?_
  refine aw_iadd X dX11_keep_49 ?_
  refine aw_mmin X (Nat.le_trans (by decide) hfr) dX11_keep_50 mc_RX11_401 rfl ?_
  refine aw_put X dX11_keep_53 fp_RX11_36 iu_RX11 gu_RX11_5 rfl rfl ?_
  cases h
  exact aw_vret X dX11_keep_56 rfl hz.symm
set_option maxRecDepth 100000 in
set_option maxHeartbeats 4000000 in
theorem w_X11_keep {fr : Nat} (hfr : 1 ≤ fr) (Z : AZ) (X : AX Z cX11_keep 1 RX11 none 0 fr) (s : Mem) (r : Mem) (hz : zres Z = (none, r)) (h : f_X11_keep s = some r) : AW Z s 0 [some (.ref (zr Z 0))] [] := by
  unfold f_X11_keep at h
  refine aw_aload_n X dX11_keep_0 rfl ?_
  refine aw_getr X dX11_keep_1 fl_RX11_32 iu_RX11 gu_RX11_4 ?_
  refine aw_aload_n X dX11_keep_4 rfl ?_
  refine aw_geti X dX11_keep_5 fl_RX11_40 iu_RX11 gu_RX11_6 ?_
  obtain ⟨v1, ev1, h⟩ := bnd h
  refine aw_aaldq X dX11_keep_8 iu_RX11_4 ev1 ?_
  refine aw_aload_n X dX11_keep_9 rfl ?_
  refine aw_getr X dX11_keep_10 fl_RX11_10 iu_RX11 gu_RX11_0 ?_
  refine aw_getr X dX11_keep_13 fl_RX11_57 iu_RX11_0 (gt_RX10_0 iu_RX11_0) ?_
  obtain ⟨r2, er2, h⟩ := bnd h
  refine aw_callV X dX11_keep_16 cv_RX11_195 (ok_X0_copyFrom (rdq_io ev1) (it_RX10_0 iu_RX11_0) er2 _ _ _ _ _) (rdq_io ev1) rfl (Nat.le_trans (by decide) hfr) (by decide) rfl rfl (Nat.le_of_ble_eq_true rfl) ?_
  refine aw_aload_n X dX11_keep_19 rfl ?_
  refine aw_aload_n X dX11_keep_20 rfl ?_
  refine aw_geti X dX11_keep_21 fl_RX11_40 iu_RX11 gu_RX11_6 ?_
  refine aw_iconst (v := 5) X dX11_keep_24 (by decide) ?_
  refine aw_icmp_ne (tgt := 32) X dX11_keep_25 (by decide) (fun c3 => ?_) (fun c3 => ?_)
  · rw [if_neg c3] at h
    refine aw_aload_n X dX11_keep_32 rfl ?_
    refine aw_geti X dX11_keep_33 fl_RX11_40 iu_RX11 gu_RX11_6 ?_
    refine aw_iconst (v := 1) X dX11_keep_36 (by decide) ?_
    refine aw_iadd X dX11_keep_37 ?_
    refine aw_msk [true] ?_
    exact jo_X11_keep_38 hfr Z X _ _ _ hz h
  · rw [if_pos c3] at h
    refine aw_iconst (v := 0) X dX11_keep_28 (by decide) ?_
    refine aw_goto (tgt := 38) X dX11_keep_29 (by decide) ?_
    refine aw_msk [true] ?_
    exact jo_X11_keep_38 hfr Z X _ _ _ hz h
set_option maxRecDepth 100000 in
set_option maxHeartbeats 4000000 in
theorem ok_X11_keep {s : Mem} {r : Mem} (h : f_X11_keep s = some r) (l : Launch) (D : va_G) (ρ : Nat → Nat) (cA : ClassId × ClassId × ClassId) (τ : AT) : AM l D ρ cA 0 τ yX11_keep cX11_keep 1 none 1 [.ref (ρ 0)] none s r := by
  refine AM_of (L := [some (.ref (ρ 0))]) (by decide) (by simp [Value.category]) (Nat.le_of_ble_eq_true rfl) (fun j v q => ?_) (fun Z X hρ hz => ?_)
  · exact aL_ok (n := 0) [.ref (ρ 0)] j v q
  · subst hρ
    exact w_X11_keep (Nat.le_refl _) Z X s r hz h

theorem dX11_act_0 : decode cX11_act 0 = .ok (.aload_n 0, 1) := by decide +kernel
theorem dX11_act_1 : decode cX11_act 1 = .ok (.iload_n 1, 1) := by decide +kernel
theorem dX11_act_2 : decode cX11_act 2 = .ok (.iload_n 2, 1) := by decide +kernel
theorem dX11_act_3 : decode cX11_act 3 = .ok (.iload_n 3, 1) := by decide +kernel
theorem dX11_act_4 : decode cX11_act 4 = .ok (.invokevirtual 85, 3) := by decide +kernel
theorem dX11_act_7 : decode cX11_act 7 = .ok (.ifCond .ne 5, 3) := by decide +kernel
theorem dX11_act_10 : decode cX11_act 10 = .ok (.iconst 0, 1) := by decide +kernel
theorem dX11_act_11 : decode cX11_act 11 = .ok (.ireturn, 1) := by decide +kernel
theorem dX11_act_12 : decode cX11_act 12 = .ok (.aload_n 0, 1) := by decide +kernel
theorem dX11_act_13 : decode cX11_act 13 = .ok (.invokevirtual 89, 3) := by decide +kernel
theorem dX11_act_16 : decode cX11_act 16 = .ok (.iload_n 1, 1) := by decide +kernel
theorem dX11_act_17 : decode cX11_act 17 = .ok (.tableswitch 83 0 2 #[27, 46, 64], 27) := by decide +kernel
theorem dX11_act_44 : decode cX11_act 44 = .ok (.aload_n 0, 1) := by decide +kernel
theorem dX11_act_45 : decode cX11_act 45 = .ok (.getfield 10, 3) := by decide +kernel
theorem dX11_act_48 : decode cX11_act 48 = .ok (.aload_n 0, 1) := by decide +kernel
theorem dX11_act_49 : decode cX11_act 49 = .ok (.getfield 10, 3) := by decide +kernel
theorem dX11_act_52 : decode cX11_act 52 = .ok (.getfield 57, 3) := by decide +kernel
theorem dX11_act_55 : decode cX11_act 55 = .ok (.iload_n 2, 1) := by decide +kernel
theorem dX11_act_56 : decode cX11_act 56 = .ok (.iload_n 3, 1) := by decide +kernel
theorem dX11_act_57 : decode cX11_act 57 = .ok (.invokevirtual 92, 3) := by decide +kernel
theorem dX11_act_60 : decode cX11_act 60 = .ok (.goto 56, 3) := by decide +kernel
theorem dX11_act_63 : decode cX11_act 63 = .ok (.aload_n 0, 1) := by decide +kernel
theorem dX11_act_64 : decode cX11_act 64 = .ok (.getfield 10, 3) := by decide +kernel
theorem dX11_act_67 : decode cX11_act 67 = .ok (.aload_n 0, 1) := by decide +kernel
theorem dX11_act_68 : decode cX11_act 68 = .ok (.getfield 10, 3) := by decide +kernel
theorem dX11_act_71 : decode cX11_act 71 = .ok (.getfield 57, 3) := by decide +kernel
theorem dX11_act_74 : decode cX11_act 74 = .ok (.iload_n 2, 1) := by decide +kernel
theorem dX11_act_75 : decode cX11_act 75 = .ok (.invokevirtual 96, 3) := by decide +kernel
theorem dX11_act_78 : decode cX11_act 78 = .ok (.goto 38, 3) := by decide +kernel
theorem dX11_act_81 : decode cX11_act 81 = .ok (.aload_n 0, 1) := by decide +kernel
theorem dX11_act_82 : decode cX11_act 82 = .ok (.getfield 10, 3) := by decide +kernel
theorem dX11_act_85 : decode cX11_act 85 = .ok (.aload_n 0, 1) := by decide +kernel
theorem dX11_act_86 : decode cX11_act 86 = .ok (.getfield 10, 3) := by decide +kernel
theorem dX11_act_89 : decode cX11_act 89 = .ok (.getfield 57, 3) := by decide +kernel
theorem dX11_act_92 : decode cX11_act 92 = .ok (.iload_n 2, 1) := by decide +kernel
theorem dX11_act_93 : decode cX11_act 93 = .ok (.iload_n 3, 1) := by decide +kernel
theorem dX11_act_94 : decode cX11_act 94 = .ok (.invokevirtual 100, 3) := by decide +kernel
theorem dX11_act_97 : decode cX11_act 97 = .ok (.goto 19, 3) := by decide +kernel
theorem dX11_act_100 : decode cX11_act 100 = .ok (.aload_n 0, 1) := by decide +kernel
theorem dX11_act_101 : decode cX11_act 101 = .ok (.getfield 10, 3) := by decide +kernel
theorem dX11_act_104 : decode cX11_act 104 = .ok (.aload_n 0, 1) := by decide +kernel
theorem dX11_act_105 : decode cX11_act 105 = .ok (.getfield 10, 3) := by decide +kernel
theorem dX11_act_108 : decode cX11_act 108 = .ok (.getfield 57, 3) := by decide +kernel
theorem dX11_act_111 : decode cX11_act 111 = .ok (.iload_n 2, 1) := by decide +kernel
theorem dX11_act_112 : decode cX11_act 112 = .ok (.invokevirtual 103, 3) := by decide +kernel
theorem dX11_act_115 : decode cX11_act 115 = .ok (.pop, 1) := by decide +kernel
theorem dX11_act_116 : decode cX11_act 116 = .ok (.iconst 1, 1) := by decide +kernel
theorem dX11_act_117 : decode cX11_act 117 = .ok (.ireturn, 1) := by decide +kernel
def f_X11_act (x1 : Int32) (x2 : Int32) (x3 : Int32) (s : Mem) : Option (Int32 × Mem) :=
  (f_X11_canAct x1 x2 x3 s).bind fun r1 =>
  if r1.1 = 0 then
  some (0, r1.2)
  else
  (f_X11_keep r1.2).bind fun r3 =>
  if x1 = 0 then
  (f_X10_nameOne 1 (1 + 1) x2 x3 r3).bind fun r5 =>
  some (1, r5)
  else if x1 = 1 then
  (f_X10_frighten 1 (1 + 1) x2 r3).bind fun r7 =>
  some (1, r7)
  else if x1 = 2 then
  (f_X10_handOn 1 (1 + 1) x2 x3 r3).bind fun r9 =>
  some (1, r9)
  else 
  (f_X10_speak 1 (1 + 1) x2 r3).bind fun r10 =>
  some (1, r10.2)
set_option maxRecDepth 100000 in
set_option maxHeartbeats 4000000 in
theorem w_X11_act {fr : Nat} (hfr : 5 ≤ fr) (Z : AZ) (X : AX Z cX11_act 4 RX11 (some .boolean) 0 fr) (x1 : Int32) (x2 : Int32) (x3 : Int32) (s : Mem) (r : Int32 × Mem) (hz : zres Z = (some (.int r.1), r.2)) (h : f_X11_act x1 x2 x3 s = some r) : AW Z s 0 [some (.ref (zr Z 0)), some (.int x1), some (.int x2), some (.int x3)] [] := by
  unfold f_X11_act at h
  refine aw_aload_n X dX11_act_0 rfl ?_
  refine aw_iload_n X dX11_act_1 rfl ?_
  refine aw_iload_n X dX11_act_2 rfl ?_
  refine aw_iload_n X dX11_act_3 rfl ?_
  obtain ⟨r1, er1, h⟩ := bnd h
  refine aw_callV X dX11_act_4 cv_RX11_85 (ok_X11_canAct er1 _ _ _ _ _) iu_RX11 rfl (Nat.le_trans (by decide) hfr) (by decide) rfl rfl (Nat.le_of_ble_eq_true rfl) ?_
  refine aw_if_ne (tgt := 12) X dX11_act_7 (by decide) (fun c2 => ?_) (fun c2 => ?_)
  · rw [if_neg c2] at h
    refine aw_aload_n X dX11_act_12 rfl ?_
    obtain ⟨r3, er3, h⟩ := bnd h
    refine aw_callV X dX11_act_13 cv_RX11_89 (ok_X11_keep er3 _ _ _ _ _) iu_RX11 rfl (Nat.le_trans (by decide) hfr) (by decide) rfl rfl (Nat.le_of_ble_eq_true rfl) ?_
    refine aw_iload_n X dX11_act_16 rfl ?_
    by_cases c4 : x1 = 0
    · rw [if_pos c4] at h
      refine aw_tsw (tgt := 44) X dX11_act_17 (by rw [c4]; decide) ?_
      refine aw_aload_n X dX11_act_44 rfl ?_
      refine aw_getr X dX11_act_45 fl_RX11_10 iu_RX11 gu_RX11_0 ?_
      refine aw_aload_n X dX11_act_48 rfl ?_
      refine aw_getr X dX11_act_49 fl_RX11_10 iu_RX11 gu_RX11_0 ?_
      refine aw_getr X dX11_act_52 fl_RX11_57 iu_RX11_0 (gt_RX10_0 iu_RX11_0) ?_
      refine aw_iload_n X dX11_act_55 rfl ?_
      refine aw_iload_n X dX11_act_56 rfl ?_
      obtain ⟨r5, er5, h⟩ := bnd h
      refine aw_callV X dX11_act_57 cv_RX11_92 (ok_X10_nameOne iu_RX11_0 (it_RX10_0 iu_RX11_0) er5 _ _ _ _ _) iu_RX11_0 rfl (Nat.le_trans (by decide) hfr) (by decide) rfl rfl (Nat.le_of_ble_eq_true rfl) ?_
      refine aw_goto (tgt := 116) X dX11_act_60 (by decide) ?_
      refine aw_iconst (v := 1) X dX11_act_116 (by decide) ?_
      cases h
      exact aw_zret X dX11_act_117 rfl rfl hz.symm
    rw [if_neg c4] at h
    by_cases c6 : x1 = 1
    · rw [if_pos c6] at h
      refine aw_tsw (tgt := 63) X dX11_act_17 (by rw [c6]; decide) ?_
      refine aw_aload_n X dX11_act_63 rfl ?_
      refine aw_getr X dX11_act_64 fl_RX11_10 iu_RX11 gu_RX11_0 ?_
      refine aw_aload_n X dX11_act_67 rfl ?_
      refine aw_getr X dX11_act_68 fl_RX11_10 iu_RX11 gu_RX11_0 ?_
      refine aw_getr X dX11_act_71 fl_RX11_57 iu_RX11_0 (gt_RX10_0 iu_RX11_0) ?_
      refine aw_iload_n X dX11_act_74 rfl ?_
      obtain ⟨r7, er7, h⟩ := bnd h
      refine aw_callV X dX11_act_75 cv_RX11_96 (ok_X10_frighten iu_RX11_0 (it_RX10_0 iu_RX11_0) er7 _ _ _ _ _) iu_RX11_0 rfl (Nat.le_trans (by decide) hfr) (by decide) rfl rfl (Nat.le_of_ble_eq_true rfl) ?_
      refine aw_goto (tgt := 116) X dX11_act_78 (by decide) ?_
      refine aw_iconst (v := 1) X dX11_act_116 (by decide) ?_
      cases h
      exact aw_zret X dX11_act_117 rfl rfl hz.symm
    rw [if_neg c6] at h
    by_cases c8 : x1 = 2
    · rw [if_pos c8] at h
      refine aw_tsw (tgt := 81) X dX11_act_17 (by rw [c8]; decide) ?_
      refine aw_aload_n X dX11_act_81 rfl ?_
      refine aw_getr X dX11_act_82 fl_RX11_10 iu_RX11 gu_RX11_0 ?_
      refine aw_aload_n X dX11_act_85 rfl ?_
      refine aw_getr X dX11_act_86 fl_RX11_10 iu_RX11 gu_RX11_0 ?_
      refine aw_getr X dX11_act_89 fl_RX11_57 iu_RX11_0 (gt_RX10_0 iu_RX11_0) ?_
      refine aw_iload_n X dX11_act_92 rfl ?_
      refine aw_iload_n X dX11_act_93 rfl ?_
      obtain ⟨r9, er9, h⟩ := bnd h
      refine aw_callV X dX11_act_94 cv_RX11_100 (ok_X10_handOn iu_RX11_0 (it_RX10_0 iu_RX11_0) er9 _ _ _ _ _) iu_RX11_0 rfl (Nat.le_trans (by decide) hfr) (by decide) rfl rfl (Nat.le_of_ble_eq_true rfl) ?_
      refine aw_goto (tgt := 116) X dX11_act_97 (by decide) ?_
      refine aw_iconst (v := 1) X dX11_act_116 (by decide) ?_
      cases h
      exact aw_zret X dX11_act_117 rfl rfl hz.symm
    rw [if_neg c8] at h
    refine aw_tswd (tgt := 100) X dX11_act_17 (by decide) (fun z h1 h2 => ?_) ?_
    · have hz9 : z = 0 ∨ z = 1 ∨ z = 2 := by omega
      rcases hz9 with rfl | rfl | rfl
      · exact c4
      · exact c6
      · exact c8
    refine aw_aload_n X dX11_act_100 rfl ?_
    refine aw_getr X dX11_act_101 fl_RX11_10 iu_RX11 gu_RX11_0 ?_
    refine aw_aload_n X dX11_act_104 rfl ?_
    refine aw_getr X dX11_act_105 fl_RX11_10 iu_RX11 gu_RX11_0 ?_
    refine aw_getr X dX11_act_108 fl_RX11_57 iu_RX11_0 (gt_RX10_0 iu_RX11_0) ?_
    refine aw_iload_n X dX11_act_111 rfl ?_
    obtain ⟨r10, er10, h⟩ := bnd h
    refine aw_callV X dX11_act_112 cv_RX11_103 (ok_X10_speak iu_RX11_0 (it_RX10_0 iu_RX11_0) er10 _ _ _ _ _) iu_RX11_0 rfl (Nat.le_trans (by decide) hfr) (by decide) rfl rfl (Nat.le_of_ble_eq_true rfl) ?_
    refine aw_pop X dX11_act_115 rfl ?_
    refine aw_iconst (v := 1) X dX11_act_116 (by decide) ?_
    cases h
    exact aw_zret X dX11_act_117 rfl rfl hz.symm
  · rw [if_pos c2] at h
    refine aw_iconst (v := 0) X dX11_act_10 (by decide) ?_
    cases h
    exact aw_zret X dX11_act_11 rfl rfl hz.symm
set_option maxRecDepth 100000 in
set_option maxHeartbeats 4000000 in
theorem ok_X11_act {x1 x2 x3 : Int32} {s : Mem} {r : Int32 × Mem} (h : f_X11_act x1 x2 x3 s = some r) (l : Launch) (D : va_G) (ρ : Nat → Nat) (cA : ClassId × ClassId × ClassId) (τ : AT) : AM l D ρ cA 0 τ yX11_act cX11_act 4 (some .boolean) 5 [.ref (ρ 0), .int x1, .int x2, .int x3] (some (.int r.1)) s r.2 := by
  refine AM_of (L := [some (.ref (ρ 0)), some (.int x1), some (.int x2), some (.int x3)]) (by decide) (by simp [Value.category]) (Nat.le_of_ble_eq_true rfl) (fun j v q => ?_) (fun Z X hρ hz => ?_)
  · exact aL_ok (n := 0) [.ref (ρ 0), .int x1, .int x2, .int x3] j v q
  · subst hρ
    exact w_X11_act (Nat.le_refl _) Z X x1 x2 x3 s r hz h

theorem dX11_minutes_0 : decode cX11_minutes 0 = .ok (.iload_n 1, 1) := by decide +kernel
theorem dX11_minutes_1 : decode cX11_minutes 1 = .ok (.iconst 1, 1) := by decide +kernel
theorem dX11_minutes_2 : decode cX11_minutes 2 = .ok (.if_icmp .lt 27, 3) := by decide +kernel
theorem dX11_minutes_5 : decode cX11_minutes 5 = .ok (.iload_n 1, 1) := by decide +kernel
theorem dX11_minutes_6 : decode cX11_minutes 6 = .ok (.bipush 60, 2) := by decide +kernel
theorem dX11_minutes_8 : decode cX11_minutes 8 = .ok (.if_icmp .gt 21, 3) := by decide +kernel
theorem dX11_minutes_11 : decode cX11_minutes 11 = .ok (.aload_n 0, 1) := by decide +kernel
theorem dX11_minutes_12 : decode cX11_minutes 12 = .ok (.getfield 10, 3) := by decide +kernel
theorem dX11_minutes_15 : decode cX11_minutes 15 = .ok (.getfield 57, 3) := by decide +kernel
theorem dX11_minutes_18 : decode cX11_minutes 18 = .ok (.getfield 107, 3) := by decide +kernel
theorem dX11_minutes_21 : decode cX11_minutes 21 = .ok (.iload_n 1, 1) := by decide +kernel
theorem dX11_minutes_22 : decode cX11_minutes 22 = .ok (.iadd, 1) := by decide +kernel
theorem dX11_minutes_23 : decode cX11_minutes 23 = .ok (.sipush 9999, 3) := by decide +kernel
theorem dX11_minutes_26 : decode cX11_minutes 26 = .ok (.if_icmp .le 5, 3) := by decide +kernel
theorem dX11_minutes_29 : decode cX11_minutes 29 = .ok (.iconst (-1), 1) := by decide +kernel
theorem dX11_minutes_30 : decode cX11_minutes 30 = .ok (.ireturn, 1) := by decide +kernel
theorem dX11_minutes_31 : decode cX11_minutes 31 = .ok (.iconst 0, 1) := by decide +kernel
theorem dX11_minutes_32 : decode cX11_minutes 32 = .ok (.istore_n 2, 1) := by decide +kernel
theorem dX11_minutes_33 : decode cX11_minutes 33 = .ok (.iconst 0, 1) := by decide +kernel
theorem dX11_minutes_34 : decode cX11_minutes 34 = .ok (.istore_n 3, 1) := by decide +kernel
theorem dX11_minutes_35 : decode cX11_minutes 35 = .ok (.iload_n 3, 1) := by decide +kernel
theorem dX11_minutes_36 : decode cX11_minutes 36 = .ok (.iload_n 1, 1) := by decide +kernel
theorem dX11_minutes_37 : decode cX11_minutes 37 = .ok (.if_icmp .ge 30, 3) := by decide +kernel
theorem dX11_minutes_40 : decode cX11_minutes 40 = .ok (.aload_n 0, 1) := by decide +kernel
theorem dX11_minutes_41 : decode cX11_minutes 41 = .ok (.invokevirtual 89, 3) := by decide +kernel
theorem dX11_minutes_44 : decode cX11_minutes 44 = .ok (.iload_n 2, 1) := by decide +kernel
theorem dX11_minutes_45 : decode cX11_minutes 45 = .ok (.aload_n 0, 1) := by decide +kernel
theorem dX11_minutes_46 : decode cX11_minutes 46 = .ok (.getfield 10, 3) := by decide +kernel
theorem dX11_minutes_49 : decode cX11_minutes 49 = .ok (.aload_n 0, 1) := by decide +kernel
theorem dX11_minutes_50 : decode cX11_minutes 50 = .ok (.getfield 10, 3) := by decide +kernel
theorem dX11_minutes_53 : decode cX11_minutes 53 = .ok (.getfield 57, 3) := by decide +kernel
theorem dX11_minutes_56 : decode cX11_minutes 56 = .ok (.invokevirtual 110, 3) := by decide +kernel
theorem dX11_minutes_59 : decode cX11_minutes 59 = .ok (.iadd, 1) := by decide +kernel
theorem dX11_minutes_60 : decode cX11_minutes 60 = .ok (.istore_n 2, 1) := by decide +kernel
theorem dX11_minutes_61 : decode cX11_minutes 61 = .ok (.iinc 3 1, 3) := by decide +kernel
theorem dX11_minutes_64 : decode cX11_minutes 64 = .ok (.goto (-29), 3) := by decide +kernel
theorem dX11_minutes_67 : decode cX11_minutes 67 = .ok (.iload_n 2, 1) := by decide +kernel
theorem dX11_minutes_68 : decode cX11_minutes 68 = .ok (.ireturn, 1) := by decide +kernel
def st_X11_minutes_35 (x1 : Int32) (x2 : Int32) (x3 : Int32) (s : Mem) : Option ((Int32 × Int32 × Mem) ⊕ (Int32 × Mem)) :=
  if x1 ≤ x3 then
  some (.inr (x2, s))
  else
  (f_X11_keep s).bind fun r5 =>
  (f_X10_passMinute 1 (1 + 1) r5).bind fun r6 =>
  some (.inl ((x2 + r6.1), (x3 + 1), r6.2))
def f_X11_minutes (x1 : Int32) (s : Mem) : Option (Int32 × Mem) :=
  if x1 < 1 then
  some ((-1), s)
  else
  if 60 < x1 then
  some ((-1), s)
  else
  if ((s (1 + 1) 10) + x1) ≤ 9999 then
  (it FUEL (fun y => st_X11_minutes_35 x1 y.1 y.2.1 y.2.2) (0, 0, s)).bind fun r7 =>
  some (r7.1, r7.2)
  else
  some ((-1), s)
set_option maxRecDepth 100000 in
set_option maxHeartbeats 4000000 in
theorem so_X11_minutes_35 {fr : Nat} (hfr : 6 ≤ fr) (Z : AZ) (X : AX Z cX11_minutes 4 RX11 (some .int) 0 fr) (x1 : Int32) (x2 : Int32) (x3 : Int32) (s : Mem) (q : (Int32 × Int32 × Mem) ⊕ (Int32 × Mem)) (h : st_X11_minutes_35 x1 x2 x3 s = some q) (hi : ∀ y : Int32 × Int32 × Mem, q = .inl y → AW Z y.2.2 35 [some (.ref (zr Z 0)), some (.int x1), some (.int y.1), some (.int y.2.1)] []) (he : ∀ b : Int32 × Mem, q = .inr b → AW Z b.2 67 [none, none, some (.int b.1), none] []) : AW Z s 35 [some (.ref (zr Z 0)), some (.int x1), some (.int x2), some (.int x3)] [] := by
  unfold st_X11_minutes_35 at h
  refine aw_iload_n X dX11_minutes_35 rfl ?_
  refine aw_iload_n X dX11_minutes_36 rfl ?_
  refine aw_icmp_ge (tgt := 67) X dX11_minutes_37 (by decide) (fun c4 => ?_) (fun c4 => ?_)
  · rw [if_pos c4] at h
    cases h
    refine aw_msk [false, false, true, false] ?_
    exact he _ rfl
  · rw [if_neg c4] at h
    refine aw_aload_n X dX11_minutes_40 rfl ?_
    obtain ⟨r5, er5, h⟩ := bnd h
    refine aw_callV X dX11_minutes_41 cv_RX11_89 (ok_X11_keep er5 _ _ _ _ _) iu_RX11 rfl (Nat.le_trans (by decide) hfr) (by decide) rfl rfl (Nat.le_of_ble_eq_true rfl) ?_
    refine aw_iload_n X dX11_minutes_44 rfl ?_
    refine aw_aload_n X dX11_minutes_45 rfl ?_
    refine aw_getr X dX11_minutes_46 fl_RX11_10 iu_RX11 gu_RX11_0 ?_
    refine aw_aload_n X dX11_minutes_49 rfl ?_
    refine aw_getr X dX11_minutes_50 fl_RX11_10 iu_RX11 gu_RX11_0 ?_
    refine aw_getr X dX11_minutes_53 fl_RX11_57 iu_RX11_0 (gt_RX10_0 iu_RX11_0) ?_
    obtain ⟨r6, er6, h⟩ := bnd h
    refine aw_callV X dX11_minutes_56 cv_RX11_110 (ok_X10_passMinute iu_RX11_0 (it_RX10_0 iu_RX11_0) er6 _ _ _ _ _) iu_RX11_0 rfl (Nat.le_trans (by decide) hfr) (by decide) rfl rfl (Nat.le_of_ble_eq_true rfl) ?_
    refine aw_iadd X dX11_minutes_59 ?_
    refine aw_istore_n (L' := [some (.ref (zr Z 0)), some (.int x1), some (.int (x2 + r6.1)), some (.int x3)]) X dX11_minutes_60 (by decide) rfl ?_
    refine aw_iinc (v := (x3 + 1)) (L' := [some (.ref (zr Z 0)), some (.int x1), some (.int (x2 + r6.1)), some (.int (x3 + 1))]) X dX11_minutes_61 rfl rfl (by decide) rfl ?_
    refine aw_goto (tgt := 35) X dX11_minutes_64 (by decide) ?_
    cases h
    refine aw_msk [true, true, true, true] ?_
    exact hi _ rfl
set_option maxRecDepth 100000 in
set_option maxHeartbeats 4000000 in
theorem w_X11_minutes {fr : Nat} (hfr : 6 ≤ fr) (Z : AZ) (X : AX Z cX11_minutes 4 RX11 (some .int) 0 fr) (x1 : Int32) (s : Mem) (r : Int32 × Mem) (hz : zres Z = (some (.int r.1), r.2)) (h : f_X11_minutes x1 s = some r) : AW Z s 0 [some (.ref (zr Z 0)), some (.int x1), none, none] [] := by
  unfold f_X11_minutes at h
  refine aw_iload_n X dX11_minutes_0 rfl ?_
  refine aw_iconst (v := 1) X dX11_minutes_1 (by decide) ?_
  refine aw_icmp_lt (tgt := 29) X dX11_minutes_2 (by decide) (fun c1 => ?_) (fun c1 => ?_)
  · rw [if_pos c1] at h
    refine aw_iconst (v := (-1)) X dX11_minutes_29 (by decide) ?_
    cases h
    exact aw_iret X dX11_minutes_30 rfl hz.symm
  · rw [if_neg c1] at h
    refine aw_iload_n X dX11_minutes_5 rfl ?_
    refine aw_bipush (v := 60) X dX11_minutes_6 (by decide) ?_
    refine aw_icmp_gt (tgt := 29) X dX11_minutes_8 (by decide) (fun c2 => ?_) (fun c2 => ?_)
    · rw [if_pos c2] at h
      refine aw_iconst (v := (-1)) X dX11_minutes_29 (by decide) ?_
      cases h
      exact aw_iret X dX11_minutes_30 rfl hz.symm
    · rw [if_neg c2] at h
      refine aw_aload_n X dX11_minutes_11 rfl ?_
      refine aw_getr X dX11_minutes_12 fl_RX11_10 iu_RX11 gu_RX11_0 ?_
      refine aw_getr X dX11_minutes_15 fl_RX11_57 iu_RX11_0 (gt_RX10_0 iu_RX11_0) ?_
      refine aw_geti X dX11_minutes_18 fl_RX11_107 (it_RX10_0 iu_RX11_0) (gt_RX0_10 (it_RX10_0 iu_RX11_0)) ?_
      refine aw_iload_n X dX11_minutes_21 rfl ?_
      refine aw_iadd X dX11_minutes_22 ?_
      refine aw_sipush (v := 9999) X dX11_minutes_23 (by decide) ?_
      refine aw_icmp_le (tgt := 31) X dX11_minutes_26 (by decide) (fun c3 => ?_) (fun c3 => ?_)
      · rw [if_pos c3] at h
        refine aw_iconst (v := 0) X dX11_minutes_31 (by decide) ?_
        refine aw_istore_n (L' := [some (.ref (zr Z 0)), some (.int x1), some (.int 0), none]) X dX11_minutes_32 (by decide) rfl ?_
        refine aw_iconst (v := 0) X dX11_minutes_33 (by decide) ?_
        refine aw_istore_n (L' := [some (.ref (zr Z 0)), some (.int x1), some (.int 0), some (.int 0)]) X dX11_minutes_34 (by decide) rfl ?_
        obtain ⟨r7, er7, h⟩ := bnd h
        refine aw_msk [true, true, true, true] ?_
        refine it_ok (P := fun y : Int32 × Int32 × Mem => AW Z y.2.2 35 [some (.ref (zr Z 0)), some (.int x1), some (.int y.1), some (.int y.2.1)] []) (Q := fun b : Int32 × Mem => AW Z b.2 67 [none, none, some (.int b.1), none] []) (fun y q hq hi he => so_X11_minutes_35 hfr Z X x1 y.1 y.2.1 y.2.2 q hq hi he) FUEL _ _ er7 ?_
        refine aw_iload_n X dX11_minutes_67 rfl ?_
        cases h
        exact aw_iret X dX11_minutes_68 rfl hz.symm
      · rw [if_neg c3] at h
        refine aw_iconst (v := (-1)) X dX11_minutes_29 (by decide) ?_
        cases h
        exact aw_iret X dX11_minutes_30 rfl hz.symm
set_option maxRecDepth 100000 in
set_option maxHeartbeats 4000000 in
theorem ok_X11_minutes {x1 : Int32} {s : Mem} {r : Int32 × Mem} (h : f_X11_minutes x1 s = some r) (l : Launch) (D : va_G) (ρ : Nat → Nat) (cA : ClassId × ClassId × ClassId) (τ : AT) : AM l D ρ cA 0 τ yX11_minutes cX11_minutes 4 (some .int) 6 [.ref (ρ 0), .int x1] (some (.int r.1)) s r.2 := by
  refine AM_of (L := [some (.ref (ρ 0)), some (.int x1), none, none]) (by decide) (by simp [Value.category]) (Nat.le_of_ble_eq_true rfl) (fun j v q => ?_) (fun Z X hρ hz => ?_)
  · exact aL_ok (n := 2) [.ref (ρ 0), .int x1] j v q
  · subst hρ
    exact w_X11_minutes (Nat.le_refl _) Z X x1 s r hz h

theorem dX11_feed_0 : decode cX11_feed 0 = .ok (.aload_n 0, 1) := by decide +kernel
theorem dX11_feed_1 : decode cX11_feed 1 = .ok (.getfield 46, 3) := by decide +kernel
theorem dX11_feed_4 : decode cX11_feed 4 = .ok (.getfield 114, 3) := by decide +kernel
theorem dX11_feed_7 : decode cX11_feed 7 = .ok (.astore 6, 2) := by decide +kernel
theorem dX11_feed_9 : decode cX11_feed 9 = .ok (.aload 6, 2) := by decide +kernel
theorem dX11_feed_11 : decode cX11_feed 11 = .ok (.bipush 20, 2) := by decide +kernel
theorem dX11_feed_13 : decode cX11_feed 13 = .ok (.invokevirtual 118, 3) := by decide +kernel
theorem dX11_feed_16 : decode cX11_feed 16 = .ok (.ifCond .ne 5, 3) := by decide +kernel
theorem dX11_feed_19 : decode cX11_feed 19 = .ok (.iconst (-1), 1) := by decide +kernel
theorem dX11_feed_20 : decode cX11_feed 20 = .ok (.ireturn, 1) := by decide +kernel
theorem dX11_feed_21 : decode cX11_feed 21 = .ok (.aload 6, 2) := by decide +kernel
theorem dX11_feed_23 : decode cX11_feed 23 = .ok (.iload_n 1, 1) := by decide +kernel
theorem dX11_feed_24 : decode cX11_feed 24 = .ok (.invokevirtual 123, 3) := by decide +kernel
theorem dX11_feed_27 : decode cX11_feed 27 = .ok (.aload 6, 2) := by decide +kernel
theorem dX11_feed_29 : decode cX11_feed 29 = .ok (.iload_n 2, 1) := by decide +kernel
theorem dX11_feed_30 : decode cX11_feed 30 = .ok (.invokevirtual 123, 3) := by decide +kernel
theorem dX11_feed_33 : decode cX11_feed 33 = .ok (.aload 6, 2) := by decide +kernel
theorem dX11_feed_35 : decode cX11_feed 35 = .ok (.iload_n 3, 1) := by decide +kernel
theorem dX11_feed_36 : decode cX11_feed 36 = .ok (.invokevirtual 123, 3) := by decide +kernel
theorem dX11_feed_39 : decode cX11_feed 39 = .ok (.aload 6, 2) := by decide +kernel
theorem dX11_feed_41 : decode cX11_feed 41 = .ok (.iload 4, 2) := by decide +kernel
theorem dX11_feed_43 : decode cX11_feed 43 = .ok (.invokevirtual 123, 3) := by decide +kernel
theorem dX11_feed_46 : decode cX11_feed 46 = .ok (.aload 6, 2) := by decide +kernel
theorem dX11_feed_48 : decode cX11_feed 48 = .ok (.iload 5, 2) := by decide +kernel
theorem dX11_feed_50 : decode cX11_feed 50 = .ok (.invokevirtual 123, 3) := by decide +kernel
theorem dX11_feed_53 : decode cX11_feed 53 = .ok (.aload 6, 2) := by decide +kernel
theorem dX11_feed_55 : decode cX11_feed 55 = .ok (.getfield 127, 3) := by decide +kernel
theorem dX11_feed_58 : decode cX11_feed 58 = .ok (.ireturn, 1) := by decide +kernel
def f_X11_feed (x1 : Int32) (x2 : Int32) (x3 : Int32) (x4 : Int32) (x5 : Int32) (s : Mem) : Option (Int32 × Mem) :=
  (f_X6_hasSpace 20 s).bind fun r1 =>
  if r1.1 = 0 then
  some ((-1), r1.2)
  else
  (f_X6_put x1 r1.2).bind fun r3 =>
  (f_X6_put x2 r3).bind fun r4 =>
  (f_X6_put x3 r4).bind fun r5 =>
  (f_X6_put x4 r5).bind fun r6 =>
  (f_X6_put x5 r6).bind fun r7 =>
  some ((r7 173 0), r7)
set_option maxRecDepth 100000 in
set_option maxHeartbeats 4000000 in
theorem w_X11_feed {fr : Nat} (hfr : 1 ≤ fr) (Z : AZ) (X : AX Z cX11_feed 7 RX11 (some .int) 0 fr) (x1 : Int32) (x2 : Int32) (x3 : Int32) (x4 : Int32) (x5 : Int32) (s : Mem) (r : Int32 × Mem) (hz : zres Z = (some (.int r.1), r.2)) (h : f_X11_feed x1 x2 x3 x4 x5 s = some r) : AW Z s 0 [some (.ref (zr Z 0)), some (.int x1), some (.int x2), some (.int x3), some (.int x4), some (.int x5), none] [] := by
  unfold f_X11_feed at h
  refine aw_aload_n X dX11_feed_0 rfl ?_
  refine aw_getr X dX11_feed_1 fl_RX11_46 iu_RX11 gu_RX11_7 ?_
  refine aw_getr X dX11_feed_4 fl_RX11_114 iu_RX11_7 gu_RX4_0 ?_
  refine aw_astore (L' := [some (.ref (zr Z 0)), some (.int x1), some (.int x2), some (.int x3), some (.int x4), some (.int x5), some (.ref (zr Z 173))]) X dX11_feed_7 (by decide) rfl ?_
  refine aw_aload X dX11_feed_9 rfl ?_
  refine aw_bipush (v := 20) X dX11_feed_11 (by decide) ?_
  obtain ⟨r1, er1, h⟩ := bnd h
  refine aw_callV X dX11_feed_13 cv_RX11_118 (ok_X6_hasSpace er1 _ _ _ _ _) iu_RX4_0 rfl (Nat.le_trans (by decide) hfr) (by decide) rfl rfl (Nat.le_of_ble_eq_true rfl) ?_
  refine aw_if_ne (tgt := 21) X dX11_feed_16 (by decide) (fun c2 => ?_) (fun c2 => ?_)
  · rw [if_neg c2] at h
    refine aw_aload X dX11_feed_21 rfl ?_
    refine aw_iload_n X dX11_feed_23 rfl ?_
    obtain ⟨r3, er3, h⟩ := bnd h
    refine aw_callV X dX11_feed_24 cv_RX11_123 (ok_X6_put er3 _ _ _ _ _) iu_RX4_0 rfl (Nat.le_trans (by decide) hfr) (by decide) rfl rfl (Nat.le_of_ble_eq_true rfl) ?_
    refine aw_aload X dX11_feed_27 rfl ?_
    refine aw_iload_n X dX11_feed_29 rfl ?_
    obtain ⟨r4, er4, h⟩ := bnd h
    refine aw_callV X dX11_feed_30 cv_RX11_123 (ok_X6_put er4 _ _ _ _ _) iu_RX4_0 rfl (Nat.le_trans (by decide) hfr) (by decide) rfl rfl (Nat.le_of_ble_eq_true rfl) ?_
    refine aw_aload X dX11_feed_33 rfl ?_
    refine aw_iload_n X dX11_feed_35 rfl ?_
    obtain ⟨r5, er5, h⟩ := bnd h
    refine aw_callV X dX11_feed_36 cv_RX11_123 (ok_X6_put er5 _ _ _ _ _) iu_RX4_0 rfl (Nat.le_trans (by decide) hfr) (by decide) rfl rfl (Nat.le_of_ble_eq_true rfl) ?_
    refine aw_aload X dX11_feed_39 rfl ?_
    refine aw_iload X dX11_feed_41 rfl ?_
    obtain ⟨r6, er6, h⟩ := bnd h
    refine aw_callV X dX11_feed_43 cv_RX11_123 (ok_X6_put er6 _ _ _ _ _) iu_RX4_0 rfl (Nat.le_trans (by decide) hfr) (by decide) rfl rfl (Nat.le_of_ble_eq_true rfl) ?_
    refine aw_aload X dX11_feed_46 rfl ?_
    refine aw_iload X dX11_feed_48 rfl ?_
    obtain ⟨r7, er7, h⟩ := bnd h
    refine aw_callV X dX11_feed_50 cv_RX11_123 (ok_X6_put er7 _ _ _ _ _) iu_RX4_0 rfl (Nat.le_trans (by decide) hfr) (by decide) rfl rfl (Nat.le_of_ble_eq_true rfl) ?_
    refine aw_aload X dX11_feed_53 rfl ?_
    refine aw_geti X dX11_feed_55 fl_RX11_127 iu_RX4_0 gu_RX6_0 ?_
    cases h
    exact aw_iret X dX11_feed_58 rfl hz.symm
  · rw [if_pos c2] at h
    refine aw_iconst (v := (-1)) X dX11_feed_19 (by decide) ?_
    cases h
    exact aw_iret X dX11_feed_20 rfl hz.symm
set_option maxRecDepth 100000 in
set_option maxHeartbeats 4000000 in
theorem ok_X11_feed {x1 x2 x3 x4 x5 : Int32} {s : Mem} {r : Int32 × Mem} (h : f_X11_feed x1 x2 x3 x4 x5 s = some r) (l : Launch) (D : va_G) (ρ : Nat → Nat) (cA : ClassId × ClassId × ClassId) (τ : AT) : AM l D ρ cA 0 τ yX11_feed cX11_feed 7 (some .int) 1 [.ref (ρ 0), .int x1, .int x2, .int x3, .int x4, .int x5] (some (.int r.1)) s r.2 := by
  refine AM_of (L := [some (.ref (ρ 0)), some (.int x1), some (.int x2), some (.int x3), some (.int x4), some (.int x5), none]) (by decide) (by simp [Value.category]) (Nat.le_of_ble_eq_true rfl) (fun j v q => ?_) (fun Z X hρ hz => ?_)
  · exact aL_ok (n := 1) [.ref (ρ 0), .int x1, .int x2, .int x3, .int x4, .int x5] j v q
  · subst hρ
    exact w_X11_feed (Nat.le_refl _) Z X x1 x2 x3 x4 x5 s r hz h

theorem dX11_end_0 : decode cX11_end 0 = .ok (.aload_n 0, 1) := by decide +kernel
theorem dX11_end_1 : decode cX11_end 1 = .ok (.getfield 46, 3) := by decide +kernel
theorem dX11_end_4 : decode cX11_end 4 = .ok (.getfield 114, 3) := by decide +kernel
theorem dX11_end_7 : decode cX11_end 7 = .ok (.iload_n 1, 1) := by decide +kernel
theorem dX11_end_8 : decode cX11_end 8 = .ok (.invokevirtual 130, 3) := by decide +kernel
theorem dX11_end_11 : decode cX11_end 11 = .ok (.ireturn, 1) := by decide +kernel
def f_X11_end (x1 : Int32) (s : Mem) : Option (Int32 × Mem) :=
  (f_X6_cut x1 s).bind fun r1 =>
  if ¬ (r1.1 = 0 ∨ r1.1 = 1) then none else some (r1.1, r1.2)
set_option maxRecDepth 100000 in
set_option maxHeartbeats 4000000 in
theorem w_X11_end {fr : Nat} (hfr : 1 ≤ fr) (Z : AZ) (X : AX Z cX11_end 2 RX11 (some .boolean) 0 fr) (x1 : Int32) (s : Mem) (r : Int32 × Mem) (hz : zres Z = (some (.int r.1), r.2)) (h : f_X11_end x1 s = some r) : AW Z s 0 [some (.ref (zr Z 0)), some (.int x1)] [] := by
  unfold f_X11_end at h
  refine aw_aload_n X dX11_end_0 rfl ?_
  refine aw_getr X dX11_end_1 fl_RX11_46 iu_RX11 gu_RX11_7 ?_
  refine aw_getr X dX11_end_4 fl_RX11_114 iu_RX11_7 gu_RX4_0 ?_
  refine aw_iload_n X dX11_end_7 rfl ?_
  obtain ⟨r1, er1, h⟩ := bnd h
  refine aw_callV X dX11_end_8 cv_RX11_130 (ok_X6_cut er1 _ _ _ _ _) iu_RX4_0 rfl (Nat.le_trans (by decide) hfr) (by decide) rfl rfl (Nat.le_of_ble_eq_true rfl) ?_
  by_cases c2 : ¬ (r1.1 = 0 ∨ r1.1 = 1)
  · rw [if_pos c2] at h
    cases h
  rw [if_neg c2] at h
  cases h
  exact aw_zret X dX11_end_11 rfl (bz_n (Decidable.of_not_not c2)) hz.symm
set_option maxRecDepth 100000 in
set_option maxHeartbeats 4000000 in
theorem ok_X11_end {x1 : Int32} {s : Mem} {r : Int32 × Mem} (h : f_X11_end x1 s = some r) (l : Launch) (D : va_G) (ρ : Nat → Nat) (cA : ClassId × ClassId × ClassId) (τ : AT) : AM l D ρ cA 0 τ yX11_end cX11_end 2 (some .boolean) 1 [.ref (ρ 0), .int x1] (some (.int r.1)) s r.2 := by
  refine AM_of (L := [some (.ref (ρ 0)), some (.int x1)]) (by decide) (by simp [Value.category]) (Nat.le_of_ble_eq_true rfl) (fun j v q => ?_) (fun Z X hρ hz => ?_)
  · exact aL_ok (n := 0) [.ref (ρ 0), .int x1] j v q
  · subst hρ
    exact w_X11_end (Nat.le_refl _) Z X x1 s r hz h

theorem dX11_fault_0 : decode cX11_fault 0 = .ok (.iload_n 1, 1) := by decide +kernel
theorem dX11_fault_1 : decode cX11_fault 1 = .ok (.ifCond .ne 11, 3) := by decide +kernel
theorem dX11_fault_4 : decode cX11_fault 4 = .ok (.aload_n 0, 1) := by decide +kernel
theorem dX11_fault_5 : decode cX11_fault 5 = .ok (.getfield 46, 3) := by decide +kernel
theorem dX11_fault_8 : decode cX11_fault 8 = .ok (.getfield 163, 3) := by decide +kernel
theorem dX11_fault_11 : decode cX11_fault 11 = .ok (.ireturn, 1) := by decide +kernel
theorem dX11_fault_12 : decode cX11_fault 12 = .ok (.iload_n 1, 1) := by decide +kernel
theorem dX11_fault_13 : decode cX11_fault 13 = .ok (.iconst 1, 1) := by decide +kernel
theorem dX11_fault_14 : decode cX11_fault 14 = .ok (.if_icmp .ne 13, 3) := by decide +kernel
theorem dX11_fault_17 : decode cX11_fault 17 = .ok (.aload_n 0, 1) := by decide +kernel
theorem dX11_fault_18 : decode cX11_fault 18 = .ok (.getfield 46, 3) := by decide +kernel
theorem dX11_fault_21 : decode cX11_fault 21 = .ok (.getfield 166, 3) := by decide +kernel
theorem dX11_fault_24 : decode cX11_fault 24 = .ok (.goto 4, 3) := by decide +kernel
theorem dX11_fault_27 : decode cX11_fault 27 = .ok (.iconst (-1), 1) := by decide +kernel
theorem dX11_fault_28 : decode cX11_fault 28 = .ok (.ireturn, 1) := by decide +kernel
def f_X11_fault (x1 : Int32) (s : Mem) : Option (Int32 × Mem) :=
  if x1 = 0 then
  some ((s 172 1), s)
  else
  if x1 = 1 then
  some ((s 172 2), s)
  else
  some ((-1), s)
set_option maxRecDepth 100000 in
set_option maxHeartbeats 4000000 in
theorem w_X11_fault {fr : Nat} (hfr : 0 ≤ fr) (Z : AZ) (X : AX Z cX11_fault 2 RX11 (some .int) 0 fr) (x1 : Int32) (s : Mem) (r : Int32 × Mem) (hz : zres Z = (some (.int r.1), r.2)) (h : f_X11_fault x1 s = some r) : AW Z s 0 [some (.ref (zr Z 0)), some (.int x1)] [] := by
  unfold f_X11_fault at h
  refine aw_iload_n X dX11_fault_0 rfl ?_
  refine aw_if_ne (tgt := 12) X dX11_fault_1 (by decide) (fun c1 => ?_) (fun c1 => ?_)
  · rw [if_neg c1] at h
    refine aw_iload_n X dX11_fault_12 rfl ?_
    refine aw_iconst (v := 1) X dX11_fault_13 (by decide) ?_
    refine aw_icmp_ne (tgt := 27) X dX11_fault_14 (by decide) (fun c2 => ?_) (fun c2 => ?_)
    · rw [if_neg c2] at h
      refine aw_iconst (v := (-1)) X dX11_fault_27 (by decide) ?_
      cases h
      exact aw_iret X dX11_fault_28 rfl hz.symm
    · rw [if_pos c2] at h
      refine aw_aload_n X dX11_fault_17 rfl ?_
      refine aw_getr X dX11_fault_18 fl_RX11_46 iu_RX11 gu_RX11_7 ?_
      refine aw_geti X dX11_fault_21 fl_RX11_166 iu_RX11_7 gu_RX4_2 ?_
      refine aw_goto (tgt := 28) X dX11_fault_24 (by decide) ?_
      cases h
      exact aw_iret X dX11_fault_28 rfl hz.symm
  · rw [if_pos c1] at h
    refine aw_aload_n X dX11_fault_4 rfl ?_
    refine aw_getr X dX11_fault_5 fl_RX11_46 iu_RX11 gu_RX11_7 ?_
    refine aw_geti X dX11_fault_8 fl_RX11_163 iu_RX11_7 gu_RX4_1 ?_
    cases h
    exact aw_iret X dX11_fault_11 rfl hz.symm
set_option maxRecDepth 100000 in
set_option maxHeartbeats 4000000 in
theorem ok_X11_fault {x1 : Int32} {s : Mem} {r : Int32 × Mem} (h : f_X11_fault x1 s = some r) (l : Launch) (D : va_G) (ρ : Nat → Nat) (cA : ClassId × ClassId × ClassId) (τ : AT) : AM l D ρ cA 0 τ yX11_fault cX11_fault 2 (some .int) 0 [.ref (ρ 0), .int x1] (some (.int r.1)) s r.2 := by
  refine AM_of (L := [some (.ref (ρ 0)), some (.int x1)]) (by decide) (by simp [Value.category]) (Nat.le_of_ble_eq_true rfl) (fun j v q => ?_) (fun Z X hρ hz => ?_)
  · exact aL_ok (n := 0) [.ref (ρ 0), .int x1] j v q
  · subst hρ
    exact w_X11_fault (Nat.le_refl _) Z X x1 s r hz h

theorem dX11_of_0 : decode cX11_of 0 = .ok (.aload_n 0, 1) := by decide +kernel
theorem dX11_of_1 : decode cX11_of 1 = .ok (.getfield 10, 3) := by decide +kernel
theorem dX11_of_4 : decode cX11_of 4 = .ok (.getfield 57, 3) := by decide +kernel
theorem dX11_of_7 : decode cX11_of 7 = .ok (.iload_n 1, 1) := by decide +kernel
theorem dX11_of_8 : decode cX11_of 8 = .ok (.invokevirtual 73, 3) := by decide +kernel
theorem dX11_of_11 : decode cX11_of 11 = .ok (.ifCond .ne 6, 3) := by decide +kernel
theorem dX11_of_14 : decode cX11_of 14 = .ok (.bipush (-2), 2) := by decide +kernel
theorem dX11_of_16 : decode cX11_of 16 = .ok (.ireturn, 1) := by decide +kernel
theorem dX11_of_17 : decode cX11_of 17 = .ok (.iload_n 2, 1) := by decide +kernel
theorem dX11_of_18 : decode cX11_of 18 = .ok (.bipush 20, 2) := by decide +kernel
theorem dX11_of_20 : decode cX11_of 20 = .ok (.if_icmp .lt 35, 3) := by decide +kernel
theorem dX11_of_23 : decode cX11_of 23 = .ok (.iload_n 2, 1) := by decide +kernel
theorem dX11_of_24 : decode cX11_of 24 = .ok (.bipush 34, 2) := by decide +kernel
theorem dX11_of_26 : decode cX11_of 26 = .ok (.if_icmp .ge 29, 3) := by decide +kernel
theorem dX11_of_29 : decode cX11_of 29 = .ok (.aload_n 0, 1) := by decide +kernel
theorem dX11_of_30 : decode cX11_of 30 = .ok (.getfield 10, 3) := by decide +kernel
theorem dX11_of_33 : decode cX11_of 33 = .ok (.getfield 155, 3) := by decide +kernel
theorem dX11_of_36 : decode cX11_of 36 = .ok (.iload_n 1, 1) := by decide +kernel
theorem dX11_of_37 : decode cX11_of 37 = .ok (.iload_n 2, 1) := by decide +kernel
theorem dX11_of_38 : decode cX11_of 38 = .ok (.bipush 20, 2) := by decide +kernel
theorem dX11_of_40 : decode cX11_of 40 = .ok (.isub, 1) := by decide +kernel
theorem dX11_of_41 : decode cX11_of 41 = .ok (.aload_n 0, 1) := by decide +kernel
theorem dX11_of_42 : decode cX11_of 42 = .ok (.getfield 10, 3) := by decide +kernel
theorem dX11_of_45 : decode cX11_of 45 = .ok (.getfield 57, 3) := by decide +kernel
theorem dX11_of_48 : decode cX11_of 48 = .ok (.getfield 66, 3) := by decide +kernel
theorem dX11_of_51 : decode cX11_of 51 = .ok (.invokevirtual 169, 3) := by decide +kernel
theorem dX11_of_54 : decode cX11_of 54 = .ok (.ireturn, 1) := by decide +kernel
theorem dX11_of_55 : decode cX11_of 55 = .ok (.iload_n 2, 1) := by decide +kernel
theorem dX11_of_56 : decode cX11_of 56 = .ok (.ifCond .lt 22, 3) := by decide +kernel
theorem dX11_of_59 : decode cX11_of 59 = .ok (.iload_n 2, 1) := by decide +kernel
theorem dX11_of_60 : decode cX11_of 60 = .ok (.bipush 6, 2) := by decide +kernel
theorem dX11_of_62 : decode cX11_of 62 = .ok (.if_icmp .gt 16, 3) := by decide +kernel
theorem dX11_of_65 : decode cX11_of 65 = .ok (.aload_n 0, 1) := by decide +kernel
theorem dX11_of_66 : decode cX11_of 66 = .ok (.getfield 10, 3) := by decide +kernel
theorem dX11_of_69 : decode cX11_of 69 = .ok (.getfield 57, 3) := by decide +kernel
theorem dX11_of_72 : decode cX11_of 72 = .ok (.iload_n 1, 1) := by decide +kernel
theorem dX11_of_73 : decode cX11_of 73 = .ok (.iload_n 2, 1) := by decide +kernel
theorem dX11_of_74 : decode cX11_of 74 = .ok (.invokevirtual 175, 3) := by decide +kernel
theorem dX11_of_77 : decode cX11_of 77 = .ok (.ireturn, 1) := by decide +kernel
theorem dX11_of_78 : decode cX11_of 78 = .ok (.iload_n 2, 1) := by decide +kernel
theorem dX11_of_79 : decode cX11_of 79 = .ok (.bipush 7, 2) := by decide +kernel
theorem dX11_of_81 : decode cX11_of 81 = .ok (.if_icmp .lt 32, 3) := by decide +kernel
theorem dX11_of_84 : decode cX11_of 84 = .ok (.iload_n 2, 1) := by decide +kernel
theorem dX11_of_85 : decode cX11_of 85 = .ok (.bipush 9, 2) := by decide +kernel
theorem dX11_of_87 : decode cX11_of 87 = .ok (.if_icmp .gt 26, 3) := by decide +kernel
theorem dX11_of_90 : decode cX11_of 90 = .ok (.aload_n 0, 1) := by decide +kernel
theorem dX11_of_91 : decode cX11_of 91 = .ok (.getfield 10, 3) := by decide +kernel
theorem dX11_of_94 : decode cX11_of 94 = .ok (.getfield 136, 3) := by decide +kernel
theorem dX11_of_97 : decode cX11_of 97 = .ok (.iload_n 2, 1) := by decide +kernel
theorem dX11_of_98 : decode cX11_of 98 = .ok (.bipush 7, 2) := by decide +kernel
theorem dX11_of_100 : decode cX11_of 100 = .ok (.isub, 1) := by decide +kernel
theorem dX11_of_101 : decode cX11_of 101 = .ok (.aload_n 0, 1) := by decide +kernel
theorem dX11_of_102 : decode cX11_of 102 = .ok (.getfield 10, 3) := by decide +kernel
theorem dX11_of_105 : decode cX11_of 105 = .ok (.getfield 57, 3) := by decide +kernel
theorem dX11_of_108 : decode cX11_of 108 = .ok (.iload_n 1, 1) := by decide +kernel
theorem dX11_of_109 : decode cX11_of 109 = .ok (.invokevirtual 179, 3) := by decide +kernel
theorem dX11_of_112 : decode cX11_of 112 = .ok (.ireturn, 1) := by decide +kernel
theorem dX11_of_113 : decode cX11_of 113 = .ok (.iload_n 2, 1) := by decide +kernel
theorem dX11_of_114 : decode cX11_of 114 = .ok (.bipush 10, 2) := by decide +kernel
theorem dX11_of_116 : decode cX11_of 116 = .ok (.if_icmp .ne 21, 3) := by decide +kernel
theorem dX11_of_119 : decode cX11_of 119 = .ok (.aload_n 0, 1) := by decide +kernel
theorem dX11_of_120 : decode cX11_of 120 = .ok (.getfield 10, 3) := by decide +kernel
theorem dX11_of_123 : decode cX11_of 123 = .ok (.aload_n 0, 1) := by decide +kernel
theorem dX11_of_124 : decode cX11_of 124 = .ok (.getfield 10, 3) := by decide +kernel
theorem dX11_of_127 : decode cX11_of 127 = .ok (.getfield 57, 3) := by decide +kernel
theorem dX11_of_130 : decode cX11_of 130 = .ok (.iload_n 1, 1) := by decide +kernel
theorem dX11_of_131 : decode cX11_of 131 = .ok (.invokevirtual 185, 3) := by decide +kernel
theorem dX11_of_134 : decode cX11_of 134 = .ok (.goto 5, 3) := by decide +kernel
theorem dX11_of_137 : decode cX11_of 137 = .ok (.bipush (-2), 2) := by decide +kernel
theorem dX11_of_139 : decode cX11_of 139 = .ok (.ireturn, 1) := by decide +kernel
def jn_X11_of_113 (x1 : Int32) (x2 : Int32) (s : Mem) : Option (Int32 × Mem) :=
  if x2 = 10 then
  (f_X10_nextName 1 (1 + 1) x1 s).bind fun r7 =>
  some (r7.1, r7.2)
  else
  some ((-2), s)
def jn_X11_of_78 (x1 : Int32) (x2 : Int32) (s : Mem) : Option (Int32 × Mem) :=
  if x2 < 7 then
  jn_X11_of_113 x1 x2 s
  else
  if 9 < x2 then
  jn_X11_of_113 x1 x2 s
  else
  (f_X1_ask (1 + 9) (1 + 1) (x2 - 7) x1 s).bind fun r9 =>
  some (r9.1, r9.2)
def jn_X11_of_55 (x1 : Int32) (x2 : Int32) (s : Mem) : Option (Int32 × Mem) :=
  if x2 < 0 then
  jn_X11_of_78 x1 x2 s
  else
  if 6 < x2 then
  jn_X11_of_78 x1 x2 s
  else
  (f_X0_told (1 + 1) x1 x2 s).bind fun r11 =>
  some (r11.1, r11.2)
def f_X11_of (x1 : Int32) (x2 : Int32) (s : Mem) : Option (Int32 × Mem) :=
  (f_X0_has (1 + 1) x1 s).bind fun r1 =>
  if r1.1 = 0 then
  some ((-2), r1.2)
  else
  if x2 < 20 then
  jn_X11_of_55 x1 x2 r1.2
  else
  if 34 ≤ x2 then
  jn_X11_of_55 x1 x2 r1.2
  else
  (f_X3_nameAt (1 + 26) x1 (x2 - 20) (r1.2 (1 + 1) 1) r1.2).bind fun r13 =>
  some (r13.1, r13.2)
set_option maxRecDepth 100000 in
set_option maxHeartbeats 4000000 in
theorem jo_X11_of_113 {fr : Nat} (hfr : 4 ≤ fr) (Z : AZ) (X : AX Z cX11_of 3 RX11 (some .int) 0 fr) (x1 : Int32) (x2 : Int32) (s : Mem) (r : Int32 × Mem) (hz : zres Z = (some (.int r.1), r.2)) (h : jn_X11_of_113 x1 x2 s = some r) : AW Z s 113 [some (.ref (zr Z 0)), some (.int x1), some (.int x2)] [] := by
  unfold jn_X11_of_113 at h
  refine aw_iload_n X dX11_of_113 rfl ?_
  refine aw_bipush (v := 10) X dX11_of_114 (by decide) ?_
  refine aw_icmp_ne (tgt := 137) X dX11_of_116 (by decide) (fun c6 => ?_) (fun c6 => ?_)
  · rw [if_neg c6] at h
    refine aw_bipush (v := (-2)) X dX11_of_137 (by decide) ?_
    cases h
    exact aw_iret X dX11_of_139 rfl hz.symm
  · rw [if_pos c6] at h
    refine aw_aload_n X dX11_of_119 rfl ?_
    refine aw_getr X dX11_of_120 fl_RX11_10 iu_RX11 gu_RX11_0 ?_
    refine aw_aload_n X dX11_of_123 rfl ?_
    refine aw_getr X dX11_of_124 fl_RX11_10 iu_RX11 gu_RX11_0 ?_
    refine aw_getr X dX11_of_127 fl_RX11_57 iu_RX11_0 (gt_RX10_0 iu_RX11_0) ?_
    refine aw_iload_n X dX11_of_130 rfl ?_
    obtain ⟨r7, er7, h⟩ := bnd h
    refine aw_callV X dX11_of_131 cv_RX11_185 (ok_X10_nextName iu_RX11_0 (it_RX10_0 iu_RX11_0) er7 _ _ _ _ _) iu_RX11_0 rfl (Nat.le_trans (by decide) hfr) (by decide) rfl rfl (Nat.le_of_ble_eq_true rfl) ?_
    refine aw_goto (tgt := 139) X dX11_of_134 (by decide) ?_
    cases h
    exact aw_iret X dX11_of_139 rfl hz.symm
set_option maxRecDepth 100000 in
set_option maxHeartbeats 4000000 in
theorem jo_X11_of_78 {fr : Nat} (hfr : 4 ≤ fr) (Z : AZ) (X : AX Z cX11_of 3 RX11 (some .int) 0 fr) (x1 : Int32) (x2 : Int32) (s : Mem) (r : Int32 × Mem) (hz : zres Z = (some (.int r.1), r.2)) (h : jn_X11_of_78 x1 x2 s = some r) : AW Z s 78 [some (.ref (zr Z 0)), some (.int x1), some (.int x2)] [] := by
  unfold jn_X11_of_78 at h
  refine aw_iload_n X dX11_of_78 rfl ?_
  refine aw_bipush (v := 7) X dX11_of_79 (by decide) ?_
  refine aw_icmp_lt (tgt := 113) X dX11_of_81 (by decide) (fun c5 => ?_) (fun c5 => ?_)
  · rw [if_pos c5] at h
    refine aw_msk [true, true, true] ?_
    exact jo_X11_of_113 hfr Z X _ _ _ _ hz h
  · rw [if_neg c5] at h
    refine aw_iload_n X dX11_of_84 rfl ?_
    refine aw_bipush (v := 9) X dX11_of_85 (by decide) ?_
    refine aw_icmp_gt (tgt := 113) X dX11_of_87 (by decide) (fun c8 => ?_) (fun c8 => ?_)
    · rw [if_pos c8] at h
      refine aw_msk [true, true, true] ?_
      exact jo_X11_of_113 hfr Z X _ _ _ _ hz h
    · rw [if_neg c8] at h
      refine aw_aload_n X dX11_of_90 rfl ?_
      refine aw_getr X dX11_of_91 fl_RX11_10 iu_RX11 gu_RX11_0 ?_
      refine aw_getr X dX11_of_94 fl_RX11_136 iu_RX11_0 (gt_RX10_1 iu_RX11_0) ?_
      refine aw_iload_n X dX11_of_97 rfl ?_
      refine aw_bipush (v := 7) X dX11_of_98 (by decide) ?_
      refine aw_isub X dX11_of_100 ?_
      refine aw_aload_n X dX11_of_101 rfl ?_
      refine aw_getr X dX11_of_102 fl_RX11_10 iu_RX11 gu_RX11_0 ?_
      refine aw_getr X dX11_of_105 fl_RX11_57 iu_RX11_0 (gt_RX10_0 iu_RX11_0) ?_
      refine aw_iload_n X dX11_of_108 rfl ?_
      obtain ⟨r9, er9, h⟩ := bnd h
      refine aw_callV X dX11_of_109 cv_RX11_179 (ok_X1_ask (it_RX10_1 iu_RX11_0) (it_RX10_0 iu_RX11_0) er9 _ _ _ _ _) (it_RX10_1 iu_RX11_0) rfl (Nat.le_trans (by decide) hfr) (by decide) rfl rfl (Nat.le_of_ble_eq_true rfl) ?_
      cases h
      exact aw_iret X dX11_of_112 rfl hz.symm
set_option maxRecDepth 100000 in
set_option maxHeartbeats 4000000 in
theorem jo_X11_of_55 {fr : Nat} (hfr : 4 ≤ fr) (Z : AZ) (X : AX Z cX11_of 3 RX11 (some .int) 0 fr) (x1 : Int32) (x2 : Int32) (s : Mem) (r : Int32 × Mem) (hz : zres Z = (some (.int r.1), r.2)) (h : jn_X11_of_55 x1 x2 s = some r) : AW Z s 55 [some (.ref (zr Z 0)), some (.int x1), some (.int x2)] [] := by
  unfold jn_X11_of_55 at h
  refine aw_iload_n X dX11_of_55 rfl ?_
  refine aw_if_lt (tgt := 78) X dX11_of_56 (by decide) (fun c4 => ?_) (fun c4 => ?_)
  · rw [if_pos c4] at h
    refine aw_msk [true, true, true] ?_
    exact jo_X11_of_78 hfr Z X _ _ _ _ hz h
  · rw [if_neg c4] at h
    refine aw_iload_n X dX11_of_59 rfl ?_
    refine aw_bipush (v := 6) X dX11_of_60 (by decide) ?_
    refine aw_icmp_gt (tgt := 78) X dX11_of_62 (by decide) (fun c10 => ?_) (fun c10 => ?_)
    · rw [if_pos c10] at h
      refine aw_msk [true, true, true] ?_
      exact jo_X11_of_78 hfr Z X _ _ _ _ hz h
    · rw [if_neg c10] at h
      refine aw_aload_n X dX11_of_65 rfl ?_
      refine aw_getr X dX11_of_66 fl_RX11_10 iu_RX11 gu_RX11_0 ?_
      refine aw_getr X dX11_of_69 fl_RX11_57 iu_RX11_0 (gt_RX10_0 iu_RX11_0) ?_
      refine aw_iload_n X dX11_of_72 rfl ?_
      refine aw_iload_n X dX11_of_73 rfl ?_
      obtain ⟨r11, er11, h⟩ := bnd h
      refine aw_callV X dX11_of_74 cv_RX11_175 (ok_X0_told (it_RX10_0 iu_RX11_0) er11 _ _ _ _ _) (it_RX10_0 iu_RX11_0) rfl (Nat.le_trans (by decide) hfr) (by decide) rfl rfl (Nat.le_of_ble_eq_true rfl) ?_
      cases h
      exact aw_iret X dX11_of_77 rfl hz.symm
set_option maxRecDepth 100000 in
set_option maxHeartbeats 4000000 in
theorem w_X11_of {fr : Nat} (hfr : 4 ≤ fr) (Z : AZ) (X : AX Z cX11_of 3 RX11 (some .int) 0 fr) (x1 : Int32) (x2 : Int32) (s : Mem) (r : Int32 × Mem) (hz : zres Z = (some (.int r.1), r.2)) (h : f_X11_of x1 x2 s = some r) : AW Z s 0 [some (.ref (zr Z 0)), some (.int x1), some (.int x2)] [] := by
  unfold f_X11_of at h
  refine aw_aload_n X dX11_of_0 rfl ?_
  refine aw_getr X dX11_of_1 fl_RX11_10 iu_RX11 gu_RX11_0 ?_
  refine aw_getr X dX11_of_4 fl_RX11_57 iu_RX11_0 (gt_RX10_0 iu_RX11_0) ?_
  refine aw_iload_n X dX11_of_7 rfl ?_
  obtain ⟨r1, er1, h⟩ := bnd h
  refine aw_callV X dX11_of_8 cv_RX11_73 (ok_X0_has (it_RX10_0 iu_RX11_0) er1 _ _ _ _ _) (it_RX10_0 iu_RX11_0) rfl (Nat.le_trans (by decide) hfr) (by decide) rfl rfl (Nat.le_of_ble_eq_true rfl) ?_
  refine aw_if_ne (tgt := 17) X dX11_of_11 (by decide) (fun c2 => ?_) (fun c2 => ?_)
  · rw [if_neg c2] at h
    refine aw_iload_n X dX11_of_17 rfl ?_
    refine aw_bipush (v := 20) X dX11_of_18 (by decide) ?_
    refine aw_icmp_lt (tgt := 55) X dX11_of_20 (by decide) (fun c3 => ?_) (fun c3 => ?_)
    · rw [if_pos c3] at h
      refine aw_msk [true, true, true] ?_
      exact jo_X11_of_55 hfr Z X _ _ _ _ hz h
    · rw [if_neg c3] at h
      refine aw_iload_n X dX11_of_23 rfl ?_
      refine aw_bipush (v := 34) X dX11_of_24 (by decide) ?_
      refine aw_icmp_ge (tgt := 55) X dX11_of_26 (by decide) (fun c12 => ?_) (fun c12 => ?_)
      · rw [if_pos c12] at h
        refine aw_msk [true, true, true] ?_
        exact jo_X11_of_55 hfr Z X _ _ _ _ hz h
      · rw [if_neg c12] at h
        refine aw_aload_n X dX11_of_29 rfl ?_
        refine aw_getr X dX11_of_30 fl_RX11_10 iu_RX11 gu_RX11_0 ?_
        refine aw_getr X dX11_of_33 fl_RX11_155 iu_RX11_0 (gt_RX10_4 iu_RX11_0) ?_
        refine aw_iload_n X dX11_of_36 rfl ?_
        refine aw_iload_n X dX11_of_37 rfl ?_
        refine aw_bipush (v := 20) X dX11_of_38 (by decide) ?_
        refine aw_isub X dX11_of_40 ?_
        refine aw_aload_n X dX11_of_41 rfl ?_
        refine aw_getr X dX11_of_42 fl_RX11_10 iu_RX11 gu_RX11_0 ?_
        refine aw_getr X dX11_of_45 fl_RX11_57 iu_RX11_0 (gt_RX10_0 iu_RX11_0) ?_
        refine aw_geti X dX11_of_48 fl_RX11_66 (it_RX10_0 iu_RX11_0) (gt_RX0_1 (it_RX10_0 iu_RX11_0)) ?_
        obtain ⟨r13, er13, h⟩ := bnd h
        refine aw_callV X dX11_of_51 cv_RX11_169 (ok_X3_nameAt (it_RX10_4 iu_RX11_0) er13 _ _ _ _ _) (it_RX10_4 iu_RX11_0) rfl (Nat.le_trans (by decide) hfr) (by decide) rfl rfl (Nat.le_of_ble_eq_true rfl) ?_
        cases h
        exact aw_iret X dX11_of_54 rfl hz.symm
  · rw [if_pos c2] at h
    refine aw_bipush (v := (-2)) X dX11_of_14 (by decide) ?_
    cases h
    exact aw_iret X dX11_of_16 rfl hz.symm
set_option maxRecDepth 100000 in
set_option maxHeartbeats 4000000 in
theorem ok_X11_of {x1 x2 : Int32} {s : Mem} {r : Int32 × Mem} (h : f_X11_of x1 x2 s = some r) (l : Launch) (D : va_G) (ρ : Nat → Nat) (cA : ClassId × ClassId × ClassId) (τ : AT) : AM l D ρ cA 0 τ yX11_of cX11_of 3 (some .int) 4 [.ref (ρ 0), .int x1, .int x2] (some (.int r.1)) s r.2 := by
  refine AM_of (L := [some (.ref (ρ 0)), some (.int x1), some (.int x2)]) (by decide) (by simp [Value.category]) (Nat.le_of_ble_eq_true rfl) (fun j v q => ?_) (fun Z X hρ hz => ?_)
  · exact aL_ok (n := 0) [.ref (ρ 0), .int x1, .int x2] j v q
  · subst hρ
    exact w_X11_of (Nat.le_refl _) Z X x1 x2 s r hz h

theorem dX11_book_0 : decode cX11_book 0 = .ok (.iload_n 1, 1) := by decide +kernel
theorem dX11_book_1 : decode cX11_book 1 = .ok (.ifCond .lt 26, 3) := by decide +kernel
theorem dX11_book_4 : decode cX11_book 4 = .ok (.iload_n 1, 1) := by decide +kernel
theorem dX11_book_5 : decode cX11_book 5 = .ok (.aload_n 0, 1) := by decide +kernel
theorem dX11_book_6 : decode cX11_book 6 = .ok (.getfield 10, 3) := by decide +kernel
theorem dX11_book_9 : decode cX11_book 9 = .ok (.getfield 57, 3) := by decide +kernel
theorem dX11_book_12 : decode cX11_book 12 = .ok (.getfield 189, 3) := by decide +kernel
theorem dX11_book_15 : decode cX11_book 15 = .ok (.if_icmp .ge 12, 3) := by decide +kernel
theorem dX11_book_18 : decode cX11_book 18 = .ok (.iload_n 2, 1) := by decide +kernel
theorem dX11_book_19 : decode cX11_book 19 = .ok (.ifCond .lt 8, 3) := by decide +kernel
theorem dX11_book_22 : decode cX11_book 22 = .ok (.iload_n 2, 1) := by decide +kernel
theorem dX11_book_23 : decode cX11_book 23 = .ok (.iconst 4, 1) := by decide +kernel
theorem dX11_book_24 : decode cX11_book 24 = .ok (.if_icmp .lt 5, 3) := by decide +kernel
theorem dX11_book_27 : decode cX11_book 27 = .ok (.iconst (-1), 1) := by decide +kernel
theorem dX11_book_28 : decode cX11_book 28 = .ok (.ireturn, 1) := by decide +kernel
theorem dX11_book_29 : decode cX11_book 29 = .ok (.aload_n 0, 1) := by decide +kernel
theorem dX11_book_30 : decode cX11_book 30 = .ok (.getfield 10, 3) := by decide +kernel
theorem dX11_book_33 : decode cX11_book 33 = .ok (.getfield 192, 3) := by decide +kernel
theorem dX11_book_36 : decode cX11_book 36 = .ok (.iload_n 1, 1) := by decide +kernel
theorem dX11_book_37 : decode cX11_book 37 = .ok (.iconst 4, 1) := by decide +kernel
theorem dX11_book_38 : decode cX11_book 38 = .ok (.imul, 1) := by decide +kernel
theorem dX11_book_39 : decode cX11_book 39 = .ok (.iload_n 2, 1) := by decide +kernel
theorem dX11_book_40 : decode cX11_book 40 = .ok (.iadd, 1) := by decide +kernel
theorem dX11_book_41 : decode cX11_book 41 = .ok (.iaload, 1) := by decide +kernel
theorem dX11_book_42 : decode cX11_book 42 = .ok (.ireturn, 1) := by decide +kernel
def f_X11_book (x1 : Int32) (x2 : Int32) (s : Mem) : Option (Int32 × Mem) :=
  if x1 < 0 then
  some ((-1), s)
  else
  if (s (1 + 1) 12) ≤ x1 then
  some ((-1), s)
  else
  if x2 < 0 then
  some ((-1), s)
  else
  if x2 < 4 then
  (rd 600 (s (1 + 56)) ((x1 * 4) + x2)).bind fun v5 =>
  some (v5, s)
  else
  some ((-1), s)
set_option maxRecDepth 100000 in
set_option maxHeartbeats 4000000 in
theorem w_X11_book {fr : Nat} (hfr : 0 ≤ fr) (Z : AZ) (X : AX Z cX11_book 3 RX11 (some .int) 0 fr) (x1 : Int32) (x2 : Int32) (s : Mem) (r : Int32 × Mem) (hz : zres Z = (some (.int r.1), r.2)) (h : f_X11_book x1 x2 s = some r) : AW Z s 0 [some (.ref (zr Z 0)), some (.int x1), some (.int x2)] [] := by
  unfold f_X11_book at h
  refine aw_iload_n X dX11_book_0 rfl ?_
  refine aw_if_lt (tgt := 27) X dX11_book_1 (by decide) (fun c1 => ?_) (fun c1 => ?_)
  · rw [if_pos c1] at h
    refine aw_iconst (v := (-1)) X dX11_book_27 (by decide) ?_
    cases h
    exact aw_iret X dX11_book_28 rfl hz.symm
  · rw [if_neg c1] at h
    refine aw_iload_n X dX11_book_4 rfl ?_
    refine aw_aload_n X dX11_book_5 rfl ?_
    refine aw_getr X dX11_book_6 fl_RX11_10 iu_RX11 gu_RX11_0 ?_
    refine aw_getr X dX11_book_9 fl_RX11_57 iu_RX11_0 (gt_RX10_0 iu_RX11_0) ?_
    refine aw_geti X dX11_book_12 fl_RX11_189 (it_RX10_0 iu_RX11_0) (gt_RX0_12 (it_RX10_0 iu_RX11_0)) ?_
    refine aw_icmp_ge (tgt := 27) X dX11_book_15 (by decide) (fun c2 => ?_) (fun c2 => ?_)
    · rw [if_pos c2] at h
      refine aw_iconst (v := (-1)) X dX11_book_27 (by decide) ?_
      cases h
      exact aw_iret X dX11_book_28 rfl hz.symm
    · rw [if_neg c2] at h
      refine aw_iload_n X dX11_book_18 rfl ?_
      refine aw_if_lt (tgt := 27) X dX11_book_19 (by decide) (fun c3 => ?_) (fun c3 => ?_)
      · rw [if_pos c3] at h
        refine aw_iconst (v := (-1)) X dX11_book_27 (by decide) ?_
        cases h
        exact aw_iret X dX11_book_28 rfl hz.symm
      · rw [if_neg c3] at h
        refine aw_iload_n X dX11_book_22 rfl ?_
        refine aw_iconst (v := 4) X dX11_book_23 (by decide) ?_
        refine aw_icmp_lt (tgt := 29) X dX11_book_24 (by decide) (fun c4 => ?_) (fun c4 => ?_)
        · rw [if_pos c4] at h
          refine aw_aload_n X dX11_book_29 rfl ?_
          refine aw_getr X dX11_book_30 fl_RX11_10 iu_RX11 gu_RX11_0 ?_
          refine aw_getr X dX11_book_33 fl_RX11_192 iu_RX11_0 (gt_RX10_6 iu_RX11_0) ?_
          refine aw_iload_n X dX11_book_36 rfl ?_
          refine aw_iconst (v := 4) X dX11_book_37 (by decide) ?_
          refine aw_imul X dX11_book_38 ?_
          refine aw_iload_n X dX11_book_39 rfl ?_
          refine aw_iadd X dX11_book_40 ?_
          obtain ⟨v5, ev5, h⟩ := bnd h
          refine aw_iald X dX11_book_41 (it_RX10_6 iu_RX11_0) ev5 ?_
          cases h
          exact aw_iret X dX11_book_42 rfl hz.symm
        · rw [if_neg c4] at h
          refine aw_iconst (v := (-1)) X dX11_book_27 (by decide) ?_
          cases h
          exact aw_iret X dX11_book_28 rfl hz.symm
set_option maxRecDepth 100000 in
set_option maxHeartbeats 4000000 in
theorem ok_X11_book {x1 x2 : Int32} {s : Mem} {r : Int32 × Mem} (h : f_X11_book x1 x2 s = some r) (l : Launch) (D : va_G) (ρ : Nat → Nat) (cA : ClassId × ClassId × ClassId) (τ : AT) : AM l D ρ cA 0 τ yX11_book cX11_book 3 (some .int) 0 [.ref (ρ 0), .int x1, .int x2] (some (.int r.1)) s r.2 := by
  refine AM_of (L := [some (.ref (ρ 0)), some (.int x1), some (.int x2)]) (by decide) (by simp [Value.category]) (Nat.le_of_ble_eq_true rfl) (fun j v q => ?_) (fun Z X hρ hz => ?_)
  · exact aL_ok (n := 0) [.ref (ρ 0), .int x1, .int x2] j v q
  · subst hρ
    exact w_X11_book (Nat.le_refl _) Z X x1 x2 s r hz h

theorem dX11_goes_0 : decode cX11_goes 0 = .ok (.iload_n 1, 1) := by decide +kernel
theorem dX11_goes_1 : decode cX11_goes 1 = .ok (.iconst 1, 1) := by decide +kernel
theorem dX11_goes_2 : decode cX11_goes 2 = .ok (.if_icmp .lt 18, 3) := by decide +kernel
theorem dX11_goes_5 : decode cX11_goes 5 = .ok (.iload_n 1, 1) := by decide +kernel
theorem dX11_goes_6 : decode cX11_goes 6 = .ok (.bipush 60, 2) := by decide +kernel
theorem dX11_goes_8 : decode cX11_goes 8 = .ok (.if_icmp .gt 12, 3) := by decide +kernel
theorem dX11_goes_11 : decode cX11_goes 11 = .ok (.iload_n 2, 1) := by decide +kernel
theorem dX11_goes_12 : decode cX11_goes 12 = .ok (.ifCond .lt 8, 3) := by decide +kernel
theorem dX11_goes_15 : decode cX11_goes 15 = .ok (.iload_n 2, 1) := by decide +kernel
theorem dX11_goes_16 : decode cX11_goes 16 = .ok (.iconst 3, 1) := by decide +kernel
theorem dX11_goes_17 : decode cX11_goes 17 = .ok (.if_icmp .le 5, 3) := by decide +kernel
theorem dX11_goes_20 : decode cX11_goes 20 = .ok (.iconst (-1), 1) := by decide +kernel
theorem dX11_goes_21 : decode cX11_goes 21 = .ok (.ireturn, 1) := by decide +kernel
theorem dX11_goes_22 : decode cX11_goes 22 = .ok (.aload_n 0, 1) := by decide +kernel
theorem dX11_goes_23 : decode cX11_goes 23 = .ok (.getfield 28, 3) := by decide +kernel
theorem dX11_goes_26 : decode cX11_goes 26 = .ok (.aload_n 0, 1) := by decide +kernel
theorem dX11_goes_27 : decode cX11_goes 27 = .ok (.getfield 10, 3) := by decide +kernel
theorem dX11_goes_30 : decode cX11_goes 30 = .ok (.getfield 57, 3) := by decide +kernel
theorem dX11_goes_33 : decode cX11_goes 33 = .ok (.invokevirtual 195, 3) := by decide +kernel
theorem dX11_goes_36 : decode cX11_goes 36 = .ok (.iconst 0, 1) := by decide +kernel
theorem dX11_goes_37 : decode cX11_goes 37 = .ok (.istore_n 3, 1) := by decide +kernel
theorem dX11_goes_38 : decode cX11_goes 38 = .ok (.iload_n 3, 1) := by decide +kernel
theorem dX11_goes_39 : decode cX11_goes 39 = .ok (.iload_n 1, 1) := by decide +kernel
theorem dX11_goes_40 : decode cX11_goes 40 = .ok (.if_icmp .ge 21, 3) := by decide +kernel
theorem dX11_goes_43 : decode cX11_goes 43 = .ok (.aload_n 0, 1) := by decide +kernel
theorem dX11_goes_44 : decode cX11_goes 44 = .ok (.getfield 10, 3) := by decide +kernel
theorem dX11_goes_47 : decode cX11_goes 47 = .ok (.aload_n 0, 1) := by decide +kernel
theorem dX11_goes_48 : decode cX11_goes 48 = .ok (.getfield 28, 3) := by decide +kernel
theorem dX11_goes_51 : decode cX11_goes 51 = .ok (.invokevirtual 110, 3) := by decide +kernel
theorem dX11_goes_54 : decode cX11_goes 54 = .ok (.pop, 1) := by decide +kernel
theorem dX11_goes_55 : decode cX11_goes 55 = .ok (.iinc 3 1, 3) := by decide +kernel
theorem dX11_goes_58 : decode cX11_goes 58 = .ok (.goto (-20), 3) := by decide +kernel
theorem dX11_goes_61 : decode cX11_goes 61 = .ok (.iload_n 2, 1) := by decide +kernel
theorem dX11_goes_62 : decode cX11_goes 62 = .ok (.tableswitch 71 0 2 #[26, 41, 56], 26) := by decide +kernel
theorem dX11_goes_88 : decode cX11_goes 88 = .ok (.aload_n 0, 1) := by decide +kernel
theorem dX11_goes_89 : decode cX11_goes 89 = .ok (.getfield 28, 3) := by decide +kernel
theorem dX11_goes_92 : decode cX11_goes 92 = .ok (.aload_n 0, 1) := by decide +kernel
theorem dX11_goes_93 : decode cX11_goes 93 = .ok (.getfield 28, 3) := by decide +kernel
theorem dX11_goes_96 : decode cX11_goes 96 = .ok (.getfield 199, 3) := by decide +kernel
theorem dX11_goes_99 : decode cX11_goes 99 = .ok (.invokevirtual 202, 3) := by decide +kernel
theorem dX11_goes_102 : decode cX11_goes 102 = .ok (.ireturn, 1) := by decide +kernel
theorem dX11_goes_103 : decode cX11_goes 103 = .ok (.aload_n 0, 1) := by decide +kernel
theorem dX11_goes_104 : decode cX11_goes 104 = .ok (.getfield 28, 3) := by decide +kernel
theorem dX11_goes_107 : decode cX11_goes 107 = .ok (.aload_n 0, 1) := by decide +kernel
theorem dX11_goes_108 : decode cX11_goes 108 = .ok (.getfield 28, 3) := by decide +kernel
theorem dX11_goes_111 : decode cX11_goes 111 = .ok (.getfield 206, 3) := by decide +kernel
theorem dX11_goes_114 : decode cX11_goes 114 = .ok (.invokevirtual 202, 3) := by decide +kernel
theorem dX11_goes_117 : decode cX11_goes 117 = .ok (.ireturn, 1) := by decide +kernel
theorem dX11_goes_118 : decode cX11_goes 118 = .ok (.aload_n 0, 1) := by decide +kernel
theorem dX11_goes_119 : decode cX11_goes 119 = .ok (.getfield 28, 3) := by decide +kernel
theorem dX11_goes_122 : decode cX11_goes 122 = .ok (.aload_n 0, 1) := by decide +kernel
theorem dX11_goes_123 : decode cX11_goes 123 = .ok (.getfield 28, 3) := by decide +kernel
theorem dX11_goes_126 : decode cX11_goes 126 = .ok (.getfield 209, 3) := by decide +kernel
theorem dX11_goes_129 : decode cX11_goes 129 = .ok (.invokevirtual 202, 3) := by decide +kernel
theorem dX11_goes_132 : decode cX11_goes 132 = .ok (.ireturn, 1) := by decide +kernel
theorem dX11_goes_133 : decode cX11_goes 133 = .ok (.aload_n 0, 1) := by decide +kernel
theorem dX11_goes_134 : decode cX11_goes 134 = .ok (.getfield 28, 3) := by decide +kernel
theorem dX11_goes_137 : decode cX11_goes 137 = .ok (.getfield 212, 3) := by decide +kernel
theorem dX11_goes_140 : decode cX11_goes 140 = .ok (.ireturn, 1) := by decide +kernel
def st_X11_goes_38 (x1 : Int32) (x2 : Int32) (x3 : Int32) (s : Mem) : Option ((Int32 × Mem) ⊕ (Mem)) :=
  if x1 ≤ x3 then
  some (.inr (s))
  else
  (f_X10_passMinute 1 115 s).bind fun r7 =>
  some (.inl ((x3 + 1), r7.2))
def f_X11_goes (x1 : Int32) (x2 : Int32) (s : Mem) : Option (Int32 × Mem) :=
  if x1 < 1 then
  some ((-1), s)
  else
  if 60 < x1 then
  some ((-1), s)
  else
  if x2 < 0 then
  some ((-1), s)
  else
  if x2 ≤ 3 then
  (f_X0_copyFrom 115 (1 + 1) s).bind fun r5 =>
  (it FUEL (fun y => st_X11_goes_38 x1 x2 y.1 y.2) (0, r5)).bind fun r8 =>
  if x2 = 0 then
  (f_X0_sum 115 (115 + 2) 14 r8).bind fun r10 =>
  some (r10.1, r10.2)
  else if x2 = 1 then
  (f_X0_sum 115 (115 + 6) 14 r8).bind fun r12 =>
  some (r12.1, r12.2)
  else if x2 = 2 then
  (f_X0_sum 115 (115 + 5) 14 r8).bind fun r14 =>
  some (r14.1, r14.2)
  else 
  some ((r8 115 9), r8)
  else
  some ((-1), s)
set_option maxRecDepth 100000 in
set_option maxHeartbeats 4000000 in
theorem so_X11_goes_38 {fr : Nat} (hfr : 6 ≤ fr) (Z : AZ) (X : AX Z cX11_goes 4 RX11 (some .int) 0 fr) (x1 : Int32) (x2 : Int32) (x3 : Int32) (s : Mem) (q : (Int32 × Mem) ⊕ (Mem)) (h : st_X11_goes_38 x1 x2 x3 s = some q) (hi : ∀ y : Int32 × Mem, q = .inl y → AW Z y.2 38 [some (.ref (zr Z 0)), some (.int x1), some (.int x2), some (.int y.1)] []) (he : ∀ b : Mem, q = .inr b → AW Z b 61 [some (.ref (zr Z 0)), none, some (.int x2), none] []) : AW Z s 38 [some (.ref (zr Z 0)), some (.int x1), some (.int x2), some (.int x3)] [] := by
  unfold st_X11_goes_38 at h
  refine aw_iload_n X dX11_goes_38 rfl ?_
  refine aw_iload_n X dX11_goes_39 rfl ?_
  refine aw_icmp_ge (tgt := 61) X dX11_goes_40 (by decide) (fun c6 => ?_) (fun c6 => ?_)
  · rw [if_pos c6] at h
    cases h
    refine aw_msk [true, false, true, false] ?_
    exact he _ rfl
  · rw [if_neg c6] at h
    refine aw_aload_n X dX11_goes_43 rfl ?_
    refine aw_getr X dX11_goes_44 fl_RX11_10 iu_RX11 gu_RX11_0 ?_
    refine aw_aload_n X dX11_goes_47 rfl ?_
    refine aw_getr X dX11_goes_48 fl_RX11_28 iu_RX11 gu_RX11_3 ?_
    obtain ⟨r7, er7, h⟩ := bnd h
    refine aw_callV X dX11_goes_51 cv_RX11_110 (ok_X10_passMinute iu_RX11_0 iu_RX11_3 er7 _ _ _ _ _) iu_RX11_0 rfl (Nat.le_trans (by decide) hfr) (by decide) rfl rfl (Nat.le_of_ble_eq_true rfl) ?_
    refine aw_pop X dX11_goes_54 rfl ?_
    refine aw_iinc (v := (x3 + 1)) (L' := [some (.ref (zr Z 0)), some (.int x1), some (.int x2), some (.int (x3 + 1))]) X dX11_goes_55 rfl rfl (by decide) rfl ?_
    refine aw_goto (tgt := 38) X dX11_goes_58 (by decide) ?_
    cases h
    refine aw_msk [true, true, true, true] ?_
    exact hi _ rfl
set_option maxRecDepth 100000 in
set_option maxHeartbeats 4000000 in
theorem w_X11_goes {fr : Nat} (hfr : 6 ≤ fr) (Z : AZ) (X : AX Z cX11_goes 4 RX11 (some .int) 0 fr) (x1 : Int32) (x2 : Int32) (s : Mem) (r : Int32 × Mem) (hz : zres Z = (some (.int r.1), r.2)) (h : f_X11_goes x1 x2 s = some r) : AW Z s 0 [some (.ref (zr Z 0)), some (.int x1), some (.int x2), none] [] := by
  unfold f_X11_goes at h
  refine aw_iload_n X dX11_goes_0 rfl ?_
  refine aw_iconst (v := 1) X dX11_goes_1 (by decide) ?_
  refine aw_icmp_lt (tgt := 20) X dX11_goes_2 (by decide) (fun c1 => ?_) (fun c1 => ?_)
  · rw [if_pos c1] at h
    refine aw_iconst (v := (-1)) X dX11_goes_20 (by decide) ?_
    cases h
    exact aw_iret X dX11_goes_21 rfl hz.symm
  · rw [if_neg c1] at h
    refine aw_iload_n X dX11_goes_5 rfl ?_
    refine aw_bipush (v := 60) X dX11_goes_6 (by decide) ?_
    refine aw_icmp_gt (tgt := 20) X dX11_goes_8 (by decide) (fun c2 => ?_) (fun c2 => ?_)
    · rw [if_pos c2] at h
      refine aw_iconst (v := (-1)) X dX11_goes_20 (by decide) ?_
      cases h
      exact aw_iret X dX11_goes_21 rfl hz.symm
    · rw [if_neg c2] at h
      refine aw_iload_n X dX11_goes_11 rfl ?_
      refine aw_if_lt (tgt := 20) X dX11_goes_12 (by decide) (fun c3 => ?_) (fun c3 => ?_)
      · rw [if_pos c3] at h
        refine aw_iconst (v := (-1)) X dX11_goes_20 (by decide) ?_
        cases h
        exact aw_iret X dX11_goes_21 rfl hz.symm
      · rw [if_neg c3] at h
        refine aw_iload_n X dX11_goes_15 rfl ?_
        refine aw_iconst (v := 3) X dX11_goes_16 (by decide) ?_
        refine aw_icmp_le (tgt := 22) X dX11_goes_17 (by decide) (fun c4 => ?_) (fun c4 => ?_)
        · rw [if_pos c4] at h
          refine aw_aload_n X dX11_goes_22 rfl ?_
          refine aw_getr X dX11_goes_23 fl_RX11_28 iu_RX11 gu_RX11_3 ?_
          refine aw_aload_n X dX11_goes_26 rfl ?_
          refine aw_getr X dX11_goes_27 fl_RX11_10 iu_RX11 gu_RX11_0 ?_
          refine aw_getr X dX11_goes_30 fl_RX11_57 iu_RX11_0 (gt_RX10_0 iu_RX11_0) ?_
          obtain ⟨r5, er5, h⟩ := bnd h
          refine aw_callV X dX11_goes_33 cv_RX11_195 (ok_X0_copyFrom iu_RX11_3 (it_RX10_0 iu_RX11_0) er5 _ _ _ _ _) iu_RX11_3 rfl (Nat.le_trans (by decide) hfr) (by decide) rfl rfl (Nat.le_of_ble_eq_true rfl) ?_
          refine aw_iconst (v := 0) X dX11_goes_36 (by decide) ?_
          refine aw_istore_n (L' := [some (.ref (zr Z 0)), some (.int x1), some (.int x2), some (.int 0)]) X dX11_goes_37 (by decide) rfl ?_
          obtain ⟨r8, er8, h⟩ := bnd h
          refine aw_msk [true, true, true, true] ?_
          refine it_ok (P := fun y : Int32 × Mem => AW Z y.2 38 [some (.ref (zr Z 0)), some (.int x1), some (.int x2), some (.int y.1)] []) (Q := fun b : Mem => AW Z b 61 [some (.ref (zr Z 0)), none, some (.int x2), none] []) (fun y q hq hi he => so_X11_goes_38 hfr Z X x1 x2 y.1 y.2 q hq hi he) FUEL _ _ er8 ?_
          refine aw_iload_n X dX11_goes_61 rfl ?_
          by_cases c9 : x2 = 0
          · rw [if_pos c9] at h
            refine aw_tsw (tgt := 88) X dX11_goes_62 (by rw [c9]; decide) ?_
            refine aw_aload_n X dX11_goes_88 rfl ?_
            refine aw_getr X dX11_goes_89 fl_RX11_28 iu_RX11 gu_RX11_3 ?_
            refine aw_aload_n X dX11_goes_92 rfl ?_
            refine aw_getr X dX11_goes_93 fl_RX11_28 iu_RX11 gu_RX11_3 ?_
            refine aw_getr X dX11_goes_96 fl_RX11_199 iu_RX11_3 (gt_RX0_3 iu_RX11_3) ?_
            obtain ⟨r10, er10, h⟩ := bnd h
            refine aw_callV X dX11_goes_99 cv_RX11_202 (ok_X0_sum iu_RX11_3 (it_RX0_3 iu_RX11_3) er10 _ _ _ _ _) iu_RX11_3 rfl (Nat.le_trans (by decide) hfr) (by decide) rfl rfl (Nat.le_of_ble_eq_true rfl) ?_
            cases h
            exact aw_iret X dX11_goes_102 rfl hz.symm
          rw [if_neg c9] at h
          by_cases c11 : x2 = 1
          · rw [if_pos c11] at h
            refine aw_tsw (tgt := 103) X dX11_goes_62 (by rw [c11]; decide) ?_
            refine aw_aload_n X dX11_goes_103 rfl ?_
            refine aw_getr X dX11_goes_104 fl_RX11_28 iu_RX11 gu_RX11_3 ?_
            refine aw_aload_n X dX11_goes_107 rfl ?_
            refine aw_getr X dX11_goes_108 fl_RX11_28 iu_RX11 gu_RX11_3 ?_
            refine aw_getr X dX11_goes_111 fl_RX11_206 iu_RX11_3 (gt_RX0_7 iu_RX11_3) ?_
            obtain ⟨r12, er12, h⟩ := bnd h
            refine aw_callV X dX11_goes_114 cv_RX11_202 (ok_X0_sum iu_RX11_3 (it_RX0_7 iu_RX11_3) er12 _ _ _ _ _) iu_RX11_3 rfl (Nat.le_trans (by decide) hfr) (by decide) rfl rfl (Nat.le_of_ble_eq_true rfl) ?_
            cases h
            exact aw_iret X dX11_goes_117 rfl hz.symm
          rw [if_neg c11] at h
          by_cases c13 : x2 = 2
          · rw [if_pos c13] at h
            refine aw_tsw (tgt := 118) X dX11_goes_62 (by rw [c13]; decide) ?_
            refine aw_aload_n X dX11_goes_118 rfl ?_
            refine aw_getr X dX11_goes_119 fl_RX11_28 iu_RX11 gu_RX11_3 ?_
            refine aw_aload_n X dX11_goes_122 rfl ?_
            refine aw_getr X dX11_goes_123 fl_RX11_28 iu_RX11 gu_RX11_3 ?_
            refine aw_getr X dX11_goes_126 fl_RX11_209 iu_RX11_3 (gt_RX0_6 iu_RX11_3) ?_
            obtain ⟨r14, er14, h⟩ := bnd h
            refine aw_callV X dX11_goes_129 cv_RX11_202 (ok_X0_sum iu_RX11_3 (it_RX0_6 iu_RX11_3) er14 _ _ _ _ _) iu_RX11_3 rfl (Nat.le_trans (by decide) hfr) (by decide) rfl rfl (Nat.le_of_ble_eq_true rfl) ?_
            cases h
            exact aw_iret X dX11_goes_132 rfl hz.symm
          rw [if_neg c13] at h
          refine aw_tswd (tgt := 133) X dX11_goes_62 (by decide) (fun z h1 h2 => ?_) ?_
          · have hz9 : z = 0 ∨ z = 1 ∨ z = 2 := by omega
            rcases hz9 with rfl | rfl | rfl
            · exact c9
            · exact c11
            · exact c13
          refine aw_aload_n X dX11_goes_133 rfl ?_
          refine aw_getr X dX11_goes_134 fl_RX11_28 iu_RX11 gu_RX11_3 ?_
          refine aw_geti X dX11_goes_137 fl_RX11_212 iu_RX11_3 (gt_RX0_9 iu_RX11_3) ?_
          cases h
          exact aw_iret X dX11_goes_140 rfl hz.symm
        · rw [if_neg c4] at h
          refine aw_iconst (v := (-1)) X dX11_goes_20 (by decide) ?_
          cases h
          exact aw_iret X dX11_goes_21 rfl hz.symm
set_option maxRecDepth 100000 in
set_option maxHeartbeats 4000000 in
theorem ok_X11_goes {x1 x2 : Int32} {s : Mem} {r : Int32 × Mem} (h : f_X11_goes x1 x2 s = some r) (l : Launch) (D : va_G) (ρ : Nat → Nat) (cA : ClassId × ClassId × ClassId) (τ : AT) : AM l D ρ cA 0 τ yX11_goes cX11_goes 4 (some .int) 6 [.ref (ρ 0), .int x1, .int x2] (some (.int r.1)) s r.2 := by
  refine AM_of (L := [some (.ref (ρ 0)), some (.int x1), some (.int x2), none]) (by decide) (by simp [Value.category]) (Nat.le_of_ble_eq_true rfl) (fun j v q => ?_) (fun Z X hρ hz => ?_)
  · exact aL_ok (n := 1) [.ref (ρ 0), .int x1, .int x2] j v q
  · subst hρ
    exact w_X11_goes (Nat.le_refl _) Z X x1 x2 s r hz h

theorem dX11_peace_0 : decode cX11_peace 0 = .ok (.aload_n 0, 1) := by decide +kernel
theorem dX11_peace_1 : decode cX11_peace 1 = .ok (.getfield 28, 3) := by decide +kernel
theorem dX11_peace_4 : decode cX11_peace 4 = .ok (.aload_n 0, 1) := by decide +kernel
theorem dX11_peace_5 : decode cX11_peace 5 = .ok (.getfield 10, 3) := by decide +kernel
theorem dX11_peace_8 : decode cX11_peace 8 = .ok (.getfield 57, 3) := by decide +kernel
theorem dX11_peace_11 : decode cX11_peace 11 = .ok (.invokevirtual 195, 3) := by decide +kernel
theorem dX11_peace_14 : decode cX11_peace 14 = .ok (.iconst 0, 1) := by decide +kernel
theorem dX11_peace_15 : decode cX11_peace 15 = .ok (.istore_n 1, 1) := by decide +kernel
theorem dX11_peace_16 : decode cX11_peace 16 = .ok (.iload_n 1, 1) := by decide +kernel
theorem dX11_peace_17 : decode cX11_peace 17 = .ok (.bipush 60, 2) := by decide +kernel
theorem dX11_peace_19 : decode cX11_peace 19 = .ok (.if_icmp .ge 33, 3) := by decide +kernel
theorem dX11_peace_22 : decode cX11_peace 22 = .ok (.aload_n 0, 1) := by decide +kernel
theorem dX11_peace_23 : decode cX11_peace 23 = .ok (.getfield 28, 3) := by decide +kernel
theorem dX11_peace_26 : decode cX11_peace 26 = .ok (.invokevirtual 215, 3) := by decide +kernel
theorem dX11_peace_29 : decode cX11_peace 29 = .ok (.ifCond .ne 5, 3) := by decide +kernel
theorem dX11_peace_32 : decode cX11_peace 32 = .ok (.iload_n 1, 1) := by decide +kernel
theorem dX11_peace_33 : decode cX11_peace 33 = .ok (.ireturn, 1) := by decide +kernel
theorem dX11_peace_34 : decode cX11_peace 34 = .ok (.aload_n 0, 1) := by decide +kernel
theorem dX11_peace_35 : decode cX11_peace 35 = .ok (.getfield 10, 3) := by decide +kernel
theorem dX11_peace_38 : decode cX11_peace 38 = .ok (.aload_n 0, 1) := by decide +kernel
theorem dX11_peace_39 : decode cX11_peace 39 = .ok (.getfield 28, 3) := by decide +kernel
theorem dX11_peace_42 : decode cX11_peace 42 = .ok (.invokevirtual 110, 3) := by decide +kernel
theorem dX11_peace_45 : decode cX11_peace 45 = .ok (.pop, 1) := by decide +kernel
theorem dX11_peace_46 : decode cX11_peace 46 = .ok (.iinc 1 1, 3) := by decide +kernel
theorem dX11_peace_49 : decode cX11_peace 49 = .ok (.goto (-33), 3) := by decide +kernel
theorem dX11_peace_52 : decode cX11_peace 52 = .ok (.aload_n 0, 1) := by decide +kernel
theorem dX11_peace_53 : decode cX11_peace 53 = .ok (.getfield 28, 3) := by decide +kernel
theorem dX11_peace_56 : decode cX11_peace 56 = .ok (.invokevirtual 215, 3) := by decide +kernel
theorem dX11_peace_59 : decode cX11_peace 59 = .ok (.ifCond .ne 8, 3) := by decide +kernel
theorem dX11_peace_62 : decode cX11_peace 62 = .ok (.bipush 60, 2) := by decide +kernel
theorem dX11_peace_64 : decode cX11_peace 64 = .ok (.goto 4, 3) := by decide +kernel
theorem dX11_peace_67 : decode cX11_peace 67 = .ok (.iconst (-1), 1) := by decide +kernel
theorem dX11_peace_68 : decode cX11_peace 68 = .ok (.ireturn, 1) := by decide +kernel
def st_X11_peace_16 (x1 : Int32) (s : Mem) : Option ((Int32 × Mem) ⊕ (Nat × Int32 × Mem)) :=
  if 60 ≤ x1 then
  some (.inr (1, 0, s))
  else
  (f_X0_havers 115 s).bind fun r3 =>
  if r3.1 = 0 then
  some (.inr (0, x1, r3.2))
  else
  (f_X10_passMinute 1 115 r3.2).bind fun r5 =>
  some (.inl ((x1 + 1), r5.2))
def f_X11_peace (s : Mem) : Option (Int32 × Mem) :=
  (f_X0_copyFrom 115 (1 + 1) s).bind fun r1 =>
  (it FUEL (fun y => st_X11_peace_16 y.1 y.2) (0, r1)).bind fun r6 =>
  if r6.1 = 0 then some (r6.2.1, r6.2.2) else (f_X0_havers 115 r6.2.2).bind fun r7 =>
  if r7.1 = 0 then
  some (60, r7.2)
  else
  some ((-1), r7.2)
set_option maxRecDepth 100000 in
set_option maxHeartbeats 4000000 in
theorem so_X11_peace_16 {fr : Nat} (hfr : 6 ≤ fr) (Z : AZ) (X : AX Z cX11_peace 2 RX11 (some .int) 0 fr) (x1 : Int32) (s : Mem) (q : (Int32 × Mem) ⊕ (Nat × Int32 × Mem)) (h : st_X11_peace_16 x1 s = some q) (hi : ∀ y : Int32 × Mem, q = .inl y → AW Z y.2 16 [some (.ref (zr Z 0)), some (.int y.1)] []) (he : ∀ b : Nat × Int32 × Mem, q = .inr b → (b.1 = 0 → AW Z b.2.2 32 [none, some (.int b.2.1)] []) ∧ (b.1 = 1 → AW Z b.2.2 52 [some (.ref (zr Z 0)), none] [])) : AW Z s 16 [some (.ref (zr Z 0)), some (.int x1)] [] := by
  unfold st_X11_peace_16 at h
  refine aw_iload_n X dX11_peace_16 rfl ?_
  refine aw_bipush (v := 60) X dX11_peace_17 (by decide) ?_
  refine aw_icmp_ge (tgt := 52) X dX11_peace_19 (by decide) (fun c2 => ?_) (fun c2 => ?_)
  · rw [if_pos c2] at h
    cases h
    refine aw_msk [true, false] ?_
    exact (he _ rfl).2 rfl
  · rw [if_neg c2] at h
    refine aw_aload_n X dX11_peace_22 rfl ?_
    refine aw_getr X dX11_peace_23 fl_RX11_28 iu_RX11 gu_RX11_3 ?_
    obtain ⟨r3, er3, h⟩ := bnd h
    refine aw_callV X dX11_peace_26 cv_RX11_215 (ok_X0_havers iu_RX11_3 er3 _ _ _ _ _) iu_RX11_3 rfl (Nat.le_trans (by decide) hfr) (by decide) rfl rfl (Nat.le_of_ble_eq_true rfl) ?_
    refine aw_if_ne (tgt := 34) X dX11_peace_29 (by decide) (fun c4 => ?_) (fun c4 => ?_)
    · rw [if_neg c4] at h
      refine aw_aload_n X dX11_peace_34 rfl ?_
      refine aw_getr X dX11_peace_35 fl_RX11_10 iu_RX11 gu_RX11_0 ?_
      refine aw_aload_n X dX11_peace_38 rfl ?_
      refine aw_getr X dX11_peace_39 fl_RX11_28 iu_RX11 gu_RX11_3 ?_
      obtain ⟨r5, er5, h⟩ := bnd h
      refine aw_callV X dX11_peace_42 cv_RX11_110 (ok_X10_passMinute iu_RX11_0 iu_RX11_3 er5 _ _ _ _ _) iu_RX11_0 rfl (Nat.le_trans (by decide) hfr) (by decide) rfl rfl (Nat.le_of_ble_eq_true rfl) ?_
      refine aw_pop X dX11_peace_45 rfl ?_
      refine aw_iinc (v := (x1 + 1)) (L' := [some (.ref (zr Z 0)), some (.int (x1 + 1))]) X dX11_peace_46 rfl rfl (by decide) rfl ?_
      refine aw_goto (tgt := 16) X dX11_peace_49 (by decide) ?_
      cases h
      refine aw_msk [true, true] ?_
      exact hi _ rfl
    · rw [if_pos c4] at h
      cases h
      refine aw_msk [false, true] ?_
      exact (he _ rfl).1 rfl
set_option maxRecDepth 100000 in
set_option maxHeartbeats 4000000 in
theorem w_X11_peace {fr : Nat} (hfr : 6 ≤ fr) (Z : AZ) (X : AX Z cX11_peace 2 RX11 (some .int) 0 fr) (s : Mem) (r : Int32 × Mem) (hz : zres Z = (some (.int r.1), r.2)) (h : f_X11_peace s = some r) : AW Z s 0 [some (.ref (zr Z 0)), none] [] := by
  unfold f_X11_peace at h
  refine aw_aload_n X dX11_peace_0 rfl ?_
  refine aw_getr X dX11_peace_1 fl_RX11_28 iu_RX11 gu_RX11_3 ?_
  refine aw_aload_n X dX11_peace_4 rfl ?_
  refine aw_getr X dX11_peace_5 fl_RX11_10 iu_RX11 gu_RX11_0 ?_
  refine aw_getr X dX11_peace_8 fl_RX11_57 iu_RX11_0 (gt_RX10_0 iu_RX11_0) ?_
  obtain ⟨r1, er1, h⟩ := bnd h
  refine aw_callV X dX11_peace_11 cv_RX11_195 (ok_X0_copyFrom iu_RX11_3 (it_RX10_0 iu_RX11_0) er1 _ _ _ _ _) iu_RX11_3 rfl (Nat.le_trans (by decide) hfr) (by decide) rfl rfl (Nat.le_of_ble_eq_true rfl) ?_
  refine aw_iconst (v := 0) X dX11_peace_14 (by decide) ?_
  refine aw_istore_n (L' := [some (.ref (zr Z 0)), some (.int 0)]) X dX11_peace_15 (by decide) rfl ?_
  obtain ⟨r6, er6, h⟩ := bnd h
  refine aw_msk [true, true] ?_
  refine it_ok (P := fun y : Int32 × Mem => AW Z y.2 16 [some (.ref (zr Z 0)), some (.int y.1)] []) (Q := fun b : Nat × Int32 × Mem => (b.1 = 0 → AW Z b.2.2 32 [none, some (.int b.2.1)] []) ∧ (b.1 = 1 → AW Z b.2.2 52 [some (.ref (zr Z 0)), none] [])) (fun y q hq hi he => so_X11_peace_16 hfr Z X y.1 y.2 q hq hi he) FUEL _ _ er6 ?_
  refine ⟨fun c0 => ?_, fun c1 => ?_⟩
  · rw [if_pos c0] at h
    refine aw_iload_n X dX11_peace_32 rfl ?_
    cases h
    exact aw_iret X dX11_peace_33 rfl hz.symm
  · rw [if_neg (by rw [c1]; decide)] at h
    refine aw_aload_n X dX11_peace_52 rfl ?_
    refine aw_getr X dX11_peace_53 fl_RX11_28 iu_RX11 gu_RX11_3 ?_
    obtain ⟨r7, er7, h⟩ := bnd h
    refine aw_callV X dX11_peace_56 cv_RX11_215 (ok_X0_havers iu_RX11_3 er7 _ _ _ _ _) iu_RX11_3 rfl (Nat.le_trans (by decide) hfr) (by decide) rfl rfl (Nat.le_of_ble_eq_true rfl) ?_
    refine aw_if_ne (tgt := 67) X dX11_peace_59 (by decide) (fun c8 => ?_) (fun c8 => ?_)
    · rw [if_neg c8] at h
      refine aw_iconst (v := (-1)) X dX11_peace_67 (by decide) ?_
      cases h
      exact aw_iret X dX11_peace_68 rfl hz.symm
    · rw [if_pos c8] at h
      refine aw_bipush (v := 60) X dX11_peace_62 (by decide) ?_
      refine aw_goto (tgt := 68) X dX11_peace_64 (by decide) ?_
      cases h
      exact aw_iret X dX11_peace_68 rfl hz.symm
set_option maxRecDepth 100000 in
set_option maxHeartbeats 4000000 in
theorem ok_X11_peace {s : Mem} {r : Int32 × Mem} (h : f_X11_peace s = some r) (l : Launch) (D : va_G) (ρ : Nat → Nat) (cA : ClassId × ClassId × ClassId) (τ : AT) : AM l D ρ cA 0 τ yX11_peace cX11_peace 2 (some .int) 6 [.ref (ρ 0)] (some (.int r.1)) s r.2 := by
  refine AM_of (L := [some (.ref (ρ 0)), none]) (by decide) (by simp [Value.category]) (Nat.le_of_ble_eq_true rfl) (fun j v q => ?_) (fun Z X hρ hz => ?_)
  · exact aL_ok (n := 1) [.ref (ρ 0)] j v q
  · subst hρ
    exact w_X11_peace (Nat.le_refl _) Z X s r hz h

theorem dX11_back_0 : decode cX11_back 0 = .ok (.aload_n 0, 1) := by decide +kernel
theorem dX11_back_1 : decode cX11_back 1 = .ok (.getfield 10, 3) := by decide +kernel
theorem dX11_back_4 : decode cX11_back 4 = .ok (.getfield 57, 3) := by decide +kernel
theorem dX11_back_7 : decode cX11_back 7 = .ok (.iload_n 1, 1) := by decide +kernel
theorem dX11_back_8 : decode cX11_back 8 = .ok (.invokevirtual 73, 3) := by decide +kernel
theorem dX11_back_11 : decode cX11_back 11 = .ok (.ifCond .eq 17, 3) := by decide +kernel
theorem dX11_back_14 : decode cX11_back 14 = .ok (.aload_n 0, 1) := by decide +kernel
theorem dX11_back_15 : decode cX11_back 15 = .ok (.getfield 10, 3) := by decide +kernel
theorem dX11_back_18 : decode cX11_back 18 = .ok (.getfield 57, 3) := by decide +kernel
theorem dX11_back_21 : decode cX11_back 21 = .ok (.iload_n 1, 1) := by decide +kernel
theorem dX11_back_22 : decode cX11_back 22 = .ok (.invokevirtual 219, 3) := by decide +kernel
theorem dX11_back_25 : decode cX11_back 25 = .ok (.goto 4, 3) := by decide +kernel
theorem dX11_back_28 : decode cX11_back 28 = .ok (.iconst (-1), 1) := by decide +kernel
theorem dX11_back_29 : decode cX11_back 29 = .ok (.ireturn, 1) := by decide +kernel
def f_X11_back (x1 : Int32) (s : Mem) : Option (Int32 × Mem) :=
  (f_X0_has (1 + 1) x1 s).bind fun r1 =>
  if r1.1 = 0 then
  some ((-1), r1.2)
  else
  (f_X0_stepsBack (1 + 1) x1 r1.2).bind fun r3 =>
  some (r3.1, r3.2)
set_option maxRecDepth 100000 in
set_option maxHeartbeats 4000000 in
theorem w_X11_back {fr : Nat} (hfr : 1 ≤ fr) (Z : AZ) (X : AX Z cX11_back 2 RX11 (some .int) 0 fr) (x1 : Int32) (s : Mem) (r : Int32 × Mem) (hz : zres Z = (some (.int r.1), r.2)) (h : f_X11_back x1 s = some r) : AW Z s 0 [some (.ref (zr Z 0)), some (.int x1)] [] := by
  unfold f_X11_back at h
  refine aw_aload_n X dX11_back_0 rfl ?_
  refine aw_getr X dX11_back_1 fl_RX11_10 iu_RX11 gu_RX11_0 ?_
  refine aw_getr X dX11_back_4 fl_RX11_57 iu_RX11_0 (gt_RX10_0 iu_RX11_0) ?_
  refine aw_iload_n X dX11_back_7 rfl ?_
  obtain ⟨r1, er1, h⟩ := bnd h
  refine aw_callV X dX11_back_8 cv_RX11_73 (ok_X0_has (it_RX10_0 iu_RX11_0) er1 _ _ _ _ _) (it_RX10_0 iu_RX11_0) rfl (Nat.le_trans (by decide) hfr) (by decide) rfl rfl (Nat.le_of_ble_eq_true rfl) ?_
  refine aw_if_eq (tgt := 28) X dX11_back_11 (by decide) (fun c2 => ?_) (fun c2 => ?_)
  · rw [if_pos c2] at h
    refine aw_iconst (v := (-1)) X dX11_back_28 (by decide) ?_
    cases h
    exact aw_iret X dX11_back_29 rfl hz.symm
  · rw [if_neg c2] at h
    refine aw_aload_n X dX11_back_14 rfl ?_
    refine aw_getr X dX11_back_15 fl_RX11_10 iu_RX11 gu_RX11_0 ?_
    refine aw_getr X dX11_back_18 fl_RX11_57 iu_RX11_0 (gt_RX10_0 iu_RX11_0) ?_
    refine aw_iload_n X dX11_back_21 rfl ?_
    obtain ⟨r3, er3, h⟩ := bnd h
    refine aw_callV X dX11_back_22 cv_RX11_219 (ok_X0_stepsBack (it_RX10_0 iu_RX11_0) er3 _ _ _ _ _) (it_RX10_0 iu_RX11_0) rfl (Nat.le_trans (by decide) hfr) (by decide) rfl rfl (Nat.le_of_ble_eq_true rfl) ?_
    refine aw_goto (tgt := 29) X dX11_back_25 (by decide) ?_
    cases h
    exact aw_iret X dX11_back_29 rfl hz.symm
set_option maxRecDepth 100000 in
set_option maxHeartbeats 4000000 in
theorem ok_X11_back {x1 : Int32} {s : Mem} {r : Int32 × Mem} (h : f_X11_back x1 s = some r) (l : Launch) (D : va_G) (ρ : Nat → Nat) (cA : ClassId × ClassId × ClassId) (τ : AT) : AM l D ρ cA 0 τ yX11_back cX11_back 2 (some .int) 1 [.ref (ρ 0), .int x1] (some (.int r.1)) s r.2 := by
  refine AM_of (L := [some (.ref (ρ 0)), some (.int x1)]) (by decide) (by simp [Value.category]) (Nat.le_of_ble_eq_true rfl) (fun j v q => ?_) (fun Z X hρ hz => ?_)
  · exact aL_ok (n := 0) [.ref (ρ 0), .int x1] j v q
  · subst hρ
    exact w_X11_back (Nat.le_refl _) Z X x1 s r hz h

theorem dX11_breath_0 : decode cX11_breath 0 = .ok (.aload_n 0, 1) := by decide +kernel
theorem dX11_breath_1 : decode cX11_breath 1 = .ok (.getfield 10, 3) := by decide +kernel
theorem dX11_breath_4 : decode cX11_breath 4 = .ok (.getfield 222, 3) := by decide +kernel
theorem dX11_breath_7 : decode cX11_breath 7 = .ok (.getfield 226, 3) := by decide +kernel
theorem dX11_breath_10 : decode cX11_breath 10 = .ok (.astore_n 2, 1) := by decide +kernel
theorem dX11_breath_11 : decode cX11_breath 11 = .ok (.iload_n 1, 1) := by decide +kernel
theorem dX11_breath_12 : decode cX11_breath 12 = .ok (.bipush (-100), 2) := by decide +kernel
theorem dX11_breath_14 : decode cX11_breath 14 = .ok (.if_icmp .ne 8, 3) := by decide +kernel
theorem dX11_breath_17 : decode cX11_breath 17 = .ok (.aload_n 2, 1) := by decide +kernel
theorem dX11_breath_18 : decode cX11_breath 18 = .ok (.invokevirtual 232, 3) := by decide +kernel
theorem dX11_breath_21 : decode cX11_breath 21 = .ok (.ireturn, 1) := by decide +kernel
theorem dX11_breath_22 : decode cX11_breath 22 = .ok (.iload_n 1, 1) := by decide +kernel
theorem dX11_breath_23 : decode cX11_breath 23 = .ok (.bipush (-50), 2) := by decide +kernel
theorem dX11_breath_25 : decode cX11_breath 25 = .ok (.if_icmp .lt 16, 3) := by decide +kernel
theorem dX11_breath_28 : decode cX11_breath 28 = .ok (.iload_n 1, 1) := by decide +kernel
theorem dX11_breath_29 : decode cX11_breath 29 = .ok (.bipush 50, 2) := by decide +kernel
theorem dX11_breath_31 : decode cX11_breath 31 = .ok (.if_icmp .gt 10, 3) := by decide +kernel
theorem dX11_breath_34 : decode cX11_breath 34 = .ok (.aload_n 2, 1) := by decide +kernel
theorem dX11_breath_35 : decode cX11_breath 35 = .ok (.invokevirtual 237, 3) := by decide +kernel
theorem dX11_breath_38 : decode cX11_breath 38 = .ok (.ifCond .eq 6, 3) := by decide +kernel
theorem dX11_breath_41 : decode cX11_breath 41 = .ok (.bipush (-100), 2) := by decide +kernel
theorem dX11_breath_43 : decode cX11_breath 43 = .ok (.ireturn, 1) := by decide +kernel
theorem dX11_breath_44 : decode cX11_breath 44 = .ok (.aload_n 2, 1) := by decide +kernel
theorem dX11_breath_45 : decode cX11_breath 45 = .ok (.iload_n 1, 1) := by decide +kernel
theorem dX11_breath_46 : decode cX11_breath 46 = .ok (.invokevirtual 241, 3) := by decide +kernel
theorem dX11_breath_49 : decode cX11_breath 49 = .ok (.ireturn, 1) := by decide +kernel
def f_X11_breath (x1 : Int32) (s : Mem) : Option (Int32 × Mem) :=
  if x1 = (-100) then
  (f_X7_clear ((1 + 31) + 1) s).bind fun r7 =>
  some (r7.1, r7.2)
  else
  if x1 < (-50) then
  some ((-100), s)
  else
  if 50 < x1 then
  some ((-100), s)
  else
  (f_X7_isFull ((1 + 31) + 1) s).bind fun r4 =>
  if r4.1 = 0 then
  (f_X7_add ((1 + 31) + 1) x1 r4.2).bind fun r6 =>
  some (r6.1, r6.2)
  else
  some ((-100), r4.2)
set_option maxRecDepth 100000 in
set_option maxHeartbeats 4000000 in
theorem w_X11_breath {fr : Nat} (hfr : 2 ≤ fr) (Z : AZ) (X : AX Z cX11_breath 3 RX11 (some .int) 0 fr) (x1 : Int32) (s : Mem) (r : Int32 × Mem) (hz : zres Z = (some (.int r.1), r.2)) (h : f_X11_breath x1 s = some r) : AW Z s 0 [some (.ref (zr Z 0)), some (.int x1), none] [] := by
  unfold f_X11_breath at h
  refine aw_aload_n X dX11_breath_0 rfl ?_
  refine aw_getr X dX11_breath_1 fl_RX11_10 iu_RX11 gu_RX11_0 ?_
  refine aw_getr X dX11_breath_4 fl_RX11_222 iu_RX11_0 (gt_RX10_5 iu_RX11_0) ?_
  refine aw_getr X dX11_breath_7 fl_RX11_226 (it_RX10_5 iu_RX11_0) (gt_RX8_0 (it_RX10_5 iu_RX11_0)) ?_
  refine aw_astore_n (L' := [some (.ref (zr Z 0)), some (.int x1), some (.ref (zr Z ((1 + 31) + 1)))]) X dX11_breath_10 (by decide) rfl ?_
  refine aw_iload_n X dX11_breath_11 rfl ?_
  refine aw_bipush (v := (-100)) X dX11_breath_12 (by decide) ?_
  refine aw_icmp_ne (tgt := 22) X dX11_breath_14 (by decide) (fun c1 => ?_) (fun c1 => ?_)
  · rw [if_neg c1] at h
    refine aw_iload_n X dX11_breath_22 rfl ?_
    refine aw_bipush (v := (-50)) X dX11_breath_23 (by decide) ?_
    refine aw_icmp_lt (tgt := 41) X dX11_breath_25 (by decide) (fun c2 => ?_) (fun c2 => ?_)
    · rw [if_pos c2] at h
      refine aw_bipush (v := (-100)) X dX11_breath_41 (by decide) ?_
      cases h
      exact aw_iret X dX11_breath_43 rfl hz.symm
    · rw [if_neg c2] at h
      refine aw_iload_n X dX11_breath_28 rfl ?_
      refine aw_bipush (v := 50) X dX11_breath_29 (by decide) ?_
      refine aw_icmp_gt (tgt := 41) X dX11_breath_31 (by decide) (fun c3 => ?_) (fun c3 => ?_)
      · rw [if_pos c3] at h
        refine aw_bipush (v := (-100)) X dX11_breath_41 (by decide) ?_
        cases h
        exact aw_iret X dX11_breath_43 rfl hz.symm
      · rw [if_neg c3] at h
        refine aw_aload_n X dX11_breath_34 rfl ?_
        obtain ⟨r4, er4, h⟩ := bnd h
        refine aw_callV X dX11_breath_35 cv_RX11_237 (ok_X7_isFull (it_RX8_0 (it_RX10_5 iu_RX11_0)) er4 _ _ _ _ _) (it_RX8_0 (it_RX10_5 iu_RX11_0)) rfl (Nat.le_trans (by decide) hfr) (by decide) rfl rfl (Nat.le_of_ble_eq_true rfl) ?_
        refine aw_if_eq (tgt := 44) X dX11_breath_38 (by decide) (fun c5 => ?_) (fun c5 => ?_)
        · rw [if_pos c5] at h
          refine aw_aload_n X dX11_breath_44 rfl ?_
          refine aw_iload_n X dX11_breath_45 rfl ?_
          obtain ⟨r6, er6, h⟩ := bnd h
          refine aw_callV X dX11_breath_46 cv_RX11_241 (ok_X7_add (it_RX8_0 (it_RX10_5 iu_RX11_0)) er6 _ _ _ _ _) (it_RX8_0 (it_RX10_5 iu_RX11_0)) rfl (Nat.le_trans (by decide) hfr) (by decide) rfl rfl (Nat.le_of_ble_eq_true rfl) ?_
          cases h
          exact aw_iret X dX11_breath_49 rfl hz.symm
        · rw [if_neg c5] at h
          refine aw_bipush (v := (-100)) X dX11_breath_41 (by decide) ?_
          cases h
          exact aw_iret X dX11_breath_43 rfl hz.symm
  · rw [if_pos c1] at h
    refine aw_aload_n X dX11_breath_17 rfl ?_
    obtain ⟨r7, er7, h⟩ := bnd h
    refine aw_callV X dX11_breath_18 cv_RX11_232 (ok_X7_clear (it_RX8_0 (it_RX10_5 iu_RX11_0)) er7 _ _ _ _ _) (it_RX8_0 (it_RX10_5 iu_RX11_0)) rfl (Nat.le_trans (by decide) hfr) (by decide) rfl rfl (Nat.le_of_ble_eq_true rfl) ?_
    cases h
    exact aw_iret X dX11_breath_21 rfl hz.symm
set_option maxRecDepth 100000 in
set_option maxHeartbeats 4000000 in
theorem ok_X11_breath {x1 : Int32} {s : Mem} {r : Int32 × Mem} (h : f_X11_breath x1 s = some r) (l : Launch) (D : va_G) (ρ : Nat → Nat) (cA : ClassId × ClassId × ClassId) (τ : AT) : AM l D ρ cA 0 τ yX11_breath cX11_breath 3 (some .int) 2 [.ref (ρ 0), .int x1] (some (.int r.1)) s r.2 := by
  refine AM_of (L := [some (.ref (ρ 0)), some (.int x1), none]) (by decide) (by simp [Value.category]) (Nat.le_of_ble_eq_true rfl) (fun j v q => ?_) (fun Z X hρ hz => ?_)
  · exact aL_ok (n := 1) [.ref (ρ 0), .int x1] j v q
  · subst hρ
    exact w_X11_breath (Nat.le_refl _) Z X x1 s r hz h

theorem dX11_held_0 : decode cX11_held 0 = .ok (.iload_n 1, 1) := by decide +kernel
theorem dX11_held_1 : decode cX11_held 1 = .ok (.ifCond .lt 8, 3) := by decide +kernel
theorem dX11_held_4 : decode cX11_held 4 = .ok (.iload_n 1, 1) := by decide +kernel
theorem dX11_held_5 : decode cX11_held 5 = .ok (.iconst 1, 1) := by decide +kernel
theorem dX11_held_6 : decode cX11_held 6 = .ok (.if_icmp .le 7, 3) := by decide +kernel
theorem dX11_held_9 : decode cX11_held 9 = .ok (.sipush (-1000), 3) := by decide +kernel
theorem dX11_held_12 : decode cX11_held 12 = .ok (.ireturn, 1) := by decide +kernel
theorem dX11_held_13 : decode cX11_held 13 = .ok (.aload_n 0, 1) := by decide +kernel
theorem dX11_held_14 : decode cX11_held 14 = .ok (.getfield 53, 3) := by decide +kernel
theorem dX11_held_17 : decode cX11_held 17 = .ok (.aload_n 0, 1) := by decide +kernel
theorem dX11_held_18 : decode cX11_held 18 = .ok (.getfield 10, 3) := by decide +kernel
theorem dX11_held_21 : decode cX11_held 21 = .ok (.getfield 222, 3) := by decide +kernel
theorem dX11_held_24 : decode cX11_held 24 = .ok (.getfield 226, 3) := by decide +kernel
theorem dX11_held_27 : decode cX11_held 27 = .ok (.iload_n 1, 1) := by decide +kernel
theorem dX11_held_28 : decode cX11_held 28 = .ok (.iconst 1, 1) := by decide +kernel
theorem dX11_held_29 : decode cX11_held 29 = .ok (.if_icmp .ne 7, 3) := by decide +kernel
theorem dX11_held_32 : decode cX11_held 32 = .ok (.iconst 1, 1) := by decide +kernel
theorem dX11_held_33 : decode cX11_held 33 = .ok (.goto 4, 3) := by decide +kernel
theorem dX11_held_36 : decode cX11_held 36 = .ok (.iconst 0, 1) := by decide +kernel
theorem dX11_held_37 : decode cX11_held 37 = .ok (.invokevirtual 244, 3) := by decide +kernel
theorem dX11_held_40 : decode cX11_held 40 = .ok (.ireturn, 1) := by decide +kernel
def jn_X11_held_37 (t2 : Int32) (s : Mem) : Option (Int32 × Mem) :=
  (f_X9_greatestSum ((1 + 31) + 1) t2 s).bind fun r4 =>
  some (r4.1, r4.2)
def f_X11_held (x1 : Int32) (s : Mem) : Option (Int32 × Mem) :=
  if x1 < 0 then
  some ((-1000), s)
  else
  if x1 ≤ 1 then
  if x1 = 1 then
  jn_X11_held_37 1 s
  else
  jn_X11_held_37 0 s
  else
  some ((-1000), s)
set_option maxRecDepth 100000 in
set_option maxHeartbeats 4000000 in
theorem jo_X11_held_37 {fr : Nat} (hfr : 2 ≤ fr) (Z : AZ) (X : AX Z cX11_held 2 RX11 (some .int) 0 fr) (t2 : Int32) (s : Mem) (r : Int32 × Mem) (hz : zres Z = (some (.int r.1), r.2)) (h : jn_X11_held_37 t2 s = some r) : AW Z s 37 [none, none] [.int t2, .ref (zr Z ((1 + 31) + 1)), .ref (zr Z 195)] := by
  unfold jn_X11_held_37 at h
  obtain ⟨r4, er4, h⟩ := bnd h
  refine aw_callV X dX11_held_37 cv_RX11_244 (ok_X9_greatestSum (it_RX8_0 (it_RX10_5 iu_RX11_0)) er4 _ _ _ _ _) iu_RX11_8 rfl (Nat.le_trans (by decide) hfr) (by decide) rfl rfl (Nat.le_of_ble_eq_true rfl) ?_
  cases h
  exact aw_iret X dX11_held_40 rfl hz.symm
set_option maxRecDepth 100000 in
set_option maxHeartbeats 4000000 in
theorem w_X11_held {fr : Nat} (hfr : 2 ≤ fr) (Z : AZ) (X : AX Z cX11_held 2 RX11 (some .int) 0 fr) (x1 : Int32) (s : Mem) (r : Int32 × Mem) (hz : zres Z = (some (.int r.1), r.2)) (h : f_X11_held x1 s = some r) : AW Z s 0 [some (.ref (zr Z 0)), some (.int x1)] [] := by
  unfold f_X11_held at h
  refine aw_iload_n X dX11_held_0 rfl ?_
  refine aw_if_lt (tgt := 9) X dX11_held_1 (by decide) (fun c1 => ?_) (fun c1 => ?_)
  · rw [if_pos c1] at h
    refine aw_sipush (v := (-1000)) X dX11_held_9 (by decide) ?_
    cases h
    exact aw_iret X dX11_held_12 rfl hz.symm
  · rw [if_neg c1] at h
    refine aw_iload_n X dX11_held_4 rfl ?_
    refine aw_iconst (v := 1) X dX11_held_5 (by decide) ?_
    refine aw_icmp_le (tgt := 13) X dX11_held_6 (by decide) (fun c2 => ?_) (fun c2 => ?_)
    · rw [if_pos c2] at h
      refine aw_aload_n X dX11_held_13 rfl ?_
      refine aw_getr X dX11_held_14 fl_RX11_53 iu_RX11 gu_RX11_8 ?_
      refine aw_aload_n X dX11_held_17 rfl ?_
      refine aw_getr X dX11_held_18 fl_RX11_10 iu_RX11 gu_RX11_0 ?_
      refine aw_getr X dX11_held_21 fl_RX11_222 iu_RX11_0 (gt_RX10_5 iu_RX11_0) ?_
      refine aw_getr X dX11_held_24 fl_RX11_226 (it_RX10_5 iu_RX11_0) (gt_RX8_0 (it_RX10_5 iu_RX11_0)) ?_
      refine aw_iload_n X dX11_held_27 rfl ?_
      refine aw_iconst (v := 1) X dX11_held_28 (by decide) ?_
      refine aw_icmp_ne (tgt := 36) X dX11_held_29 (by decide) (fun c3 => ?_) (fun c3 => ?_)
      · rw [if_neg c3] at h
        refine aw_iconst (v := 0) X dX11_held_36 (by decide) ?_
        refine aw_msk [false, false] ?_
        exact jo_X11_held_37 hfr Z X _ _ _ hz h
      · rw [if_pos c3] at h
        refine aw_iconst (v := 1) X dX11_held_32 (by decide) ?_
        refine aw_goto (tgt := 37) X dX11_held_33 (by decide) ?_
        refine aw_msk [false, false] ?_
        exact jo_X11_held_37 hfr Z X _ _ _ hz h
    · rw [if_neg c2] at h
      refine aw_sipush (v := (-1000)) X dX11_held_9 (by decide) ?_
      cases h
      exact aw_iret X dX11_held_12 rfl hz.symm
set_option maxRecDepth 100000 in
set_option maxHeartbeats 4000000 in
theorem ok_X11_held {x1 : Int32} {s : Mem} {r : Int32 × Mem} (h : f_X11_held x1 s = some r) (l : Launch) (D : va_G) (ρ : Nat → Nat) (cA : ClassId × ClassId × ClassId) (τ : AT) : AM l D ρ cA 0 τ yX11_held cX11_held 2 (some .int) 2 [.ref (ρ 0), .int x1] (some (.int r.1)) s r.2 := by
  refine AM_of (L := [some (.ref (ρ 0)), some (.int x1)]) (by decide) (by simp [Value.category]) (Nat.le_of_ble_eq_true rfl) (fun j v q => ?_) (fun Z X hρ hz => ?_)
  · exact aL_ok (n := 0) [.ref (ρ 0), .int x1] j v q
  · subst hρ
    exact w_X11_held (Nat.le_refl _) Z X x1 s r hz h

theorem dX11_least_0 : decode cX11_least 0 = .ok (.aload_n 0, 1) := by decide +kernel
theorem dX11_least_1 : decode cX11_least 1 = .ok (.getfield 10, 3) := by decide +kernel
theorem dX11_least_4 : decode cX11_least 4 = .ok (.getfield 222, 3) := by decide +kernel
theorem dX11_least_7 : decode cX11_least 7 = .ok (.getfield 226, 3) := by decide +kernel
theorem dX11_least_10 : decode cX11_least 10 = .ok (.astore_n 3, 1) := by decide +kernel
theorem dX11_least_11 : decode cX11_least 11 = .ok (.iload_n 1, 1) := by decide +kernel
theorem dX11_least_12 : decode cX11_least 12 = .ok (.ifCond .lt 11, 3) := by decide +kernel
theorem dX11_least_15 : decode cX11_least 15 = .ok (.iload_n 1, 1) := by decide +kernel
theorem dX11_least_16 : decode cX11_least 16 = .ok (.aload_n 3, 1) := by decide +kernel
theorem dX11_least_17 : decode cX11_least 17 = .ok (.getfield 248, 3) := by decide +kernel
theorem dX11_least_20 : decode cX11_least 20 = .ok (.if_icmp .lt 5, 3) := by decide +kernel
theorem dX11_least_23 : decode cX11_least 23 = .ok (.iconst (-1), 1) := by decide +kernel
theorem dX11_least_24 : decode cX11_least 24 = .ok (.ireturn, 1) := by decide +kernel
theorem dX11_least_25 : decode cX11_least 25 = .ok (.aload_n 0, 1) := by decide +kernel
theorem dX11_least_26 : decode cX11_least 26 = .ok (.getfield 53, 3) := by decide +kernel
theorem dX11_least_29 : decode cX11_least 29 = .ok (.aload_n 3, 1) := by decide +kernel
theorem dX11_least_30 : decode cX11_least 30 = .ok (.iload_n 1, 1) := by decide +kernel
theorem dX11_least_31 : decode cX11_least 31 = .ok (.invokevirtual 251, 3) := by decide +kernel
theorem dX11_least_34 : decode cX11_least 34 = .ok (.istore 4, 2) := by decide +kernel
theorem dX11_least_36 : decode cX11_least 36 = .ok (.iload_n 2, 1) := by decide +kernel
theorem dX11_least_37 : decode cX11_least 37 = .ok (.tableswitch 72 0 2 #[27, 38, 54], 27) := by decide +kernel
theorem dX11_least_64 : decode cX11_least 64 = .ok (.aload_n 0, 1) := by decide +kernel
theorem dX11_least_65 : decode cX11_least 65 = .ok (.getfield 53, 3) := by decide +kernel
theorem dX11_least_68 : decode cX11_least 68 = .ok (.aload_n 3, 1) := by decide +kernel
theorem dX11_least_69 : decode cX11_least 69 = .ok (.iload_n 1, 1) := by decide +kernel
theorem dX11_least_70 : decode cX11_least 70 = .ok (.iconst 0, 1) := by decide +kernel
theorem dX11_least_71 : decode cX11_least 71 = .ok (.invokevirtual 255, 3) := by decide +kernel
theorem dX11_least_74 : decode cX11_least 74 = .ok (.ireturn, 1) := by decide +kernel
theorem dX11_least_75 : decode cX11_least 75 = .ok (.iload 4, 2) := by decide +kernel
theorem dX11_least_77 : decode cX11_least 77 = .ok (.aload_n 3, 1) := by decide +kernel
theorem dX11_least_78 : decode cX11_least 78 = .ok (.getfield 248, 3) := by decide +kernel
theorem dX11_least_81 : decode cX11_least 81 = .ok (.if_icmp .ge 8, 3) := by decide +kernel
theorem dX11_least_84 : decode cX11_least 84 = .ok (.iload 4, 2) := by decide +kernel
theorem dX11_least_86 : decode cX11_least 86 = .ok (.goto 4, 3) := by decide +kernel
theorem dX11_least_89 : decode cX11_least 89 = .ok (.iconst (-1), 1) := by decide +kernel
theorem dX11_least_90 : decode cX11_least 90 = .ok (.ireturn, 1) := by decide +kernel
theorem dX11_least_91 : decode cX11_least 91 = .ok (.iload_n 1, 1) := by decide +kernel
theorem dX11_least_92 : decode cX11_least 92 = .ok (.aload_n 0, 1) := by decide +kernel
theorem dX11_least_93 : decode cX11_least 93 = .ok (.getfield 53, 3) := by decide +kernel
theorem dX11_least_96 : decode cX11_least 96 = .ok (.aload_n 3, 1) := by decide +kernel
theorem dX11_least_97 : decode cX11_least 97 = .ok (.iload_n 1, 1) := by decide +kernel
theorem dX11_least_98 : decode cX11_least 98 = .ok (.iconst 1, 1) := by decide +kernel
theorem dX11_least_99 : decode cX11_least 99 = .ok (.invokevirtual 255, 3) := by decide +kernel
theorem dX11_least_102 : decode cX11_least 102 = .ok (.isub, 1) := by decide +kernel
theorem dX11_least_103 : decode cX11_least 103 = .ok (.iload 4, 2) := by decide +kernel
theorem dX11_least_105 : decode cX11_least 105 = .ok (.iload_n 1, 1) := by decide +kernel
theorem dX11_least_106 : decode cX11_least 106 = .ok (.isub, 1) := by decide +kernel
theorem dX11_least_107 : decode cX11_least 107 = .ok (.imul, 1) := by decide +kernel
theorem dX11_least_108 : decode cX11_least 108 = .ok (.ireturn, 1) := by decide +kernel
theorem dX11_least_109 : decode cX11_least 109 = .ok (.iconst (-1), 1) := by decide +kernel
theorem dX11_least_110 : decode cX11_least 110 = .ok (.ireturn, 1) := by decide +kernel
def f_X11_least (x1 : Int32) (x2 : Int32) (s : Mem) : Option (Int32 × Mem) :=
  if x1 < 0 then
  some ((-1), s)
  else
  if x1 < (s ((1 + 31) + 1) 1) then
  (f_X9_lessToRight ((1 + 31) + 1) x1 s).bind fun r3 =>
  if x2 = 0 then
  (f_X9_lessToLeft ((1 + 31) + 1) x1 0 r3.2).bind fun r5 =>
  some (r5.1, r5.2)
  else if x2 = 1 then
  if (r3.2 ((1 + 31) + 1) 1) ≤ r3.1 then
  some ((-1), r3.2)
  else
  some (r3.1, r3.2)
  else if x2 = 2 then
  (f_X9_lessToLeft ((1 + 31) + 1) x1 1 r3.2).bind fun r9 =>
  some (((x1 - r9.1) * (r3.1 - x1)), r9.2)
  else 
  some ((-1), r3.2)
  else
  some ((-1), s)
set_option maxRecDepth 100000 in
set_option maxHeartbeats 4000000 in
theorem w_X11_least {fr : Nat} (hfr : 1 ≤ fr) (Z : AZ) (X : AX Z cX11_least 5 RX11 (some .int) 0 fr) (x1 : Int32) (x2 : Int32) (s : Mem) (r : Int32 × Mem) (hz : zres Z = (some (.int r.1), r.2)) (h : f_X11_least x1 x2 s = some r) : AW Z s 0 [some (.ref (zr Z 0)), some (.int x1), some (.int x2), none, none] [] := by
  unfold f_X11_least at h
  refine aw_aload_n X dX11_least_0 rfl ?_
  refine aw_getr X dX11_least_1 fl_RX11_10 iu_RX11 gu_RX11_0 ?_
  refine aw_getr X dX11_least_4 fl_RX11_222 iu_RX11_0 (gt_RX10_5 iu_RX11_0) ?_
  refine aw_getr X dX11_least_7 fl_RX11_226 (it_RX10_5 iu_RX11_0) (gt_RX8_0 (it_RX10_5 iu_RX11_0)) ?_
  refine aw_astore_n (L' := [some (.ref (zr Z 0)), some (.int x1), some (.int x2), some (.ref (zr Z ((1 + 31) + 1))), none]) X dX11_least_10 (by decide) rfl ?_
  refine aw_iload_n X dX11_least_11 rfl ?_
  refine aw_if_lt (tgt := 23) X dX11_least_12 (by decide) (fun c1 => ?_) (fun c1 => ?_)
  · rw [if_pos c1] at h
    refine aw_iconst (v := (-1)) X dX11_least_23 (by decide) ?_
    cases h
    exact aw_iret X dX11_least_24 rfl hz.symm
  · rw [if_neg c1] at h
    refine aw_iload_n X dX11_least_15 rfl ?_
    refine aw_aload_n X dX11_least_16 rfl ?_
    refine aw_geti X dX11_least_17 fl_RX11_248 (it_RX8_0 (it_RX10_5 iu_RX11_0)) (gt_RX7_1 (it_RX8_0 (it_RX10_5 iu_RX11_0))) ?_
    refine aw_icmp_lt (tgt := 25) X dX11_least_20 (by decide) (fun c2 => ?_) (fun c2 => ?_)
    · rw [if_pos c2] at h
      refine aw_aload_n X dX11_least_25 rfl ?_
      refine aw_getr X dX11_least_26 fl_RX11_53 iu_RX11 gu_RX11_8 ?_
      refine aw_aload_n X dX11_least_29 rfl ?_
      refine aw_iload_n X dX11_least_30 rfl ?_
      obtain ⟨r3, er3, h⟩ := bnd h
      refine aw_callV X dX11_least_31 cv_RX11_251 (ok_X9_lessToRight (it_RX8_0 (it_RX10_5 iu_RX11_0)) er3 _ _ _ _ _) iu_RX11_8 rfl (Nat.le_trans (by decide) hfr) (by decide) rfl rfl (Nat.le_of_ble_eq_true rfl) ?_
      refine aw_istore (L' := [some (.ref (zr Z 0)), some (.int x1), some (.int x2), some (.ref (zr Z ((1 + 31) + 1))), some (.int r3.1)]) X dX11_least_34 (by decide) rfl ?_
      refine aw_iload_n X dX11_least_36 rfl ?_
      by_cases c4 : x2 = 0
      · rw [if_pos c4] at h
        refine aw_tsw (tgt := 64) X dX11_least_37 (by rw [c4]; decide) ?_
        refine aw_aload_n X dX11_least_64 rfl ?_
        refine aw_getr X dX11_least_65 fl_RX11_53 iu_RX11 gu_RX11_8 ?_
        refine aw_aload_n X dX11_least_68 rfl ?_
        refine aw_iload_n X dX11_least_69 rfl ?_
        refine aw_iconst (v := 0) X dX11_least_70 (by decide) ?_
        obtain ⟨r5, er5, h⟩ := bnd h
        refine aw_callV X dX11_least_71 cv_RX11_255 (ok_X9_lessToLeft (it_RX8_0 (it_RX10_5 iu_RX11_0)) er5 _ _ _ _ _) iu_RX11_8 rfl (Nat.le_trans (by decide) hfr) (by decide) rfl rfl (Nat.le_of_ble_eq_true rfl) ?_
        cases h
        exact aw_iret X dX11_least_74 rfl hz.symm
      rw [if_neg c4] at h
      by_cases c6 : x2 = 1
      · rw [if_pos c6] at h
        refine aw_tsw (tgt := 75) X dX11_least_37 (by rw [c6]; decide) ?_
        refine aw_iload X dX11_least_75 rfl ?_
        refine aw_aload_n X dX11_least_77 rfl ?_
        refine aw_geti X dX11_least_78 fl_RX11_248 (it_RX8_0 (it_RX10_5 iu_RX11_0)) (gt_RX7_1 (it_RX8_0 (it_RX10_5 iu_RX11_0))) ?_
        refine aw_icmp_ge (tgt := 89) X dX11_least_81 (by decide) (fun c7 => ?_) (fun c7 => ?_)
        · rw [if_pos c7] at h
          refine aw_iconst (v := (-1)) X dX11_least_89 (by decide) ?_
          cases h
          exact aw_iret X dX11_least_90 rfl hz.symm
        · rw [if_neg c7] at h
          refine aw_iload X dX11_least_84 rfl ?_
          refine aw_goto (tgt := 90) X dX11_least_86 (by decide) ?_
          cases h
          exact aw_iret X dX11_least_90 rfl hz.symm
      rw [if_neg c6] at h
      by_cases c8 : x2 = 2
      · rw [if_pos c8] at h
        refine aw_tsw (tgt := 91) X dX11_least_37 (by rw [c8]; decide) ?_
        refine aw_iload_n X dX11_least_91 rfl ?_
        refine aw_aload_n X dX11_least_92 rfl ?_
        refine aw_getr X dX11_least_93 fl_RX11_53 iu_RX11 gu_RX11_8 ?_
        refine aw_aload_n X dX11_least_96 rfl ?_
        refine aw_iload_n X dX11_least_97 rfl ?_
        refine aw_iconst (v := 1) X dX11_least_98 (by decide) ?_
        obtain ⟨r9, er9, h⟩ := bnd h
        refine aw_callV X dX11_least_99 cv_RX11_255 (ok_X9_lessToLeft (it_RX8_0 (it_RX10_5 iu_RX11_0)) er9 _ _ _ _ _) iu_RX11_8 rfl (Nat.le_trans (by decide) hfr) (by decide) rfl rfl (Nat.le_of_ble_eq_true rfl) ?_
        refine aw_isub X dX11_least_102 ?_
        refine aw_iload X dX11_least_103 rfl ?_
        refine aw_iload_n X dX11_least_105 rfl ?_
        refine aw_isub X dX11_least_106 ?_
        refine aw_imul X dX11_least_107 ?_
        cases h
        exact aw_iret X dX11_least_108 rfl hz.symm
      rw [if_neg c8] at h
      refine aw_tswd (tgt := 109) X dX11_least_37 (by decide) (fun z h1 h2 => ?_) ?_
      · have hz9 : z = 0 ∨ z = 1 ∨ z = 2 := by omega
        rcases hz9 with rfl | rfl | rfl
        · exact c4
        · exact c6
        · exact c8
      refine aw_iconst (v := (-1)) X dX11_least_109 (by decide) ?_
      cases h
      exact aw_iret X dX11_least_110 rfl hz.symm
    · rw [if_neg c2] at h
      refine aw_iconst (v := (-1)) X dX11_least_23 (by decide) ?_
      cases h
      exact aw_iret X dX11_least_24 rfl hz.symm
set_option maxRecDepth 100000 in
set_option maxHeartbeats 4000000 in
theorem ok_X11_least {x1 x2 : Int32} {s : Mem} {r : Int32 × Mem} (h : f_X11_least x1 x2 s = some r) (l : Launch) (D : va_G) (ρ : Nat → Nat) (cA : ClassId × ClassId × ClassId) (τ : AT) : AM l D ρ cA 0 τ yX11_least cX11_least 5 (some .int) 1 [.ref (ρ 0), .int x1, .int x2] (some (.int r.1)) s r.2 := by
  refine AM_of (L := [some (.ref (ρ 0)), some (.int x1), some (.int x2), none, none]) (by decide) (by simp [Value.category]) (Nat.le_of_ble_eq_true rfl) (fun j v q => ?_) (fun Z X hρ hz => ?_)
  · exact aL_ok (n := 2) [.ref (ρ 0), .int x1, .int x2] j v q
  · subst hρ
    exact w_X11_least (Nat.le_refl _) Z X x1 x2 s r hz h

theorem dX11_heads_0 : decode cX11_heads 0 = .ok (.iload_n 1, 1) := by decide +kernel
theorem dX11_heads_1 : decode cX11_heads 1 = .ok (.ifCond .lt 10, 3) := by decide +kernel
theorem dX11_heads_4 : decode cX11_heads 4 = .ok (.iload_n 1, 1) := by decide +kernel
theorem dX11_heads_5 : decode cX11_heads 5 = .ok (.ldc_w 259, 3) := by decide +kernel
theorem dX11_heads_8 : decode cX11_heads 8 = .ok (.if_icmp .le 5, 3) := by decide +kernel
theorem dX11_heads_11 : decode cX11_heads 11 = .ok (.iconst (-1), 1) := by decide +kernel
theorem dX11_heads_12 : decode cX11_heads 12 = .ok (.ireturn, 1) := by decide +kernel
theorem dX11_heads_13 : decode cX11_heads 13 = .ok (.iload_n 2, 1) := by decide +kernel
theorem dX11_heads_14 : decode cX11_heads 14 = .ok (.tableswitch 41 0 2 #[26, 31, 36], 26) := by decide +kernel
theorem dX11_heads_40 : decode cX11_heads 40 = .ok (.iload_n 1, 1) := by decide +kernel
theorem dX11_heads_41 : decode cX11_heads 41 = .ok (.invokestatic 260, 3) := by decide +kernel
theorem dX11_heads_44 : decode cX11_heads 44 = .ok (.ireturn, 1) := by decide +kernel
theorem dX11_heads_45 : decode cX11_heads 45 = .ok (.iload_n 1, 1) := by decide +kernel
theorem dX11_heads_46 : decode cX11_heads 46 = .ok (.invokestatic 265, 3) := by decide +kernel
theorem dX11_heads_49 : decode cX11_heads 49 = .ok (.ireturn, 1) := by decide +kernel
theorem dX11_heads_50 : decode cX11_heads 50 = .ok (.iload_n 1, 1) := by decide +kernel
theorem dX11_heads_51 : decode cX11_heads 51 = .ok (.invokestatic 268, 3) := by decide +kernel
theorem dX11_heads_54 : decode cX11_heads 54 = .ok (.ireturn, 1) := by decide +kernel
theorem dX11_heads_55 : decode cX11_heads 55 = .ok (.iconst (-1), 1) := by decide +kernel
theorem dX11_heads_56 : decode cX11_heads 56 = .ok (.ireturn, 1) := by decide +kernel
def f_X11_heads (x1 : Int32) (x2 : Int32) (s : Mem) : Option (Int32 × Mem) :=
  if x1 < 0 then
  some ((-1), s)
  else
  if x1 ≤ 99999 then
  if x2 = 0 then
  (f_X2_turned x1 s).bind fun r4 =>
  some (r4.1, r4.2)
  else if x2 = 1 then
  (f_X2_evenTurnedAbove x1 s).bind fun r6 =>
  some (r6.1, r6.2)
  else if x2 = 2 then
  (f_X2_evenTurnedUpTo x1 s).bind fun r8 =>
  some (r8.1, r8.2)
  else 
  some ((-1), s)
  else
  some ((-1), s)
set_option maxRecDepth 100000 in
set_option maxHeartbeats 4000000 in
theorem w_X11_heads {fr : Nat} (hfr : 2 ≤ fr) (Z : AZ) (X : AX Z cX11_heads 3 RX11 (some .int) 0 fr) (x1 : Int32) (x2 : Int32) (s : Mem) (r : Int32 × Mem) (hz : zres Z = (some (.int r.1), r.2)) (h : f_X11_heads x1 x2 s = some r) : AW Z s 0 [some (.ref (zr Z 0)), some (.int x1), some (.int x2)] [] := by
  unfold f_X11_heads at h
  refine aw_iload_n X dX11_heads_0 rfl ?_
  refine aw_if_lt (tgt := 11) X dX11_heads_1 (by decide) (fun c1 => ?_) (fun c1 => ?_)
  · rw [if_pos c1] at h
    refine aw_iconst (v := (-1)) X dX11_heads_11 (by decide) ?_
    cases h
    exact aw_iret X dX11_heads_12 rfl hz.symm
  · rw [if_neg c1] at h
    refine aw_iload_n X dX11_heads_4 rfl ?_
    refine aw_ldcw X dX11_heads_5 kc_RX11_259 ?_
    refine aw_icmp_le (tgt := 13) X dX11_heads_8 (by decide) (fun c2 => ?_) (fun c2 => ?_)
    · rw [if_pos c2] at h
      refine aw_iload_n X dX11_heads_13 rfl ?_
      by_cases c3 : x2 = 0
      · rw [if_pos c3] at h
        refine aw_tsw (tgt := 40) X dX11_heads_14 (by rw [c3]; decide) ?_
        refine aw_iload_n X dX11_heads_40 rfl ?_
        obtain ⟨r4, er4, h⟩ := bnd h
        refine aw_callS X dX11_heads_41 cv_RX11_260 (ok_X2_turned er4 _ _ _ _ _) (Nat.le_trans (by decide) hfr) (by decide) rfl rfl (Nat.le_of_ble_eq_true rfl) ?_
        cases h
        exact aw_iret X dX11_heads_44 rfl hz.symm
      rw [if_neg c3] at h
      by_cases c5 : x2 = 1
      · rw [if_pos c5] at h
        refine aw_tsw (tgt := 45) X dX11_heads_14 (by rw [c5]; decide) ?_
        refine aw_iload_n X dX11_heads_45 rfl ?_
        obtain ⟨r6, er6, h⟩ := bnd h
        refine aw_callS X dX11_heads_46 cv_RX11_265 (ok_X2_evenTurnedAbove er6 _ _ _ _ _) (Nat.le_trans (by decide) hfr) (by decide) rfl rfl (Nat.le_of_ble_eq_true rfl) ?_
        cases h
        exact aw_iret X dX11_heads_49 rfl hz.symm
      rw [if_neg c5] at h
      by_cases c7 : x2 = 2
      · rw [if_pos c7] at h
        refine aw_tsw (tgt := 50) X dX11_heads_14 (by rw [c7]; decide) ?_
        refine aw_iload_n X dX11_heads_50 rfl ?_
        obtain ⟨r8, er8, h⟩ := bnd h
        refine aw_callS X dX11_heads_51 cv_RX11_268 (ok_X2_evenTurnedUpTo er8 _ _ _ _ _) (Nat.le_trans (by decide) hfr) (by decide) rfl rfl (Nat.le_of_ble_eq_true rfl) ?_
        cases h
        exact aw_iret X dX11_heads_54 rfl hz.symm
      rw [if_neg c7] at h
      refine aw_tswd (tgt := 55) X dX11_heads_14 (by decide) (fun z h1 h2 => ?_) ?_
      · have hz9 : z = 0 ∨ z = 1 ∨ z = 2 := by omega
        rcases hz9 with rfl | rfl | rfl
        · exact c3
        · exact c5
        · exact c7
      refine aw_iconst (v := (-1)) X dX11_heads_55 (by decide) ?_
      cases h
      exact aw_iret X dX11_heads_56 rfl hz.symm
    · rw [if_neg c2] at h
      refine aw_iconst (v := (-1)) X dX11_heads_11 (by decide) ?_
      cases h
      exact aw_iret X dX11_heads_12 rfl hz.symm
set_option maxRecDepth 100000 in
set_option maxHeartbeats 4000000 in
theorem ok_X11_heads {x1 x2 : Int32} {s : Mem} {r : Int32 × Mem} (h : f_X11_heads x1 x2 s = some r) (l : Launch) (D : va_G) (ρ : Nat → Nat) (cA : ClassId × ClassId × ClassId) (τ : AT) : AM l D ρ cA 0 τ yX11_heads cX11_heads 3 (some .int) 2 [.ref (ρ 0), .int x1, .int x2] (some (.int r.1)) s r.2 := by
  refine AM_of (L := [some (.ref (ρ 0)), some (.int x1), some (.int x2)]) (by decide) (by simp [Value.category]) (Nat.le_of_ble_eq_true rfl) (fun j v q => ?_) (fun Z X hρ hz => ?_)
  · exact aL_ok (n := 0) [.ref (ρ 0), .int x1, .int x2] j v q
  · subst hρ
    exact w_X11_heads (Nat.le_refl _) Z X x1 x2 s r hz h

theorem dX11_said_0 : decode cX11_said 0 = .ok (.iload_n 1, 1) := by decide +kernel
theorem dX11_said_1 : decode cX11_said 1 = .ok (.iconst 1, 1) := by decide +kernel
theorem dX11_said_2 : decode cX11_said 2 = .ok (.if_icmp .lt 20, 3) := by decide +kernel
theorem dX11_said_5 : decode cX11_said 5 = .ok (.iload_n 1, 1) := by decide +kernel
theorem dX11_said_6 : decode cX11_said 6 = .ok (.sipush 9999, 3) := by decide +kernel
theorem dX11_said_9 : decode cX11_said 9 = .ok (.if_icmp .gt 13, 3) := by decide +kernel
theorem dX11_said_12 : decode cX11_said 12 = .ok (.iload_n 2, 1) := by decide +kernel
theorem dX11_said_13 : decode cX11_said 13 = .ok (.ifCond .lt 9, 3) := by decide +kernel
theorem dX11_said_16 : decode cX11_said 16 = .ok (.iload_n 2, 1) := by decide +kernel
theorem dX11_said_17 : decode cX11_said 17 = .ok (.bipush 9, 2) := by decide +kernel
theorem dX11_said_19 : decode cX11_said 19 = .ok (.if_icmp .le 5, 3) := by decide +kernel
theorem dX11_said_22 : decode cX11_said 22 = .ok (.iconst (-1), 1) := by decide +kernel
theorem dX11_said_23 : decode cX11_said 23 = .ok (.ireturn, 1) := by decide +kernel
theorem dX11_said_24 : decode cX11_said 24 = .ok (.iload_n 1, 1) := by decide +kernel
theorem dX11_said_25 : decode cX11_said 25 = .ok (.iload_n 2, 1) := by decide +kernel
theorem dX11_said_26 : decode cX11_said 26 = .ok (.invokestatic 271, 3) := by decide +kernel
theorem dX11_said_29 : decode cX11_said 29 = .ok (.ireturn, 1) := by decide +kernel
def f_X11_said (x1 : Int32) (x2 : Int32) (s : Mem) : Option (Int32 × Mem) :=
  if x1 < 1 then
  some ((-1), s)
  else
  if 9999 < x1 then
  some ((-1), s)
  else
  if x2 < 0 then
  some ((-1), s)
  else
  if x2 ≤ 9 then
  (f_X2_digitCount x1 x2 s).bind fun r5 =>
  some (r5.1, r5.2)
  else
  some ((-1), s)
set_option maxRecDepth 100000 in
set_option maxHeartbeats 4000000 in
theorem w_X11_said {fr : Nat} (hfr : 1 ≤ fr) (Z : AZ) (X : AX Z cX11_said 3 RX11 (some .int) 0 fr) (x1 : Int32) (x2 : Int32) (s : Mem) (r : Int32 × Mem) (hz : zres Z = (some (.int r.1), r.2)) (h : f_X11_said x1 x2 s = some r) : AW Z s 0 [some (.ref (zr Z 0)), some (.int x1), some (.int x2)] [] := by
  unfold f_X11_said at h
  refine aw_iload_n X dX11_said_0 rfl ?_
  refine aw_iconst (v := 1) X dX11_said_1 (by decide) ?_
  refine aw_icmp_lt (tgt := 22) X dX11_said_2 (by decide) (fun c1 => ?_) (fun c1 => ?_)
  · rw [if_pos c1] at h
    refine aw_iconst (v := (-1)) X dX11_said_22 (by decide) ?_
    cases h
    exact aw_iret X dX11_said_23 rfl hz.symm
  · rw [if_neg c1] at h
    refine aw_iload_n X dX11_said_5 rfl ?_
    refine aw_sipush (v := 9999) X dX11_said_6 (by decide) ?_
    refine aw_icmp_gt (tgt := 22) X dX11_said_9 (by decide) (fun c2 => ?_) (fun c2 => ?_)
    · rw [if_pos c2] at h
      refine aw_iconst (v := (-1)) X dX11_said_22 (by decide) ?_
      cases h
      exact aw_iret X dX11_said_23 rfl hz.symm
    · rw [if_neg c2] at h
      refine aw_iload_n X dX11_said_12 rfl ?_
      refine aw_if_lt (tgt := 22) X dX11_said_13 (by decide) (fun c3 => ?_) (fun c3 => ?_)
      · rw [if_pos c3] at h
        refine aw_iconst (v := (-1)) X dX11_said_22 (by decide) ?_
        cases h
        exact aw_iret X dX11_said_23 rfl hz.symm
      · rw [if_neg c3] at h
        refine aw_iload_n X dX11_said_16 rfl ?_
        refine aw_bipush (v := 9) X dX11_said_17 (by decide) ?_
        refine aw_icmp_le (tgt := 24) X dX11_said_19 (by decide) (fun c4 => ?_) (fun c4 => ?_)
        · rw [if_pos c4] at h
          refine aw_iload_n X dX11_said_24 rfl ?_
          refine aw_iload_n X dX11_said_25 rfl ?_
          obtain ⟨r5, er5, h⟩ := bnd h
          refine aw_callS X dX11_said_26 cv_RX11_271 (ok_X2_digitCount er5 _ _ _ _ _) (Nat.le_trans (by decide) hfr) (by decide) rfl rfl (Nat.le_of_ble_eq_true rfl) ?_
          cases h
          exact aw_iret X dX11_said_29 rfl hz.symm
        · rw [if_neg c4] at h
          refine aw_iconst (v := (-1)) X dX11_said_22 (by decide) ?_
          cases h
          exact aw_iret X dX11_said_23 rfl hz.symm
set_option maxRecDepth 100000 in
set_option maxHeartbeats 4000000 in
theorem ok_X11_said {x1 x2 : Int32} {s : Mem} {r : Int32 × Mem} (h : f_X11_said x1 x2 s = some r) (l : Launch) (D : va_G) (ρ : Nat → Nat) (cA : ClassId × ClassId × ClassId) (τ : AT) : AM l D ρ cA 0 τ yX11_said cX11_said 3 (some .int) 1 [.ref (ρ 0), .int x1, .int x2] (some (.int r.1)) s r.2 := by
  refine AM_of (L := [some (.ref (ρ 0)), some (.int x1), some (.int x2)]) (by decide) (by simp [Value.category]) (Nat.le_of_ble_eq_true rfl) (fun j v q => ?_) (fun Z X hρ hz => ?_)
  · exact aL_ok (n := 0) [.ref (ρ 0), .int x1, .int x2] j v q
  · subst hρ
    exact w_X11_said (Nat.le_refl _) Z X x1 x2 s r hz h

theorem dX11_digit_0 : decode cX11_digit 0 = .ok (.iload_n 1, 1) := by decide +kernel
theorem dX11_digit_1 : decode cX11_digit 1 = .ok (.iconst 1, 1) := by decide +kernel
theorem dX11_digit_2 : decode cX11_digit 2 = .ok (.if_icmp .lt 14, 3) := by decide +kernel
theorem dX11_digit_5 : decode cX11_digit 5 = .ok (.iload_n 1, 1) := by decide +kernel
theorem dX11_digit_6 : decode cX11_digit 6 = .ok (.sipush 9999, 3) := by decide +kernel
theorem dX11_digit_9 : decode cX11_digit 9 = .ok (.if_icmp .gt 7, 3) := by decide +kernel
theorem dX11_digit_12 : decode cX11_digit 12 = .ok (.iload_n 2, 1) := by decide +kernel
theorem dX11_digit_13 : decode cX11_digit 13 = .ok (.ifCond .ge 5, 3) := by decide +kernel
theorem dX11_digit_16 : decode cX11_digit 16 = .ok (.iconst (-1), 1) := by decide +kernel
theorem dX11_digit_17 : decode cX11_digit 17 = .ok (.ireturn, 1) := by decide +kernel
theorem dX11_digit_18 : decode cX11_digit 18 = .ok (.iload_n 1, 1) := by decide +kernel
theorem dX11_digit_19 : decode cX11_digit 19 = .ok (.iload_n 2, 1) := by decide +kernel
theorem dX11_digit_20 : decode cX11_digit 20 = .ok (.invokestatic 274, 3) := by decide +kernel
theorem dX11_digit_23 : decode cX11_digit 23 = .ok (.ireturn, 1) := by decide +kernel
def f_X11_digit (x1 : Int32) (x2 : Int32) (s : Mem) : Option (Int32 × Mem) :=
  if x1 < 1 then
  some ((-1), s)
  else
  if 9999 < x1 then
  some ((-1), s)
  else
  if 0 ≤ x2 then
  (f_X2_digitAt x1 x2 s).bind fun r4 =>
  some (r4.1, r4.2)
  else
  some ((-1), s)
set_option maxRecDepth 100000 in
set_option maxHeartbeats 4000000 in
theorem w_X11_digit {fr : Nat} (hfr : 2 ≤ fr) (Z : AZ) (X : AX Z cX11_digit 3 RX11 (some .int) 0 fr) (x1 : Int32) (x2 : Int32) (s : Mem) (r : Int32 × Mem) (hz : zres Z = (some (.int r.1), r.2)) (h : f_X11_digit x1 x2 s = some r) : AW Z s 0 [some (.ref (zr Z 0)), some (.int x1), some (.int x2)] [] := by
  unfold f_X11_digit at h
  refine aw_iload_n X dX11_digit_0 rfl ?_
  refine aw_iconst (v := 1) X dX11_digit_1 (by decide) ?_
  refine aw_icmp_lt (tgt := 16) X dX11_digit_2 (by decide) (fun c1 => ?_) (fun c1 => ?_)
  · rw [if_pos c1] at h
    refine aw_iconst (v := (-1)) X dX11_digit_16 (by decide) ?_
    cases h
    exact aw_iret X dX11_digit_17 rfl hz.symm
  · rw [if_neg c1] at h
    refine aw_iload_n X dX11_digit_5 rfl ?_
    refine aw_sipush (v := 9999) X dX11_digit_6 (by decide) ?_
    refine aw_icmp_gt (tgt := 16) X dX11_digit_9 (by decide) (fun c2 => ?_) (fun c2 => ?_)
    · rw [if_pos c2] at h
      refine aw_iconst (v := (-1)) X dX11_digit_16 (by decide) ?_
      cases h
      exact aw_iret X dX11_digit_17 rfl hz.symm
    · rw [if_neg c2] at h
      refine aw_iload_n X dX11_digit_12 rfl ?_
      refine aw_if_ge (tgt := 18) X dX11_digit_13 (by decide) (fun c3 => ?_) (fun c3 => ?_)
      · rw [if_pos c3] at h
        refine aw_iload_n X dX11_digit_18 rfl ?_
        refine aw_iload_n X dX11_digit_19 rfl ?_
        obtain ⟨r4, er4, h⟩ := bnd h
        refine aw_callS X dX11_digit_20 cv_RX11_274 (ok_X2_digitAt er4 _ _ _ _ _) (Nat.le_trans (by decide) hfr) (by decide) rfl rfl (Nat.le_of_ble_eq_true rfl) ?_
        cases h
        exact aw_iret X dX11_digit_23 rfl hz.symm
      · rw [if_neg c3] at h
        refine aw_iconst (v := (-1)) X dX11_digit_16 (by decide) ?_
        cases h
        exact aw_iret X dX11_digit_17 rfl hz.symm
set_option maxRecDepth 100000 in
set_option maxHeartbeats 4000000 in
theorem ok_X11_digit {x1 x2 : Int32} {s : Mem} {r : Int32 × Mem} (h : f_X11_digit x1 x2 s = some r) (l : Launch) (D : va_G) (ρ : Nat → Nat) (cA : ClassId × ClassId × ClassId) (τ : AT) : AM l D ρ cA 0 τ yX11_digit cX11_digit 3 (some .int) 2 [.ref (ρ 0), .int x1, .int x2] (some (.int r.1)) s r.2 := by
  refine AM_of (L := [some (.ref (ρ 0)), some (.int x1), some (.int x2)]) (by decide) (by simp [Value.category]) (Nat.le_of_ble_eq_true rfl) (fun j v q => ?_) (fun Z X hρ hz => ?_)
  · exact aL_ok (n := 0) [.ref (ρ 0), .int x1, .int x2] j v q
  · subst hρ
    exact w_X11_digit (Nat.le_refl _) Z X x1 x2 s r hz h

theorem dX11_call_0 : decode cX11_call 0 = .ok (.aload_n 0, 1) := by decide +kernel
theorem dX11_call_1 : decode cX11_call 1 = .ok (.getfield 10, 3) := by decide +kernel
theorem dX11_call_4 : decode cX11_call 4 = .ok (.getfield 222, 3) := by decide +kernel
theorem dX11_call_7 : decode cX11_call 7 = .ok (.astore 4, 2) := by decide +kernel
theorem dX11_call_9 : decode cX11_call 9 = .ok (.iload_n 1, 1) := by decide +kernel
theorem dX11_call_10 : decode cX11_call 10 = .ok (.iconst (-1), 1) := by decide +kernel
theorem dX11_call_11 : decode cX11_call 11 = .ok (.if_icmp .ne 30, 3) := by decide +kernel
theorem dX11_call_14 : decode cX11_call 14 = .ok (.aload 4, 2) := by decide +kernel
theorem dX11_call_16 : decode cX11_call 16 = .ok (.getfield 277, 3) := by decide +kernel
theorem dX11_call_19 : decode cX11_call 19 = .ok (.invokevirtual 232, 3) := by decide +kernel
theorem dX11_call_22 : decode cX11_call 22 = .ok (.pop, 1) := by decide +kernel
theorem dX11_call_23 : decode cX11_call 23 = .ok (.aload 4, 2) := by decide +kernel
theorem dX11_call_25 : decode cX11_call 25 = .ok (.getfield 280, 3) := by decide +kernel
theorem dX11_call_28 : decode cX11_call 28 = .ok (.invokevirtual 232, 3) := by decide +kernel
theorem dX11_call_31 : decode cX11_call 31 = .ok (.pop, 1) := by decide +kernel
theorem dX11_call_32 : decode cX11_call 32 = .ok (.aload 4, 2) := by decide +kernel
theorem dX11_call_34 : decode cX11_call 34 = .ok (.getfield 283, 3) := by decide +kernel
theorem dX11_call_37 : decode cX11_call 37 = .ok (.invokevirtual 232, 3) := by decide +kernel
theorem dX11_call_40 : decode cX11_call 40 = .ok (.ireturn, 1) := by decide +kernel
theorem dX11_call_41 : decode cX11_call 41 = .ok (.iload_n 1, 1) := by decide +kernel
theorem dX11_call_42 : decode cX11_call 42 = .ok (.ifCond .lt 36, 3) := by decide +kernel
theorem dX11_call_45 : decode cX11_call 45 = .ok (.iload_n 2, 1) := by decide +kernel
theorem dX11_call_46 : decode cX11_call 46 = .ok (.bipush 99, 2) := by decide +kernel
theorem dX11_call_48 : decode cX11_call 48 = .ok (.if_icmp .gt 30, 3) := by decide +kernel
theorem dX11_call_51 : decode cX11_call 51 = .ok (.iload_n 1, 1) := by decide +kernel
theorem dX11_call_52 : decode cX11_call 52 = .ok (.iload_n 2, 1) := by decide +kernel
theorem dX11_call_53 : decode cX11_call 53 = .ok (.if_icmp .ge 25, 3) := by decide +kernel
theorem dX11_call_56 : decode cX11_call 56 = .ok (.iload_n 3, 1) := by decide +kernel
theorem dX11_call_57 : decode cX11_call 57 = .ok (.iconst 1, 1) := by decide +kernel
theorem dX11_call_58 : decode cX11_call 58 = .ok (.if_icmp .lt 20, 3) := by decide +kernel
theorem dX11_call_61 : decode cX11_call 61 = .ok (.iload_n 3, 1) := by decide +kernel
theorem dX11_call_62 : decode cX11_call 62 = .ok (.bipush 99, 2) := by decide +kernel
theorem dX11_call_64 : decode cX11_call 64 = .ok (.if_icmp .gt 14, 3) := by decide +kernel
theorem dX11_call_67 : decode cX11_call 67 = .ok (.aload 4, 2) := by decide +kernel
theorem dX11_call_69 : decode cX11_call 69 = .ok (.getfield 277, 3) := by decide +kernel
theorem dX11_call_72 : decode cX11_call 72 = .ok (.invokevirtual 237, 3) := by decide +kernel
theorem dX11_call_75 : decode cX11_call 75 = .ok (.ifCond .eq 5, 3) := by decide +kernel
theorem dX11_call_78 : decode cX11_call 78 = .ok (.iconst (-1), 1) := by decide +kernel
theorem dX11_call_79 : decode cX11_call 79 = .ok (.ireturn, 1) := by decide +kernel
theorem dX11_call_80 : decode cX11_call 80 = .ok (.aload 4, 2) := by decide +kernel
theorem dX11_call_82 : decode cX11_call 82 = .ok (.getfield 277, 3) := by decide +kernel
theorem dX11_call_85 : decode cX11_call 85 = .ok (.iload_n 1, 1) := by decide +kernel
theorem dX11_call_86 : decode cX11_call 86 = .ok (.invokevirtual 241, 3) := by decide +kernel
theorem dX11_call_89 : decode cX11_call 89 = .ok (.pop, 1) := by decide +kernel
theorem dX11_call_90 : decode cX11_call 90 = .ok (.aload 4, 2) := by decide +kernel
theorem dX11_call_92 : decode cX11_call 92 = .ok (.getfield 280, 3) := by decide +kernel
theorem dX11_call_95 : decode cX11_call 95 = .ok (.iload_n 2, 1) := by decide +kernel
theorem dX11_call_96 : decode cX11_call 96 = .ok (.invokevirtual 241, 3) := by decide +kernel
theorem dX11_call_99 : decode cX11_call 99 = .ok (.pop, 1) := by decide +kernel
theorem dX11_call_100 : decode cX11_call 100 = .ok (.aload 4, 2) := by decide +kernel
theorem dX11_call_102 : decode cX11_call 102 = .ok (.getfield 283, 3) := by decide +kernel
theorem dX11_call_105 : decode cX11_call 105 = .ok (.iload_n 3, 1) := by decide +kernel
theorem dX11_call_106 : decode cX11_call 106 = .ok (.invokevirtual 241, 3) := by decide +kernel
theorem dX11_call_109 : decode cX11_call 109 = .ok (.ireturn, 1) := by decide +kernel
def f_X11_call (x1 : Int32) (x2 : Int32) (x3 : Int32) (s : Mem) : Option (Int32 × Mem) :=
  if x1 = (-1) then
  (f_X7_clear ((1 + 31) + 3) s).bind fun r12 =>
  (f_X7_clear ((1 + 31) + 5) r12.2).bind fun r13 =>
  (f_X7_clear ((1 + 31) + 7) r13.2).bind fun r14 =>
  some (r14.1, r14.2)
  else
  if x1 < 0 then
  some ((-1), s)
  else
  if 99 < x2 then
  some ((-1), s)
  else
  if x2 ≤ x1 then
  some ((-1), s)
  else
  if x3 < 1 then
  some ((-1), s)
  else
  if 99 < x3 then
  some ((-1), s)
  else
  (f_X7_isFull ((1 + 31) + 3) s).bind fun r7 =>
  if r7.1 = 0 then
  (f_X7_add ((1 + 31) + 3) x1 r7.2).bind fun r9 =>
  (f_X7_add ((1 + 31) + 5) x2 r9.2).bind fun r10 =>
  (f_X7_add ((1 + 31) + 7) x3 r10.2).bind fun r11 =>
  some (r11.1, r11.2)
  else
  some ((-1), r7.2)
set_option maxRecDepth 100000 in
set_option maxHeartbeats 4000000 in
theorem w_X11_call {fr : Nat} (hfr : 2 ≤ fr) (Z : AZ) (X : AX Z cX11_call 5 RX11 (some .int) 0 fr) (x1 : Int32) (x2 : Int32) (x3 : Int32) (s : Mem) (r : Int32 × Mem) (hz : zres Z = (some (.int r.1), r.2)) (h : f_X11_call x1 x2 x3 s = some r) : AW Z s 0 [some (.ref (zr Z 0)), some (.int x1), some (.int x2), some (.int x3), none] [] := by
  unfold f_X11_call at h
  refine aw_aload_n X dX11_call_0 rfl ?_
  refine aw_getr X dX11_call_1 fl_RX11_10 iu_RX11 gu_RX11_0 ?_
  refine aw_getr X dX11_call_4 fl_RX11_222 iu_RX11_0 (gt_RX10_5 iu_RX11_0) ?_
  refine aw_astore (L' := [some (.ref (zr Z 0)), some (.int x1), some (.int x2), some (.int x3), some (.ref (zr Z (1 + 31)))]) X dX11_call_7 (by decide) rfl ?_
  refine aw_iload_n X dX11_call_9 rfl ?_
  refine aw_iconst (v := (-1)) X dX11_call_10 (by decide) ?_
  refine aw_icmp_ne (tgt := 41) X dX11_call_11 (by decide) (fun c1 => ?_) (fun c1 => ?_)
  · rw [if_neg c1] at h
    refine aw_iload_n X dX11_call_41 rfl ?_
    refine aw_if_lt (tgt := 78) X dX11_call_42 (by decide) (fun c2 => ?_) (fun c2 => ?_)
    · rw [if_pos c2] at h
      refine aw_iconst (v := (-1)) X dX11_call_78 (by decide) ?_
      cases h
      exact aw_iret X dX11_call_79 rfl hz.symm
    · rw [if_neg c2] at h
      refine aw_iload_n X dX11_call_45 rfl ?_
      refine aw_bipush (v := 99) X dX11_call_46 (by decide) ?_
      refine aw_icmp_gt (tgt := 78) X dX11_call_48 (by decide) (fun c3 => ?_) (fun c3 => ?_)
      · rw [if_pos c3] at h
        refine aw_iconst (v := (-1)) X dX11_call_78 (by decide) ?_
        cases h
        exact aw_iret X dX11_call_79 rfl hz.symm
      · rw [if_neg c3] at h
        refine aw_iload_n X dX11_call_51 rfl ?_
        refine aw_iload_n X dX11_call_52 rfl ?_
        refine aw_icmp_ge (tgt := 78) X dX11_call_53 (by decide) (fun c4 => ?_) (fun c4 => ?_)
        · rw [if_pos c4] at h
          refine aw_iconst (v := (-1)) X dX11_call_78 (by decide) ?_
          cases h
          exact aw_iret X dX11_call_79 rfl hz.symm
        · rw [if_neg c4] at h
          refine aw_iload_n X dX11_call_56 rfl ?_
          refine aw_iconst (v := 1) X dX11_call_57 (by decide) ?_
          refine aw_icmp_lt (tgt := 78) X dX11_call_58 (by decide) (fun c5 => ?_) (fun c5 => ?_)
          · rw [if_pos c5] at h
            refine aw_iconst (v := (-1)) X dX11_call_78 (by decide) ?_
            cases h
            exact aw_iret X dX11_call_79 rfl hz.symm
          · rw [if_neg c5] at h
            refine aw_iload_n X dX11_call_61 rfl ?_
            refine aw_bipush (v := 99) X dX11_call_62 (by decide) ?_
            refine aw_icmp_gt (tgt := 78) X dX11_call_64 (by decide) (fun c6 => ?_) (fun c6 => ?_)
            · rw [if_pos c6] at h
              refine aw_iconst (v := (-1)) X dX11_call_78 (by decide) ?_
              cases h
              exact aw_iret X dX11_call_79 rfl hz.symm
            · rw [if_neg c6] at h
              refine aw_aload X dX11_call_67 rfl ?_
              refine aw_getr X dX11_call_69 fl_RX11_277 (it_RX10_5 iu_RX11_0) (gt_RX8_1 (it_RX10_5 iu_RX11_0)) ?_
              obtain ⟨r7, er7, h⟩ := bnd h
              refine aw_callV X dX11_call_72 cv_RX11_237 (ok_X7_isFull (it_RX8_1 (it_RX10_5 iu_RX11_0)) er7 _ _ _ _ _) (it_RX8_1 (it_RX10_5 iu_RX11_0)) rfl (Nat.le_trans (by decide) hfr) (by decide) rfl rfl (Nat.le_of_ble_eq_true rfl) ?_
              refine aw_if_eq (tgt := 80) X dX11_call_75 (by decide) (fun c8 => ?_) (fun c8 => ?_)
              · rw [if_pos c8] at h
                refine aw_aload X dX11_call_80 rfl ?_
                refine aw_getr X dX11_call_82 fl_RX11_277 (it_RX10_5 iu_RX11_0) (gt_RX8_1 (it_RX10_5 iu_RX11_0)) ?_
                refine aw_iload_n X dX11_call_85 rfl ?_
                obtain ⟨r9, er9, h⟩ := bnd h
                refine aw_callV X dX11_call_86 cv_RX11_241 (ok_X7_add (it_RX8_1 (it_RX10_5 iu_RX11_0)) er9 _ _ _ _ _) (it_RX8_1 (it_RX10_5 iu_RX11_0)) rfl (Nat.le_trans (by decide) hfr) (by decide) rfl rfl (Nat.le_of_ble_eq_true rfl) ?_
                refine aw_pop X dX11_call_89 rfl ?_
                refine aw_aload X dX11_call_90 rfl ?_
                refine aw_getr X dX11_call_92 fl_RX11_280 (it_RX10_5 iu_RX11_0) (gt_RX8_2 (it_RX10_5 iu_RX11_0)) ?_
                refine aw_iload_n X dX11_call_95 rfl ?_
                obtain ⟨r10, er10, h⟩ := bnd h
                refine aw_callV X dX11_call_96 cv_RX11_241 (ok_X7_add (it_RX8_2 (it_RX10_5 iu_RX11_0)) er10 _ _ _ _ _) (it_RX8_2 (it_RX10_5 iu_RX11_0)) rfl (Nat.le_trans (by decide) hfr) (by decide) rfl rfl (Nat.le_of_ble_eq_true rfl) ?_
                refine aw_pop X dX11_call_99 rfl ?_
                refine aw_aload X dX11_call_100 rfl ?_
                refine aw_getr X dX11_call_102 fl_RX11_283 (it_RX10_5 iu_RX11_0) (gt_RX8_3 (it_RX10_5 iu_RX11_0)) ?_
                refine aw_iload_n X dX11_call_105 rfl ?_
                obtain ⟨r11, er11, h⟩ := bnd h
                refine aw_callV X dX11_call_106 cv_RX11_241 (ok_X7_add (it_RX8_3 (it_RX10_5 iu_RX11_0)) er11 _ _ _ _ _) (it_RX8_3 (it_RX10_5 iu_RX11_0)) rfl (Nat.le_trans (by decide) hfr) (by decide) rfl rfl (Nat.le_of_ble_eq_true rfl) ?_
                cases h
                exact aw_iret X dX11_call_109 rfl hz.symm
              · rw [if_neg c8] at h
                refine aw_iconst (v := (-1)) X dX11_call_78 (by decide) ?_
                cases h
                exact aw_iret X dX11_call_79 rfl hz.symm
  · rw [if_pos c1] at h
    refine aw_aload X dX11_call_14 rfl ?_
    refine aw_getr X dX11_call_16 fl_RX11_277 (it_RX10_5 iu_RX11_0) (gt_RX8_1 (it_RX10_5 iu_RX11_0)) ?_
    obtain ⟨r12, er12, h⟩ := bnd h
    refine aw_callV X dX11_call_19 cv_RX11_232 (ok_X7_clear (it_RX8_1 (it_RX10_5 iu_RX11_0)) er12 _ _ _ _ _) (it_RX8_1 (it_RX10_5 iu_RX11_0)) rfl (Nat.le_trans (by decide) hfr) (by decide) rfl rfl (Nat.le_of_ble_eq_true rfl) ?_
    refine aw_pop X dX11_call_22 rfl ?_
    refine aw_aload X dX11_call_23 rfl ?_
    refine aw_getr X dX11_call_25 fl_RX11_280 (it_RX10_5 iu_RX11_0) (gt_RX8_2 (it_RX10_5 iu_RX11_0)) ?_
    obtain ⟨r13, er13, h⟩ := bnd h
    refine aw_callV X dX11_call_28 cv_RX11_232 (ok_X7_clear (it_RX8_2 (it_RX10_5 iu_RX11_0)) er13 _ _ _ _ _) (it_RX8_2 (it_RX10_5 iu_RX11_0)) rfl (Nat.le_trans (by decide) hfr) (by decide) rfl rfl (Nat.le_of_ble_eq_true rfl) ?_
    refine aw_pop X dX11_call_31 rfl ?_
    refine aw_aload X dX11_call_32 rfl ?_
    refine aw_getr X dX11_call_34 fl_RX11_283 (it_RX10_5 iu_RX11_0) (gt_RX8_3 (it_RX10_5 iu_RX11_0)) ?_
    obtain ⟨r14, er14, h⟩ := bnd h
    refine aw_callV X dX11_call_37 cv_RX11_232 (ok_X7_clear (it_RX8_3 (it_RX10_5 iu_RX11_0)) er14 _ _ _ _ _) (it_RX8_3 (it_RX10_5 iu_RX11_0)) rfl (Nat.le_trans (by decide) hfr) (by decide) rfl rfl (Nat.le_of_ble_eq_true rfl) ?_
    cases h
    exact aw_iret X dX11_call_40 rfl hz.symm
set_option maxRecDepth 100000 in
set_option maxHeartbeats 4000000 in
theorem ok_X11_call {x1 x2 x3 : Int32} {s : Mem} {r : Int32 × Mem} (h : f_X11_call x1 x2 x3 s = some r) (l : Launch) (D : va_G) (ρ : Nat → Nat) (cA : ClassId × ClassId × ClassId) (τ : AT) : AM l D ρ cA 0 τ yX11_call cX11_call 5 (some .int) 2 [.ref (ρ 0), .int x1, .int x2, .int x3] (some (.int r.1)) s r.2 := by
  refine AM_of (L := [some (.ref (ρ 0)), some (.int x1), some (.int x2), some (.int x3), none]) (by decide) (by simp [Value.category]) (Nat.le_of_ble_eq_true rfl) (fun j v q => ?_) (fun Z X hρ hz => ?_)
  · exact aL_ok (n := 1) [.ref (ρ 0), .int x1, .int x2, .int x3] j v q
  · subst hρ
    exact w_X11_call (Nat.le_refl _) Z X x1 x2 x3 s r hz h
