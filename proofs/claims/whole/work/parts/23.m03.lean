/-! ===== walks: X9_minutesInCalls .. X10_stops ===== -/
theorem dX9_minutesInCalls_0 : decode cX9_minutesInCalls 0 = .ok (.iconst 0, 1) := by decide +kernel
theorem dX9_minutesInCalls_1 : decode cX9_minutesInCalls 1 = .ok (.istore_n 2, 1) := by decide +kernel
theorem dX9_minutesInCalls_2 : decode cX9_minutesInCalls 2 = .ok (.iconst 0, 1) := by decide +kernel
theorem dX9_minutesInCalls_3 : decode cX9_minutesInCalls 3 = .ok (.istore_n 3, 1) := by decide +kernel
theorem dX9_minutesInCalls_4 : decode cX9_minutesInCalls 4 = .ok (.iload_n 3, 1) := by decide +kernel
theorem dX9_minutesInCalls_5 : decode cX9_minutesInCalls 5 = .ok (.bipush 100, 2) := by decide +kernel
theorem dX9_minutesInCalls_7 : decode cX9_minutesInCalls 7 = .ok (.if_icmp .ge 21, 3) := by decide +kernel
theorem dX9_minutesInCalls_10 : decode cX9_minutesInCalls 10 = .ok (.aload_n 0, 1) := by decide +kernel
theorem dX9_minutesInCalls_11 : decode cX9_minutesInCalls 11 = .ok (.aload_n 1, 1) := by decide +kernel
theorem dX9_minutesInCalls_12 : decode cX9_minutesInCalls 12 = .ok (.iload_n 3, 1) := by decide +kernel
theorem dX9_minutesInCalls_13 : decode cX9_minutesInCalls 13 = .ok (.invokevirtual 59, 3) := by decide +kernel
theorem dX9_minutesInCalls_16 : decode cX9_minutesInCalls 16 = .ok (.ifCond .le 6, 3) := by decide +kernel
theorem dX9_minutesInCalls_19 : decode cX9_minutesInCalls 19 = .ok (.iinc 2 1, 3) := by decide +kernel
theorem dX9_minutesInCalls_22 : decode cX9_minutesInCalls 22 = .ok (.iinc 3 1, 3) := by decide +kernel
theorem dX9_minutesInCalls_25 : decode cX9_minutesInCalls 25 = .ok (.goto (-21), 3) := by decide +kernel
theorem dX9_minutesInCalls_28 : decode cX9_minutesInCalls 28 = .ok (.iload_n 2, 1) := by decide +kernel
theorem dX9_minutesInCalls_29 : decode cX9_minutesInCalls 29 = .ok (.ireturn, 1) := by decide +kernel
def st_X9_minutesInCalls_4 (a1 : Nat) (x2 : Int32) (x3 : Int32) (s : Mem) : Option ((Int32 × Int32 × Mem) ⊕ (Int32 × Mem)) :=
  if 100 ≤ x3 then
  some (.inr (x2, s))
  else
  (f_X9_callsIn a1 x3 s).bind fun r2 =>
  if r2.1 ≤ 0 then
  some (.inl (x2, (x3 + 1), r2.2))
  else
  some (.inl ((x2 + 1), (x3 + 1), r2.2))
def f_X9_minutesInCalls (a1 : Nat) (s : Mem) : Option (Int32 × Mem) :=
  (it FUEL (fun y => st_X9_minutesInCalls_4 a1 y.1 y.2.1 y.2.2) (0, 0, s)).bind fun r4 =>
  some (r4.1, r4.2)
set_option maxRecDepth 100000 in
set_option maxHeartbeats 4000000 in
theorem so_X9_minutesInCalls_4 {fr : Nat} (hfr : 1 ≤ fr) (Z : AZ) (X : AX Z cX9_minutesInCalls 4 RX9 (some .int) 0 fr) (a1 : Nat) (h1 : IO 0 a1 7) (x2 : Int32) (x3 : Int32) (s : Mem) (q : (Int32 × Int32 × Mem) ⊕ (Int32 × Mem)) (h : st_X9_minutesInCalls_4 a1 x2 x3 s = some q) (hi : ∀ y : Int32 × Int32 × Mem, q = .inl y → AW Z y.2.2 4 [some (.ref (zr Z 195)), some (.ref (zr Z a1)), some (.int y.1), some (.int y.2.1)] []) (he : ∀ b : Int32 × Mem, q = .inr b → AW Z b.2 28 [none, none, some (.int b.1), none] []) : AW Z s 4 [some (.ref (zr Z 195)), some (.ref (zr Z a1)), some (.int x2), some (.int x3)] [] := by
  unfold st_X9_minutesInCalls_4 at h
  refine aw_iload_n X dX9_minutesInCalls_4 rfl ?_
  refine aw_bipush (v := 100) X dX9_minutesInCalls_5 (by decide) ?_
  refine aw_icmp_ge (tgt := 28) X dX9_minutesInCalls_7 (by decide) (fun c1 => ?_) (fun c1 => ?_)
  · rw [if_pos c1] at h
    cases h
    refine aw_msk [false, false, true, false] ?_
    exact he _ rfl
  · rw [if_neg c1] at h
    refine aw_aload_n X dX9_minutesInCalls_10 rfl ?_
    refine aw_aload_n X dX9_minutesInCalls_11 rfl ?_
    refine aw_iload_n X dX9_minutesInCalls_12 rfl ?_
    obtain ⟨r2, er2, h⟩ := bnd h
    refine aw_callV X dX9_minutesInCalls_13 cv_RX9_59 (ok_X9_callsIn h1 er2 _ _ _ _ _) iu_RX9 rfl (Nat.le_trans (by decide) hfr) (by decide) rfl rfl (Nat.le_of_ble_eq_true rfl) ?_
    refine aw_if_le (tgt := 22) X dX9_minutesInCalls_16 (by decide) (fun c3 => ?_) (fun c3 => ?_)
    · rw [if_pos c3] at h
      refine aw_iinc (v := (x3 + 1)) (L' := [some (.ref (zr Z 195)), some (.ref (zr Z a1)), some (.int x2), some (.int (x3 + 1))]) X dX9_minutesInCalls_22 rfl rfl (by decide) rfl ?_
      refine aw_goto (tgt := 4) X dX9_minutesInCalls_25 (by decide) ?_
      cases h
      refine aw_msk [true, true, true, true] ?_
      exact hi _ rfl
    · rw [if_neg c3] at h
      refine aw_iinc (v := (x2 + 1)) (L' := [some (.ref (zr Z 195)), some (.ref (zr Z a1)), some (.int (x2 + 1)), some (.int x3)]) X dX9_minutesInCalls_19 rfl rfl (by decide) rfl ?_
      refine aw_iinc (v := (x3 + 1)) (L' := [some (.ref (zr Z 195)), some (.ref (zr Z a1)), some (.int (x2 + 1)), some (.int (x3 + 1))]) X dX9_minutesInCalls_22 rfl rfl (by decide) rfl ?_
      refine aw_goto (tgt := 4) X dX9_minutesInCalls_25 (by decide) ?_
      cases h
      refine aw_msk [true, true, true, true] ?_
      exact hi _ rfl
set_option maxRecDepth 100000 in
set_option maxHeartbeats 4000000 in
theorem w_X9_minutesInCalls {fr : Nat} (hfr : 1 ≤ fr) (Z : AZ) (X : AX Z cX9_minutesInCalls 4 RX9 (some .int) 0 fr) (a1 : Nat) (h1 : IO 0 a1 7) (s : Mem) (r : Int32 × Mem) (hz : zres Z = (some (.int r.1), r.2)) (h : f_X9_minutesInCalls a1 s = some r) : AW Z s 0 [some (.ref (zr Z 195)), some (.ref (zr Z a1)), none, none] [] := by
  unfold f_X9_minutesInCalls at h
  refine aw_iconst (v := 0) X dX9_minutesInCalls_0 (by decide) ?_
  refine aw_istore_n (L' := [some (.ref (zr Z 195)), some (.ref (zr Z a1)), some (.int 0), none]) X dX9_minutesInCalls_1 (by decide) rfl ?_
  refine aw_iconst (v := 0) X dX9_minutesInCalls_2 (by decide) ?_
  refine aw_istore_n (L' := [some (.ref (zr Z 195)), some (.ref (zr Z a1)), some (.int 0), some (.int 0)]) X dX9_minutesInCalls_3 (by decide) rfl ?_
  obtain ⟨r4, er4, h⟩ := bnd h
  refine aw_msk [true, true, true, true] ?_
  refine it_ok (P := fun y : Int32 × Int32 × Mem => AW Z y.2.2 4 [some (.ref (zr Z 195)), some (.ref (zr Z a1)), some (.int y.1), some (.int y.2.1)] []) (Q := fun b : Int32 × Mem => AW Z b.2 28 [none, none, some (.int b.1), none] []) (fun y q hq hi he => so_X9_minutesInCalls_4 hfr Z X a1 h1 y.1 y.2.1 y.2.2 q hq hi he) FUEL _ _ er4 ?_
  refine aw_iload_n X dX9_minutesInCalls_28 rfl ?_
  cases h
  exact aw_iret X dX9_minutesInCalls_29 rfl hz.symm
set_option maxRecDepth 100000 in
set_option maxHeartbeats 4000000 in
theorem ok_X9_minutesInCalls {a1 : Nat} (h1 : IO 0 a1 7) {s : Mem} {r : Int32 × Mem} (h : f_X9_minutesInCalls a1 s = some r) (l : Launch) (D : va_G) (ρ : Nat → Nat) (cA : ClassId × ClassId × ClassId) (τ : AT) : AM l D ρ cA 0 τ yX9_minutesInCalls cX9_minutesInCalls 4 (some .int) 1 [.ref (ρ 195), .ref (ρ a1)] (some (.int r.1)) s r.2 := by
  refine AM_of (L := [some (.ref (ρ 195)), some (.ref (ρ a1)), none, none]) (by decide) (by simp [Value.category]) (Nat.le_of_ble_eq_true rfl) (fun j v q => ?_) (fun Z X hρ hz => ?_)
  · exact aL_ok (n := 2) [.ref (ρ 195), .ref (ρ a1)] j v q
  · subst hρ
    exact w_X9_minutesInCalls (Nat.le_refl _) Z X a1 h1 s r hz h

theorem dX9_callsAtOnce_0 : decode cX9_callsAtOnce 0 = .ok (.iconst 0, 1) := by decide +kernel
theorem dX9_callsAtOnce_1 : decode cX9_callsAtOnce 1 = .ok (.istore_n 2, 1) := by decide +kernel
theorem dX9_callsAtOnce_2 : decode cX9_callsAtOnce 2 = .ok (.iconst 0, 1) := by decide +kernel
theorem dX9_callsAtOnce_3 : decode cX9_callsAtOnce 3 = .ok (.istore_n 3, 1) := by decide +kernel
theorem dX9_callsAtOnce_4 : decode cX9_callsAtOnce 4 = .ok (.iload_n 3, 1) := by decide +kernel
theorem dX9_callsAtOnce_5 : decode cX9_callsAtOnce 5 = .ok (.bipush 100, 2) := by decide +kernel
theorem dX9_callsAtOnce_7 : decode cX9_callsAtOnce 7 = .ok (.if_icmp .ge 20, 3) := by decide +kernel
theorem dX9_callsAtOnce_10 : decode cX9_callsAtOnce 10 = .ok (.iload_n 2, 1) := by decide +kernel
theorem dX9_callsAtOnce_11 : decode cX9_callsAtOnce 11 = .ok (.aload_n 0, 1) := by decide +kernel
theorem dX9_callsAtOnce_12 : decode cX9_callsAtOnce 12 = .ok (.aload_n 1, 1) := by decide +kernel
theorem dX9_callsAtOnce_13 : decode cX9_callsAtOnce 13 = .ok (.iload_n 3, 1) := by decide +kernel
theorem dX9_callsAtOnce_14 : decode cX9_callsAtOnce 14 = .ok (.invokevirtual 59, 3) := by decide +kernel
theorem dX9_callsAtOnce_17 : decode cX9_callsAtOnce 17 = .ok (.invokestatic 40, 3) := by decide +kernel
theorem dX9_callsAtOnce_20 : decode cX9_callsAtOnce 20 = .ok (.istore_n 2, 1) := by decide +kernel
theorem dX9_callsAtOnce_21 : decode cX9_callsAtOnce 21 = .ok (.iinc 3 1, 3) := by decide +kernel
theorem dX9_callsAtOnce_24 : decode cX9_callsAtOnce 24 = .ok (.goto (-20), 3) := by decide +kernel
theorem dX9_callsAtOnce_27 : decode cX9_callsAtOnce 27 = .ok (.iload_n 2, 1) := by decide +kernel
theorem dX9_callsAtOnce_28 : decode cX9_callsAtOnce 28 = .ok (.ireturn, 1) := by decide +kernel
def st_X9_callsAtOnce_4 (a1 : Nat) (x2 : Int32) (x3 : Int32) (s : Mem) : Option ((Int32 × Int32 × Mem) ⊕ (Int32 × Mem)) :=
  if 100 ≤ x3 then
  some (.inr (x2, s))
  else
  (f_X9_callsIn a1 x3 s).bind fun r2 =>
  some (.inl ((jmmax x2 r2.1), (x3 + 1), r2.2))
def f_X9_callsAtOnce (a1 : Nat) (s : Mem) : Option (Int32 × Mem) :=
  (it FUEL (fun y => st_X9_callsAtOnce_4 a1 y.1 y.2.1 y.2.2) (0, 0, s)).bind fun r3 =>
  some (r3.1, r3.2)
set_option maxRecDepth 100000 in
set_option maxHeartbeats 4000000 in
theorem so_X9_callsAtOnce_4 {fr : Nat} (hfr : 1 ≤ fr) (Z : AZ) (X : AX Z cX9_callsAtOnce 4 RX9 (some .int) 0 fr) (a1 : Nat) (h1 : IO 0 a1 7) (x2 : Int32) (x3 : Int32) (s : Mem) (q : (Int32 × Int32 × Mem) ⊕ (Int32 × Mem)) (h : st_X9_callsAtOnce_4 a1 x2 x3 s = some q) (hi : ∀ y : Int32 × Int32 × Mem, q = .inl y → AW Z y.2.2 4 [some (.ref (zr Z 195)), some (.ref (zr Z a1)), some (.int y.1), some (.int y.2.1)] []) (he : ∀ b : Int32 × Mem, q = .inr b → AW Z b.2 27 [none, none, some (.int b.1), none] []) : AW Z s 4 [some (.ref (zr Z 195)), some (.ref (zr Z a1)), some (.int x2), some (.int x3)] [] := by
  unfold st_X9_callsAtOnce_4 at h
  refine aw_iload_n X dX9_callsAtOnce_4 rfl ?_
  refine aw_bipush (v := 100) X dX9_callsAtOnce_5 (by decide) ?_
  refine aw_icmp_ge (tgt := 27) X dX9_callsAtOnce_7 (by decide) (fun c1 => ?_) (fun c1 => ?_)
  · rw [if_pos c1] at h
    cases h
    refine aw_msk [false, false, true, false] ?_
    exact he _ rfl
  · rw [if_neg c1] at h
    refine aw_iload_n X dX9_callsAtOnce_10 rfl ?_
    refine aw_aload_n X dX9_callsAtOnce_11 rfl ?_
    refine aw_aload_n X dX9_callsAtOnce_12 rfl ?_
    refine aw_iload_n X dX9_callsAtOnce_13 rfl ?_
    obtain ⟨r2, er2, h⟩ := bnd h
    refine aw_callV X dX9_callsAtOnce_14 cv_RX9_59 (ok_X9_callsIn h1 er2 _ _ _ _ _) iu_RX9 rfl (Nat.le_trans (by decide) hfr) (by decide) rfl rfl (Nat.le_of_ble_eq_true rfl) ?_
    refine aw_mmax X (Nat.le_trans (by decide) hfr) dX9_callsAtOnce_17 mc_RX9_40 rfl ?_
    refine aw_istore_n (L' := [some (.ref (zr Z 195)), some (.ref (zr Z a1)), some (.int (jmmax x2 r2.1)), some (.int x3)]) X dX9_callsAtOnce_20 (by decide) rfl ?_
    refine aw_iinc (v := (x3 + 1)) (L' := [some (.ref (zr Z 195)), some (.ref (zr Z a1)), some (.int (jmmax x2 r2.1)), some (.int (x3 + 1))]) X dX9_callsAtOnce_21 rfl rfl (by decide) rfl ?_
    refine aw_goto (tgt := 4) X dX9_callsAtOnce_24 (by decide) ?_
    cases h
    refine aw_msk [true, true, true, true] ?_
    exact hi _ rfl
set_option maxRecDepth 100000 in
set_option maxHeartbeats 4000000 in
theorem w_X9_callsAtOnce {fr : Nat} (hfr : 1 ≤ fr) (Z : AZ) (X : AX Z cX9_callsAtOnce 4 RX9 (some .int) 0 fr) (a1 : Nat) (h1 : IO 0 a1 7) (s : Mem) (r : Int32 × Mem) (hz : zres Z = (some (.int r.1), r.2)) (h : f_X9_callsAtOnce a1 s = some r) : AW Z s 0 [some (.ref (zr Z 195)), some (.ref (zr Z a1)), none, none] [] := by
  unfold f_X9_callsAtOnce at h
  refine aw_iconst (v := 0) X dX9_callsAtOnce_0 (by decide) ?_
  refine aw_istore_n (L' := [some (.ref (zr Z 195)), some (.ref (zr Z a1)), some (.int 0), none]) X dX9_callsAtOnce_1 (by decide) rfl ?_
  refine aw_iconst (v := 0) X dX9_callsAtOnce_2 (by decide) ?_
  refine aw_istore_n (L' := [some (.ref (zr Z 195)), some (.ref (zr Z a1)), some (.int 0), some (.int 0)]) X dX9_callsAtOnce_3 (by decide) rfl ?_
  obtain ⟨r3, er3, h⟩ := bnd h
  refine aw_msk [true, true, true, true] ?_
  refine it_ok (P := fun y : Int32 × Int32 × Mem => AW Z y.2.2 4 [some (.ref (zr Z 195)), some (.ref (zr Z a1)), some (.int y.1), some (.int y.2.1)] []) (Q := fun b : Int32 × Mem => AW Z b.2 27 [none, none, some (.int b.1), none] []) (fun y q hq hi he => so_X9_callsAtOnce_4 hfr Z X a1 h1 y.1 y.2.1 y.2.2 q hq hi he) FUEL _ _ er3 ?_
  refine aw_iload_n X dX9_callsAtOnce_27 rfl ?_
  cases h
  exact aw_iret X dX9_callsAtOnce_28 rfl hz.symm
set_option maxRecDepth 100000 in
set_option maxHeartbeats 4000000 in
theorem ok_X9_callsAtOnce {a1 : Nat} (h1 : IO 0 a1 7) {s : Mem} {r : Int32 × Mem} (h : f_X9_callsAtOnce a1 s = some r) (l : Launch) (D : va_G) (ρ : Nat → Nat) (cA : ClassId × ClassId × ClassId) (τ : AT) : AM l D ρ cA 0 τ yX9_callsAtOnce cX9_callsAtOnce 4 (some .int) 1 [.ref (ρ 195), .ref (ρ a1)] (some (.int r.1)) s r.2 := by
  refine AM_of (L := [some (.ref (ρ 195)), some (.ref (ρ a1)), none, none]) (by decide) (by simp [Value.category]) (Nat.le_of_ble_eq_true rfl) (fun j v q => ?_) (fun Z X hρ hz => ?_)
  · exact aL_ok (n := 2) [.ref (ρ 195), .ref (ρ a1)] j v q
  · subst hρ
    exact w_X9_callsAtOnce (Nat.le_refl _) Z X a1 h1 s r hz h

theorem dX9_cut_0 : decode cX9_cut 0 = .ok (.iconst 0, 1) := by decide +kernel
theorem dX9_cut_1 : decode cX9_cut 1 = .ok (.istore 4, 2) := by decide +kernel
theorem dX9_cut_3 : decode cX9_cut 3 = .ok (.iconst 0, 1) := by decide +kernel
theorem dX9_cut_4 : decode cX9_cut 4 = .ok (.istore 5, 2) := by decide +kernel
theorem dX9_cut_6 : decode cX9_cut 6 = .ok (.iload 5, 2) := by decide +kernel
theorem dX9_cut_8 : decode cX9_cut 8 = .ok (.aload_n 1, 1) := by decide +kernel
theorem dX9_cut_9 : decode cX9_cut 9 = .ok (.getfield 67, 3) := by decide +kernel
theorem dX9_cut_12 : decode cX9_cut 12 = .ok (.getfield 25, 3) := by decide +kernel
theorem dX9_cut_15 : decode cX9_cut 15 = .ok (.if_icmp .ge 79, 3) := by decide +kernel
theorem dX9_cut_18 : decode cX9_cut 18 = .ok (.iload_n 2, 1) := by decide +kernel
theorem dX9_cut_19 : decode cX9_cut 19 = .ok (.aload_n 1, 1) := by decide +kernel
theorem dX9_cut_20 : decode cX9_cut 20 = .ok (.getfield 67, 3) := by decide +kernel
theorem dX9_cut_23 : decode cX9_cut 23 = .ok (.getfield 31, 3) := by decide +kernel
theorem dX9_cut_26 : decode cX9_cut 26 = .ok (.iload 5, 2) := by decide +kernel
theorem dX9_cut_28 : decode cX9_cut 28 = .ok (.iaload, 1) := by decide +kernel
theorem dX9_cut_29 : decode cX9_cut 29 = .ok (.ishr, 1) := by decide +kernel
theorem dX9_cut_30 : decode cX9_cut 30 = .ok (.iconst 1, 1) := by decide +kernel
theorem dX9_cut_31 : decode cX9_cut 31 = .ok (.iand, 1) := by decide +kernel
theorem dX9_cut_32 : decode cX9_cut 32 = .ok (.iconst 1, 1) := by decide +kernel
theorem dX9_cut_33 : decode cX9_cut 33 = .ok (.if_icmp .ne 24, 3) := by decide +kernel
theorem dX9_cut_36 : decode cX9_cut 36 = .ok (.iload_n 2, 1) := by decide +kernel
theorem dX9_cut_37 : decode cX9_cut 37 = .ok (.aload_n 1, 1) := by decide +kernel
theorem dX9_cut_38 : decode cX9_cut 38 = .ok (.getfield 70, 3) := by decide +kernel
theorem dX9_cut_41 : decode cX9_cut 41 = .ok (.getfield 31, 3) := by decide +kernel
theorem dX9_cut_44 : decode cX9_cut 44 = .ok (.iload 5, 2) := by decide +kernel
theorem dX9_cut_46 : decode cX9_cut 46 = .ok (.iaload, 1) := by decide +kernel
theorem dX9_cut_47 : decode cX9_cut 47 = .ok (.ishr, 1) := by decide +kernel
theorem dX9_cut_48 : decode cX9_cut 48 = .ok (.iconst 1, 1) := by decide +kernel
theorem dX9_cut_49 : decode cX9_cut 49 = .ok (.iand, 1) := by decide +kernel
theorem dX9_cut_50 : decode cX9_cut 50 = .ok (.ifCond .ne 7, 3) := by decide +kernel
theorem dX9_cut_53 : decode cX9_cut 53 = .ok (.iconst 1, 1) := by decide +kernel
theorem dX9_cut_54 : decode cX9_cut 54 = .ok (.goto 4, 3) := by decide +kernel
theorem dX9_cut_57 : decode cX9_cut 57 = .ok (.iconst 0, 1) := by decide +kernel
theorem dX9_cut_58 : decode cX9_cut 58 = .ok (.istore 6, 2) := by decide +kernel
theorem dX9_cut_60 : decode cX9_cut 60 = .ok (.iload 6, 2) := by decide +kernel
theorem dX9_cut_62 : decode cX9_cut 62 = .ok (.ifCond .eq 26, 3) := by decide +kernel
theorem dX9_cut_65 : decode cX9_cut 65 = .ok (.iload 4, 2) := by decide +kernel
theorem dX9_cut_67 : decode cX9_cut 67 = .ok (.iload_n 3, 1) := by decide +kernel
theorem dX9_cut_68 : decode cX9_cut 68 = .ok (.ifCond .eq 7, 3) := by decide +kernel
theorem dX9_cut_71 : decode cX9_cut 71 = .ok (.iconst 1, 1) := by decide +kernel
theorem dX9_cut_72 : decode cX9_cut 72 = .ok (.goto 13, 3) := by decide +kernel
theorem dX9_cut_75 : decode cX9_cut 75 = .ok (.aload_n 1, 1) := by decide +kernel
theorem dX9_cut_76 : decode cX9_cut 76 = .ok (.getfield 73, 3) := by decide +kernel
theorem dX9_cut_79 : decode cX9_cut 79 = .ok (.getfield 31, 3) := by decide +kernel
theorem dX9_cut_82 : decode cX9_cut 82 = .ok (.iload 5, 2) := by decide +kernel
theorem dX9_cut_84 : decode cX9_cut 84 = .ok (.iaload, 1) := by decide +kernel
theorem dX9_cut_85 : decode cX9_cut 85 = .ok (.iadd, 1) := by decide +kernel
theorem dX9_cut_86 : decode cX9_cut 86 = .ok (.istore 4, 2) := by decide +kernel
theorem dX9_cut_88 : decode cX9_cut 88 = .ok (.iinc 5 1, 3) := by decide +kernel
theorem dX9_cut_91 : decode cX9_cut 91 = .ok (.goto (-85), 3) := by decide +kernel
theorem dX9_cut_94 : decode cX9_cut 94 = .ok (.iload 4, 2) := by decide +kernel
theorem dX9_cut_96 : decode cX9_cut 96 = .ok (.ireturn, 1) := by decide +kernel
def jn_X9_cut_58 (a1 : Nat) (x2 : Int32) (x3 : Int32) (x4 : Int32) (x5 : Int32) (t0 : Int32) (s : Mem) : Option ((Int32 × Int32 × Mem) ⊕ (Int32 × Mem)) :=
  if t0 = 0 then
  some (.inl (x4, (x5 + 1), s))
  else
  if x3 = 0 then
  (rd (gL 0 ((a1 + 13) + 1)) (s ((a1 + 13) + 1)) x5).bind fun v6 =>
  some (.inl ((x4 + v6), (x5 + 1), s))
  else
  some (.inl ((x4 + 1), (x5 + 1), s))
def jn_X9_cut_57 (a1 : Nat) (x2 : Int32) (x3 : Int32) (x4 : Int32) (x5 : Int32) (s : Mem) : Option ((Int32 × Int32 × Mem) ⊕ (Int32 × Mem)) :=
  jn_X9_cut_58 a1 x2 x3 x4 x5 0 s
def st_X9_cut_6 (a1 : Nat) (x2 : Int32) (x3 : Int32) (x4 : Int32) (x5 : Int32) (s : Mem) : Option ((Int32 × Int32 × Mem) ⊕ (Int32 × Mem)) :=
  if (s (a1 + 9) 1) ≤ x5 then
  some (.inr (x4, s))
  else
  (rd (gL 0 ((a1 + 9) + 1)) (s ((a1 + 9) + 1)) x5).bind fun v2 =>
  if ((x2 >>> (v2 &&& 31)) &&& 1) = 1 then
  (rd (gL 0 ((a1 + 11) + 1)) (s ((a1 + 11) + 1)) x5).bind fun v7 =>
  if ((x2 >>> (v7 &&& 31)) &&& 1) = 0 then
  jn_X9_cut_58 a1 x2 x3 x4 x5 1 s
  else
  jn_X9_cut_57 a1 x2 x3 x4 x5 s
  else
  jn_X9_cut_57 a1 x2 x3 x4 x5 s
def f_X9_cut (a1 : Nat) (x2 : Int32) (x3 : Int32) (s : Mem) : Option (Int32 × Mem) :=
  (it FUEL (fun y => st_X9_cut_6 a1 x2 x3 y.1 y.2.1 y.2.2) (0, 0, s)).bind fun r9 =>
  some (r9.1, r9.2)
set_option maxRecDepth 100000 in
set_option maxHeartbeats 4000000 in
theorem jo_X9_cut_58 {fr : Nat} (hfr : 0 ≤ fr) (Z : AZ) (X : AX Z cX9_cut 7 RX9 (some .int) 0 fr) (a1 : Nat) (h1 : IO 0 a1 7) (x2 : Int32) (x3 : Int32) (x4 : Int32) (x5 : Int32) (t0 : Int32) (s : Mem) (q : (Int32 × Int32 × Mem) ⊕ (Int32 × Mem)) (h : jn_X9_cut_58 a1 x2 x3 x4 x5 t0 s = some q) (hi : ∀ y : Int32 × Int32 × Mem, q = .inl y → AW Z y.2.2 6 [none, some (.ref (zr Z a1)), some (.int x2), some (.int x3), some (.int y.1), some (.int y.2.1), none] []) (he : ∀ b : Int32 × Mem, q = .inr b → AW Z b.2 94 [none, none, none, none, some (.int b.1), none, none] []) : AW Z s 58 [none, some (.ref (zr Z a1)), some (.int x2), some (.int x3), some (.int x4), some (.int x5), none] [.int t0] := by
  unfold jn_X9_cut_58 at h
  refine aw_istore (L' := [none, some (.ref (zr Z a1)), some (.int x2), some (.int x3), some (.int x4), some (.int x5), some (.int t0)]) X dX9_cut_58 (by decide) rfl ?_
  refine aw_iload X dX9_cut_60 rfl ?_
  refine aw_if_eq (tgt := 88) X dX9_cut_62 (by decide) (fun c4 => ?_) (fun c4 => ?_)
  · rw [if_pos c4] at h
    refine aw_iinc (v := (x5 + 1)) (L' := [none, some (.ref (zr Z a1)), some (.int x2), some (.int x3), some (.int x4), some (.int (x5 + 1)), some (.int t0)]) X dX9_cut_88 rfl rfl (by decide) rfl ?_
    refine aw_goto (tgt := 6) X dX9_cut_91 (by decide) ?_
    cases h
    refine aw_msk [false, true, true, true, true, true, false] ?_
    exact hi _ rfl
  · rw [if_neg c4] at h
    refine aw_iload X dX9_cut_65 rfl ?_
    refine aw_iload_n X dX9_cut_67 rfl ?_
    refine aw_if_eq (tgt := 75) X dX9_cut_68 (by decide) (fun c5 => ?_) (fun c5 => ?_)
    · rw [if_pos c5] at h
      refine aw_aload_n X dX9_cut_75 rfl ?_
      refine aw_getr X dX9_cut_76 fl_RX9_73 h1 (gt_RX8_6 h1) ?_
      refine aw_getr X dX9_cut_79 fl_RX9_31 (it_RX8_6 h1) (gt_RX7_0 (it_RX8_6 h1)) ?_
      refine aw_iload X dX9_cut_82 rfl ?_
      obtain ⟨v6, ev6, h⟩ := bnd h
      refine aw_iald X dX9_cut_84 (it_RX7_0 (it_RX8_6 h1)) ev6 ?_
      refine aw_iadd X dX9_cut_85 ?_
      refine aw_istore (L' := [none, some (.ref (zr Z a1)), some (.int x2), some (.int x3), some (.int (x4 + v6)), some (.int x5), some (.int t0)]) X dX9_cut_86 (by decide) rfl ?_
      refine aw_iinc (v := (x5 + 1)) (L' := [none, some (.ref (zr Z a1)), some (.int x2), some (.int x3), some (.int (x4 + v6)), some (.int (x5 + 1)), some (.int t0)]) X dX9_cut_88 rfl rfl (by decide) rfl ?_
      refine aw_goto (tgt := 6) X dX9_cut_91 (by decide) ?_
      cases h
      refine aw_msk [false, true, true, true, true, true, false] ?_
      exact hi _ rfl
    · rw [if_neg c5] at h
      refine aw_iconst (v := 1) X dX9_cut_71 (by decide) ?_
      refine aw_goto (tgt := 85) X dX9_cut_72 (by decide) ?_
      refine aw_iadd X dX9_cut_85 ?_
      refine aw_istore (L' := [none, some (.ref (zr Z a1)), some (.int x2), some (.int x3), some (.int (x4 + 1)), some (.int x5), some (.int t0)]) X dX9_cut_86 (by decide) rfl ?_
      refine aw_iinc (v := (x5 + 1)) (L' := [none, some (.ref (zr Z a1)), some (.int x2), some (.int x3), some (.int (x4 + 1)), some (.int (x5 + 1)), some (.int t0)]) X dX9_cut_88 rfl rfl (by decide) rfl ?_
      refine aw_goto (tgt := 6) X dX9_cut_91 (by decide) ?_
      cases h
      refine aw_msk [false, true, true, true, true, true, false] ?_
      exact hi _ rfl
set_option maxRecDepth 100000 in
set_option maxHeartbeats 4000000 in
theorem jo_X9_cut_57 {fr : Nat} (hfr : 0 ≤ fr) (Z : AZ) (X : AX Z cX9_cut 7 RX9 (some .int) 0 fr) (a1 : Nat) (h1 : IO 0 a1 7) (x2 : Int32) (x3 : Int32) (x4 : Int32) (x5 : Int32) (s : Mem) (q : (Int32 × Int32 × Mem) ⊕ (Int32 × Mem)) (h : jn_X9_cut_57 a1 x2 x3 x4 x5 s = some q) (hi : ∀ y : Int32 × Int32 × Mem, q = .inl y → AW Z y.2.2 6 [none, some (.ref (zr Z a1)), some (.int x2), some (.int x3), some (.int y.1), some (.int y.2.1), none] []) (he : ∀ b : Int32 × Mem, q = .inr b → AW Z b.2 94 [none, none, none, none, some (.int b.1), none, none] []) : AW Z s 57 [none, some (.ref (zr Z a1)), some (.int x2), some (.int x3), some (.int x4), some (.int x5), none] [] := by
  unfold jn_X9_cut_57 at h
  refine aw_iconst (v := 0) X dX9_cut_57 (by decide) ?_
  refine aw_msk [false, true, true, true, true, true, false] ?_
  exact jo_X9_cut_58 hfr Z X a1 h1 _ _ _ _ _ _ _ h hi he
set_option maxRecDepth 100000 in
set_option maxHeartbeats 4000000 in
theorem so_X9_cut_6 {fr : Nat} (hfr : 0 ≤ fr) (Z : AZ) (X : AX Z cX9_cut 7 RX9 (some .int) 0 fr) (a1 : Nat) (h1 : IO 0 a1 7) (x2 : Int32) (x3 : Int32) (x4 : Int32) (x5 : Int32) (s : Mem) (q : (Int32 × Int32 × Mem) ⊕ (Int32 × Mem)) (h : st_X9_cut_6 a1 x2 x3 x4 x5 s = some q) (hi : ∀ y : Int32 × Int32 × Mem, q = .inl y → AW Z y.2.2 6 [none, some (.ref (zr Z a1)), some (.int x2), some (.int x3), some (.int y.1), some (.int y.2.1), none] []) (he : ∀ b : Int32 × Mem, q = .inr b → AW Z b.2 94 [none, none, none, none, some (.int b.1), none, none] []) : AW Z s 6 [none, some (.ref (zr Z a1)), some (.int x2), some (.int x3), some (.int x4), some (.int x5), none] [] := by
  unfold st_X9_cut_6 at h
  refine aw_iload X dX9_cut_6 rfl ?_
  refine aw_aload_n X dX9_cut_8 rfl ?_
  refine aw_getr X dX9_cut_9 fl_RX9_67 h1 (gt_RX8_4 h1) ?_
  refine aw_geti X dX9_cut_12 fl_RX9_25 (it_RX8_4 h1) (gt_RX7_1 (it_RX8_4 h1)) ?_
  refine aw_icmp_ge (tgt := 94) X dX9_cut_15 (by decide) (fun c1 => ?_) (fun c1 => ?_)
  · rw [if_pos c1] at h
    cases h
    refine aw_msk [false, false, false, false, true, false, false] ?_
    exact he _ rfl
  · rw [if_neg c1] at h
    refine aw_iload_n X dX9_cut_18 rfl ?_
    refine aw_aload_n X dX9_cut_19 rfl ?_
    refine aw_getr X dX9_cut_20 fl_RX9_67 h1 (gt_RX8_4 h1) ?_
    refine aw_getr X dX9_cut_23 fl_RX9_31 (it_RX8_4 h1) (gt_RX7_0 (it_RX8_4 h1)) ?_
    refine aw_iload X dX9_cut_26 rfl ?_
    obtain ⟨v2, ev2, h⟩ := bnd h
    refine aw_iald X dX9_cut_28 (it_RX7_0 (it_RX8_4 h1)) ev2 ?_
    refine aw_ishr X dX9_cut_29 ?_
    refine aw_iconst (v := 1) X dX9_cut_30 (by decide) ?_
    refine aw_iand X dX9_cut_31 ?_
    refine aw_iconst (v := 1) X dX9_cut_32 (by decide) ?_
    refine aw_icmp_ne (tgt := 57) X dX9_cut_33 (by decide) (fun c3 => ?_) (fun c3 => ?_)
    · rw [if_neg c3] at h
      refine aw_msk [false, true, true, true, true, true, false] ?_
      exact jo_X9_cut_57 hfr Z X a1 h1 _ _ _ _ _ _ h hi he
    · rw [if_pos c3] at h
      refine aw_iload_n X dX9_cut_36 rfl ?_
      refine aw_aload_n X dX9_cut_37 rfl ?_
      refine aw_getr X dX9_cut_38 fl_RX9_70 h1 (gt_RX8_5 h1) ?_
      refine aw_getr X dX9_cut_41 fl_RX9_31 (it_RX8_5 h1) (gt_RX7_0 (it_RX8_5 h1)) ?_
      refine aw_iload X dX9_cut_44 rfl ?_
      obtain ⟨v7, ev7, h⟩ := bnd h
      refine aw_iald X dX9_cut_46 (it_RX7_0 (it_RX8_5 h1)) ev7 ?_
      refine aw_ishr X dX9_cut_47 ?_
      refine aw_iconst (v := 1) X dX9_cut_48 (by decide) ?_
      refine aw_iand X dX9_cut_49 ?_
      refine aw_if_ne (tgt := 57) X dX9_cut_50 (by decide) (fun c8 => ?_) (fun c8 => ?_)
      · rw [if_neg c8] at h
        refine aw_msk [false, true, true, true, true, true, false] ?_
        exact jo_X9_cut_57 hfr Z X a1 h1 _ _ _ _ _ _ h hi he
      · rw [if_pos c8] at h
        refine aw_iconst (v := 1) X dX9_cut_53 (by decide) ?_
        refine aw_goto (tgt := 58) X dX9_cut_54 (by decide) ?_
        refine aw_msk [false, true, true, true, true, true, false] ?_
        exact jo_X9_cut_58 hfr Z X a1 h1 _ _ _ _ _ _ _ h hi he
set_option maxRecDepth 100000 in
set_option maxHeartbeats 4000000 in
theorem w_X9_cut {fr : Nat} (hfr : 0 ≤ fr) (Z : AZ) (X : AX Z cX9_cut 7 RX9 (some .int) 0 fr) (a1 : Nat) (h1 : IO 0 a1 7) (x2 : Int32) (x3 : Int32) (s : Mem) (r : Int32 × Mem) (hz : zres Z = (some (.int r.1), r.2)) (h : f_X9_cut a1 x2 x3 s = some r) : AW Z s 0 [some (.ref (zr Z 195)), some (.ref (zr Z a1)), some (.int x2), some (.int x3), none, none, none] [] := by
  unfold f_X9_cut at h
  refine aw_iconst (v := 0) X dX9_cut_0 (by decide) ?_
  refine aw_istore (L' := [some (.ref (zr Z 195)), some (.ref (zr Z a1)), some (.int x2), some (.int x3), some (.int 0), none, none]) X dX9_cut_1 (by decide) rfl ?_
  refine aw_iconst (v := 0) X dX9_cut_3 (by decide) ?_
  refine aw_istore (L' := [some (.ref (zr Z 195)), some (.ref (zr Z a1)), some (.int x2), some (.int x3), some (.int 0), some (.int 0), none]) X dX9_cut_4 (by decide) rfl ?_
  obtain ⟨r9, er9, h⟩ := bnd h
  refine aw_msk [false, true, true, true, true, true, false] ?_
  refine it_ok (P := fun y : Int32 × Int32 × Mem => AW Z y.2.2 6 [none, some (.ref (zr Z a1)), some (.int x2), some (.int x3), some (.int y.1), some (.int y.2.1), none] []) (Q := fun b : Int32 × Mem => AW Z b.2 94 [none, none, none, none, some (.int b.1), none, none] []) (fun y q hq hi he => so_X9_cut_6 hfr Z X a1 h1 x2 x3 y.1 y.2.1 y.2.2 q hq hi he) FUEL _ _ er9 ?_
  refine aw_iload X dX9_cut_94 rfl ?_
  cases h
  exact aw_iret X dX9_cut_96 rfl hz.symm
set_option maxRecDepth 100000 in
set_option maxHeartbeats 4000000 in
theorem ok_X9_cut {a1 : Nat} (h1 : IO 0 a1 7) {x2 x3 : Int32} {s : Mem} {r : Int32 × Mem} (h : f_X9_cut a1 x2 x3 s = some r) (l : Launch) (D : va_G) (ρ : Nat → Nat) (cA : ClassId × ClassId × ClassId) (τ : AT) : AM l D ρ cA 0 τ yX9_cut cX9_cut 7 (some .int) 0 [.ref (ρ 195), .ref (ρ a1), .int x2, .int x3] (some (.int r.1)) s r.2 := by
  refine AM_of (L := [some (.ref (ρ 195)), some (.ref (ρ a1)), some (.int x2), some (.int x3), none, none, none]) (by decide) (by simp [Value.category]) (Nat.le_of_ble_eq_true rfl) (fun j v q => ?_) (fun Z X hρ hz => ?_)
  · exact aL_ok (n := 3) [.ref (ρ 195), .ref (ρ a1), .int x2, .int x3] j v q
  · subst hρ
    exact w_X9_cut (Nat.le_refl _) Z X a1 h1 x2 x3 s r hz h

theorem dX9_leastCut_0 : decode cX9_leastCut 0 = .ok (.sipush 280, 3) := by decide +kernel
theorem dX9_leastCut_3 : decode cX9_leastCut 3 = .ok (.istore 5, 2) := by decide +kernel
theorem dX9_leastCut_5 : decode cX9_leastCut 5 = .ok (.iconst 0, 1) := by decide +kernel
theorem dX9_leastCut_6 : decode cX9_leastCut 6 = .ok (.istore 6, 2) := by decide +kernel
theorem dX9_leastCut_8 : decode cX9_leastCut 8 = .ok (.iload 6, 2) := by decide +kernel
theorem dX9_leastCut_10 : decode cX9_leastCut 10 = .ok (.bipush 64, 2) := by decide +kernel
theorem dX9_leastCut_12 : decode cX9_leastCut 12 = .ok (.if_icmp .ge 44, 3) := by decide +kernel
theorem dX9_leastCut_15 : decode cX9_leastCut 15 = .ok (.iload 6, 2) := by decide +kernel
theorem dX9_leastCut_17 : decode cX9_leastCut 17 = .ok (.iload_n 2, 1) := by decide +kernel
theorem dX9_leastCut_18 : decode cX9_leastCut 18 = .ok (.ishr, 1) := by decide +kernel
theorem dX9_leastCut_19 : decode cX9_leastCut 19 = .ok (.iconst 1, 1) := by decide +kernel
theorem dX9_leastCut_20 : decode cX9_leastCut 20 = .ok (.iand, 1) := by decide +kernel
theorem dX9_leastCut_21 : decode cX9_leastCut 21 = .ok (.iconst 1, 1) := by decide +kernel
theorem dX9_leastCut_22 : decode cX9_leastCut 22 = .ok (.if_icmp .ne 28, 3) := by decide +kernel
theorem dX9_leastCut_25 : decode cX9_leastCut 25 = .ok (.iload 6, 2) := by decide +kernel
theorem dX9_leastCut_27 : decode cX9_leastCut 27 = .ok (.iload_n 3, 1) := by decide +kernel
theorem dX9_leastCut_28 : decode cX9_leastCut 28 = .ok (.ishr, 1) := by decide +kernel
theorem dX9_leastCut_29 : decode cX9_leastCut 29 = .ok (.iconst 1, 1) := by decide +kernel
theorem dX9_leastCut_30 : decode cX9_leastCut 30 = .ok (.iand, 1) := by decide +kernel
theorem dX9_leastCut_31 : decode cX9_leastCut 31 = .ok (.ifCond .ne 19, 3) := by decide +kernel
theorem dX9_leastCut_34 : decode cX9_leastCut 34 = .ok (.iload 5, 2) := by decide +kernel
theorem dX9_leastCut_36 : decode cX9_leastCut 36 = .ok (.aload_n 0, 1) := by decide +kernel
theorem dX9_leastCut_37 : decode cX9_leastCut 37 = .ok (.aload_n 1, 1) := by decide +kernel
theorem dX9_leastCut_38 : decode cX9_leastCut 38 = .ok (.iload 6, 2) := by decide +kernel
theorem dX9_leastCut_40 : decode cX9_leastCut 40 = .ok (.iload 4, 2) := by decide +kernel
theorem dX9_leastCut_42 : decode cX9_leastCut 42 = .ok (.invokevirtual 63, 3) := by decide +kernel
theorem dX9_leastCut_45 : decode cX9_leastCut 45 = .ok (.invokestatic 34, 3) := by decide +kernel
theorem dX9_leastCut_48 : decode cX9_leastCut 48 = .ok (.istore 5, 2) := by decide +kernel
theorem dX9_leastCut_50 : decode cX9_leastCut 50 = .ok (.iinc 6 1, 3) := by decide +kernel
theorem dX9_leastCut_53 : decode cX9_leastCut 53 = .ok (.goto (-45), 3) := by decide +kernel
theorem dX9_leastCut_56 : decode cX9_leastCut 56 = .ok (.iload 5, 2) := by decide +kernel
theorem dX9_leastCut_58 : decode cX9_leastCut 58 = .ok (.ireturn, 1) := by decide +kernel
def st_X9_leastCut_8 (a1 : Nat) (x2 : Int32) (x3 : Int32) (x4 : Int32) (x5 : Int32) (x6 : Int32) (s : Mem) : Option ((Int32 × Int32 × Mem) ⊕ (Int32 × Mem)) :=
  if 64 ≤ x6 then
  some (.inr (x5, s))
  else
  if ((x6 >>> (x2 &&& 31)) &&& 1) = 1 then
  if ((x6 >>> (x3 &&& 31)) &&& 1) = 0 then
  (f_X9_cut a1 x6 x4 s).bind fun r4 =>
  some (.inl ((jmmin x5 r4.1), (x6 + 1), r4.2))
  else
  some (.inl (x5, (x6 + 1), s))
  else
  some (.inl (x5, (x6 + 1), s))
def f_X9_leastCut (a1 : Nat) (x2 : Int32) (x3 : Int32) (x4 : Int32) (s : Mem) : Option (Int32 × Mem) :=
  (it FUEL (fun y => st_X9_leastCut_8 a1 x2 x3 x4 y.1 y.2.1 y.2.2) (280, 0, s)).bind fun r5 =>
  some (r5.1, r5.2)
set_option maxRecDepth 100000 in
set_option maxHeartbeats 4000000 in
theorem so_X9_leastCut_8 {fr : Nat} (hfr : 1 ≤ fr) (Z : AZ) (X : AX Z cX9_leastCut 7 RX9 (some .int) 0 fr) (a1 : Nat) (h1 : IO 0 a1 7) (x2 : Int32) (x3 : Int32) (x4 : Int32) (x5 : Int32) (x6 : Int32) (s : Mem) (q : (Int32 × Int32 × Mem) ⊕ (Int32 × Mem)) (h : st_X9_leastCut_8 a1 x2 x3 x4 x5 x6 s = some q) (hi : ∀ y : Int32 × Int32 × Mem, q = .inl y → AW Z y.2.2 8 [some (.ref (zr Z 195)), some (.ref (zr Z a1)), some (.int x2), some (.int x3), some (.int x4), some (.int y.1), some (.int y.2.1)] []) (he : ∀ b : Int32 × Mem, q = .inr b → AW Z b.2 56 [none, none, none, none, none, some (.int b.1), none] []) : AW Z s 8 [some (.ref (zr Z 195)), some (.ref (zr Z a1)), some (.int x2), some (.int x3), some (.int x4), some (.int x5), some (.int x6)] [] := by
  unfold st_X9_leastCut_8 at h
  refine aw_iload X dX9_leastCut_8 rfl ?_
  refine aw_bipush (v := 64) X dX9_leastCut_10 (by decide) ?_
  refine aw_icmp_ge (tgt := 56) X dX9_leastCut_12 (by decide) (fun c1 => ?_) (fun c1 => ?_)
  · rw [if_pos c1] at h
    cases h
    refine aw_msk [false, false, false, false, false, true, false] ?_
    exact he _ rfl
  · rw [if_neg c1] at h
    refine aw_iload X dX9_leastCut_15 rfl ?_
    refine aw_iload_n X dX9_leastCut_17 rfl ?_
    refine aw_ishr X dX9_leastCut_18 ?_
    refine aw_iconst (v := 1) X dX9_leastCut_19 (by decide) ?_
    refine aw_iand X dX9_leastCut_20 ?_
    refine aw_iconst (v := 1) X dX9_leastCut_21 (by decide) ?_
    refine aw_icmp_ne (tgt := 50) X dX9_leastCut_22 (by decide) (fun c2 => ?_) (fun c2 => ?_)
    · rw [if_neg c2] at h
      refine aw_iinc (v := (x6 + 1)) (L' := [some (.ref (zr Z 195)), some (.ref (zr Z a1)), some (.int x2), some (.int x3), some (.int x4), some (.int x5), some (.int (x6 + 1))]) X dX9_leastCut_50 rfl rfl (by decide) rfl ?_
      refine aw_goto (tgt := 8) X dX9_leastCut_53 (by decide) ?_
      cases h
      refine aw_msk [true, true, true, true, true, true, true] ?_
      exact hi _ rfl
    · rw [if_pos c2] at h
      refine aw_iload X dX9_leastCut_25 rfl ?_
      refine aw_iload_n X dX9_leastCut_27 rfl ?_
      refine aw_ishr X dX9_leastCut_28 ?_
      refine aw_iconst (v := 1) X dX9_leastCut_29 (by decide) ?_
      refine aw_iand X dX9_leastCut_30 ?_
      refine aw_if_ne (tgt := 50) X dX9_leastCut_31 (by decide) (fun c3 => ?_) (fun c3 => ?_)
      · rw [if_neg c3] at h
        refine aw_iinc (v := (x6 + 1)) (L' := [some (.ref (zr Z 195)), some (.ref (zr Z a1)), some (.int x2), some (.int x3), some (.int x4), some (.int x5), some (.int (x6 + 1))]) X dX9_leastCut_50 rfl rfl (by decide) rfl ?_
        refine aw_goto (tgt := 8) X dX9_leastCut_53 (by decide) ?_
        cases h
        refine aw_msk [true, true, true, true, true, true, true] ?_
        exact hi _ rfl
      · rw [if_pos c3] at h
        refine aw_iload X dX9_leastCut_34 rfl ?_
        refine aw_aload_n X dX9_leastCut_36 rfl ?_
        refine aw_aload_n X dX9_leastCut_37 rfl ?_
        refine aw_iload X dX9_leastCut_38 rfl ?_
        refine aw_iload X dX9_leastCut_40 rfl ?_
        obtain ⟨r4, er4, h⟩ := bnd h
        refine aw_callV X dX9_leastCut_42 cv_RX9_63 (ok_X9_cut h1 er4 _ _ _ _ _) iu_RX9 rfl (Nat.le_trans (by decide) hfr) (by decide) rfl rfl (Nat.le_of_ble_eq_true rfl) ?_
        refine aw_mmin X (Nat.le_trans (by decide) hfr) dX9_leastCut_45 mc_RX9_34 rfl ?_
        refine aw_istore (L' := [some (.ref (zr Z 195)), some (.ref (zr Z a1)), some (.int x2), some (.int x3), some (.int x4), some (.int (jmmin x5 r4.1)), some (.int x6)]) X dX9_leastCut_48 (by decide) rfl ?_
        refine aw_iinc (v := (x6 + 1)) (L' := [some (.ref (zr Z 195)), some (.ref (zr Z a1)), some (.int x2), some (.int x3), some (.int x4), some (.int (jmmin x5 r4.1)), some (.int (x6 + 1))]) X dX9_leastCut_50 rfl rfl (by decide) rfl ?_
        refine aw_goto (tgt := 8) X dX9_leastCut_53 (by decide) ?_
        cases h
        refine aw_msk [true, true, true, true, true, true, true] ?_
        exact hi _ rfl
set_option maxRecDepth 100000 in
set_option maxHeartbeats 4000000 in
theorem w_X9_leastCut {fr : Nat} (hfr : 1 ≤ fr) (Z : AZ) (X : AX Z cX9_leastCut 7 RX9 (some .int) 0 fr) (a1 : Nat) (h1 : IO 0 a1 7) (x2 : Int32) (x3 : Int32) (x4 : Int32) (s : Mem) (r : Int32 × Mem) (hz : zres Z = (some (.int r.1), r.2)) (h : f_X9_leastCut a1 x2 x3 x4 s = some r) : AW Z s 0 [some (.ref (zr Z 195)), some (.ref (zr Z a1)), some (.int x2), some (.int x3), some (.int x4), none, none] [] := by
  unfold f_X9_leastCut at h
  refine aw_sipush (v := 280) X dX9_leastCut_0 (by decide) ?_
  refine aw_istore (L' := [some (.ref (zr Z 195)), some (.ref (zr Z a1)), some (.int x2), some (.int x3), some (.int x4), some (.int 280), none]) X dX9_leastCut_3 (by decide) rfl ?_
  refine aw_iconst (v := 0) X dX9_leastCut_5 (by decide) ?_
  refine aw_istore (L' := [some (.ref (zr Z 195)), some (.ref (zr Z a1)), some (.int x2), some (.int x3), some (.int x4), some (.int 280), some (.int 0)]) X dX9_leastCut_6 (by decide) rfl ?_
  obtain ⟨r5, er5, h⟩ := bnd h
  refine aw_msk [true, true, true, true, true, true, true] ?_
  refine it_ok (P := fun y : Int32 × Int32 × Mem => AW Z y.2.2 8 [some (.ref (zr Z 195)), some (.ref (zr Z a1)), some (.int x2), some (.int x3), some (.int x4), some (.int y.1), some (.int y.2.1)] []) (Q := fun b : Int32 × Mem => AW Z b.2 56 [none, none, none, none, none, some (.int b.1), none] []) (fun y q hq hi he => so_X9_leastCut_8 hfr Z X a1 h1 x2 x3 x4 y.1 y.2.1 y.2.2 q hq hi he) FUEL _ _ er5 ?_
  refine aw_iload X dX9_leastCut_56 rfl ?_
  cases h
  exact aw_iret X dX9_leastCut_58 rfl hz.symm
set_option maxRecDepth 100000 in
set_option maxHeartbeats 4000000 in
theorem ok_X9_leastCut {a1 : Nat} (h1 : IO 0 a1 7) {x2 x3 x4 : Int32} {s : Mem} {r : Int32 × Mem} (h : f_X9_leastCut a1 x2 x3 x4 s = some r) (l : Launch) (D : va_G) (ρ : Nat → Nat) (cA : ClassId × ClassId × ClassId) (τ : AT) : AM l D ρ cA 0 τ yX9_leastCut cX9_leastCut 7 (some .int) 1 [.ref (ρ 195), .ref (ρ a1), .int x2, .int x3, .int x4] (some (.int r.1)) s r.2 := by
  refine AM_of (L := [some (.ref (ρ 195)), some (.ref (ρ a1)), some (.int x2), some (.int x3), some (.int x4), none, none]) (by decide) (by simp [Value.category]) (Nat.le_of_ble_eq_true rfl) (fun j v q => ?_) (fun Z X hρ hz => ?_)
  · exact aL_ok (n := 2) [.ref (ρ 195), .ref (ρ a1), .int x2, .int x3, .int x4] j v q
  · subst hρ
    exact w_X9_leastCut (Nat.le_refl _) Z X a1 h1 x2 x3 x4 s r hz h

theorem dX9_valueAt_0 : decode cX9_valueAt 0 = .ok (.iconst 0, 1) := by decide +kernel
theorem dX9_valueAt_1 : decode cX9_valueAt 1 = .ok (.istore_n 3, 1) := by decide +kernel
theorem dX9_valueAt_2 : decode cX9_valueAt 2 = .ok (.aload_n 1, 1) := by decide +kernel
theorem dX9_valueAt_3 : decode cX9_valueAt 3 = .ok (.getfield 25, 3) := by decide +kernel
theorem dX9_valueAt_6 : decode cX9_valueAt 6 = .ok (.iconst 1, 1) := by decide +kernel
theorem dX9_valueAt_7 : decode cX9_valueAt 7 = .ok (.isub, 1) := by decide +kernel
theorem dX9_valueAt_8 : decode cX9_valueAt 8 = .ok (.istore 4, 2) := by decide +kernel
theorem dX9_valueAt_10 : decode cX9_valueAt 10 = .ok (.iload 4, 2) := by decide +kernel
theorem dX9_valueAt_12 : decode cX9_valueAt 12 = .ok (.ifCond .lt 21, 3) := by decide +kernel
theorem dX9_valueAt_15 : decode cX9_valueAt 15 = .ok (.iload_n 3, 1) := by decide +kernel
theorem dX9_valueAt_16 : decode cX9_valueAt 16 = .ok (.iload_n 2, 1) := by decide +kernel
theorem dX9_valueAt_17 : decode cX9_valueAt 17 = .ok (.imul, 1) := by decide +kernel
theorem dX9_valueAt_18 : decode cX9_valueAt 18 = .ok (.aload_n 1, 1) := by decide +kernel
theorem dX9_valueAt_19 : decode cX9_valueAt 19 = .ok (.getfield 31, 3) := by decide +kernel
theorem dX9_valueAt_22 : decode cX9_valueAt 22 = .ok (.iload 4, 2) := by decide +kernel
theorem dX9_valueAt_24 : decode cX9_valueAt 24 = .ok (.iaload, 1) := by decide +kernel
theorem dX9_valueAt_25 : decode cX9_valueAt 25 = .ok (.iadd, 1) := by decide +kernel
theorem dX9_valueAt_26 : decode cX9_valueAt 26 = .ok (.istore_n 3, 1) := by decide +kernel
theorem dX9_valueAt_27 : decode cX9_valueAt 27 = .ok (.iinc 4 (-1), 3) := by decide +kernel
theorem dX9_valueAt_30 : decode cX9_valueAt 30 = .ok (.goto (-20), 3) := by decide +kernel
theorem dX9_valueAt_33 : decode cX9_valueAt 33 = .ok (.iload_n 3, 1) := by decide +kernel
theorem dX9_valueAt_34 : decode cX9_valueAt 34 = .ok (.ireturn, 1) := by decide +kernel
def st_X9_valueAt_10 (a1 : Nat) (x2 : Int32) (x3 : Int32) (x4 : Int32) (s : Mem) : Option ((Int32 × Int32 × Mem) ⊕ (Int32 × Mem)) :=
  if x4 < 0 then
  some (.inr (x3, s))
  else
  (rd (gL 0 (a1 + 1)) (s (a1 + 1)) x4).bind fun v2 =>
  some (.inl (((x3 * x2) + v2), (x4 + (-1)), s))
def f_X9_valueAt (a1 : Nat) (x2 : Int32) (s : Mem) : Option (Int32 × Mem) :=
  (it FUEL (fun y => st_X9_valueAt_10 a1 x2 y.1 y.2.1 y.2.2) (0, ((s a1 1) - 1), s)).bind fun r3 =>
  some (r3.1, r3.2)
set_option maxRecDepth 100000 in
set_option maxHeartbeats 4000000 in
theorem so_X9_valueAt_10 {fr : Nat} (hfr : 0 ≤ fr) (Z : AZ) (X : AX Z cX9_valueAt 5 RX9 (some .int) 0 fr) (a1 : Nat) (h1 : IO 0 a1 6) (x2 : Int32) (x3 : Int32) (x4 : Int32) (s : Mem) (q : (Int32 × Int32 × Mem) ⊕ (Int32 × Mem)) (h : st_X9_valueAt_10 a1 x2 x3 x4 s = some q) (hi : ∀ y : Int32 × Int32 × Mem, q = .inl y → AW Z y.2.2 10 [none, some (.ref (zr Z a1)), some (.int x2), some (.int y.1), some (.int y.2.1)] []) (he : ∀ b : Int32 × Mem, q = .inr b → AW Z b.2 33 [none, none, none, some (.int b.1), none] []) : AW Z s 10 [none, some (.ref (zr Z a1)), some (.int x2), some (.int x3), some (.int x4)] [] := by
  unfold st_X9_valueAt_10 at h
  refine aw_iload X dX9_valueAt_10 rfl ?_
  refine aw_if_lt (tgt := 33) X dX9_valueAt_12 (by decide) (fun c1 => ?_) (fun c1 => ?_)
  · rw [if_pos c1] at h
    cases h
    refine aw_msk [false, false, false, true, false] ?_
    exact he _ rfl
  · rw [if_neg c1] at h
    refine aw_iload_n X dX9_valueAt_15 rfl ?_
    refine aw_iload_n X dX9_valueAt_16 rfl ?_
    refine aw_imul X dX9_valueAt_17 ?_
    refine aw_aload_n X dX9_valueAt_18 rfl ?_
    refine aw_getr X dX9_valueAt_19 fl_RX9_31 h1 (gt_RX7_0 h1) ?_
    refine aw_iload X dX9_valueAt_22 rfl ?_
    obtain ⟨v2, ev2, h⟩ := bnd h
    refine aw_iald X dX9_valueAt_24 (it_RX7_0 h1) ev2 ?_
    refine aw_iadd X dX9_valueAt_25 ?_
    refine aw_istore_n (L' := [none, some (.ref (zr Z a1)), some (.int x2), some (.int ((x3 * x2) + v2)), some (.int x4)]) X dX9_valueAt_26 (by decide) rfl ?_
    refine aw_iinc (v := (x4 + (-1))) (L' := [none, some (.ref (zr Z a1)), some (.int x2), some (.int ((x3 * x2) + v2)), some (.int (x4 + (-1)))]) X dX9_valueAt_27 rfl rfl (by decide) rfl ?_
    refine aw_goto (tgt := 10) X dX9_valueAt_30 (by decide) ?_
    cases h
    refine aw_msk [false, true, true, true, true] ?_
    exact hi _ rfl
set_option maxRecDepth 100000 in
set_option maxHeartbeats 4000000 in
theorem w_X9_valueAt {fr : Nat} (hfr : 0 ≤ fr) (Z : AZ) (X : AX Z cX9_valueAt 5 RX9 (some .int) 0 fr) (a1 : Nat) (h1 : IO 0 a1 6) (x2 : Int32) (s : Mem) (r : Int32 × Mem) (hz : zres Z = (some (.int r.1), r.2)) (h : f_X9_valueAt a1 x2 s = some r) : AW Z s 0 [some (.ref (zr Z 195)), some (.ref (zr Z a1)), some (.int x2), none, none] [] := by
  unfold f_X9_valueAt at h
  refine aw_iconst (v := 0) X dX9_valueAt_0 (by decide) ?_
  refine aw_istore_n (L' := [some (.ref (zr Z 195)), some (.ref (zr Z a1)), some (.int x2), some (.int 0), none]) X dX9_valueAt_1 (by decide) rfl ?_
  refine aw_aload_n X dX9_valueAt_2 rfl ?_
  refine aw_geti X dX9_valueAt_3 fl_RX9_25 h1 (gt_RX7_1 h1) ?_
  refine aw_iconst (v := 1) X dX9_valueAt_6 (by decide) ?_
  refine aw_isub X dX9_valueAt_7 ?_
  refine aw_istore (L' := [some (.ref (zr Z 195)), some (.ref (zr Z a1)), some (.int x2), some (.int 0), some (.int ((s a1 1) - 1))]) X dX9_valueAt_8 (by decide) rfl ?_
  obtain ⟨r3, er3, h⟩ := bnd h
  refine aw_msk [false, true, true, true, true] ?_
  refine it_ok (P := fun y : Int32 × Int32 × Mem => AW Z y.2.2 10 [none, some (.ref (zr Z a1)), some (.int x2), some (.int y.1), some (.int y.2.1)] []) (Q := fun b : Int32 × Mem => AW Z b.2 33 [none, none, none, some (.int b.1), none] []) (fun y q hq hi he => so_X9_valueAt_10 hfr Z X a1 h1 x2 y.1 y.2.1 y.2.2 q hq hi he) FUEL _ _ er3 ?_
  refine aw_iload_n X dX9_valueAt_33 rfl ?_
  cases h
  exact aw_iret X dX9_valueAt_34 rfl hz.symm
set_option maxRecDepth 100000 in
set_option maxHeartbeats 4000000 in
theorem ok_X9_valueAt {a1 : Nat} (h1 : IO 0 a1 6) {x2 : Int32} {s : Mem} {r : Int32 × Mem} (h : f_X9_valueAt a1 x2 s = some r) (l : Launch) (D : va_G) (ρ : Nat → Nat) (cA : ClassId × ClassId × ClassId) (τ : AT) : AM l D ρ cA 0 τ yX9_valueAt cX9_valueAt 5 (some .int) 0 [.ref (ρ 195), .ref (ρ a1), .int x2] (some (.int r.1)) s r.2 := by
  refine AM_of (L := [some (.ref (ρ 195)), some (.ref (ρ a1)), some (.int x2), none, none]) (by decide) (by simp [Value.category]) (Nat.le_of_ble_eq_true rfl) (fun j v q => ?_) (fun Z X hρ hz => ?_)
  · exact aL_ok (n := 2) [.ref (ρ 195), .ref (ρ a1), .int x2] j v q
  · subst hρ
    exact w_X9_valueAt (Nat.le_refl _) Z X a1 h1 x2 s r hz h

theorem dX9_zeros_0 : decode cX9_zeros 0 = .ok (.iconst 0, 1) := by decide +kernel
theorem dX9_zeros_1 : decode cX9_zeros 1 = .ok (.istore_n 2, 1) := by decide +kernel
theorem dX9_zeros_2 : decode cX9_zeros 2 = .ok (.bipush (-9), 2) := by decide +kernel
theorem dX9_zeros_4 : decode cX9_zeros 4 = .ok (.istore_n 3, 1) := by decide +kernel
theorem dX9_zeros_5 : decode cX9_zeros 5 = .ok (.iload_n 3, 1) := by decide +kernel
theorem dX9_zeros_6 : decode cX9_zeros 6 = .ok (.bipush 9, 2) := by decide +kernel
theorem dX9_zeros_8 : decode cX9_zeros 8 = .ok (.if_icmp .gt 21, 3) := by decide +kernel
theorem dX9_zeros_11 : decode cX9_zeros 11 = .ok (.aload_n 0, 1) := by decide +kernel
theorem dX9_zeros_12 : decode cX9_zeros 12 = .ok (.aload_n 1, 1) := by decide +kernel
theorem dX9_zeros_13 : decode cX9_zeros 13 = .ok (.iload_n 3, 1) := by decide +kernel
theorem dX9_zeros_14 : decode cX9_zeros 14 = .ok (.invokevirtual 76, 3) := by decide +kernel
theorem dX9_zeros_17 : decode cX9_zeros 17 = .ok (.ifCond .ne 6, 3) := by decide +kernel
theorem dX9_zeros_20 : decode cX9_zeros 20 = .ok (.iinc 2 1, 3) := by decide +kernel
theorem dX9_zeros_23 : decode cX9_zeros 23 = .ok (.iinc 3 1, 3) := by decide +kernel
theorem dX9_zeros_26 : decode cX9_zeros 26 = .ok (.goto (-21), 3) := by decide +kernel
theorem dX9_zeros_29 : decode cX9_zeros 29 = .ok (.iload_n 2, 1) := by decide +kernel
theorem dX9_zeros_30 : decode cX9_zeros 30 = .ok (.ireturn, 1) := by decide +kernel
def st_X9_zeros_5 (a1 : Nat) (x2 : Int32) (x3 : Int32) (s : Mem) : Option ((Int32 × Int32 × Mem) ⊕ (Int32 × Mem)) :=
  if 9 < x3 then
  some (.inr (x2, s))
  else
  (f_X9_valueAt a1 x3 s).bind fun r2 =>
  if r2.1 = 0 then
  some (.inl ((x2 + 1), (x3 + 1), r2.2))
  else
  some (.inl (x2, (x3 + 1), r2.2))
def f_X9_zeros (a1 : Nat) (s : Mem) : Option (Int32 × Mem) :=
  (it FUEL (fun y => st_X9_zeros_5 a1 y.1 y.2.1 y.2.2) (0, (-9), s)).bind fun r4 =>
  some (r4.1, r4.2)
set_option maxRecDepth 100000 in
set_option maxHeartbeats 4000000 in
theorem so_X9_zeros_5 {fr : Nat} (hfr : 1 ≤ fr) (Z : AZ) (X : AX Z cX9_zeros 4 RX9 (some .int) 0 fr) (a1 : Nat) (h1 : IO 0 a1 6) (x2 : Int32) (x3 : Int32) (s : Mem) (q : (Int32 × Int32 × Mem) ⊕ (Int32 × Mem)) (h : st_X9_zeros_5 a1 x2 x3 s = some q) (hi : ∀ y : Int32 × Int32 × Mem, q = .inl y → AW Z y.2.2 5 [some (.ref (zr Z 195)), some (.ref (zr Z a1)), some (.int y.1), some (.int y.2.1)] []) (he : ∀ b : Int32 × Mem, q = .inr b → AW Z b.2 29 [none, none, some (.int b.1), none] []) : AW Z s 5 [some (.ref (zr Z 195)), some (.ref (zr Z a1)), some (.int x2), some (.int x3)] [] := by
  unfold st_X9_zeros_5 at h
  refine aw_iload_n X dX9_zeros_5 rfl ?_
  refine aw_bipush (v := 9) X dX9_zeros_6 (by decide) ?_
  refine aw_icmp_gt (tgt := 29) X dX9_zeros_8 (by decide) (fun c1 => ?_) (fun c1 => ?_)
  · rw [if_pos c1] at h
    cases h
    refine aw_msk [false, false, true, false] ?_
    exact he _ rfl
  · rw [if_neg c1] at h
    refine aw_aload_n X dX9_zeros_11 rfl ?_
    refine aw_aload_n X dX9_zeros_12 rfl ?_
    refine aw_iload_n X dX9_zeros_13 rfl ?_
    obtain ⟨r2, er2, h⟩ := bnd h
    refine aw_callV X dX9_zeros_14 cv_RX9_76 (ok_X9_valueAt h1 er2 _ _ _ _ _) iu_RX9 rfl (Nat.le_trans (by decide) hfr) (by decide) rfl rfl (Nat.le_of_ble_eq_true rfl) ?_
    refine aw_if_ne (tgt := 23) X dX9_zeros_17 (by decide) (fun c3 => ?_) (fun c3 => ?_)
    · rw [if_neg c3] at h
      refine aw_iinc (v := (x3 + 1)) (L' := [some (.ref (zr Z 195)), some (.ref (zr Z a1)), some (.int x2), some (.int (x3 + 1))]) X dX9_zeros_23 rfl rfl (by decide) rfl ?_
      refine aw_goto (tgt := 5) X dX9_zeros_26 (by decide) ?_
      cases h
      refine aw_msk [true, true, true, true] ?_
      exact hi _ rfl
    · rw [if_pos c3] at h
      refine aw_iinc (v := (x2 + 1)) (L' := [some (.ref (zr Z 195)), some (.ref (zr Z a1)), some (.int (x2 + 1)), some (.int x3)]) X dX9_zeros_20 rfl rfl (by decide) rfl ?_
      refine aw_iinc (v := (x3 + 1)) (L' := [some (.ref (zr Z 195)), some (.ref (zr Z a1)), some (.int (x2 + 1)), some (.int (x3 + 1))]) X dX9_zeros_23 rfl rfl (by decide) rfl ?_
      refine aw_goto (tgt := 5) X dX9_zeros_26 (by decide) ?_
      cases h
      refine aw_msk [true, true, true, true] ?_
      exact hi _ rfl
set_option maxRecDepth 100000 in
set_option maxHeartbeats 4000000 in
theorem w_X9_zeros {fr : Nat} (hfr : 1 ≤ fr) (Z : AZ) (X : AX Z cX9_zeros 4 RX9 (some .int) 0 fr) (a1 : Nat) (h1 : IO 0 a1 6) (s : Mem) (r : Int32 × Mem) (hz : zres Z = (some (.int r.1), r.2)) (h : f_X9_zeros a1 s = some r) : AW Z s 0 [some (.ref (zr Z 195)), some (.ref (zr Z a1)), none, none] [] := by
  unfold f_X9_zeros at h
  refine aw_iconst (v := 0) X dX9_zeros_0 (by decide) ?_
  refine aw_istore_n (L' := [some (.ref (zr Z 195)), some (.ref (zr Z a1)), some (.int 0), none]) X dX9_zeros_1 (by decide) rfl ?_
  refine aw_bipush (v := (-9)) X dX9_zeros_2 (by decide) ?_
  refine aw_istore_n (L' := [some (.ref (zr Z 195)), some (.ref (zr Z a1)), some (.int 0), some (.int (-9))]) X dX9_zeros_4 (by decide) rfl ?_
  obtain ⟨r4, er4, h⟩ := bnd h
  refine aw_msk [true, true, true, true] ?_
  refine it_ok (P := fun y : Int32 × Int32 × Mem => AW Z y.2.2 5 [some (.ref (zr Z 195)), some (.ref (zr Z a1)), some (.int y.1), some (.int y.2.1)] []) (Q := fun b : Int32 × Mem => AW Z b.2 29 [none, none, some (.int b.1), none] []) (fun y q hq hi he => so_X9_zeros_5 hfr Z X a1 h1 y.1 y.2.1 y.2.2 q hq hi he) FUEL _ _ er4 ?_
  refine aw_iload_n X dX9_zeros_29 rfl ?_
  cases h
  exact aw_iret X dX9_zeros_30 rfl hz.symm
set_option maxRecDepth 100000 in
set_option maxHeartbeats 4000000 in
theorem ok_X9_zeros {a1 : Nat} (h1 : IO 0 a1 6) {s : Mem} {r : Int32 × Mem} (h : f_X9_zeros a1 s = some r) (l : Launch) (D : va_G) (ρ : Nat → Nat) (cA : ClassId × ClassId × ClassId) (τ : AT) : AM l D ρ cA 0 τ yX9_zeros cX9_zeros 4 (some .int) 1 [.ref (ρ 195), .ref (ρ a1)] (some (.int r.1)) s r.2 := by
  refine AM_of (L := [some (.ref (ρ 195)), some (.ref (ρ a1)), none, none]) (by decide) (by simp [Value.category]) (Nat.le_of_ble_eq_true rfl) (fun j v q => ?_) (fun Z X hρ hz => ?_)
  · exact aL_ok (n := 2) [.ref (ρ 195), .ref (ρ a1)] j v q
  · subst hρ
    exact w_X9_zeros (Nat.le_refl _) Z X a1 h1 s r hz h

theorem dX9_productTerm_0 : decode cX9_productTerm 0 = .ok (.iconst 0, 1) := by decide +kernel
theorem dX9_productTerm_1 : decode cX9_productTerm 1 = .ok (.istore 4, 2) := by decide +kernel
theorem dX9_productTerm_3 : decode cX9_productTerm 3 = .ok (.iconst 0, 1) := by decide +kernel
theorem dX9_productTerm_4 : decode cX9_productTerm 4 = .ok (.istore 5, 2) := by decide +kernel
theorem dX9_productTerm_6 : decode cX9_productTerm 6 = .ok (.iload 5, 2) := by decide +kernel
theorem dX9_productTerm_8 : decode cX9_productTerm 8 = .ok (.aload_n 1, 1) := by decide +kernel
theorem dX9_productTerm_9 : decode cX9_productTerm 9 = .ok (.getfield 25, 3) := by decide +kernel
theorem dX9_productTerm_12 : decode cX9_productTerm 12 = .ok (.if_icmp .ge 49, 3) := by decide +kernel
theorem dX9_productTerm_15 : decode cX9_productTerm 15 = .ok (.iload_n 3, 1) := by decide +kernel
theorem dX9_productTerm_16 : decode cX9_productTerm 16 = .ok (.iload 5, 2) := by decide +kernel
theorem dX9_productTerm_18 : decode cX9_productTerm 18 = .ok (.isub, 1) := by decide +kernel
theorem dX9_productTerm_19 : decode cX9_productTerm 19 = .ok (.istore 6, 2) := by decide +kernel
theorem dX9_productTerm_21 : decode cX9_productTerm 21 = .ok (.iload 6, 2) := by decide +kernel
theorem dX9_productTerm_23 : decode cX9_productTerm 23 = .ok (.ifCond .lt 32, 3) := by decide +kernel
theorem dX9_productTerm_26 : decode cX9_productTerm 26 = .ok (.iload 6, 2) := by decide +kernel
theorem dX9_productTerm_28 : decode cX9_productTerm 28 = .ok (.aload_n 2, 1) := by decide +kernel
theorem dX9_productTerm_29 : decode cX9_productTerm 29 = .ok (.getfield 25, 3) := by decide +kernel
theorem dX9_productTerm_32 : decode cX9_productTerm 32 = .ok (.if_icmp .ge 23, 3) := by decide +kernel
theorem dX9_productTerm_35 : decode cX9_productTerm 35 = .ok (.iload 4, 2) := by decide +kernel
theorem dX9_productTerm_37 : decode cX9_productTerm 37 = .ok (.aload_n 1, 1) := by decide +kernel
theorem dX9_productTerm_38 : decode cX9_productTerm 38 = .ok (.getfield 31, 3) := by decide +kernel
theorem dX9_productTerm_41 : decode cX9_productTerm 41 = .ok (.iload 5, 2) := by decide +kernel
theorem dX9_productTerm_43 : decode cX9_productTerm 43 = .ok (.iaload, 1) := by decide +kernel
theorem dX9_productTerm_44 : decode cX9_productTerm 44 = .ok (.aload_n 2, 1) := by decide +kernel
theorem dX9_productTerm_45 : decode cX9_productTerm 45 = .ok (.getfield 31, 3) := by decide +kernel
theorem dX9_productTerm_48 : decode cX9_productTerm 48 = .ok (.iload 6, 2) := by decide +kernel
theorem dX9_productTerm_50 : decode cX9_productTerm 50 = .ok (.iaload, 1) := by decide +kernel
theorem dX9_productTerm_51 : decode cX9_productTerm 51 = .ok (.imul, 1) := by decide +kernel
theorem dX9_productTerm_52 : decode cX9_productTerm 52 = .ok (.iadd, 1) := by decide +kernel
theorem dX9_productTerm_53 : decode cX9_productTerm 53 = .ok (.istore 4, 2) := by decide +kernel
theorem dX9_productTerm_55 : decode cX9_productTerm 55 = .ok (.iinc 5 1, 3) := by decide +kernel
theorem dX9_productTerm_58 : decode cX9_productTerm 58 = .ok (.goto (-52), 3) := by decide +kernel
theorem dX9_productTerm_61 : decode cX9_productTerm 61 = .ok (.iload 4, 2) := by decide +kernel
theorem dX9_productTerm_63 : decode cX9_productTerm 63 = .ok (.ireturn, 1) := by decide +kernel
def st_X9_productTerm_6 (a1 : Nat) (a2 : Nat) (x3 : Int32) (x4 : Int32) (x5 : Int32) (s : Mem) : Option ((Int32 × Int32 × Mem) ⊕ (Int32 × Mem)) :=
  if (s a1 1) ≤ x5 then
  some (.inr (x4, s))
  else
  if (x3 - x5) < 0 then
  some (.inl (x4, (x5 + 1), s))
  else
  if (s a2 1) ≤ (x3 - x5) then
  some (.inl (x4, (x5 + 1), s))
  else
  (rd (gL 0 (a1 + 1)) (s (a1 + 1)) x5).bind fun v4 =>
  (rd (gL 0 (a2 + 1)) (s (a2 + 1)) (x3 - x5)).bind fun v5 =>
  some (.inl ((x4 + (v4 * v5)), (x5 + 1), s))
def f_X9_productTerm (a1 : Nat) (a2 : Nat) (x3 : Int32) (s : Mem) : Option (Int32 × Mem) :=
  (it FUEL (fun y => st_X9_productTerm_6 a1 a2 x3 y.1 y.2.1 y.2.2) (0, 0, s)).bind fun r6 =>
  some (r6.1, r6.2)
set_option maxRecDepth 100000 in
set_option maxHeartbeats 4000000 in
theorem so_X9_productTerm_6 {fr : Nat} (hfr : 0 ≤ fr) (Z : AZ) (X : AX Z cX9_productTerm 7 RX9 (some .int) 0 fr) (a1 : Nat) (a2 : Nat) (h1 : IO 0 a1 6) (h2 : IO 0 a2 6) (x3 : Int32) (x4 : Int32) (x5 : Int32) (s : Mem) (q : (Int32 × Int32 × Mem) ⊕ (Int32 × Mem)) (h : st_X9_productTerm_6 a1 a2 x3 x4 x5 s = some q) (hi : ∀ y : Int32 × Int32 × Mem, q = .inl y → AW Z y.2.2 6 [none, some (.ref (zr Z a1)), some (.ref (zr Z a2)), some (.int x3), some (.int y.1), some (.int y.2.1), none] []) (he : ∀ b : Int32 × Mem, q = .inr b → AW Z b.2 61 [none, none, none, none, some (.int b.1), none, none] []) : AW Z s 6 [none, some (.ref (zr Z a1)), some (.ref (zr Z a2)), some (.int x3), some (.int x4), some (.int x5), none] [] := by
  unfold st_X9_productTerm_6 at h
  refine aw_iload X dX9_productTerm_6 rfl ?_
  refine aw_aload_n X dX9_productTerm_8 rfl ?_
  refine aw_geti X dX9_productTerm_9 fl_RX9_25 h1 (gt_RX7_1 h1) ?_
  refine aw_icmp_ge (tgt := 61) X dX9_productTerm_12 (by decide) (fun c1 => ?_) (fun c1 => ?_)
  · rw [if_pos c1] at h
    cases h
    refine aw_msk [false, false, false, false, true, false, false] ?_
    exact he _ rfl
  · rw [if_neg c1] at h
    refine aw_iload_n X dX9_productTerm_15 rfl ?_
    refine aw_iload X dX9_productTerm_16 rfl ?_
    refine aw_isub X dX9_productTerm_18 ?_
    refine aw_istore (L' := [none, some (.ref (zr Z a1)), some (.ref (zr Z a2)), some (.int x3), some (.int x4), some (.int x5), some (.int (x3 - x5))]) X dX9_productTerm_19 (by decide) rfl ?_
    refine aw_iload X dX9_productTerm_21 rfl ?_
    refine aw_if_lt (tgt := 55) X dX9_productTerm_23 (by decide) (fun c2 => ?_) (fun c2 => ?_)
    · rw [if_pos c2] at h
      refine aw_iinc (v := (x5 + 1)) (L' := [none, some (.ref (zr Z a1)), some (.ref (zr Z a2)), some (.int x3), some (.int x4), some (.int (x5 + 1)), some (.int (x3 - x5))]) X dX9_productTerm_55 rfl rfl (by decide) rfl ?_
      refine aw_goto (tgt := 6) X dX9_productTerm_58 (by decide) ?_
      cases h
      refine aw_msk [false, true, true, true, true, true, false] ?_
      exact hi _ rfl
    · rw [if_neg c2] at h
      refine aw_iload X dX9_productTerm_26 rfl ?_
      refine aw_aload_n X dX9_productTerm_28 rfl ?_
      refine aw_geti X dX9_productTerm_29 fl_RX9_25 h2 (gt_RX7_1 h2) ?_
      refine aw_icmp_ge (tgt := 55) X dX9_productTerm_32 (by decide) (fun c3 => ?_) (fun c3 => ?_)
      · rw [if_pos c3] at h
        refine aw_iinc (v := (x5 + 1)) (L' := [none, some (.ref (zr Z a1)), some (.ref (zr Z a2)), some (.int x3), some (.int x4), some (.int (x5 + 1)), some (.int (x3 - x5))]) X dX9_productTerm_55 rfl rfl (by decide) rfl ?_
        refine aw_goto (tgt := 6) X dX9_productTerm_58 (by decide) ?_
        cases h
        refine aw_msk [false, true, true, true, true, true, false] ?_
        exact hi _ rfl
      · rw [if_neg c3] at h
        refine aw_iload X dX9_productTerm_35 rfl ?_
        refine aw_aload_n X dX9_productTerm_37 rfl ?_
        refine aw_getr X dX9_productTerm_38 fl_RX9_31 h1 (gt_RX7_0 h1) ?_
        refine aw_iload X dX9_productTerm_41 rfl ?_
        obtain ⟨v4, ev4, h⟩ := bnd h
        refine aw_iald X dX9_productTerm_43 (it_RX7_0 h1) ev4 ?_
        refine aw_aload_n X dX9_productTerm_44 rfl ?_
        refine aw_getr X dX9_productTerm_45 fl_RX9_31 h2 (gt_RX7_0 h2) ?_
        refine aw_iload X dX9_productTerm_48 rfl ?_
        obtain ⟨v5, ev5, h⟩ := bnd h
        refine aw_iald X dX9_productTerm_50 (it_RX7_0 h2) ev5 ?_
        refine aw_imul X dX9_productTerm_51 ?_
        refine aw_iadd X dX9_productTerm_52 ?_
        refine aw_istore (L' := [none, some (.ref (zr Z a1)), some (.ref (zr Z a2)), some (.int x3), some (.int (x4 + (v4 * v5))), some (.int x5), some (.int (x3 - x5))]) X dX9_productTerm_53 (by decide) rfl ?_
        refine aw_iinc (v := (x5 + 1)) (L' := [none, some (.ref (zr Z a1)), some (.ref (zr Z a2)), some (.int x3), some (.int (x4 + (v4 * v5))), some (.int (x5 + 1)), some (.int (x3 - x5))]) X dX9_productTerm_55 rfl rfl (by decide) rfl ?_
        refine aw_goto (tgt := 6) X dX9_productTerm_58 (by decide) ?_
        cases h
        refine aw_msk [false, true, true, true, true, true, false] ?_
        exact hi _ rfl
set_option maxRecDepth 100000 in
set_option maxHeartbeats 4000000 in
theorem w_X9_productTerm {fr : Nat} (hfr : 0 ≤ fr) (Z : AZ) (X : AX Z cX9_productTerm 7 RX9 (some .int) 0 fr) (a1 : Nat) (a2 : Nat) (h1 : IO 0 a1 6) (h2 : IO 0 a2 6) (x3 : Int32) (s : Mem) (r : Int32 × Mem) (hz : zres Z = (some (.int r.1), r.2)) (h : f_X9_productTerm a1 a2 x3 s = some r) : AW Z s 0 [some (.ref (zr Z 195)), some (.ref (zr Z a1)), some (.ref (zr Z a2)), some (.int x3), none, none, none] [] := by
  unfold f_X9_productTerm at h
  refine aw_iconst (v := 0) X dX9_productTerm_0 (by decide) ?_
  refine aw_istore (L' := [some (.ref (zr Z 195)), some (.ref (zr Z a1)), some (.ref (zr Z a2)), some (.int x3), some (.int 0), none, none]) X dX9_productTerm_1 (by decide) rfl ?_
  refine aw_iconst (v := 0) X dX9_productTerm_3 (by decide) ?_
  refine aw_istore (L' := [some (.ref (zr Z 195)), some (.ref (zr Z a1)), some (.ref (zr Z a2)), some (.int x3), some (.int 0), some (.int 0), none]) X dX9_productTerm_4 (by decide) rfl ?_
  obtain ⟨r6, er6, h⟩ := bnd h
  refine aw_msk [false, true, true, true, true, true, false] ?_
  refine it_ok (P := fun y : Int32 × Int32 × Mem => AW Z y.2.2 6 [none, some (.ref (zr Z a1)), some (.ref (zr Z a2)), some (.int x3), some (.int y.1), some (.int y.2.1), none] []) (Q := fun b : Int32 × Mem => AW Z b.2 61 [none, none, none, none, some (.int b.1), none, none] []) (fun y q hq hi he => so_X9_productTerm_6 hfr Z X a1 a2 h1 h2 x3 y.1 y.2.1 y.2.2 q hq hi he) FUEL _ _ er6 ?_
  refine aw_iload X dX9_productTerm_61 rfl ?_
  cases h
  exact aw_iret X dX9_productTerm_63 rfl hz.symm
set_option maxRecDepth 100000 in
set_option maxHeartbeats 4000000 in
theorem ok_X9_productTerm {a1 : Nat} {a2 : Nat} (h1 : IO 0 a1 6) (h2 : IO 0 a2 6) {x3 : Int32} {s : Mem} {r : Int32 × Mem} (h : f_X9_productTerm a1 a2 x3 s = some r) (l : Launch) (D : va_G) (ρ : Nat → Nat) (cA : ClassId × ClassId × ClassId) (τ : AT) : AM l D ρ cA 0 τ yX9_productTerm cX9_productTerm 7 (some .int) 0 [.ref (ρ 195), .ref (ρ a1), .ref (ρ a2), .int x3] (some (.int r.1)) s r.2 := by
  refine AM_of (L := [some (.ref (ρ 195)), some (.ref (ρ a1)), some (.ref (ρ a2)), some (.int x3), none, none, none]) (by decide) (by simp [Value.category]) (Nat.le_of_ble_eq_true rfl) (fun j v q => ?_) (fun Z X hρ hz => ?_)
  · exact aL_ok (n := 3) [.ref (ρ 195), .ref (ρ a1), .ref (ρ a2), .int x3] j v q
  · subst hρ
    exact w_X9_productTerm (Nat.le_refl _) Z X a1 a2 h1 h2 x3 s r hz h

theorem dX9_areBelow_0 : decode cX9_areBelow 0 = .ok (.iconst 0, 1) := by decide +kernel
theorem dX9_areBelow_1 : decode cX9_areBelow 1 = .ok (.istore_n 2, 1) := by decide +kernel
theorem dX9_areBelow_2 : decode cX9_areBelow 2 = .ok (.iload_n 2, 1) := by decide +kernel
theorem dX9_areBelow_3 : decode cX9_areBelow 3 = .ok (.aload_n 0, 1) := by decide +kernel
theorem dX9_areBelow_4 : decode cX9_areBelow 4 = .ok (.getfield 25, 3) := by decide +kernel
theorem dX9_areBelow_7 : decode cX9_areBelow 7 = .ok (.if_icmp .ge 21, 3) := by decide +kernel
theorem dX9_areBelow_10 : decode cX9_areBelow 10 = .ok (.aload_n 0, 1) := by decide +kernel
theorem dX9_areBelow_11 : decode cX9_areBelow 11 = .ok (.getfield 31, 3) := by decide +kernel
theorem dX9_areBelow_14 : decode cX9_areBelow 14 = .ok (.iload_n 2, 1) := by decide +kernel
theorem dX9_areBelow_15 : decode cX9_areBelow 15 = .ok (.iaload, 1) := by decide +kernel
theorem dX9_areBelow_16 : decode cX9_areBelow 16 = .ok (.iload_n 1, 1) := by decide +kernel
theorem dX9_areBelow_17 : decode cX9_areBelow 17 = .ok (.if_icmp .lt 5, 3) := by decide +kernel
theorem dX9_areBelow_20 : decode cX9_areBelow 20 = .ok (.iconst 0, 1) := by decide +kernel
theorem dX9_areBelow_21 : decode cX9_areBelow 21 = .ok (.ireturn, 1) := by decide +kernel
theorem dX9_areBelow_22 : decode cX9_areBelow 22 = .ok (.iinc 2 1, 3) := by decide +kernel
theorem dX9_areBelow_25 : decode cX9_areBelow 25 = .ok (.goto (-23), 3) := by decide +kernel
theorem dX9_areBelow_28 : decode cX9_areBelow 28 = .ok (.iconst 1, 1) := by decide +kernel
theorem dX9_areBelow_29 : decode cX9_areBelow 29 = .ok (.ireturn, 1) := by decide +kernel
def st_X9_areBelow_2 (a0 : Nat) (x1 : Int32) (x2 : Int32) (s : Mem) : Option ((Int32 × Mem) ⊕ (Nat × Mem)) :=
  if (s a0 1) ≤ x2 then
  some (.inr (1, s))
  else
  (rd (gL 0 (a0 + 1)) (s (a0 + 1)) x2).bind fun v2 =>
  if v2 < x1 then
  some (.inl ((x2 + 1), s))
  else
  some (.inr (0, s))
def f_X9_areBelow (a0 : Nat) (x1 : Int32) (s : Mem) : Option (Int32 × Mem) :=
  (it FUEL (fun y => st_X9_areBelow_2 a0 x1 y.1 y.2) (0, s)).bind fun r4 =>
  if r4.1 = 0 then some (0, r4.2) else some (1, r4.2)
set_option maxRecDepth 100000 in
set_option maxHeartbeats 4000000 in
theorem so_X9_areBelow_2 {fr : Nat} (hfr : 0 ≤ fr) (Z : AZ) (X : AX Z cX9_areBelow 3 RX9 (some .boolean) 0 fr) (a0 : Nat) (h0 : IO 0 a0 6) (x1 : Int32) (x2 : Int32) (s : Mem) (q : (Int32 × Mem) ⊕ (Nat × Mem)) (h : st_X9_areBelow_2 a0 x1 x2 s = some q) (hi : ∀ y : Int32 × Mem, q = .inl y → AW Z y.2 2 [some (.ref (zr Z a0)), some (.int x1), some (.int y.1)] []) (he : ∀ b : Nat × Mem, q = .inr b → (b.1 = 0 → AW Z b.2 20 [none, none, none] []) ∧ (b.1 = 1 → AW Z b.2 28 [none, none, none] [])) : AW Z s 2 [some (.ref (zr Z a0)), some (.int x1), some (.int x2)] [] := by
  unfold st_X9_areBelow_2 at h
  refine aw_iload_n X dX9_areBelow_2 rfl ?_
  refine aw_aload_n X dX9_areBelow_3 rfl ?_
  refine aw_geti X dX9_areBelow_4 fl_RX9_25 h0 (gt_RX7_1 h0) ?_
  refine aw_icmp_ge (tgt := 28) X dX9_areBelow_7 (by decide) (fun c1 => ?_) (fun c1 => ?_)
  · rw [if_pos c1] at h
    cases h
    refine aw_msk [false, false, false] ?_
    exact (he _ rfl).2 rfl
  · rw [if_neg c1] at h
    refine aw_aload_n X dX9_areBelow_10 rfl ?_
    refine aw_getr X dX9_areBelow_11 fl_RX9_31 h0 (gt_RX7_0 h0) ?_
    refine aw_iload_n X dX9_areBelow_14 rfl ?_
    obtain ⟨v2, ev2, h⟩ := bnd h
    refine aw_iald X dX9_areBelow_15 (it_RX7_0 h0) ev2 ?_
    refine aw_iload_n X dX9_areBelow_16 rfl ?_
    refine aw_icmp_lt (tgt := 22) X dX9_areBelow_17 (by decide) (fun c3 => ?_) (fun c3 => ?_)
    · rw [if_pos c3] at h
      refine aw_iinc (v := (x2 + 1)) (L' := [some (.ref (zr Z a0)), some (.int x1), some (.int (x2 + 1))]) X dX9_areBelow_22 rfl rfl (by decide) rfl ?_
      refine aw_goto (tgt := 2) X dX9_areBelow_25 (by decide) ?_
      cases h
      refine aw_msk [true, true, true] ?_
      exact hi _ rfl
    · rw [if_neg c3] at h
      cases h
      refine aw_msk [false, false, false] ?_
      exact (he _ rfl).1 rfl
set_option maxRecDepth 100000 in
set_option maxHeartbeats 4000000 in
theorem w_X9_areBelow {fr : Nat} (hfr : 0 ≤ fr) (Z : AZ) (X : AX Z cX9_areBelow 3 RX9 (some .boolean) 0 fr) (a0 : Nat) (h0 : IO 0 a0 6) (x1 : Int32) (s : Mem) (r : Int32 × Mem) (hz : zres Z = (some (.int r.1), r.2)) (h : f_X9_areBelow a0 x1 s = some r) : AW Z s 0 [some (.ref (zr Z a0)), some (.int x1), none] [] := by
  unfold f_X9_areBelow at h
  refine aw_iconst (v := 0) X dX9_areBelow_0 (by decide) ?_
  refine aw_istore_n (L' := [some (.ref (zr Z a0)), some (.int x1), some (.int 0)]) X dX9_areBelow_1 (by decide) rfl ?_
  obtain ⟨r4, er4, h⟩ := bnd h
  refine aw_msk [true, true, true] ?_
  refine it_ok (P := fun y : Int32 × Mem => AW Z y.2 2 [some (.ref (zr Z a0)), some (.int x1), some (.int y.1)] []) (Q := fun b : Nat × Mem => (b.1 = 0 → AW Z b.2 20 [none, none, none] []) ∧ (b.1 = 1 → AW Z b.2 28 [none, none, none] [])) (fun y q hq hi he => so_X9_areBelow_2 hfr Z X a0 h0 x1 y.1 y.2 q hq hi he) FUEL _ _ er4 ?_
  refine ⟨fun c0 => ?_, fun c1 => ?_⟩
  · rw [if_pos c0] at h
    refine aw_iconst (v := 0) X dX9_areBelow_20 (by decide) ?_
    cases h
    exact aw_zret X dX9_areBelow_21 rfl rfl hz.symm
  · rw [if_neg (by rw [c1]; decide)] at h
    refine aw_iconst (v := 1) X dX9_areBelow_28 (by decide) ?_
    cases h
    exact aw_zret X dX9_areBelow_29 rfl rfl hz.symm
set_option maxRecDepth 100000 in
set_option maxHeartbeats 4000000 in
theorem ok_X9_areBelow {a0 : Nat} (h0 : IO 0 a0 6) {x1 : Int32} {s : Mem} {r : Int32 × Mem} (h : f_X9_areBelow a0 x1 s = some r) (l : Launch) (D : va_G) (ρ : Nat → Nat) (cA : ClassId × ClassId × ClassId) (τ : AT) : AM l D ρ cA 0 τ yX9_areBelow cX9_areBelow 3 (some .boolean) 0 [.ref (ρ a0), .int x1] (some (.int r.1)) s r.2 := by
  refine AM_of (L := [some (.ref (ρ a0)), some (.int x1), none]) (by decide) (by simp [Value.category]) (Nat.le_of_ble_eq_true rfl) (fun j v q => ?_) (fun Z X hρ hz => ?_)
  · exact aL_ok (n := 1) [.ref (ρ a0), .int x1] j v q
  · subst hρ
    exact w_X9_areBelow (Nat.le_refl _) Z X a0 h0 x1 s r hz h

theorem dX9_leastFree_0 : decode cX9_leastFree 0 = .ok (.iload_n 2, 1) := by decide +kernel
theorem dX9_leastFree_1 : decode cX9_leastFree 1 = .ok (.istore_n 3, 1) := by decide +kernel
theorem dX9_leastFree_2 : decode cX9_leastFree 2 = .ok (.iload_n 1, 1) := by decide +kernel
theorem dX9_leastFree_3 : decode cX9_leastFree 3 = .ok (.istore 4, 2) := by decide +kernel
theorem dX9_leastFree_5 : decode cX9_leastFree 5 = .ok (.iload 4, 2) := by decide +kernel
theorem dX9_leastFree_7 : decode cX9_leastFree 7 = .ok (.aload_n 0, 1) := by decide +kernel
theorem dX9_leastFree_8 : decode cX9_leastFree 8 = .ok (.getfield 25, 3) := by decide +kernel
theorem dX9_leastFree_11 : decode cX9_leastFree 11 = .ok (.if_icmp .ge 23, 3) := by decide +kernel
theorem dX9_leastFree_14 : decode cX9_leastFree 14 = .ok (.iload_n 3, 1) := by decide +kernel
theorem dX9_leastFree_15 : decode cX9_leastFree 15 = .ok (.iconst 1, 1) := by decide +kernel
theorem dX9_leastFree_16 : decode cX9_leastFree 16 = .ok (.aload_n 0, 1) := by decide +kernel
theorem dX9_leastFree_17 : decode cX9_leastFree 17 = .ok (.getfield 31, 3) := by decide +kernel
theorem dX9_leastFree_20 : decode cX9_leastFree 20 = .ok (.iload 4, 2) := by decide +kernel
theorem dX9_leastFree_22 : decode cX9_leastFree 22 = .ok (.iaload, 1) := by decide +kernel
theorem dX9_leastFree_23 : decode cX9_leastFree 23 = .ok (.ishl, 1) := by decide +kernel
theorem dX9_leastFree_24 : decode cX9_leastFree 24 = .ok (.iconst (-1), 1) := by decide +kernel
theorem dX9_leastFree_25 : decode cX9_leastFree 25 = .ok (.ixor, 1) := by decide +kernel
theorem dX9_leastFree_26 : decode cX9_leastFree 26 = .ok (.iand, 1) := by decide +kernel
theorem dX9_leastFree_27 : decode cX9_leastFree 27 = .ok (.istore_n 3, 1) := by decide +kernel
theorem dX9_leastFree_28 : decode cX9_leastFree 28 = .ok (.iinc 4 1, 3) := by decide +kernel
theorem dX9_leastFree_31 : decode cX9_leastFree 31 = .ok (.goto (-26), 3) := by decide +kernel
theorem dX9_leastFree_34 : decode cX9_leastFree 34 = .ok (.iconst 0, 1) := by decide +kernel
theorem dX9_leastFree_35 : decode cX9_leastFree 35 = .ok (.istore 4, 2) := by decide +kernel
theorem dX9_leastFree_37 : decode cX9_leastFree 37 = .ok (.iload 4, 2) := by decide +kernel
theorem dX9_leastFree_39 : decode cX9_leastFree 39 = .ok (.bipush 8, 2) := by decide +kernel
theorem dX9_leastFree_41 : decode cX9_leastFree 41 = .ok (.if_icmp .ge 22, 3) := by decide +kernel
theorem dX9_leastFree_44 : decode cX9_leastFree 44 = .ok (.iload_n 3, 1) := by decide +kernel
theorem dX9_leastFree_45 : decode cX9_leastFree 45 = .ok (.iload 4, 2) := by decide +kernel
theorem dX9_leastFree_47 : decode cX9_leastFree 47 = .ok (.ishr, 1) := by decide +kernel
theorem dX9_leastFree_48 : decode cX9_leastFree 48 = .ok (.iconst 1, 1) := by decide +kernel
theorem dX9_leastFree_49 : decode cX9_leastFree 49 = .ok (.iand, 1) := by decide +kernel
theorem dX9_leastFree_50 : decode cX9_leastFree 50 = .ok (.iconst 1, 1) := by decide +kernel
theorem dX9_leastFree_51 : decode cX9_leastFree 51 = .ok (.if_icmp .ne 6, 3) := by decide +kernel
theorem dX9_leastFree_54 : decode cX9_leastFree 54 = .ok (.iload 4, 2) := by decide +kernel
theorem dX9_leastFree_56 : decode cX9_leastFree 56 = .ok (.ireturn, 1) := by decide +kernel
theorem dX9_leastFree_57 : decode cX9_leastFree 57 = .ok (.iinc 4 1, 3) := by decide +kernel
theorem dX9_leastFree_60 : decode cX9_leastFree 60 = .ok (.goto (-23), 3) := by decide +kernel
theorem dX9_leastFree_63 : decode cX9_leastFree 63 = .ok (.iconst (-1), 1) := by decide +kernel
theorem dX9_leastFree_64 : decode cX9_leastFree 64 = .ok (.ireturn, 1) := by decide +kernel
def st_X9_leastFree_5 (a0 : Nat) (x3 : Int32) (x4 : Int32) (s : Mem) : Option ((Int32 × Int32 × Mem) ⊕ (Int32 × Mem)) :=
  if (s a0 1) ≤ x4 then
  some (.inr (x3, s))
  else
  (rd (gL 0 (a0 + 1)) (s (a0 + 1)) x4).bind fun v2 =>
  some (.inl ((x3 &&& ((1 <<< (v2 &&& 31)) ^^^ (-1))), (x4 + 1), s))
def st_X9_leastFree_37 (a0 : Nat) (x3 : Int32) (x4 : Int32) (s : Mem) : Option ((Int32 × Mem) ⊕ (Nat × Int32 × Mem)) :=
  if 8 ≤ x4 then
  some (.inr (1, 0, s))
  else
  if ((x3 >>> (x4 &&& 31)) &&& 1) = 1 then
  some (.inr (0, x4, s))
  else
  some (.inl ((x4 + 1), s))
def f_X9_leastFree (a0 : Nat) (x1 : Int32) (x2 : Int32) (s : Mem) : Option (Int32 × Mem) :=
  (it FUEL (fun y => st_X9_leastFree_5 a0 y.1 y.2.1 y.2.2) (x2, x1, s)).bind fun r3 =>
  (it FUEL (fun y => st_X9_leastFree_37 a0 r3.1 y.1 y.2) (0, r3.2)).bind fun r6 =>
  if r6.1 = 0 then some (r6.2.1, r6.2.2) else some ((-1), r6.2.2)
set_option maxRecDepth 100000 in
set_option maxHeartbeats 4000000 in
theorem so_X9_leastFree_5 {fr : Nat} (hfr : 0 ≤ fr) (Z : AZ) (X : AX Z cX9_leastFree 5 RX9 (some .int) 0 fr) (a0 : Nat) (h0 : IO 0 a0 6) (x3 : Int32) (x4 : Int32) (s : Mem) (q : (Int32 × Int32 × Mem) ⊕ (Int32 × Mem)) (h : st_X9_leastFree_5 a0 x3 x4 s = some q) (hi : ∀ y : Int32 × Int32 × Mem, q = .inl y → AW Z y.2.2 5 [some (.ref (zr Z a0)), none, none, some (.int y.1), some (.int y.2.1)] []) (he : ∀ b : Int32 × Mem, q = .inr b → AW Z b.2 34 [none, none, none, some (.int b.1), none] []) : AW Z s 5 [some (.ref (zr Z a0)), none, none, some (.int x3), some (.int x4)] [] := by
  unfold st_X9_leastFree_5 at h
  refine aw_iload X dX9_leastFree_5 rfl ?_
  refine aw_aload_n X dX9_leastFree_7 rfl ?_
  refine aw_geti X dX9_leastFree_8 fl_RX9_25 h0 (gt_RX7_1 h0) ?_
  refine aw_icmp_ge (tgt := 34) X dX9_leastFree_11 (by decide) (fun c1 => ?_) (fun c1 => ?_)
  · rw [if_pos c1] at h
    cases h
    refine aw_msk [false, false, false, true, false] ?_
    exact he _ rfl
  · rw [if_neg c1] at h
    refine aw_iload_n X dX9_leastFree_14 rfl ?_
    refine aw_iconst (v := 1) X dX9_leastFree_15 (by decide) ?_
    refine aw_aload_n X dX9_leastFree_16 rfl ?_
    refine aw_getr X dX9_leastFree_17 fl_RX9_31 h0 (gt_RX7_0 h0) ?_
    refine aw_iload X dX9_leastFree_20 rfl ?_
    obtain ⟨v2, ev2, h⟩ := bnd h
    refine aw_iald X dX9_leastFree_22 (it_RX7_0 h0) ev2 ?_
    refine aw_ishl X dX9_leastFree_23 ?_
    refine aw_iconst (v := (-1)) X dX9_leastFree_24 (by decide) ?_
    refine aw_ixor X dX9_leastFree_25 ?_
    refine aw_iand X dX9_leastFree_26 ?_
    refine aw_istore_n (L' := [some (.ref (zr Z a0)), none, none, some (.int (x3 &&& ((1 <<< (v2 &&& 31)) ^^^ (-1)))), some (.int x4)]) X dX9_leastFree_27 (by decide) rfl ?_
    refine aw_iinc (v := (x4 + 1)) (L' := [some (.ref (zr Z a0)), none, none, some (.int (x3 &&& ((1 <<< (v2 &&& 31)) ^^^ (-1)))), some (.int (x4 + 1))]) X dX9_leastFree_28 rfl rfl (by decide) rfl ?_
    refine aw_goto (tgt := 5) X dX9_leastFree_31 (by decide) ?_
    cases h
    refine aw_msk [true, false, false, true, true] ?_
    exact hi _ rfl
set_option maxRecDepth 100000 in
set_option maxHeartbeats 4000000 in
theorem so_X9_leastFree_37 {fr : Nat} (hfr : 0 ≤ fr) (Z : AZ) (X : AX Z cX9_leastFree 5 RX9 (some .int) 0 fr) (a0 : Nat) (h0 : IO 0 a0 6) (x3 : Int32) (x4 : Int32) (s : Mem) (q : (Int32 × Mem) ⊕ (Nat × Int32 × Mem)) (h : st_X9_leastFree_37 a0 x3 x4 s = some q) (hi : ∀ y : Int32 × Mem, q = .inl y → AW Z y.2 37 [none, none, none, some (.int x3), some (.int y.1)] []) (he : ∀ b : Nat × Int32 × Mem, q = .inr b → (b.1 = 0 → AW Z b.2.2 54 [none, none, none, none, some (.int b.2.1)] []) ∧ (b.1 = 1 → AW Z b.2.2 63 [none, none, none, none, none] [])) : AW Z s 37 [none, none, none, some (.int x3), some (.int x4)] [] := by
  unfold st_X9_leastFree_37 at h
  refine aw_iload X dX9_leastFree_37 rfl ?_
  refine aw_bipush (v := 8) X dX9_leastFree_39 (by decide) ?_
  refine aw_icmp_ge (tgt := 63) X dX9_leastFree_41 (by decide) (fun c4 => ?_) (fun c4 => ?_)
  · rw [if_pos c4] at h
    cases h
    refine aw_msk [false, false, false, false, false] ?_
    exact (he _ rfl).2 rfl
  · rw [if_neg c4] at h
    refine aw_iload_n X dX9_leastFree_44 rfl ?_
    refine aw_iload X dX9_leastFree_45 rfl ?_
    refine aw_ishr X dX9_leastFree_47 ?_
    refine aw_iconst (v := 1) X dX9_leastFree_48 (by decide) ?_
    refine aw_iand X dX9_leastFree_49 ?_
    refine aw_iconst (v := 1) X dX9_leastFree_50 (by decide) ?_
    refine aw_icmp_ne (tgt := 57) X dX9_leastFree_51 (by decide) (fun c5 => ?_) (fun c5 => ?_)
    · rw [if_neg c5] at h
      refine aw_iinc (v := (x4 + 1)) (L' := [none, none, none, some (.int x3), some (.int (x4 + 1))]) X dX9_leastFree_57 rfl rfl (by decide) rfl ?_
      refine aw_goto (tgt := 37) X dX9_leastFree_60 (by decide) ?_
      cases h
      refine aw_msk [false, false, false, true, true] ?_
      exact hi _ rfl
    · rw [if_pos c5] at h
      cases h
      refine aw_msk [false, false, false, false, true] ?_
      exact (he _ rfl).1 rfl
set_option maxRecDepth 100000 in
set_option maxHeartbeats 4000000 in
theorem w_X9_leastFree {fr : Nat} (hfr : 0 ≤ fr) (Z : AZ) (X : AX Z cX9_leastFree 5 RX9 (some .int) 0 fr) (a0 : Nat) (h0 : IO 0 a0 6) (x1 : Int32) (x2 : Int32) (s : Mem) (r : Int32 × Mem) (hz : zres Z = (some (.int r.1), r.2)) (h : f_X9_leastFree a0 x1 x2 s = some r) : AW Z s 0 [some (.ref (zr Z a0)), some (.int x1), some (.int x2), none, none] [] := by
  unfold f_X9_leastFree at h
  refine aw_iload_n X dX9_leastFree_0 rfl ?_
  refine aw_istore_n (L' := [some (.ref (zr Z a0)), some (.int x1), some (.int x2), some (.int x2), none]) X dX9_leastFree_1 (by decide) rfl ?_
  refine aw_iload_n X dX9_leastFree_2 rfl ?_
  refine aw_istore (L' := [some (.ref (zr Z a0)), some (.int x1), some (.int x2), some (.int x2), some (.int x1)]) X dX9_leastFree_3 (by decide) rfl ?_
  obtain ⟨r3, er3, h⟩ := bnd h
  refine aw_msk [true, false, false, true, true] ?_
  refine it_ok (P := fun y : Int32 × Int32 × Mem => AW Z y.2.2 5 [some (.ref (zr Z a0)), none, none, some (.int y.1), some (.int y.2.1)] []) (Q := fun b : Int32 × Mem => AW Z b.2 34 [none, none, none, some (.int b.1), none] []) (fun y q hq hi he => so_X9_leastFree_5 hfr Z X a0 h0 y.1 y.2.1 y.2.2 q hq hi he) FUEL _ _ er3 ?_
  refine aw_iconst (v := 0) X dX9_leastFree_34 (by decide) ?_
  refine aw_istore (L' := [none, none, none, some (.int r3.1), some (.int 0)]) X dX9_leastFree_35 (by decide) rfl ?_
  obtain ⟨r6, er6, h⟩ := bnd h
  refine aw_msk [false, false, false, true, true] ?_
  refine it_ok (P := fun y : Int32 × Mem => AW Z y.2 37 [none, none, none, some (.int r3.1), some (.int y.1)] []) (Q := fun b : Nat × Int32 × Mem => (b.1 = 0 → AW Z b.2.2 54 [none, none, none, none, some (.int b.2.1)] []) ∧ (b.1 = 1 → AW Z b.2.2 63 [none, none, none, none, none] [])) (fun y q hq hi he => so_X9_leastFree_37 hfr Z X a0 h0 r3.1 y.1 y.2 q hq hi he) FUEL _ _ er6 ?_
  refine ⟨fun c0 => ?_, fun c1 => ?_⟩
  · rw [if_pos c0] at h
    refine aw_iload X dX9_leastFree_54 rfl ?_
    cases h
    exact aw_iret X dX9_leastFree_56 rfl hz.symm
  · rw [if_neg (by rw [c1]; decide)] at h
    refine aw_iconst (v := (-1)) X dX9_leastFree_63 (by decide) ?_
    cases h
    exact aw_iret X dX9_leastFree_64 rfl hz.symm
set_option maxRecDepth 100000 in
set_option maxHeartbeats 4000000 in
theorem ok_X9_leastFree {a0 : Nat} (h0 : IO 0 a0 6) {x1 x2 : Int32} {s : Mem} {r : Int32 × Mem} (h : f_X9_leastFree a0 x1 x2 s = some r) (l : Launch) (D : va_G) (ρ : Nat → Nat) (cA : ClassId × ClassId × ClassId) (τ : AT) : AM l D ρ cA 0 τ yX9_leastFree cX9_leastFree 5 (some .int) 0 [.ref (ρ a0), .int x1, .int x2] (some (.int r.1)) s r.2 := by
  refine AM_of (L := [some (.ref (ρ a0)), some (.int x1), some (.int x2), none, none]) (by decide) (by simp [Value.category]) (Nat.le_of_ble_eq_true rfl) (fun j v q => ?_) (fun Z X hρ hz => ?_)
  · exact aL_ok (n := 2) [.ref (ρ a0), .int x1, .int x2] j v q
  · subst hρ
    exact w_X9_leastFree (Nat.le_refl _) Z X a0 h0 x1 x2 s r hz h

theorem dX9_growTree_0 : decode cX9_growTree 0 = .ok (.aload_n 1, 1) := by decide +kernel
theorem dX9_growTree_1 : decode cX9_growTree 1 = .ok (.getfield 25, 3) := by decide +kernel
theorem dX9_growTree_4 : decode cX9_growTree 4 = .ok (.iconst 2, 1) := by decide +kernel
theorem dX9_growTree_5 : decode cX9_growTree 5 = .ok (.iadd, 1) := by decide +kernel
theorem dX9_growTree_6 : decode cX9_growTree 6 = .ok (.istore_n 2, 1) := by decide +kernel
theorem dX9_growTree_7 : decode cX9_growTree 7 = .ok (.iload_n 2, 1) := by decide +kernel
theorem dX9_growTree_8 : decode cX9_growTree 8 = .ok (.bipush 8, 2) := by decide +kernel
theorem dX9_growTree_10 : decode cX9_growTree 10 = .ok (.if_icmp .gt 11, 3) := by decide +kernel
theorem dX9_growTree_13 : decode cX9_growTree 13 = .ok (.aload_n 1, 1) := by decide +kernel
theorem dX9_growTree_14 : decode cX9_growTree 14 = .ok (.iload_n 2, 1) := by decide +kernel
theorem dX9_growTree_15 : decode cX9_growTree 15 = .ok (.invokestatic 80, 3) := by decide +kernel
theorem dX9_growTree_18 : decode cX9_growTree 18 = .ok (.ifCond .ne 5, 3) := by decide +kernel
theorem dX9_growTree_21 : decode cX9_growTree 21 = .ok (.iconst 0, 1) := by decide +kernel
theorem dX9_growTree_22 : decode cX9_growTree 22 = .ok (.ireturn, 1) := by decide +kernel
theorem dX9_growTree_23 : decode cX9_growTree 23 = .ok (.iconst 1, 1) := by decide +kernel
theorem dX9_growTree_24 : decode cX9_growTree 24 = .ok (.iload_n 2, 1) := by decide +kernel
theorem dX9_growTree_25 : decode cX9_growTree 25 = .ok (.ishl, 1) := by decide +kernel
theorem dX9_growTree_26 : decode cX9_growTree 26 = .ok (.iconst 1, 1) := by decide +kernel
theorem dX9_growTree_27 : decode cX9_growTree 27 = .ok (.isub, 1) := by decide +kernel
theorem dX9_growTree_28 : decode cX9_growTree 28 = .ok (.istore_n 3, 1) := by decide +kernel
theorem dX9_growTree_29 : decode cX9_growTree 29 = .ok (.iconst 0, 1) := by decide +kernel
theorem dX9_growTree_30 : decode cX9_growTree 30 = .ok (.istore 4, 2) := by decide +kernel
theorem dX9_growTree_32 : decode cX9_growTree 32 = .ok (.iload 4, 2) := by decide +kernel
theorem dX9_growTree_34 : decode cX9_growTree 34 = .ok (.aload_n 1, 1) := by decide +kernel
theorem dX9_growTree_35 : decode cX9_growTree 35 = .ok (.getfield 25, 3) := by decide +kernel
theorem dX9_growTree_38 : decode cX9_growTree 38 = .ok (.if_icmp .ge 49, 3) := by decide +kernel
theorem dX9_growTree_41 : decode cX9_growTree 41 = .ok (.aload_n 1, 1) := by decide +kernel
theorem dX9_growTree_42 : decode cX9_growTree 42 = .ok (.iload 4, 2) := by decide +kernel
theorem dX9_growTree_44 : decode cX9_growTree 44 = .ok (.iload_n 3, 1) := by decide +kernel
theorem dX9_growTree_45 : decode cX9_growTree 45 = .ok (.invokestatic 84, 3) := by decide +kernel
theorem dX9_growTree_48 : decode cX9_growTree 48 = .ok (.istore 5, 2) := by decide +kernel
theorem dX9_growTree_50 : decode cX9_growTree 50 = .ok (.iload 5, 2) := by decide +kernel
theorem dX9_growTree_52 : decode cX9_growTree 52 = .ok (.iconst (-1), 1) := by decide +kernel
theorem dX9_growTree_53 : decode cX9_growTree 53 = .ok (.if_icmp .ne 5, 3) := by decide +kernel
theorem dX9_growTree_56 : decode cX9_growTree 56 = .ok (.iconst 0, 1) := by decide +kernel
theorem dX9_growTree_57 : decode cX9_growTree 57 = .ok (.ireturn, 1) := by decide +kernel
theorem dX9_growTree_58 : decode cX9_growTree 58 = .ok (.aload_n 0, 1) := by decide +kernel
theorem dX9_growTree_59 : decode cX9_growTree 59 = .ok (.getfield 22, 3) := by decide +kernel
theorem dX9_growTree_62 : decode cX9_growTree 62 = .ok (.iload 5, 2) := by decide +kernel
theorem dX9_growTree_64 : decode cX9_growTree 64 = .ok (.aload_n 1, 1) := by decide +kernel
theorem dX9_growTree_65 : decode cX9_growTree 65 = .ok (.getfield 31, 3) := by decide +kernel
theorem dX9_growTree_68 : decode cX9_growTree 68 = .ok (.iload 4, 2) := by decide +kernel
theorem dX9_growTree_70 : decode cX9_growTree 70 = .ok (.iaload, 1) := by decide +kernel
theorem dX9_growTree_71 : decode cX9_growTree 71 = .ok (.iastore, 1) := by decide +kernel
theorem dX9_growTree_72 : decode cX9_growTree 72 = .ok (.iload_n 3, 1) := by decide +kernel
theorem dX9_growTree_73 : decode cX9_growTree 73 = .ok (.iconst 1, 1) := by decide +kernel
theorem dX9_growTree_74 : decode cX9_growTree 74 = .ok (.iload 5, 2) := by decide +kernel
theorem dX9_growTree_76 : decode cX9_growTree 76 = .ok (.ishl, 1) := by decide +kernel
theorem dX9_growTree_77 : decode cX9_growTree 77 = .ok (.iconst (-1), 1) := by decide +kernel
theorem dX9_growTree_78 : decode cX9_growTree 78 = .ok (.ixor, 1) := by decide +kernel
theorem dX9_growTree_79 : decode cX9_growTree 79 = .ok (.iand, 1) := by decide +kernel
theorem dX9_growTree_80 : decode cX9_growTree 80 = .ok (.istore_n 3, 1) := by decide +kernel
theorem dX9_growTree_81 : decode cX9_growTree 81 = .ok (.iinc 4 1, 3) := by decide +kernel
theorem dX9_growTree_84 : decode cX9_growTree 84 = .ok (.goto (-52), 3) := by decide +kernel
theorem dX9_growTree_87 : decode cX9_growTree 87 = .ok (.aload_n 1, 1) := by decide +kernel
theorem dX9_growTree_88 : decode cX9_growTree 88 = .ok (.aload_n 1, 1) := by decide +kernel
theorem dX9_growTree_89 : decode cX9_growTree 89 = .ok (.getfield 25, 3) := by decide +kernel
theorem dX9_growTree_92 : decode cX9_growTree 92 = .ok (.iload_n 3, 1) := by decide +kernel
theorem dX9_growTree_93 : decode cX9_growTree 93 = .ok (.invokestatic 84, 3) := by decide +kernel
theorem dX9_growTree_96 : decode cX9_growTree 96 = .ok (.istore 4, 2) := by decide +kernel
theorem dX9_growTree_98 : decode cX9_growTree 98 = .ok (.iload 4, 2) := by decide +kernel
theorem dX9_growTree_100 : decode cX9_growTree 100 = .ok (.iconst (-1), 1) := by decide +kernel
theorem dX9_growTree_101 : decode cX9_growTree 101 = .ok (.if_icmp .ne 5, 3) := by decide +kernel
theorem dX9_growTree_104 : decode cX9_growTree 104 = .ok (.iconst 0, 1) := by decide +kernel
theorem dX9_growTree_105 : decode cX9_growTree 105 = .ok (.ireturn, 1) := by decide +kernel
theorem dX9_growTree_106 : decode cX9_growTree 106 = .ok (.aload_n 1, 1) := by decide +kernel
theorem dX9_growTree_107 : decode cX9_growTree 107 = .ok (.aload_n 1, 1) := by decide +kernel
theorem dX9_growTree_108 : decode cX9_growTree 108 = .ok (.getfield 25, 3) := by decide +kernel
theorem dX9_growTree_111 : decode cX9_growTree 111 = .ok (.iload_n 3, 1) := by decide +kernel
theorem dX9_growTree_112 : decode cX9_growTree 112 = .ok (.iconst 1, 1) := by decide +kernel
theorem dX9_growTree_113 : decode cX9_growTree 113 = .ok (.iload 4, 2) := by decide +kernel
theorem dX9_growTree_115 : decode cX9_growTree 115 = .ok (.ishl, 1) := by decide +kernel
theorem dX9_growTree_116 : decode cX9_growTree 116 = .ok (.iconst (-1), 1) := by decide +kernel
theorem dX9_growTree_117 : decode cX9_growTree 117 = .ok (.ixor, 1) := by decide +kernel
theorem dX9_growTree_118 : decode cX9_growTree 118 = .ok (.iand, 1) := by decide +kernel
theorem dX9_growTree_119 : decode cX9_growTree 119 = .ok (.invokestatic 84, 3) := by decide +kernel
theorem dX9_growTree_122 : decode cX9_growTree 122 = .ok (.istore 5, 2) := by decide +kernel
theorem dX9_growTree_124 : decode cX9_growTree 124 = .ok (.aload_n 0, 1) := by decide +kernel
theorem dX9_growTree_125 : decode cX9_growTree 125 = .ok (.getfield 22, 3) := by decide +kernel
theorem dX9_growTree_128 : decode cX9_growTree 128 = .ok (.iload 4, 2) := by decide +kernel
theorem dX9_growTree_130 : decode cX9_growTree 130 = .ok (.iload 5, 2) := by decide +kernel
theorem dX9_growTree_132 : decode cX9_growTree 132 = .ok (.iastore, 1) := by decide +kernel
theorem dX9_growTree_133 : decode cX9_growTree 133 = .ok (.iload 5, 2) := by decide +kernel
theorem dX9_growTree_135 : decode cX9_growTree 135 = .ok (.iconst (-1), 1) := by decide +kernel
theorem dX9_growTree_136 : decode cX9_growTree 136 = .ok (.if_icmp .ne 5, 3) := by decide +kernel
theorem dX9_growTree_139 : decode cX9_growTree 139 = .ok (.iconst 0, 1) := by decide +kernel
theorem dX9_growTree_140 : decode cX9_growTree 140 = .ok (.ireturn, 1) := by decide +kernel
theorem dX9_growTree_141 : decode cX9_growTree 141 = .ok (.aload_n 0, 1) := by decide +kernel
theorem dX9_growTree_142 : decode cX9_growTree 142 = .ok (.getfield 22, 3) := by decide +kernel
theorem dX9_growTree_145 : decode cX9_growTree 145 = .ok (.iload 5, 2) := by decide +kernel
theorem dX9_growTree_147 : decode cX9_growTree 147 = .ok (.iconst (-1), 1) := by decide +kernel
theorem dX9_growTree_148 : decode cX9_growTree 148 = .ok (.iastore, 1) := by decide +kernel
theorem dX9_growTree_149 : decode cX9_growTree 149 = .ok (.iconst 1, 1) := by decide +kernel
theorem dX9_growTree_150 : decode cX9_growTree 150 = .ok (.ireturn, 1) := by decide +kernel
def st_X9_growTree_32 (a1 : Nat) (x3 : Int32) (x4 : Int32) (s : Mem) : Option ((Int32 × Int32 × Mem) ⊕ (Nat × Int32 × Mem)) :=
  if (s a1 1) ≤ x4 then
  some (.inr (1, x3, s))
  else
  (f_X9_leastFree a1 x4 x3 s).bind fun r5 =>
  if r5.1 = (-1) then
  some (.inr (0, 0, r5.2))
  else
  (rd (gL 0 (a1 + 1)) (r5.2 (a1 + 1)) x4).bind fun v7 =>
  (wr 8 r5.2 199 r5.1 v7).bind fun s8 =>
  some (.inl ((x3 &&& ((1 <<< (r5.1 &&& 31)) ^^^ (-1))), (x4 + 1), s8))
def f_X9_growTree (a1 : Nat) (s : Mem) : Option (Int32 × Mem) :=
  if 8 < ((s a1 1) + 2) then
  some (0, s)
  else
  (f_X9_areBelow a1 ((s a1 1) + 2) s).bind fun r2 =>
  if r2.1 = 0 then
  some (0, r2.2)
  else
  (it FUEL (fun y => st_X9_growTree_32 a1 y.1 y.2.1 y.2.2) (((1 <<< (((s a1 1) + 2) &&& 31)) - 1), 0, r2.2)).bind fun r9 =>
  if r9.1 = 0 then some (0, r9.2.2) else (f_X9_leastFree a1 (r9.2.2 a1 1) r9.2.1 r9.2.2).bind fun r10 =>
  if r10.1 = (-1) then
  some (0, r10.2)
  else
  (f_X9_leastFree a1 (r10.2 a1 1) (r9.2.1 &&& ((1 <<< (r10.1 &&& 31)) ^^^ (-1))) r10.2).bind fun r12 =>
  (wr 8 r12.2 199 r10.1 r12.1).bind fun s13 =>
  if r12.1 = (-1) then
  some (0, s13)
  else
  (wr 8 s13 199 r12.1 (-1)).bind fun s15 =>
  some (1, s15)
set_option maxRecDepth 100000 in
set_option maxHeartbeats 4000000 in
theorem so_X9_growTree_32 {fr : Nat} (hfr : 1 ≤ fr) (Z : AZ) (X : AX Z cX9_growTree 6 RX9 (some .boolean) 0 fr) (a1 : Nat) (h1 : IO 0 a1 6) (x3 : Int32) (x4 : Int32) (s : Mem) (q : (Int32 × Int32 × Mem) ⊕ (Nat × Int32 × Mem)) (h : st_X9_growTree_32 a1 x3 x4 s = some q) (hi : ∀ y : Int32 × Int32 × Mem, q = .inl y → AW Z y.2.2 32 [some (.ref (zr Z 195)), some (.ref (zr Z a1)), none, some (.int y.1), some (.int y.2.1), none] []) (he : ∀ b : Nat × Int32 × Mem, q = .inr b → (b.1 = 0 → AW Z b.2.2 56 [none, none, none, none, none, none] []) ∧ (b.1 = 1 → AW Z b.2.2 87 [some (.ref (zr Z 195)), some (.ref (zr Z a1)), none, some (.int b.2.1), none, none] [])) : AW Z s 32 [some (.ref (zr Z 195)), some (.ref (zr Z a1)), none, some (.int x3), some (.int x4), none] [] := by
  unfold st_X9_growTree_32 at h
  refine aw_iload X dX9_growTree_32 rfl ?_
  refine aw_aload_n X dX9_growTree_34 rfl ?_
  refine aw_geti X dX9_growTree_35 fl_RX9_25 h1 (gt_RX7_1 h1) ?_
  refine aw_icmp_ge (tgt := 87) X dX9_growTree_38 (by decide) (fun c4 => ?_) (fun c4 => ?_)
  · rw [if_pos c4] at h
    cases h
    refine aw_msk [true, true, false, true, false, false] ?_
    exact (he _ rfl).2 rfl
  · rw [if_neg c4] at h
    refine aw_aload_n X dX9_growTree_41 rfl ?_
    refine aw_iload X dX9_growTree_42 rfl ?_
    refine aw_iload_n X dX9_growTree_44 rfl ?_
    obtain ⟨r5, er5, h⟩ := bnd h
    refine aw_callS X dX9_growTree_45 cv_RX9_84 (ok_X9_leastFree h1 er5 _ _ _ _ _) (Nat.le_trans (by decide) hfr) (by decide) rfl rfl (Nat.le_of_ble_eq_true rfl) ?_
    refine aw_istore (L' := [some (.ref (zr Z 195)), some (.ref (zr Z a1)), none, some (.int x3), some (.int x4), some (.int r5.1)]) X dX9_growTree_48 (by decide) rfl ?_
    refine aw_iload X dX9_growTree_50 rfl ?_
    refine aw_iconst (v := (-1)) X dX9_growTree_52 (by decide) ?_
    refine aw_icmp_ne (tgt := 58) X dX9_growTree_53 (by decide) (fun c6 => ?_) (fun c6 => ?_)
    · rw [if_neg c6] at h
      refine aw_aload_n X dX9_growTree_58 rfl ?_
      refine aw_getr X dX9_growTree_59 fl_RX9_22 iu_RX9 gu_RX9_3 ?_
      refine aw_iload X dX9_growTree_62 rfl ?_
      refine aw_aload_n X dX9_growTree_64 rfl ?_
      refine aw_getr X dX9_growTree_65 fl_RX9_31 h1 (gt_RX7_0 h1) ?_
      refine aw_iload X dX9_growTree_68 rfl ?_
      obtain ⟨v7, ev7, h⟩ := bnd h
      refine aw_iald X dX9_growTree_70 (it_RX7_0 h1) ev7 ?_
      obtain ⟨s8, es8, h⟩ := bnd h
      refine aw_iast X dX9_growTree_71 iu_RX9_3 es8 ?_
      refine aw_iload_n X dX9_growTree_72 rfl ?_
      refine aw_iconst (v := 1) X dX9_growTree_73 (by decide) ?_
      refine aw_iload X dX9_growTree_74 rfl ?_
      refine aw_ishl X dX9_growTree_76 ?_
      refine aw_iconst (v := (-1)) X dX9_growTree_77 (by decide) ?_
      refine aw_ixor X dX9_growTree_78 ?_
      refine aw_iand X dX9_growTree_79 ?_
      refine aw_istore_n (L' := [some (.ref (zr Z 195)), some (.ref (zr Z a1)), none, some (.int (x3 &&& ((1 <<< (r5.1 &&& 31)) ^^^ (-1)))), some (.int x4), some (.int r5.1)]) X dX9_growTree_80 (by decide) rfl ?_
      refine aw_iinc (v := (x4 + 1)) (L' := [some (.ref (zr Z 195)), some (.ref (zr Z a1)), none, some (.int (x3 &&& ((1 <<< (r5.1 &&& 31)) ^^^ (-1)))), some (.int (x4 + 1)), some (.int r5.1)]) X dX9_growTree_81 rfl rfl (by decide) rfl ?_
      refine aw_goto (tgt := 32) X dX9_growTree_84 (by decide) ?_
      cases h
      refine aw_msk [true, true, false, true, true, false] ?_
      exact hi _ rfl
    · rw [if_pos c6] at h
      cases h
      refine aw_msk [false, false, false, false, false, false] ?_
      exact (he _ rfl).1 rfl
set_option maxRecDepth 100000 in
set_option maxHeartbeats 4000000 in
theorem w_X9_growTree {fr : Nat} (hfr : 1 ≤ fr) (Z : AZ) (X : AX Z cX9_growTree 6 RX9 (some .boolean) 0 fr) (a1 : Nat) (h1 : IO 0 a1 6) (s : Mem) (r : Int32 × Mem) (hz : zres Z = (some (.int r.1), r.2)) (h : f_X9_growTree a1 s = some r) : AW Z s 0 [some (.ref (zr Z 195)), some (.ref (zr Z a1)), none, none, none, none] [] := by
  unfold f_X9_growTree at h
  refine aw_aload_n X dX9_growTree_0 rfl ?_
  refine aw_geti X dX9_growTree_1 fl_RX9_25 h1 (gt_RX7_1 h1) ?_
  refine aw_iconst (v := 2) X dX9_growTree_4 (by decide) ?_
  refine aw_iadd X dX9_growTree_5 ?_
  refine aw_istore_n (L' := [some (.ref (zr Z 195)), some (.ref (zr Z a1)), some (.int ((s a1 1) + 2)), none, none, none]) X dX9_growTree_6 (by decide) rfl ?_
  refine aw_iload_n X dX9_growTree_7 rfl ?_
  refine aw_bipush (v := 8) X dX9_growTree_8 (by decide) ?_
  refine aw_icmp_gt (tgt := 21) X dX9_growTree_10 (by decide) (fun c1 => ?_) (fun c1 => ?_)
  · rw [if_pos c1] at h
    refine aw_iconst (v := 0) X dX9_growTree_21 (by decide) ?_
    cases h
    exact aw_zret X dX9_growTree_22 rfl rfl hz.symm
  · rw [if_neg c1] at h
    refine aw_aload_n X dX9_growTree_13 rfl ?_
    refine aw_iload_n X dX9_growTree_14 rfl ?_
    obtain ⟨r2, er2, h⟩ := bnd h
    refine aw_callS X dX9_growTree_15 cv_RX9_80 (ok_X9_areBelow h1 er2 _ _ _ _ _) (Nat.le_trans (by decide) hfr) (by decide) rfl rfl (Nat.le_of_ble_eq_true rfl) ?_
    refine aw_if_ne (tgt := 23) X dX9_growTree_18 (by decide) (fun c3 => ?_) (fun c3 => ?_)
    · rw [if_neg c3] at h
      refine aw_iconst (v := 1) X dX9_growTree_23 (by decide) ?_
      refine aw_iload_n X dX9_growTree_24 rfl ?_
      refine aw_ishl X dX9_growTree_25 ?_
      refine aw_iconst (v := 1) X dX9_growTree_26 (by decide) ?_
      refine aw_isub X dX9_growTree_27 ?_
      refine aw_istore_n (L' := [some (.ref (zr Z 195)), some (.ref (zr Z a1)), some (.int ((s a1 1) + 2)), some (.int ((1 <<< (((s a1 1) + 2) &&& 31)) - 1)), none, none]) X dX9_growTree_28 (by decide) rfl ?_
      refine aw_iconst (v := 0) X dX9_growTree_29 (by decide) ?_
      refine aw_istore (L' := [some (.ref (zr Z 195)), some (.ref (zr Z a1)), some (.int ((s a1 1) + 2)), some (.int ((1 <<< (((s a1 1) + 2) &&& 31)) - 1)), some (.int 0), none]) X dX9_growTree_30 (by decide) rfl ?_
      obtain ⟨r9, er9, h⟩ := bnd h
      refine aw_msk [true, true, false, true, true, false] ?_
      refine it_ok (P := fun y : Int32 × Int32 × Mem => AW Z y.2.2 32 [some (.ref (zr Z 195)), some (.ref (zr Z a1)), none, some (.int y.1), some (.int y.2.1), none] []) (Q := fun b : Nat × Int32 × Mem => (b.1 = 0 → AW Z b.2.2 56 [none, none, none, none, none, none] []) ∧ (b.1 = 1 → AW Z b.2.2 87 [some (.ref (zr Z 195)), some (.ref (zr Z a1)), none, some (.int b.2.1), none, none] [])) (fun y q hq hi he => so_X9_growTree_32 hfr Z X a1 h1 y.1 y.2.1 y.2.2 q hq hi he) FUEL _ _ er9 ?_
      refine ⟨fun c0 => ?_, fun c1 => ?_⟩
      · rw [if_pos c0] at h
        refine aw_iconst (v := 0) X dX9_growTree_56 (by decide) ?_
        cases h
        exact aw_zret X dX9_growTree_57 rfl rfl hz.symm
      · rw [if_neg (by rw [c1]; decide)] at h
        refine aw_aload_n X dX9_growTree_87 rfl ?_
        refine aw_aload_n X dX9_growTree_88 rfl ?_
        refine aw_geti X dX9_growTree_89 fl_RX9_25 h1 (gt_RX7_1 h1) ?_
        refine aw_iload_n X dX9_growTree_92 rfl ?_
        obtain ⟨r10, er10, h⟩ := bnd h
        refine aw_callS X dX9_growTree_93 cv_RX9_84 (ok_X9_leastFree h1 er10 _ _ _ _ _) (Nat.le_trans (by decide) hfr) (by decide) rfl rfl (Nat.le_of_ble_eq_true rfl) ?_
        refine aw_istore (L' := [some (.ref (zr Z 195)), some (.ref (zr Z a1)), none, some (.int r9.2.1), some (.int r10.1), none]) X dX9_growTree_96 (by decide) rfl ?_
        refine aw_iload X dX9_growTree_98 rfl ?_
        refine aw_iconst (v := (-1)) X dX9_growTree_100 (by decide) ?_
        refine aw_icmp_ne (tgt := 106) X dX9_growTree_101 (by decide) (fun c11 => ?_) (fun c11 => ?_)
        · rw [if_neg c11] at h
          refine aw_aload_n X dX9_growTree_106 rfl ?_
          refine aw_aload_n X dX9_growTree_107 rfl ?_
          refine aw_geti X dX9_growTree_108 fl_RX9_25 h1 (gt_RX7_1 h1) ?_
          refine aw_iload_n X dX9_growTree_111 rfl ?_
          refine aw_iconst (v := 1) X dX9_growTree_112 (by decide) ?_
          refine aw_iload X dX9_growTree_113 rfl ?_
          refine aw_ishl X dX9_growTree_115 ?_
          refine aw_iconst (v := (-1)) X dX9_growTree_116 (by decide) ?_
          refine aw_ixor X dX9_growTree_117 ?_
          refine aw_iand X dX9_growTree_118 ?_
          obtain ⟨r12, er12, h⟩ := bnd h
          refine aw_callS X dX9_growTree_119 cv_RX9_84 (ok_X9_leastFree h1 er12 _ _ _ _ _) (Nat.le_trans (by decide) hfr) (by decide) rfl rfl (Nat.le_of_ble_eq_true rfl) ?_
          refine aw_istore (L' := [some (.ref (zr Z 195)), some (.ref (zr Z a1)), none, some (.int r9.2.1), some (.int r10.1), some (.int r12.1)]) X dX9_growTree_122 (by decide) rfl ?_
          refine aw_aload_n X dX9_growTree_124 rfl ?_
          refine aw_getr X dX9_growTree_125 fl_RX9_22 iu_RX9 gu_RX9_3 ?_
          refine aw_iload X dX9_growTree_128 rfl ?_
          refine aw_iload X dX9_growTree_130 rfl ?_
          obtain ⟨s13, es13, h⟩ := bnd h
          refine aw_iast X dX9_growTree_132 iu_RX9_3 es13 ?_
          refine aw_iload X dX9_growTree_133 rfl ?_
          refine aw_iconst (v := (-1)) X dX9_growTree_135 (by decide) ?_
          refine aw_icmp_ne (tgt := 141) X dX9_growTree_136 (by decide) (fun c14 => ?_) (fun c14 => ?_)
          · rw [if_neg c14] at h
            refine aw_aload_n X dX9_growTree_141 rfl ?_
            refine aw_getr X dX9_growTree_142 fl_RX9_22 iu_RX9 gu_RX9_3 ?_
            refine aw_iload X dX9_growTree_145 rfl ?_
            refine aw_iconst (v := (-1)) X dX9_growTree_147 (by decide) ?_
            obtain ⟨s15, es15, h⟩ := bnd h
            refine aw_iast X dX9_growTree_148 iu_RX9_3 es15 ?_
            refine aw_iconst (v := 1) X dX9_growTree_149 (by decide) ?_
            cases h
            exact aw_zret X dX9_growTree_150 rfl rfl hz.symm
          · rw [if_pos c14] at h
            refine aw_iconst (v := 0) X dX9_growTree_139 (by decide) ?_
            cases h
            exact aw_zret X dX9_growTree_140 rfl rfl hz.symm
        · rw [if_pos c11] at h
          refine aw_iconst (v := 0) X dX9_growTree_104 (by decide) ?_
          cases h
          exact aw_zret X dX9_growTree_105 rfl rfl hz.symm
    · rw [if_pos c3] at h
      refine aw_iconst (v := 0) X dX9_growTree_21 (by decide) ?_
      cases h
      exact aw_zret X dX9_growTree_22 rfl rfl hz.symm
set_option maxRecDepth 100000 in
set_option maxHeartbeats 4000000 in
theorem ok_X9_growTree {a1 : Nat} (h1 : IO 0 a1 6) {s : Mem} {r : Int32 × Mem} (h : f_X9_growTree a1 s = some r) (l : Launch) (D : va_G) (ρ : Nat → Nat) (cA : ClassId × ClassId × ClassId) (τ : AT) : AM l D ρ cA 0 τ yX9_growTree cX9_growTree 6 (some .boolean) 1 [.ref (ρ 195), .ref (ρ a1)] (some (.int r.1)) s r.2 := by
  refine AM_of (L := [some (.ref (ρ 195)), some (.ref (ρ a1)), none, none, none, none]) (by decide) (by simp [Value.category]) (Nat.le_of_ble_eq_true rfl) (fun j v q => ?_) (fun Z X hρ hz => ?_)
  · exact aL_ok (n := 4) [.ref (ρ 195), .ref (ρ a1)] j v q
  · subst hρ
    exact w_X9_growTree (Nat.le_refl _) Z X a1 h1 s r hz h

theorem dX9_joinedTo_0 : decode cX9_joinedTo 0 = .ok (.aload_n 0, 1) := by decide +kernel
theorem dX9_joinedTo_1 : decode cX9_joinedTo 1 = .ok (.getfield 22, 3) := by decide +kernel
theorem dX9_joinedTo_4 : decode cX9_joinedTo 4 = .ok (.iload_n 1, 1) := by decide +kernel
theorem dX9_joinedTo_5 : decode cX9_joinedTo 5 = .ok (.iaload, 1) := by decide +kernel
theorem dX9_joinedTo_6 : decode cX9_joinedTo 6 = .ok (.iconst (-1), 1) := by decide +kernel
theorem dX9_joinedTo_7 : decode cX9_joinedTo 7 = .ok (.if_icmp .ne 7, 3) := by decide +kernel
theorem dX9_joinedTo_10 : decode cX9_joinedTo 10 = .ok (.iconst 0, 1) := by decide +kernel
theorem dX9_joinedTo_11 : decode cX9_joinedTo 11 = .ok (.goto 4, 3) := by decide +kernel
theorem dX9_joinedTo_14 : decode cX9_joinedTo 14 = .ok (.iconst 1, 1) := by decide +kernel
theorem dX9_joinedTo_15 : decode cX9_joinedTo 15 = .ok (.istore_n 3, 1) := by decide +kernel
theorem dX9_joinedTo_16 : decode cX9_joinedTo 16 = .ok (.iconst 0, 1) := by decide +kernel
theorem dX9_joinedTo_17 : decode cX9_joinedTo 17 = .ok (.istore 4, 2) := by decide +kernel
theorem dX9_joinedTo_19 : decode cX9_joinedTo 19 = .ok (.iload 4, 2) := by decide +kernel
theorem dX9_joinedTo_21 : decode cX9_joinedTo 21 = .ok (.iload_n 2, 1) := by decide +kernel
theorem dX9_joinedTo_22 : decode cX9_joinedTo 22 = .ok (.if_icmp .ge 23, 3) := by decide +kernel
theorem dX9_joinedTo_25 : decode cX9_joinedTo 25 = .ok (.aload_n 0, 1) := by decide +kernel
theorem dX9_joinedTo_26 : decode cX9_joinedTo 26 = .ok (.getfield 22, 3) := by decide +kernel
theorem dX9_joinedTo_29 : decode cX9_joinedTo 29 = .ok (.iload 4, 2) := by decide +kernel
theorem dX9_joinedTo_31 : decode cX9_joinedTo 31 = .ok (.iaload, 1) := by decide +kernel
theorem dX9_joinedTo_32 : decode cX9_joinedTo 32 = .ok (.iload_n 1, 1) := by decide +kernel
theorem dX9_joinedTo_33 : decode cX9_joinedTo 33 = .ok (.if_icmp .ne 6, 3) := by decide +kernel
theorem dX9_joinedTo_36 : decode cX9_joinedTo 36 = .ok (.iinc 3 1, 3) := by decide +kernel
theorem dX9_joinedTo_39 : decode cX9_joinedTo 39 = .ok (.iinc 4 1, 3) := by decide +kernel
theorem dX9_joinedTo_42 : decode cX9_joinedTo 42 = .ok (.goto (-23), 3) := by decide +kernel
theorem dX9_joinedTo_45 : decode cX9_joinedTo 45 = .ok (.iload_n 3, 1) := by decide +kernel
theorem dX9_joinedTo_46 : decode cX9_joinedTo 46 = .ok (.ireturn, 1) := by decide +kernel
def st_X9_joinedTo_19 (x1 : Int32) (x2 : Int32) (x3 : Int32) (x4 : Int32) (s : Mem) : Option ((Int32 × Int32 × Mem) ⊕ (Int32 × Mem)) :=
  if x2 ≤ x4 then
  some (.inr (x3, s))
  else
  (rd 8 (s 199) x4).bind fun v4 =>
  if v4 = x1 then
  some (.inl ((x3 + 1), (x4 + 1), s))
  else
  some (.inl (x3, (x4 + 1), s))
def jn_X9_joinedTo_15 (x1 : Int32) (x2 : Int32) (t0 : Int32) (s : Mem) : Option (Int32 × Mem) :=
  (it FUEL (fun y => st_X9_joinedTo_19 x1 x2 y.1 y.2.1 y.2.2) (t0, 0, s)).bind fun r6 =>
  some (r6.1, r6.2)
def f_X9_joinedTo (x1 : Int32) (x2 : Int32) (s : Mem) : Option (Int32 × Mem) :=
  (rd 8 (s 199) x1).bind fun v1 =>
  if v1 = (-1) then
  jn_X9_joinedTo_15 x1 x2 0 s
  else
  jn_X9_joinedTo_15 x1 x2 1 s
set_option maxRecDepth 100000 in
set_option maxHeartbeats 4000000 in
theorem so_X9_joinedTo_19 {fr : Nat} (hfr : 0 ≤ fr) (Z : AZ) (X : AX Z cX9_joinedTo 5 RX9 (some .int) 0 fr) (x1 : Int32) (x2 : Int32) (x3 : Int32) (x4 : Int32) (s : Mem) (q : (Int32 × Int32 × Mem) ⊕ (Int32 × Mem)) (h : st_X9_joinedTo_19 x1 x2 x3 x4 s = some q) (hi : ∀ y : Int32 × Int32 × Mem, q = .inl y → AW Z y.2.2 19 [some (.ref (zr Z 195)), some (.int x1), some (.int x2), some (.int y.1), some (.int y.2.1)] []) (he : ∀ b : Int32 × Mem, q = .inr b → AW Z b.2 45 [none, none, none, some (.int b.1), none] []) : AW Z s 19 [some (.ref (zr Z 195)), some (.int x1), some (.int x2), some (.int x3), some (.int x4)] [] := by
  unfold st_X9_joinedTo_19 at h
  refine aw_iload X dX9_joinedTo_19 rfl ?_
  refine aw_iload_n X dX9_joinedTo_21 rfl ?_
  refine aw_icmp_ge (tgt := 45) X dX9_joinedTo_22 (by decide) (fun c3 => ?_) (fun c3 => ?_)
  · rw [if_pos c3] at h
    cases h
    refine aw_msk [false, false, false, true, false] ?_
    exact he _ rfl
  · rw [if_neg c3] at h
    refine aw_aload_n X dX9_joinedTo_25 rfl ?_
    refine aw_getr X dX9_joinedTo_26 fl_RX9_22 iu_RX9 gu_RX9_3 ?_
    refine aw_iload X dX9_joinedTo_29 rfl ?_
    obtain ⟨v4, ev4, h⟩ := bnd h
    refine aw_iald X dX9_joinedTo_31 iu_RX9_3 ev4 ?_
    refine aw_iload_n X dX9_joinedTo_32 rfl ?_
    refine aw_icmp_ne (tgt := 39) X dX9_joinedTo_33 (by decide) (fun c5 => ?_) (fun c5 => ?_)
    · rw [if_neg c5] at h
      refine aw_iinc (v := (x4 + 1)) (L' := [some (.ref (zr Z 195)), some (.int x1), some (.int x2), some (.int x3), some (.int (x4 + 1))]) X dX9_joinedTo_39 rfl rfl (by decide) rfl ?_
      refine aw_goto (tgt := 19) X dX9_joinedTo_42 (by decide) ?_
      cases h
      refine aw_msk [true, true, true, true, true] ?_
      exact hi _ rfl
    · rw [if_pos c5] at h
      refine aw_iinc (v := (x3 + 1)) (L' := [some (.ref (zr Z 195)), some (.int x1), some (.int x2), some (.int (x3 + 1)), some (.int x4)]) X dX9_joinedTo_36 rfl rfl (by decide) rfl ?_
      refine aw_iinc (v := (x4 + 1)) (L' := [some (.ref (zr Z 195)), some (.int x1), some (.int x2), some (.int (x3 + 1)), some (.int (x4 + 1))]) X dX9_joinedTo_39 rfl rfl (by decide) rfl ?_
      refine aw_goto (tgt := 19) X dX9_joinedTo_42 (by decide) ?_
      cases h
      refine aw_msk [true, true, true, true, true] ?_
      exact hi _ rfl
set_option maxRecDepth 100000 in
set_option maxHeartbeats 4000000 in
theorem jo_X9_joinedTo_15 {fr : Nat} (hfr : 0 ≤ fr) (Z : AZ) (X : AX Z cX9_joinedTo 5 RX9 (some .int) 0 fr) (x1 : Int32) (x2 : Int32) (t0 : Int32) (s : Mem) (r : Int32 × Mem) (hz : zres Z = (some (.int r.1), r.2)) (h : jn_X9_joinedTo_15 x1 x2 t0 s = some r) : AW Z s 15 [some (.ref (zr Z 195)), some (.int x1), some (.int x2), none, none] [.int t0] := by
  unfold jn_X9_joinedTo_15 at h
  refine aw_istore_n (L' := [some (.ref (zr Z 195)), some (.int x1), some (.int x2), some (.int t0), none]) X dX9_joinedTo_15 (by decide) rfl ?_
  refine aw_iconst (v := 0) X dX9_joinedTo_16 (by decide) ?_
  refine aw_istore (L' := [some (.ref (zr Z 195)), some (.int x1), some (.int x2), some (.int t0), some (.int 0)]) X dX9_joinedTo_17 (by decide) rfl ?_
  obtain ⟨r6, er6, h⟩ := bnd h
  refine aw_msk [true, true, true, true, true] ?_
  refine it_ok (P := fun y : Int32 × Int32 × Mem => AW Z y.2.2 19 [some (.ref (zr Z 195)), some (.int x1), some (.int x2), some (.int y.1), some (.int y.2.1)] []) (Q := fun b : Int32 × Mem => AW Z b.2 45 [none, none, none, some (.int b.1), none] []) (fun y q hq hi he => so_X9_joinedTo_19 hfr Z X x1 x2 y.1 y.2.1 y.2.2 q hq hi he) FUEL _ _ er6 ?_
  refine aw_iload_n X dX9_joinedTo_45 rfl ?_
  cases h
  exact aw_iret X dX9_joinedTo_46 rfl hz.symm
set_option maxRecDepth 100000 in
set_option maxHeartbeats 4000000 in
theorem w_X9_joinedTo {fr : Nat} (hfr : 0 ≤ fr) (Z : AZ) (X : AX Z cX9_joinedTo 5 RX9 (some .int) 0 fr) (x1 : Int32) (x2 : Int32) (s : Mem) (r : Int32 × Mem) (hz : zres Z = (some (.int r.1), r.2)) (h : f_X9_joinedTo x1 x2 s = some r) : AW Z s 0 [some (.ref (zr Z 195)), some (.int x1), some (.int x2), none, none] [] := by
  unfold f_X9_joinedTo at h
  refine aw_aload_n X dX9_joinedTo_0 rfl ?_
  refine aw_getr X dX9_joinedTo_1 fl_RX9_22 iu_RX9 gu_RX9_3 ?_
  refine aw_iload_n X dX9_joinedTo_4 rfl ?_
  obtain ⟨v1, ev1, h⟩ := bnd h
  refine aw_iald X dX9_joinedTo_5 iu_RX9_3 ev1 ?_
  refine aw_iconst (v := (-1)) X dX9_joinedTo_6 (by decide) ?_
  refine aw_icmp_ne (tgt := 14) X dX9_joinedTo_7 (by decide) (fun c2 => ?_) (fun c2 => ?_)
  · rw [if_neg c2] at h
    refine aw_iconst (v := 1) X dX9_joinedTo_14 (by decide) ?_
    refine aw_msk [true, true, true, false, false] ?_
    exact jo_X9_joinedTo_15 hfr Z X _ _ _ _ _ hz h
  · rw [if_pos c2] at h
    refine aw_iconst (v := 0) X dX9_joinedTo_10 (by decide) ?_
    refine aw_goto (tgt := 15) X dX9_joinedTo_11 (by decide) ?_
    refine aw_msk [true, true, true, false, false] ?_
    exact jo_X9_joinedTo_15 hfr Z X _ _ _ _ _ hz h
set_option maxRecDepth 100000 in
set_option maxHeartbeats 4000000 in
theorem ok_X9_joinedTo {x1 x2 : Int32} {s : Mem} {r : Int32 × Mem} (h : f_X9_joinedTo x1 x2 s = some r) (l : Launch) (D : va_G) (ρ : Nat → Nat) (cA : ClassId × ClassId × ClassId) (τ : AT) : AM l D ρ cA 0 τ yX9_joinedTo cX9_joinedTo 5 (some .int) 0 [.ref (ρ 195), .int x1, .int x2] (some (.int r.1)) s r.2 := by
  refine AM_of (L := [some (.ref (ρ 195)), some (.int x1), some (.int x2), none, none]) (by decide) (by simp [Value.category]) (Nat.le_of_ble_eq_true rfl) (fun j v q => ?_) (fun Z X hρ hz => ?_)
  · exact aL_ok (n := 2) [.ref (ρ 195), .int x1, .int x2] j v q
  · subst hρ
    exact w_X9_joinedTo (Nat.le_refl _) Z X x1 x2 s r hz h

theorem dX9_joiningsBetween_0 : decode cX9_joiningsBetween 0 = .ok (.iload_n 1, 1) := by decide +kernel
theorem dX9_joiningsBetween_1 : decode cX9_joiningsBetween 1 = .ok (.istore_n 3, 1) := by decide +kernel
theorem dX9_joiningsBetween_2 : decode cX9_joiningsBetween 2 = .ok (.iconst 0, 1) := by decide +kernel
theorem dX9_joiningsBetween_3 : decode cX9_joiningsBetween 3 = .ok (.istore 4, 2) := by decide +kernel
theorem dX9_joiningsBetween_5 : decode cX9_joiningsBetween 5 = .ok (.iload 4, 2) := by decide +kernel
theorem dX9_joiningsBetween_7 : decode cX9_joiningsBetween 7 = .ok (.bipush 8, 2) := by decide +kernel
theorem dX9_joiningsBetween_9 : decode cX9_joiningsBetween 9 = .ok (.if_icmp .ge 67, 3) := by decide +kernel
theorem dX9_joiningsBetween_12 : decode cX9_joiningsBetween 12 = .ok (.iload_n 3, 1) := by decide +kernel
theorem dX9_joiningsBetween_13 : decode cX9_joiningsBetween 13 = .ok (.iconst (-1), 1) := by decide +kernel
theorem dX9_joiningsBetween_14 : decode cX9_joiningsBetween 14 = .ok (.if_icmp .eq 62, 3) := by decide +kernel
theorem dX9_joiningsBetween_17 : decode cX9_joiningsBetween 17 = .ok (.iload_n 2, 1) := by decide +kernel
theorem dX9_joiningsBetween_18 : decode cX9_joiningsBetween 18 = .ok (.istore 5, 2) := by decide +kernel
theorem dX9_joiningsBetween_20 : decode cX9_joiningsBetween 20 = .ok (.iconst 0, 1) := by decide +kernel
theorem dX9_joiningsBetween_21 : decode cX9_joiningsBetween 21 = .ok (.istore 6, 2) := by decide +kernel
theorem dX9_joiningsBetween_23 : decode cX9_joiningsBetween 23 = .ok (.iload 6, 2) := by decide +kernel
theorem dX9_joiningsBetween_25 : decode cX9_joiningsBetween 25 = .ok (.bipush 8, 2) := by decide +kernel
theorem dX9_joiningsBetween_27 : decode cX9_joiningsBetween 27 = .ok (.if_icmp .ge 36, 3) := by decide +kernel
theorem dX9_joiningsBetween_30 : decode cX9_joiningsBetween 30 = .ok (.iload 5, 2) := by decide +kernel
theorem dX9_joiningsBetween_32 : decode cX9_joiningsBetween 32 = .ok (.iconst (-1), 1) := by decide +kernel
theorem dX9_joiningsBetween_33 : decode cX9_joiningsBetween 33 = .ok (.if_icmp .eq 30, 3) := by decide +kernel
theorem dX9_joiningsBetween_36 : decode cX9_joiningsBetween 36 = .ok (.iload 5, 2) := by decide +kernel
theorem dX9_joiningsBetween_38 : decode cX9_joiningsBetween 38 = .ok (.iload_n 3, 1) := by decide +kernel
theorem dX9_joiningsBetween_39 : decode cX9_joiningsBetween 39 = .ok (.if_icmp .ne 9, 3) := by decide +kernel
theorem dX9_joiningsBetween_42 : decode cX9_joiningsBetween 42 = .ok (.iload 4, 2) := by decide +kernel
theorem dX9_joiningsBetween_44 : decode cX9_joiningsBetween 44 = .ok (.iload 6, 2) := by decide +kernel
theorem dX9_joiningsBetween_46 : decode cX9_joiningsBetween 46 = .ok (.iadd, 1) := by decide +kernel
theorem dX9_joiningsBetween_47 : decode cX9_joiningsBetween 47 = .ok (.ireturn, 1) := by decide +kernel
theorem dX9_joiningsBetween_48 : decode cX9_joiningsBetween 48 = .ok (.aload_n 0, 1) := by decide +kernel
theorem dX9_joiningsBetween_49 : decode cX9_joiningsBetween 49 = .ok (.getfield 22, 3) := by decide +kernel
theorem dX9_joiningsBetween_52 : decode cX9_joiningsBetween 52 = .ok (.iload 5, 2) := by decide +kernel
theorem dX9_joiningsBetween_54 : decode cX9_joiningsBetween 54 = .ok (.iaload, 1) := by decide +kernel
theorem dX9_joiningsBetween_55 : decode cX9_joiningsBetween 55 = .ok (.istore 5, 2) := by decide +kernel
theorem dX9_joiningsBetween_57 : decode cX9_joiningsBetween 57 = .ok (.iinc 6 1, 3) := by decide +kernel
theorem dX9_joiningsBetween_60 : decode cX9_joiningsBetween 60 = .ok (.goto (-37), 3) := by decide +kernel
theorem dX9_joiningsBetween_63 : decode cX9_joiningsBetween 63 = .ok (.aload_n 0, 1) := by decide +kernel
theorem dX9_joiningsBetween_64 : decode cX9_joiningsBetween 64 = .ok (.getfield 22, 3) := by decide +kernel
theorem dX9_joiningsBetween_67 : decode cX9_joiningsBetween 67 = .ok (.iload_n 3, 1) := by decide +kernel
theorem dX9_joiningsBetween_68 : decode cX9_joiningsBetween 68 = .ok (.iaload, 1) := by decide +kernel
theorem dX9_joiningsBetween_69 : decode cX9_joiningsBetween 69 = .ok (.istore_n 3, 1) := by decide +kernel
theorem dX9_joiningsBetween_70 : decode cX9_joiningsBetween 70 = .ok (.iinc 4 1, 3) := by decide +kernel
theorem dX9_joiningsBetween_73 : decode cX9_joiningsBetween 73 = .ok (.goto (-68), 3) := by decide +kernel
theorem dX9_joiningsBetween_76 : decode cX9_joiningsBetween 76 = .ok (.iconst (-1), 1) := by decide +kernel
theorem dX9_joiningsBetween_77 : decode cX9_joiningsBetween 77 = .ok (.ireturn, 1) := by decide +kernel
def st_X9_joiningsBetween_23 (x2 : Int32) (x3 : Int32) (x4 : Int32) (x5 : Int32) (x6 : Int32) (s : Mem) : Option ((Int32 × Int32 × Mem) ⊕ (Nat × Int32 × Mem)) :=
  if 8 ≤ x6 then
  some (.inr (1, 0, s))
  else
  if x5 = (-1) then
  some (.inr (1, 0, s))
  else
  if x5 = x3 then
  some (.inr (0, x6, s))
  else
  (rd 8 (s 199) x5).bind fun v6 =>
  some (.inl (v6, (x6 + 1), s))
def jn_X9_joiningsBetween_63 (x2 : Int32) (x3 : Int32) (x4 : Int32) (s : Mem) : Option ((Int32 × Int32 × Mem) ⊕ (Nat × Int32 × Int32 × Mem)) :=
  (rd 8 (s 199) x3).bind fun v8 =>
  some (.inl (v8, (x4 + 1), s))
def st_X9_joiningsBetween_5 (x2 : Int32) (x3 : Int32) (x4 : Int32) (s : Mem) : Option ((Int32 × Int32 × Mem) ⊕ (Nat × Int32 × Int32 × Mem)) :=
  if 8 ≤ x4 then
  some (.inr (1, 0, 0, s))
  else
  if x3 = (-1) then
  some (.inr (1, 0, 0, s))
  else
  (it FUEL (fun y => st_X9_joiningsBetween_23 x2 x3 x4 y.1 y.2.1 y.2.2) (x2, 0, s)).bind fun r7 =>
  if r7.1 = 0 then some (.inr (0, x4, r7.2.1, r7.2.2)) else jn_X9_joiningsBetween_63 x2 x3 x4 r7.2.2
def f_X9_joiningsBetween (x1 : Int32) (x2 : Int32) (s : Mem) : Option (Int32 × Mem) :=
  (it FUEL (fun y => st_X9_joiningsBetween_5 x2 y.1 y.2.1 y.2.2) (x1, 0, s)).bind fun r9 =>
  if r9.1 = 0 then some ((r9.2.1 + r9.2.2.1), r9.2.2.2) else some ((-1), r9.2.2.2)
set_option maxRecDepth 100000 in
set_option maxHeartbeats 4000000 in
theorem so_X9_joiningsBetween_23 {fr : Nat} (hfr : 0 ≤ fr) (Z : AZ) (X : AX Z cX9_joiningsBetween 7 RX9 (some .int) 0 fr) (x2 : Int32) (x3 : Int32) (x4 : Int32) (x5 : Int32) (x6 : Int32) (s : Mem) (q : (Int32 × Int32 × Mem) ⊕ (Nat × Int32 × Mem)) (h : st_X9_joiningsBetween_23 x2 x3 x4 x5 x6 s = some q) (hi : ∀ y : Int32 × Int32 × Mem, q = .inl y → AW Z y.2.2 23 [some (.ref (zr Z 195)), none, some (.int x2), some (.int x3), some (.int x4), some (.int y.1), some (.int y.2.1)] []) (he : ∀ b : Nat × Int32 × Mem, q = .inr b → (b.1 = 0 → AW Z b.2.2 42 [none, none, none, none, some (.int x4), none, some (.int b.2.1)] []) ∧ (b.1 = 1 → AW Z b.2.2 63 [some (.ref (zr Z 195)), none, some (.int x2), some (.int x3), some (.int x4), none, none] [])) : AW Z s 23 [some (.ref (zr Z 195)), none, some (.int x2), some (.int x3), some (.int x4), some (.int x5), some (.int x6)] [] := by
  unfold st_X9_joiningsBetween_23 at h
  refine aw_iload X dX9_joiningsBetween_23 rfl ?_
  refine aw_bipush (v := 8) X dX9_joiningsBetween_25 (by decide) ?_
  refine aw_icmp_ge (tgt := 63) X dX9_joiningsBetween_27 (by decide) (fun c3 => ?_) (fun c3 => ?_)
  · rw [if_pos c3] at h
    cases h
    refine aw_msk [true, false, true, true, true, false, false] ?_
    exact (he _ rfl).2 rfl
  · rw [if_neg c3] at h
    refine aw_iload X dX9_joiningsBetween_30 rfl ?_
    refine aw_iconst (v := (-1)) X dX9_joiningsBetween_32 (by decide) ?_
    refine aw_icmp_eq (tgt := 63) X dX9_joiningsBetween_33 (by decide) (fun c4 => ?_) (fun c4 => ?_)
    · rw [if_pos c4] at h
      cases h
      refine aw_msk [true, false, true, true, true, false, false] ?_
      exact (he _ rfl).2 rfl
    · rw [if_neg c4] at h
      refine aw_iload X dX9_joiningsBetween_36 rfl ?_
      refine aw_iload_n X dX9_joiningsBetween_38 rfl ?_
      refine aw_icmp_ne (tgt := 48) X dX9_joiningsBetween_39 (by decide) (fun c5 => ?_) (fun c5 => ?_)
      · rw [if_neg c5] at h
        refine aw_aload_n X dX9_joiningsBetween_48 rfl ?_
        refine aw_getr X dX9_joiningsBetween_49 fl_RX9_22 iu_RX9 gu_RX9_3 ?_
        refine aw_iload X dX9_joiningsBetween_52 rfl ?_
        obtain ⟨v6, ev6, h⟩ := bnd h
        refine aw_iald X dX9_joiningsBetween_54 iu_RX9_3 ev6 ?_
        refine aw_istore (L' := [some (.ref (zr Z 195)), none, some (.int x2), some (.int x3), some (.int x4), some (.int v6), some (.int x6)]) X dX9_joiningsBetween_55 (by decide) rfl ?_
        refine aw_iinc (v := (x6 + 1)) (L' := [some (.ref (zr Z 195)), none, some (.int x2), some (.int x3), some (.int x4), some (.int v6), some (.int (x6 + 1))]) X dX9_joiningsBetween_57 rfl rfl (by decide) rfl ?_
        refine aw_goto (tgt := 23) X dX9_joiningsBetween_60 (by decide) ?_
        cases h
        refine aw_msk [true, false, true, true, true, true, true] ?_
        exact hi _ rfl
      · rw [if_pos c5] at h
        cases h
        refine aw_msk [false, false, false, false, true, false, true] ?_
        exact (he _ rfl).1 rfl
set_option maxRecDepth 100000 in
set_option maxHeartbeats 4000000 in
theorem jo_X9_joiningsBetween_63 {fr : Nat} (hfr : 0 ≤ fr) (Z : AZ) (X : AX Z cX9_joiningsBetween 7 RX9 (some .int) 0 fr) (x2 : Int32) (x3 : Int32) (x4 : Int32) (s : Mem) (q : (Int32 × Int32 × Mem) ⊕ (Nat × Int32 × Int32 × Mem)) (h : jn_X9_joiningsBetween_63 x2 x3 x4 s = some q) (hi : ∀ y : Int32 × Int32 × Mem, q = .inl y → AW Z y.2.2 5 [some (.ref (zr Z 195)), none, some (.int x2), some (.int y.1), some (.int y.2.1), none, none] []) (he : ∀ b : Nat × Int32 × Int32 × Mem, q = .inr b → (b.1 = 0 → AW Z b.2.2.2 42 [none, none, none, none, some (.int b.2.1), none, some (.int b.2.2.1)] []) ∧ (b.1 = 1 → AW Z b.2.2.2 76 [none, none, none, none, none, none, none] [])) : AW Z s 63 [some (.ref (zr Z 195)), none, some (.int x2), some (.int x3), some (.int x4), none, none] [] := by
  unfold jn_X9_joiningsBetween_63 at h
  refine aw_aload_n X dX9_joiningsBetween_63 rfl ?_
  refine aw_getr X dX9_joiningsBetween_64 fl_RX9_22 iu_RX9 gu_RX9_3 ?_
  refine aw_iload_n X dX9_joiningsBetween_67 rfl ?_
  obtain ⟨v8, ev8, h⟩ := bnd h
  refine aw_iald X dX9_joiningsBetween_68 iu_RX9_3 ev8 ?_
  refine aw_istore_n (L' := [some (.ref (zr Z 195)), none, some (.int x2), some (.int v8), some (.int x4), none, none]) X dX9_joiningsBetween_69 (by decide) rfl ?_
  refine aw_iinc (v := (x4 + 1)) (L' := [some (.ref (zr Z 195)), none, some (.int x2), some (.int v8), some (.int (x4 + 1)), none, none]) X dX9_joiningsBetween_70 rfl rfl (by decide) rfl ?_
  refine aw_goto (tgt := 5) X dX9_joiningsBetween_73 (by decide) ?_
  cases h
  refine aw_msk [true, false, true, true, true, false, false] ?_
  exact hi _ rfl
set_option maxRecDepth 100000 in
set_option maxHeartbeats 4000000 in
theorem so_X9_joiningsBetween_5 {fr : Nat} (hfr : 0 ≤ fr) (Z : AZ) (X : AX Z cX9_joiningsBetween 7 RX9 (some .int) 0 fr) (x2 : Int32) (x3 : Int32) (x4 : Int32) (s : Mem) (q : (Int32 × Int32 × Mem) ⊕ (Nat × Int32 × Int32 × Mem)) (h : st_X9_joiningsBetween_5 x2 x3 x4 s = some q) (hi : ∀ y : Int32 × Int32 × Mem, q = .inl y → AW Z y.2.2 5 [some (.ref (zr Z 195)), none, some (.int x2), some (.int y.1), some (.int y.2.1), none, none] []) (he : ∀ b : Nat × Int32 × Int32 × Mem, q = .inr b → (b.1 = 0 → AW Z b.2.2.2 42 [none, none, none, none, some (.int b.2.1), none, some (.int b.2.2.1)] []) ∧ (b.1 = 1 → AW Z b.2.2.2 76 [none, none, none, none, none, none, none] [])) : AW Z s 5 [some (.ref (zr Z 195)), none, some (.int x2), some (.int x3), some (.int x4), none, none] [] := by
  unfold st_X9_joiningsBetween_5 at h
  refine aw_iload X dX9_joiningsBetween_5 rfl ?_
  refine aw_bipush (v := 8) X dX9_joiningsBetween_7 (by decide) ?_
  refine aw_icmp_ge (tgt := 76) X dX9_joiningsBetween_9 (by decide) (fun c1 => ?_) (fun c1 => ?_)
  · rw [if_pos c1] at h
    cases h
    refine aw_msk [false, false, false, false, false, false, false] ?_
    exact (he _ rfl).2 rfl
  · rw [if_neg c1] at h
    refine aw_iload_n X dX9_joiningsBetween_12 rfl ?_
    refine aw_iconst (v := (-1)) X dX9_joiningsBetween_13 (by decide) ?_
    refine aw_icmp_eq (tgt := 76) X dX9_joiningsBetween_14 (by decide) (fun c2 => ?_) (fun c2 => ?_)
    · rw [if_pos c2] at h
      cases h
      refine aw_msk [false, false, false, false, false, false, false] ?_
      exact (he _ rfl).2 rfl
    · rw [if_neg c2] at h
      refine aw_iload_n X dX9_joiningsBetween_17 rfl ?_
      refine aw_istore (L' := [some (.ref (zr Z 195)), none, some (.int x2), some (.int x3), some (.int x4), some (.int x2), none]) X dX9_joiningsBetween_18 (by decide) rfl ?_
      refine aw_iconst (v := 0) X dX9_joiningsBetween_20 (by decide) ?_
      refine aw_istore (L' := [some (.ref (zr Z 195)), none, some (.int x2), some (.int x3), some (.int x4), some (.int x2), some (.int 0)]) X dX9_joiningsBetween_21 (by decide) rfl ?_
      obtain ⟨r7, er7, h⟩ := bnd h
      refine aw_msk [true, false, true, true, true, true, true] ?_
      refine it_ok (P := fun y : Int32 × Int32 × Mem => AW Z y.2.2 23 [some (.ref (zr Z 195)), none, some (.int x2), some (.int x3), some (.int x4), some (.int y.1), some (.int y.2.1)] []) (Q := fun b : Nat × Int32 × Mem => (b.1 = 0 → AW Z b.2.2 42 [none, none, none, none, some (.int x4), none, some (.int b.2.1)] []) ∧ (b.1 = 1 → AW Z b.2.2 63 [some (.ref (zr Z 195)), none, some (.int x2), some (.int x3), some (.int x4), none, none] [])) (fun y q hq hi he => so_X9_joiningsBetween_23 hfr Z X x2 x3 x4 y.1 y.2.1 y.2.2 q hq hi he) FUEL _ _ er7 ?_
      refine ⟨fun c0 => ?_, fun c1 => ?_⟩
      · rw [if_pos c0] at h
        cases h
        refine aw_msk [false, false, false, false, true, false, true] ?_
        exact (he _ rfl).1 rfl
      · rw [if_neg (by rw [c1]; decide)] at h
        refine aw_msk [true, false, true, true, true, false, false] ?_
        exact jo_X9_joiningsBetween_63 hfr Z X _ _ _ _ _ h hi he
set_option maxRecDepth 100000 in
set_option maxHeartbeats 4000000 in
theorem w_X9_joiningsBetween {fr : Nat} (hfr : 0 ≤ fr) (Z : AZ) (X : AX Z cX9_joiningsBetween 7 RX9 (some .int) 0 fr) (x1 : Int32) (x2 : Int32) (s : Mem) (r : Int32 × Mem) (hz : zres Z = (some (.int r.1), r.2)) (h : f_X9_joiningsBetween x1 x2 s = some r) : AW Z s 0 [some (.ref (zr Z 195)), some (.int x1), some (.int x2), none, none, none, none] [] := by
  unfold f_X9_joiningsBetween at h
  refine aw_iload_n X dX9_joiningsBetween_0 rfl ?_
  refine aw_istore_n (L' := [some (.ref (zr Z 195)), some (.int x1), some (.int x2), some (.int x1), none, none, none]) X dX9_joiningsBetween_1 (by decide) rfl ?_
  refine aw_iconst (v := 0) X dX9_joiningsBetween_2 (by decide) ?_
  refine aw_istore (L' := [some (.ref (zr Z 195)), some (.int x1), some (.int x2), some (.int x1), some (.int 0), none, none]) X dX9_joiningsBetween_3 (by decide) rfl ?_
  obtain ⟨r9, er9, h⟩ := bnd h
  refine aw_msk [true, false, true, true, true, false, false] ?_
  refine it_ok (P := fun y : Int32 × Int32 × Mem => AW Z y.2.2 5 [some (.ref (zr Z 195)), none, some (.int x2), some (.int y.1), some (.int y.2.1), none, none] []) (Q := fun b : Nat × Int32 × Int32 × Mem => (b.1 = 0 → AW Z b.2.2.2 42 [none, none, none, none, some (.int b.2.1), none, some (.int b.2.2.1)] []) ∧ (b.1 = 1 → AW Z b.2.2.2 76 [none, none, none, none, none, none, none] [])) (fun y q hq hi he => so_X9_joiningsBetween_5 hfr Z X x2 y.1 y.2.1 y.2.2 q hq hi he) FUEL _ _ er9 ?_
  refine ⟨fun c0 => ?_, fun c1 => ?_⟩
  · rw [if_pos c0] at h
    refine aw_iload X dX9_joiningsBetween_42 rfl ?_
    refine aw_iload X dX9_joiningsBetween_44 rfl ?_
    refine aw_iadd X dX9_joiningsBetween_46 ?_
    cases h
    exact aw_iret X dX9_joiningsBetween_47 rfl hz.symm
  · rw [if_neg (by rw [c1]; decide)] at h
    refine aw_iconst (v := (-1)) X dX9_joiningsBetween_76 (by decide) ?_
    cases h
    exact aw_iret X dX9_joiningsBetween_77 rfl hz.symm
set_option maxRecDepth 100000 in
set_option maxHeartbeats 4000000 in
theorem ok_X9_joiningsBetween {x1 x2 : Int32} {s : Mem} {r : Int32 × Mem} (h : f_X9_joiningsBetween x1 x2 s = some r) (l : Launch) (D : va_G) (ρ : Nat → Nat) (cA : ClassId × ClassId × ClassId) (τ : AT) : AM l D ρ cA 0 τ yX9_joiningsBetween cX9_joiningsBetween 7 (some .int) 0 [.ref (ρ 195), .int x1, .int x2] (some (.int r.1)) s r.2 := by
  refine AM_of (L := [some (.ref (ρ 195)), some (.int x1), some (.int x2), none, none, none, none]) (by decide) (by simp [Value.category]) (Nat.le_of_ble_eq_true rfl) (fun j v q => ?_) (fun Z X hρ hz => ?_)
  · exact aL_ok (n := 4) [.ref (ρ 195), .int x1, .int x2] j v q
  · subst hρ
    exact w_X9_joiningsBetween (Nat.le_refl _) Z X x1 x2 s r hz h

theorem dX9_markBad_0 : decode cX9_markBad 0 = .ok (.iconst 0, 1) := by decide +kernel
theorem dX9_markBad_1 : decode cX9_markBad 1 = .ok (.istore_n 2, 1) := by decide +kernel
theorem dX9_markBad_2 : decode cX9_markBad 2 = .ok (.iload_n 2, 1) := by decide +kernel
theorem dX9_markBad_3 : decode cX9_markBad 3 = .ok (.bipush 40, 2) := by decide +kernel
theorem dX9_markBad_5 : decode cX9_markBad 5 = .ok (.if_icmp .gt 16, 3) := by decide +kernel
theorem dX9_markBad_8 : decode cX9_markBad 8 = .ok (.aload_n 0, 1) := by decide +kernel
theorem dX9_markBad_9 : decode cX9_markBad 9 = .ok (.getfield 18, 3) := by decide +kernel
theorem dX9_markBad_12 : decode cX9_markBad 12 = .ok (.iload_n 2, 1) := by decide +kernel
theorem dX9_markBad_13 : decode cX9_markBad 13 = .ok (.iconst 0, 1) := by decide +kernel
theorem dX9_markBad_14 : decode cX9_markBad 14 = .ok (.bastore, 1) := by decide +kernel
theorem dX9_markBad_15 : decode cX9_markBad 15 = .ok (.iinc 2 1, 3) := by decide +kernel
theorem dX9_markBad_18 : decode cX9_markBad 18 = .ok (.goto (-16), 3) := by decide +kernel
theorem dX9_markBad_21 : decode cX9_markBad 21 = .ok (.iconst 0, 1) := by decide +kernel
theorem dX9_markBad_22 : decode cX9_markBad 22 = .ok (.istore_n 2, 1) := by decide +kernel
theorem dX9_markBad_23 : decode cX9_markBad 23 = .ok (.iload_n 2, 1) := by decide +kernel
theorem dX9_markBad_24 : decode cX9_markBad 24 = .ok (.aload_n 1, 1) := by decide +kernel
theorem dX9_markBad_25 : decode cX9_markBad 25 = .ok (.getfield 25, 3) := by decide +kernel
theorem dX9_markBad_28 : decode cX9_markBad 28 = .ok (.if_icmp .ge 21, 3) := by decide +kernel
theorem dX9_markBad_31 : decode cX9_markBad 31 = .ok (.aload_n 0, 1) := by decide +kernel
theorem dX9_markBad_32 : decode cX9_markBad 32 = .ok (.getfield 18, 3) := by decide +kernel
theorem dX9_markBad_35 : decode cX9_markBad 35 = .ok (.aload_n 1, 1) := by decide +kernel
theorem dX9_markBad_36 : decode cX9_markBad 36 = .ok (.getfield 31, 3) := by decide +kernel
theorem dX9_markBad_39 : decode cX9_markBad 39 = .ok (.iload_n 2, 1) := by decide +kernel
theorem dX9_markBad_40 : decode cX9_markBad 40 = .ok (.iaload, 1) := by decide +kernel
theorem dX9_markBad_41 : decode cX9_markBad 41 = .ok (.iconst 1, 1) := by decide +kernel
theorem dX9_markBad_42 : decode cX9_markBad 42 = .ok (.bastore, 1) := by decide +kernel
theorem dX9_markBad_43 : decode cX9_markBad 43 = .ok (.iinc 2 1, 3) := by decide +kernel
theorem dX9_markBad_46 : decode cX9_markBad 46 = .ok (.goto (-23), 3) := by decide +kernel
theorem dX9_markBad_49 : decode cX9_markBad 49 = .ok (.return_, 1) := by decide +kernel
def st_X9_markBad_2 (a1 : Nat) (x2 : Int32) (s : Mem) : Option ((Int32 × Mem) ⊕ (Mem)) :=
  if 40 < x2 then
  some (.inr (s))
  else
  (wr 41 s 198 x2 0).bind fun s2 =>
  some (.inl ((x2 + 1), s2))
def st_X9_markBad_23 (a1 : Nat) (x2 : Int32) (s : Mem) : Option ((Int32 × Mem) ⊕ (Mem)) :=
  if (s a1 1) ≤ x2 then
  some (.inr (s))
  else
  (rd (gL 0 (a1 + 1)) (s (a1 + 1)) x2).bind fun v5 =>
  (wr 41 s 198 v5 1).bind fun s6 =>
  some (.inl ((x2 + 1), s6))
def f_X9_markBad (a1 : Nat) (s : Mem) : Option (Mem) :=
  (it FUEL (fun y => st_X9_markBad_2 a1 y.1 y.2) (0, s)).bind fun r3 =>
  (it FUEL (fun y => st_X9_markBad_23 a1 y.1 y.2) (0, r3)).bind fun r7 =>
  some r7
set_option maxRecDepth 100000 in
set_option maxHeartbeats 4000000 in
theorem so_X9_markBad_2 {fr : Nat} (hfr : 0 ≤ fr) (Z : AZ) (X : AX Z cX9_markBad 3 RX9 none 0 fr) (a1 : Nat) (h1 : IO 0 a1 6) (x2 : Int32) (s : Mem) (q : (Int32 × Mem) ⊕ (Mem)) (h : st_X9_markBad_2 a1 x2 s = some q) (hi : ∀ y : Int32 × Mem, q = .inl y → AW Z y.2 2 [some (.ref (zr Z 195)), some (.ref (zr Z a1)), some (.int y.1)] []) (he : ∀ b : Mem, q = .inr b → AW Z b 21 [some (.ref (zr Z 195)), some (.ref (zr Z a1)), none] []) : AW Z s 2 [some (.ref (zr Z 195)), some (.ref (zr Z a1)), some (.int x2)] [] := by
  unfold st_X9_markBad_2 at h
  refine aw_iload_n X dX9_markBad_2 rfl ?_
  refine aw_bipush (v := 40) X dX9_markBad_3 (by decide) ?_
  refine aw_icmp_gt (tgt := 21) X dX9_markBad_5 (by decide) (fun c1 => ?_) (fun c1 => ?_)
  · rw [if_pos c1] at h
    cases h
    refine aw_msk [true, true, false] ?_
    exact he _ rfl
  · rw [if_neg c1] at h
    refine aw_aload_n X dX9_markBad_8 rfl ?_
    refine aw_getr X dX9_markBad_9 fl_RX9_18 iu_RX9 gu_RX9_2 ?_
    refine aw_iload_n X dX9_markBad_12 rfl ?_
    refine aw_iconst (v := 0) X dX9_markBad_13 (by decide) ?_
    obtain ⟨s2, es2, h⟩ := bnd h
    refine aw_zast X dX9_markBad_14 iu_RX9_2 rfl es2 ?_
    refine aw_iinc (v := (x2 + 1)) (L' := [some (.ref (zr Z 195)), some (.ref (zr Z a1)), some (.int (x2 + 1))]) X dX9_markBad_15 rfl rfl (by decide) rfl ?_
    refine aw_goto (tgt := 2) X dX9_markBad_18 (by decide) ?_
    cases h
    refine aw_msk [true, true, true] ?_
    exact hi _ rfl
set_option maxRecDepth 100000 in
set_option maxHeartbeats 4000000 in
theorem so_X9_markBad_23 {fr : Nat} (hfr : 0 ≤ fr) (Z : AZ) (X : AX Z cX9_markBad 3 RX9 none 0 fr) (a1 : Nat) (h1 : IO 0 a1 6) (x2 : Int32) (s : Mem) (q : (Int32 × Mem) ⊕ (Mem)) (h : st_X9_markBad_23 a1 x2 s = some q) (hi : ∀ y : Int32 × Mem, q = .inl y → AW Z y.2 23 [some (.ref (zr Z 195)), some (.ref (zr Z a1)), some (.int y.1)] []) (he : ∀ b : Mem, q = .inr b → AW Z b 49 [none, none, none] []) : AW Z s 23 [some (.ref (zr Z 195)), some (.ref (zr Z a1)), some (.int x2)] [] := by
  unfold st_X9_markBad_23 at h
  refine aw_iload_n X dX9_markBad_23 rfl ?_
  refine aw_aload_n X dX9_markBad_24 rfl ?_
  refine aw_geti X dX9_markBad_25 fl_RX9_25 h1 (gt_RX7_1 h1) ?_
  refine aw_icmp_ge (tgt := 49) X dX9_markBad_28 (by decide) (fun c4 => ?_) (fun c4 => ?_)
  · rw [if_pos c4] at h
    cases h
    refine aw_msk [false, false, false] ?_
    exact he _ rfl
  · rw [if_neg c4] at h
    refine aw_aload_n X dX9_markBad_31 rfl ?_
    refine aw_getr X dX9_markBad_32 fl_RX9_18 iu_RX9 gu_RX9_2 ?_
    refine aw_aload_n X dX9_markBad_35 rfl ?_
    refine aw_getr X dX9_markBad_36 fl_RX9_31 h1 (gt_RX7_0 h1) ?_
    refine aw_iload_n X dX9_markBad_39 rfl ?_
    obtain ⟨v5, ev5, h⟩ := bnd h
    refine aw_iald X dX9_markBad_40 (it_RX7_0 h1) ev5 ?_
    refine aw_iconst (v := 1) X dX9_markBad_41 (by decide) ?_
    obtain ⟨s6, es6, h⟩ := bnd h
    refine aw_zast X dX9_markBad_42 iu_RX9_2 rfl es6 ?_
    refine aw_iinc (v := (x2 + 1)) (L' := [some (.ref (zr Z 195)), some (.ref (zr Z a1)), some (.int (x2 + 1))]) X dX9_markBad_43 rfl rfl (by decide) rfl ?_
    refine aw_goto (tgt := 23) X dX9_markBad_46 (by decide) ?_
    cases h
    refine aw_msk [true, true, true] ?_
    exact hi _ rfl
set_option maxRecDepth 100000 in
set_option maxHeartbeats 4000000 in
theorem w_X9_markBad {fr : Nat} (hfr : 0 ≤ fr) (Z : AZ) (X : AX Z cX9_markBad 3 RX9 none 0 fr) (a1 : Nat) (h1 : IO 0 a1 6) (s : Mem) (r : Mem) (hz : zres Z = (none, r)) (h : f_X9_markBad a1 s = some r) : AW Z s 0 [some (.ref (zr Z 195)), some (.ref (zr Z a1)), none] [] := by
  unfold f_X9_markBad at h
  refine aw_iconst (v := 0) X dX9_markBad_0 (by decide) ?_
  refine aw_istore_n (L' := [some (.ref (zr Z 195)), some (.ref (zr Z a1)), some (.int 0)]) X dX9_markBad_1 (by decide) rfl ?_
  obtain ⟨r3, er3, h⟩ := bnd h
  refine aw_msk [true, true, true] ?_
  refine it_ok (P := fun y : Int32 × Mem => AW Z y.2 2 [some (.ref (zr Z 195)), some (.ref (zr Z a1)), some (.int y.1)] []) (Q := fun b : Mem => AW Z b 21 [some (.ref (zr Z 195)), some (.ref (zr Z a1)), none] []) (fun y q hq hi he => so_X9_markBad_2 hfr Z X a1 h1 y.1 y.2 q hq hi he) FUEL _ _ er3 ?_
  refine aw_iconst (v := 0) X dX9_markBad_21 (by decide) ?_
  refine aw_istore_n (L' := [some (.ref (zr Z 195)), some (.ref (zr Z a1)), some (.int 0)]) X dX9_markBad_22 (by decide) rfl ?_
  obtain ⟨r7, er7, h⟩ := bnd h
  refine aw_msk [true, true, true] ?_
  refine it_ok (P := fun y : Int32 × Mem => AW Z y.2 23 [some (.ref (zr Z 195)), some (.ref (zr Z a1)), some (.int y.1)] []) (Q := fun b : Mem => AW Z b 49 [none, none, none] []) (fun y q hq hi he => so_X9_markBad_23 hfr Z X a1 h1 y.1 y.2 q hq hi he) FUEL _ _ er7 ?_
  cases h
  exact aw_vret X dX9_markBad_49 rfl hz.symm
set_option maxRecDepth 100000 in
set_option maxHeartbeats 4000000 in
theorem ok_X9_markBad {a1 : Nat} (h1 : IO 0 a1 6) {s : Mem} {r : Mem} (h : f_X9_markBad a1 s = some r) (l : Launch) (D : va_G) (ρ : Nat → Nat) (cA : ClassId × ClassId × ClassId) (τ : AT) : AM l D ρ cA 0 τ yX9_markBad cX9_markBad 3 none 0 [.ref (ρ 195), .ref (ρ a1)] none s r := by
  refine AM_of (L := [some (.ref (ρ 195)), some (.ref (ρ a1)), none]) (by decide) (by simp [Value.category]) (Nat.le_of_ble_eq_true rfl) (fun j v q => ?_) (fun Z X hρ hz => ?_)
  · exact aL_ok (n := 1) [.ref (ρ 195), .ref (ρ a1)] j v q
  · subst hρ
    exact w_X9_markBad (Nat.le_refl _) Z X a1 h1 s r hz h

theorem dX9_waysUp_0 : decode cX9_waysUp 0 = .ok (.aload_n 0, 1) := by decide +kernel
theorem dX9_waysUp_1 : decode cX9_waysUp 1 = .ok (.aload_n 1, 1) := by decide +kernel
theorem dX9_waysUp_2 : decode cX9_waysUp 2 = .ok (.invokevirtual 88, 3) := by decide +kernel
theorem dX9_waysUp_5 : decode cX9_waysUp 5 = .ok (.aload_n 0, 1) := by decide +kernel
theorem dX9_waysUp_6 : decode cX9_waysUp 6 = .ok (.getfield 15, 3) := by decide +kernel
theorem dX9_waysUp_9 : decode cX9_waysUp 9 = .ok (.iconst 0, 1) := by decide +kernel
theorem dX9_waysUp_10 : decode cX9_waysUp 10 = .ok (.iconst 1, 1) := by decide +kernel
theorem dX9_waysUp_11 : decode cX9_waysUp 11 = .ok (.iastore, 1) := by decide +kernel
theorem dX9_waysUp_12 : decode cX9_waysUp 12 = .ok (.iconst 1, 1) := by decide +kernel
theorem dX9_waysUp_13 : decode cX9_waysUp 13 = .ok (.istore 4, 2) := by decide +kernel
theorem dX9_waysUp_15 : decode cX9_waysUp 15 = .ok (.iload 4, 2) := by decide +kernel
theorem dX9_waysUp_17 : decode cX9_waysUp 17 = .ok (.iload_n 2, 1) := by decide +kernel
theorem dX9_waysUp_18 : decode cX9_waysUp 18 = .ok (.if_icmp .gt 73, 3) := by decide +kernel
theorem dX9_waysUp_21 : decode cX9_waysUp 21 = .ok (.iconst 0, 1) := by decide +kernel
theorem dX9_waysUp_22 : decode cX9_waysUp 22 = .ok (.istore 5, 2) := by decide +kernel
theorem dX9_waysUp_24 : decode cX9_waysUp 24 = .ok (.iconst 0, 1) := by decide +kernel
theorem dX9_waysUp_25 : decode cX9_waysUp 25 = .ok (.iload 4, 2) := by decide +kernel
theorem dX9_waysUp_27 : decode cX9_waysUp 27 = .ok (.iload_n 3, 1) := by decide +kernel
theorem dX9_waysUp_28 : decode cX9_waysUp 28 = .ok (.isub, 1) := by decide +kernel
theorem dX9_waysUp_29 : decode cX9_waysUp 29 = .ok (.invokestatic 40, 3) := by decide +kernel
theorem dX9_waysUp_32 : decode cX9_waysUp 32 = .ok (.istore 6, 2) := by decide +kernel
theorem dX9_waysUp_34 : decode cX9_waysUp 34 = .ok (.iload 6, 2) := by decide +kernel
theorem dX9_waysUp_36 : decode cX9_waysUp 36 = .ok (.iload 4, 2) := by decide +kernel
theorem dX9_waysUp_38 : decode cX9_waysUp 38 = .ok (.if_icmp .ge 38, 3) := by decide +kernel
theorem dX9_waysUp_41 : decode cX9_waysUp 41 = .ok (.aload_n 0, 1) := by decide +kernel
theorem dX9_waysUp_42 : decode cX9_waysUp 42 = .ok (.getfield 18, 3) := by decide +kernel
theorem dX9_waysUp_45 : decode cX9_waysUp 45 = .ok (.iload 4, 2) := by decide +kernel
theorem dX9_waysUp_47 : decode cX9_waysUp 47 = .ok (.baload, 1) := by decide +kernel
theorem dX9_waysUp_48 : decode cX9_waysUp 48 = .ok (.ifCond .ne 28, 3) := by decide +kernel
theorem dX9_waysUp_51 : decode cX9_waysUp 51 = .ok (.iload 5, 2) := by decide +kernel
theorem dX9_waysUp_53 : decode cX9_waysUp 53 = .ok (.i2l, 1) := by decide +kernel
theorem dX9_waysUp_54 : decode cX9_waysUp 54 = .ok (.aload_n 0, 1) := by decide +kernel
theorem dX9_waysUp_55 : decode cX9_waysUp 55 = .ok (.getfield 15, 3) := by decide +kernel
theorem dX9_waysUp_58 : decode cX9_waysUp 58 = .ok (.iload 6, 2) := by decide +kernel
theorem dX9_waysUp_60 : decode cX9_waysUp 60 = .ok (.iaload, 1) := by decide +kernel
theorem dX9_waysUp_61 : decode cX9_waysUp 61 = .ok (.i2l, 1) := by decide +kernel
theorem dX9_waysUp_62 : decode cX9_waysUp 62 = .ok (.ladd, 1) := by decide +kernel
theorem dX9_waysUp_63 : decode cX9_waysUp 63 = .ok (.ldc2_w 92, 3) := by decide +kernel
theorem dX9_waysUp_66 : decode cX9_waysUp 66 = .ok (.lrem, 1) := by decide +kernel
theorem dX9_waysUp_67 : decode cX9_waysUp 67 = .ok (.l2i, 1) := by decide +kernel
theorem dX9_waysUp_68 : decode cX9_waysUp 68 = .ok (.istore 5, 2) := by decide +kernel
theorem dX9_waysUp_70 : decode cX9_waysUp 70 = .ok (.iinc 6 1, 3) := by decide +kernel
theorem dX9_waysUp_73 : decode cX9_waysUp 73 = .ok (.goto (-39), 3) := by decide +kernel
theorem dX9_waysUp_76 : decode cX9_waysUp 76 = .ok (.aload_n 0, 1) := by decide +kernel
theorem dX9_waysUp_77 : decode cX9_waysUp 77 = .ok (.getfield 15, 3) := by decide +kernel
theorem dX9_waysUp_80 : decode cX9_waysUp 80 = .ok (.iload 4, 2) := by decide +kernel
theorem dX9_waysUp_82 : decode cX9_waysUp 82 = .ok (.iload 5, 2) := by decide +kernel
theorem dX9_waysUp_84 : decode cX9_waysUp 84 = .ok (.iastore, 1) := by decide +kernel
theorem dX9_waysUp_85 : decode cX9_waysUp 85 = .ok (.iinc 4 1, 3) := by decide +kernel
theorem dX9_waysUp_88 : decode cX9_waysUp 88 = .ok (.goto (-73), 3) := by decide +kernel
theorem dX9_waysUp_91 : decode cX9_waysUp 91 = .ok (.aload_n 0, 1) := by decide +kernel
theorem dX9_waysUp_92 : decode cX9_waysUp 92 = .ok (.getfield 15, 3) := by decide +kernel
theorem dX9_waysUp_95 : decode cX9_waysUp 95 = .ok (.iload_n 2, 1) := by decide +kernel
theorem dX9_waysUp_96 : decode cX9_waysUp 96 = .ok (.iaload, 1) := by decide +kernel
theorem dX9_waysUp_97 : decode cX9_waysUp 97 = .ok (.ireturn, 1) := by decide +kernel
def st_X9_waysUp_34 (a1 : Nat) (x2 : Int32) (x3 : Int32) (x4 : Int32) (x5 : Int32) (x6 : Int32) (s : Mem) : Option ((Int32 × Int32 × Mem) ⊕ (Int32 × Mem)) :=
  if x4 ≤ x6 then
  some (.inr (x5, s))
  else
  (rd 41 (s 198) x4).bind fun v5 =>
  if v5 = 0 then
  (rd 41 (s 197) x6).bind fun v7 =>
  some (.inl (((((x5).toInt64 + (v7).toInt64) - ((x5).toInt64 + (v7).toInt64) / (1000000007 : Int64) * (1000000007 : Int64))).toInt32, (x6 + 1), s))
  else
  some (.inr (x5, s))
def jn_X9_waysUp_76 (a1 : Nat) (x2 : Int32) (x3 : Int32) (x4 : Int32) (x5 : Int32) (s : Mem) : Option ((Int32 × Mem) ⊕ (Mem)) :=
  (wr 41 s 197 x4 x5).bind fun s9 =>
  some (.inl ((x4 + 1), s9))
def st_X9_waysUp_15 (a1 : Nat) (x2 : Int32) (x3 : Int32) (x4 : Int32) (s : Mem) : Option ((Int32 × Mem) ⊕ (Mem)) :=
  if x2 < x4 then
  some (.inr (s))
  else
  (it FUEL (fun y => st_X9_waysUp_34 a1 x2 x3 x4 y.1 y.2.1 y.2.2) (0, (jmmax 0 (x4 - x3)), s)).bind fun r8 =>
  jn_X9_waysUp_76 a1 x2 x3 x4 r8.1 r8.2
def f_X9_waysUp (a1 : Nat) (x2 : Int32) (x3 : Int32) (s : Mem) : Option (Int32 × Mem) :=
  (f_X9_markBad a1 s).bind fun r1 =>
  (wr 41 r1 197 0 1).bind fun s2 =>
  (it FUEL (fun y => st_X9_waysUp_15 a1 x2 x3 y.1 y.2) (1, s2)).bind fun r10 =>
  (rd 41 (r10 197) x2).bind fun v11 =>
  some (v11, r10)
set_option maxRecDepth 100000 in
set_option maxHeartbeats 4000000 in
theorem so_X9_waysUp_34 {fr : Nat} (hfr : 1 ≤ fr) (Z : AZ) (X : AX Z cX9_waysUp 7 RX9 (some .int) 0 fr) (a1 : Nat) (h1 : IO 0 a1 6) (x2 : Int32) (x3 : Int32) (x4 : Int32) (x5 : Int32) (x6 : Int32) (s : Mem) (q : (Int32 × Int32 × Mem) ⊕ (Int32 × Mem)) (h : st_X9_waysUp_34 a1 x2 x3 x4 x5 x6 s = some q) (hi : ∀ y : Int32 × Int32 × Mem, q = .inl y → AW Z y.2.2 34 [some (.ref (zr Z 195)), none, some (.int x2), some (.int x3), some (.int x4), some (.int y.1), some (.int y.2.1)] []) (he : ∀ b : Int32 × Mem, q = .inr b → AW Z b.2 76 [some (.ref (zr Z 195)), none, some (.int x2), some (.int x3), some (.int x4), some (.int b.1), none] []) : AW Z s 34 [some (.ref (zr Z 195)), none, some (.int x2), some (.int x3), some (.int x4), some (.int x5), some (.int x6)] [] := by
  unfold st_X9_waysUp_34 at h
  refine aw_iload X dX9_waysUp_34 rfl ?_
  refine aw_iload X dX9_waysUp_36 rfl ?_
  refine aw_icmp_ge (tgt := 76) X dX9_waysUp_38 (by decide) (fun c4 => ?_) (fun c4 => ?_)
  · rw [if_pos c4] at h
    cases h
    refine aw_msk [true, false, true, true, true, true, false] ?_
    exact he _ rfl
  · rw [if_neg c4] at h
    refine aw_aload_n X dX9_waysUp_41 rfl ?_
    refine aw_getr X dX9_waysUp_42 fl_RX9_18 iu_RX9 gu_RX9_2 ?_
    refine aw_iload X dX9_waysUp_45 rfl ?_
    obtain ⟨v5, ev5, h⟩ := bnd h
    refine aw_zald X dX9_waysUp_47 iu_RX9_2 ev5 ?_
    refine aw_if_ne (tgt := 76) X dX9_waysUp_48 (by decide) (fun c6 => ?_) (fun c6 => ?_)
    · rw [if_neg c6] at h
      cases h
      refine aw_msk [true, false, true, true, true, true, false] ?_
      exact he _ rfl
    · rw [if_pos c6] at h
      refine aw_iload X dX9_waysUp_51 rfl ?_
      refine aw_i2l X dX9_waysUp_53 ?_
      refine aw_aload_n X dX9_waysUp_54 rfl ?_
      refine aw_getr X dX9_waysUp_55 fl_RX9_15 iu_RX9 gu_RX9_1 ?_
      refine aw_iload X dX9_waysUp_58 rfl ?_
      obtain ⟨v7, ev7, h⟩ := bnd h
      refine aw_iald X dX9_waysUp_60 iu_RX9_1 ev7 ?_
      refine aw_i2l X dX9_waysUp_61 ?_
      refine aw_ladd X dX9_waysUp_62 ?_
      refine aw_ldc2 X dX9_waysUp_63 kc_RX9_92 ?_
      refine aw_lrem X dX9_waysUp_66 (by decide) ?_
      refine aw_l2i X dX9_waysUp_67 ?_
      refine aw_istore (L' := [some (.ref (zr Z 195)), none, some (.int x2), some (.int x3), some (.int x4), some (.int (((((x5).toInt64 + (v7).toInt64) - ((x5).toInt64 + (v7).toInt64) / (1000000007 : Int64) * (1000000007 : Int64))).toInt32)), some (.int x6)]) X dX9_waysUp_68 (by decide) rfl ?_
      refine aw_iinc (v := (x6 + 1)) (L' := [some (.ref (zr Z 195)), none, some (.int x2), some (.int x3), some (.int x4), some (.int (((((x5).toInt64 + (v7).toInt64) - ((x5).toInt64 + (v7).toInt64) / (1000000007 : Int64) * (1000000007 : Int64))).toInt32)), some (.int (x6 + 1))]) X dX9_waysUp_70 rfl rfl (by decide) rfl ?_
      refine aw_goto (tgt := 34) X dX9_waysUp_73 (by decide) ?_
      cases h
      refine aw_msk [true, false, true, true, true, true, true] ?_
      exact hi _ rfl
set_option maxRecDepth 100000 in
set_option maxHeartbeats 4000000 in
theorem jo_X9_waysUp_76 {fr : Nat} (hfr : 1 ≤ fr) (Z : AZ) (X : AX Z cX9_waysUp 7 RX9 (some .int) 0 fr) (a1 : Nat) (h1 : IO 0 a1 6) (x2 : Int32) (x3 : Int32) (x4 : Int32) (x5 : Int32) (s : Mem) (q : (Int32 × Mem) ⊕ (Mem)) (h : jn_X9_waysUp_76 a1 x2 x3 x4 x5 s = some q) (hi : ∀ y : Int32 × Mem, q = .inl y → AW Z y.2 15 [some (.ref (zr Z 195)), none, some (.int x2), some (.int x3), some (.int y.1), none, none] []) (he : ∀ b : Mem, q = .inr b → AW Z b 91 [some (.ref (zr Z 195)), none, some (.int x2), none, none, none, none] []) : AW Z s 76 [some (.ref (zr Z 195)), none, some (.int x2), some (.int x3), some (.int x4), some (.int x5), none] [] := by
  unfold jn_X9_waysUp_76 at h
  refine aw_aload_n X dX9_waysUp_76 rfl ?_
  refine aw_getr X dX9_waysUp_77 fl_RX9_15 iu_RX9 gu_RX9_1 ?_
  refine aw_iload X dX9_waysUp_80 rfl ?_
  refine aw_iload X dX9_waysUp_82 rfl ?_
  obtain ⟨s9, es9, h⟩ := bnd h
  refine aw_iast X dX9_waysUp_84 iu_RX9_1 es9 ?_
  refine aw_iinc (v := (x4 + 1)) (L' := [some (.ref (zr Z 195)), none, some (.int x2), some (.int x3), some (.int (x4 + 1)), some (.int x5), none]) X dX9_waysUp_85 rfl rfl (by decide) rfl ?_
  refine aw_goto (tgt := 15) X dX9_waysUp_88 (by decide) ?_
  cases h
  refine aw_msk [true, false, true, true, true, false, false] ?_
  exact hi _ rfl
set_option maxRecDepth 100000 in
set_option maxHeartbeats 4000000 in
theorem so_X9_waysUp_15 {fr : Nat} (hfr : 1 ≤ fr) (Z : AZ) (X : AX Z cX9_waysUp 7 RX9 (some .int) 0 fr) (a1 : Nat) (h1 : IO 0 a1 6) (x2 : Int32) (x3 : Int32) (x4 : Int32) (s : Mem) (q : (Int32 × Mem) ⊕ (Mem)) (h : st_X9_waysUp_15 a1 x2 x3 x4 s = some q) (hi : ∀ y : Int32 × Mem, q = .inl y → AW Z y.2 15 [some (.ref (zr Z 195)), none, some (.int x2), some (.int x3), some (.int y.1), none, none] []) (he : ∀ b : Mem, q = .inr b → AW Z b 91 [some (.ref (zr Z 195)), none, some (.int x2), none, none, none, none] []) : AW Z s 15 [some (.ref (zr Z 195)), none, some (.int x2), some (.int x3), some (.int x4), none, none] [] := by
  unfold st_X9_waysUp_15 at h
  refine aw_iload X dX9_waysUp_15 rfl ?_
  refine aw_iload_n X dX9_waysUp_17 rfl ?_
  refine aw_icmp_gt (tgt := 91) X dX9_waysUp_18 (by decide) (fun c3 => ?_) (fun c3 => ?_)
  · rw [if_pos c3] at h
    cases h
    refine aw_msk [true, false, true, false, false, false, false] ?_
    exact he _ rfl
  · rw [if_neg c3] at h
    refine aw_iconst (v := 0) X dX9_waysUp_21 (by decide) ?_
    refine aw_istore (L' := [some (.ref (zr Z 195)), none, some (.int x2), some (.int x3), some (.int x4), some (.int 0), none]) X dX9_waysUp_22 (by decide) rfl ?_
    refine aw_iconst (v := 0) X dX9_waysUp_24 (by decide) ?_
    refine aw_iload X dX9_waysUp_25 rfl ?_
    refine aw_iload_n X dX9_waysUp_27 rfl ?_
    refine aw_isub X dX9_waysUp_28 ?_
    refine aw_mmax X (Nat.le_trans (by decide) hfr) dX9_waysUp_29 mc_RX9_40 rfl ?_
    refine aw_istore (L' := [some (.ref (zr Z 195)), none, some (.int x2), some (.int x3), some (.int x4), some (.int 0), some (.int (jmmax 0 (x4 - x3)))]) X dX9_waysUp_32 (by decide) rfl ?_
    obtain ⟨r8, er8, h⟩ := bnd h
    refine aw_msk [true, false, true, true, true, true, true] ?_
    refine it_ok (P := fun y : Int32 × Int32 × Mem => AW Z y.2.2 34 [some (.ref (zr Z 195)), none, some (.int x2), some (.int x3), some (.int x4), some (.int y.1), some (.int y.2.1)] []) (Q := fun b : Int32 × Mem => AW Z b.2 76 [some (.ref (zr Z 195)), none, some (.int x2), some (.int x3), some (.int x4), some (.int b.1), none] []) (fun y q hq hi he => so_X9_waysUp_34 hfr Z X a1 h1 x2 x3 x4 y.1 y.2.1 y.2.2 q hq hi he) FUEL _ _ er8 ?_
    refine aw_msk [true, false, true, true, true, true, false] ?_
    exact jo_X9_waysUp_76 hfr Z X a1 h1 _ _ _ _ _ _ h hi he
set_option maxRecDepth 100000 in
set_option maxHeartbeats 4000000 in
theorem w_X9_waysUp {fr : Nat} (hfr : 1 ≤ fr) (Z : AZ) (X : AX Z cX9_waysUp 7 RX9 (some .int) 0 fr) (a1 : Nat) (h1 : IO 0 a1 6) (x2 : Int32) (x3 : Int32) (s : Mem) (r : Int32 × Mem) (hz : zres Z = (some (.int r.1), r.2)) (h : f_X9_waysUp a1 x2 x3 s = some r) : AW Z s 0 [some (.ref (zr Z 195)), some (.ref (zr Z a1)), some (.int x2), some (.int x3), none, none, none] [] := by
  unfold f_X9_waysUp at h
  refine aw_aload_n X dX9_waysUp_0 rfl ?_
  refine aw_aload_n X dX9_waysUp_1 rfl ?_
  obtain ⟨r1, er1, h⟩ := bnd h
  refine aw_callV X dX9_waysUp_2 cv_RX9_88 (ok_X9_markBad h1 er1 _ _ _ _ _) iu_RX9 rfl (Nat.le_trans (by decide) hfr) (by decide) rfl rfl (Nat.le_of_ble_eq_true rfl) ?_
  refine aw_aload_n X dX9_waysUp_5 rfl ?_
  refine aw_getr X dX9_waysUp_6 fl_RX9_15 iu_RX9 gu_RX9_1 ?_
  refine aw_iconst (v := 0) X dX9_waysUp_9 (by decide) ?_
  refine aw_iconst (v := 1) X dX9_waysUp_10 (by decide) ?_
  obtain ⟨s2, es2, h⟩ := bnd h
  refine aw_iast X dX9_waysUp_11 iu_RX9_1 es2 ?_
  refine aw_iconst (v := 1) X dX9_waysUp_12 (by decide) ?_
  refine aw_istore (L' := [some (.ref (zr Z 195)), some (.ref (zr Z a1)), some (.int x2), some (.int x3), some (.int 1), none, none]) X dX9_waysUp_13 (by decide) rfl ?_
  obtain ⟨r10, er10, h⟩ := bnd h
  refine aw_msk [true, false, true, true, true, false, false] ?_
  refine it_ok (P := fun y : Int32 × Mem => AW Z y.2 15 [some (.ref (zr Z 195)), none, some (.int x2), some (.int x3), some (.int y.1), none, none] []) (Q := fun b : Mem => AW Z b 91 [some (.ref (zr Z 195)), none, some (.int x2), none, none, none, none] []) (fun y q hq hi he => so_X9_waysUp_15 hfr Z X a1 h1 x2 x3 y.1 y.2 q hq hi he) FUEL _ _ er10 ?_
  refine aw_aload_n X dX9_waysUp_91 rfl ?_
  refine aw_getr X dX9_waysUp_92 fl_RX9_15 iu_RX9 gu_RX9_1 ?_
  refine aw_iload_n X dX9_waysUp_95 rfl ?_
  obtain ⟨v11, ev11, h⟩ := bnd h
  refine aw_iald X dX9_waysUp_96 iu_RX9_1 ev11 ?_
  cases h
  exact aw_iret X dX9_waysUp_97 rfl hz.symm
set_option maxRecDepth 100000 in
set_option maxHeartbeats 4000000 in
theorem ok_X9_waysUp {a1 : Nat} (h1 : IO 0 a1 6) {x2 x3 : Int32} {s : Mem} {r : Int32 × Mem} (h : f_X9_waysUp a1 x2 x3 s = some r) (l : Launch) (D : va_G) (ρ : Nat → Nat) (cA : ClassId × ClassId × ClassId) (τ : AT) : AM l D ρ cA 0 τ yX9_waysUp cX9_waysUp 7 (some .int) 1 [.ref (ρ 195), .ref (ρ a1), .int x2, .int x3] (some (.int r.1)) s r.2 := by
  refine AM_of (L := [some (.ref (ρ 195)), some (.ref (ρ a1)), some (.int x2), some (.int x3), none, none, none]) (by decide) (by simp [Value.category]) (Nat.le_of_ble_eq_true rfl) (fun j v q => ?_) (fun Z X hρ hz => ?_)
  · exact aL_ok (n := 3) [.ref (ρ 195), .ref (ρ a1), .int x2, .int x3] j v q
  · subst hρ
    exact w_X9_waysUp (Nat.le_refl _) Z X a1 h1 x2 x3 s r hz h

theorem dX9_fewestGoings_0 : decode cX9_fewestGoings 0 = .ok (.aload_n 0, 1) := by decide +kernel
theorem dX9_fewestGoings_1 : decode cX9_fewestGoings 1 = .ok (.aload_n 1, 1) := by decide +kernel
theorem dX9_fewestGoings_2 : decode cX9_fewestGoings 2 = .ok (.invokevirtual 88, 3) := by decide +kernel
theorem dX9_fewestGoings_5 : decode cX9_fewestGoings 5 = .ok (.aload_n 0, 1) := by decide +kernel
theorem dX9_fewestGoings_6 : decode cX9_fewestGoings 6 = .ok (.getfield 15, 3) := by decide +kernel
theorem dX9_fewestGoings_9 : decode cX9_fewestGoings 9 = .ok (.iconst 0, 1) := by decide +kernel
theorem dX9_fewestGoings_10 : decode cX9_fewestGoings 10 = .ok (.iconst 0, 1) := by decide +kernel
theorem dX9_fewestGoings_11 : decode cX9_fewestGoings 11 = .ok (.iastore, 1) := by decide +kernel
theorem dX9_fewestGoings_12 : decode cX9_fewestGoings 12 = .ok (.iconst 1, 1) := by decide +kernel
theorem dX9_fewestGoings_13 : decode cX9_fewestGoings 13 = .ok (.istore 4, 2) := by decide +kernel
theorem dX9_fewestGoings_15 : decode cX9_fewestGoings 15 = .ok (.iload 4, 2) := by decide +kernel
theorem dX9_fewestGoings_17 : decode cX9_fewestGoings 17 = .ok (.iload_n 2, 1) := by decide +kernel
theorem dX9_fewestGoings_18 : decode cX9_fewestGoings 18 = .ok (.if_icmp .gt 103, 3) := by decide +kernel
theorem dX9_fewestGoings_21 : decode cX9_fewestGoings 21 = .ok (.iconst (-1), 1) := by decide +kernel
theorem dX9_fewestGoings_22 : decode cX9_fewestGoings 22 = .ok (.istore 5, 2) := by decide +kernel
theorem dX9_fewestGoings_24 : decode cX9_fewestGoings 24 = .ok (.iconst 0, 1) := by decide +kernel
theorem dX9_fewestGoings_25 : decode cX9_fewestGoings 25 = .ok (.iload 4, 2) := by decide +kernel
theorem dX9_fewestGoings_27 : decode cX9_fewestGoings 27 = .ok (.iload_n 3, 1) := by decide +kernel
theorem dX9_fewestGoings_28 : decode cX9_fewestGoings 28 = .ok (.isub, 1) := by decide +kernel
theorem dX9_fewestGoings_29 : decode cX9_fewestGoings 29 = .ok (.invokestatic 40, 3) := by decide +kernel
theorem dX9_fewestGoings_32 : decode cX9_fewestGoings 32 = .ok (.istore 6, 2) := by decide +kernel
theorem dX9_fewestGoings_34 : decode cX9_fewestGoings 34 = .ok (.iload 6, 2) := by decide +kernel
theorem dX9_fewestGoings_36 : decode cX9_fewestGoings 36 = .ok (.iload 4, 2) := by decide +kernel
theorem dX9_fewestGoings_38 : decode cX9_fewestGoings 38 = .ok (.if_icmp .ge 68, 3) := by decide +kernel
theorem dX9_fewestGoings_41 : decode cX9_fewestGoings 41 = .ok (.aload_n 0, 1) := by decide +kernel
theorem dX9_fewestGoings_42 : decode cX9_fewestGoings 42 = .ok (.getfield 18, 3) := by decide +kernel
theorem dX9_fewestGoings_45 : decode cX9_fewestGoings 45 = .ok (.iload 4, 2) := by decide +kernel
theorem dX9_fewestGoings_47 : decode cX9_fewestGoings 47 = .ok (.baload, 1) := by decide +kernel
theorem dX9_fewestGoings_48 : decode cX9_fewestGoings 48 = .ok (.ifCond .ne 58, 3) := by decide +kernel
theorem dX9_fewestGoings_51 : decode cX9_fewestGoings 51 = .ok (.aload_n 0, 1) := by decide +kernel
theorem dX9_fewestGoings_52 : decode cX9_fewestGoings 52 = .ok (.getfield 15, 3) := by decide +kernel
theorem dX9_fewestGoings_55 : decode cX9_fewestGoings 55 = .ok (.iload 6, 2) := by decide +kernel
theorem dX9_fewestGoings_57 : decode cX9_fewestGoings 57 = .ok (.iaload, 1) := by decide +kernel
theorem dX9_fewestGoings_58 : decode cX9_fewestGoings 58 = .ok (.iconst (-1), 1) := by decide +kernel
theorem dX9_fewestGoings_59 : decode cX9_fewestGoings 59 = .ok (.if_icmp .ne 7, 3) := by decide +kernel
theorem dX9_fewestGoings_62 : decode cX9_fewestGoings 62 = .ok (.iconst (-1), 1) := by decide +kernel
theorem dX9_fewestGoings_63 : decode cX9_fewestGoings 63 = .ok (.goto 12, 3) := by decide +kernel
theorem dX9_fewestGoings_66 : decode cX9_fewestGoings 66 = .ok (.aload_n 0, 1) := by decide +kernel
theorem dX9_fewestGoings_67 : decode cX9_fewestGoings 67 = .ok (.getfield 15, 3) := by decide +kernel
theorem dX9_fewestGoings_70 : decode cX9_fewestGoings 70 = .ok (.iload 6, 2) := by decide +kernel
theorem dX9_fewestGoings_72 : decode cX9_fewestGoings 72 = .ok (.iaload, 1) := by decide +kernel
theorem dX9_fewestGoings_73 : decode cX9_fewestGoings 73 = .ok (.iconst 1, 1) := by decide +kernel
theorem dX9_fewestGoings_74 : decode cX9_fewestGoings 74 = .ok (.iadd, 1) := by decide +kernel
theorem dX9_fewestGoings_75 : decode cX9_fewestGoings 75 = .ok (.istore 7, 2) := by decide +kernel
theorem dX9_fewestGoings_77 : decode cX9_fewestGoings 77 = .ok (.iload 7, 2) := by decide +kernel
theorem dX9_fewestGoings_79 : decode cX9_fewestGoings 79 = .ok (.iconst (-1), 1) := by decide +kernel
theorem dX9_fewestGoings_80 : decode cX9_fewestGoings 80 = .ok (.if_icmp .eq 20, 3) := by decide +kernel
theorem dX9_fewestGoings_83 : decode cX9_fewestGoings 83 = .ok (.iload 5, 2) := by decide +kernel
theorem dX9_fewestGoings_85 : decode cX9_fewestGoings 85 = .ok (.iconst (-1), 1) := by decide +kernel
theorem dX9_fewestGoings_86 : decode cX9_fewestGoings 86 = .ok (.if_icmp .eq 10, 3) := by decide +kernel
theorem dX9_fewestGoings_89 : decode cX9_fewestGoings 89 = .ok (.iload 7, 2) := by decide +kernel
theorem dX9_fewestGoings_91 : decode cX9_fewestGoings 91 = .ok (.iload 5, 2) := by decide +kernel
theorem dX9_fewestGoings_93 : decode cX9_fewestGoings 93 = .ok (.if_icmp .ge 7, 3) := by decide +kernel
theorem dX9_fewestGoings_96 : decode cX9_fewestGoings 96 = .ok (.iload 7, 2) := by decide +kernel
theorem dX9_fewestGoings_98 : decode cX9_fewestGoings 98 = .ok (.istore 5, 2) := by decide +kernel
theorem dX9_fewestGoings_100 : decode cX9_fewestGoings 100 = .ok (.iinc 6 1, 3) := by decide +kernel
theorem dX9_fewestGoings_103 : decode cX9_fewestGoings 103 = .ok (.goto (-69), 3) := by decide +kernel
theorem dX9_fewestGoings_106 : decode cX9_fewestGoings 106 = .ok (.aload_n 0, 1) := by decide +kernel
theorem dX9_fewestGoings_107 : decode cX9_fewestGoings 107 = .ok (.getfield 15, 3) := by decide +kernel
theorem dX9_fewestGoings_110 : decode cX9_fewestGoings 110 = .ok (.iload 4, 2) := by decide +kernel
theorem dX9_fewestGoings_112 : decode cX9_fewestGoings 112 = .ok (.iload 5, 2) := by decide +kernel
theorem dX9_fewestGoings_114 : decode cX9_fewestGoings 114 = .ok (.iastore, 1) := by decide +kernel
theorem dX9_fewestGoings_115 : decode cX9_fewestGoings 115 = .ok (.iinc 4 1, 3) := by decide +kernel
theorem dX9_fewestGoings_118 : decode cX9_fewestGoings 118 = .ok (.goto (-103), 3) := by decide +kernel
theorem dX9_fewestGoings_121 : decode cX9_fewestGoings 121 = .ok (.aload_n 0, 1) := by decide +kernel
theorem dX9_fewestGoings_122 : decode cX9_fewestGoings 122 = .ok (.getfield 15, 3) := by decide +kernel
theorem dX9_fewestGoings_125 : decode cX9_fewestGoings 125 = .ok (.iload_n 2, 1) := by decide +kernel
theorem dX9_fewestGoings_126 : decode cX9_fewestGoings 126 = .ok (.iaload, 1) := by decide +kernel
theorem dX9_fewestGoings_127 : decode cX9_fewestGoings 127 = .ok (.ireturn, 1) := by decide +kernel
def jn_X9_fewestGoings_75 (a1 : Nat) (x2 : Int32) (x3 : Int32) (x4 : Int32) (x5 : Int32) (x6 : Int32) (t0 : Int32) (s : Mem) : Option ((Int32 × Int32 × Mem) ⊕ (Int32 × Mem)) :=
  if t0 = (-1) then
  some (.inl (x5, (x6 + 1), s))
  else
  if x5 = (-1) then
  some (.inl (t0, (x6 + 1), s))
  else
  if x5 ≤ t0 then
  some (.inl (x5, (x6 + 1), s))
  else
  some (.inl (t0, (x6 + 1), s))
def st_X9_fewestGoings_34 (a1 : Nat) (x2 : Int32) (x3 : Int32) (x4 : Int32) (x5 : Int32) (x6 : Int32) (s : Mem) : Option ((Int32 × Int32 × Mem) ⊕ (Int32 × Mem)) :=
  if x4 ≤ x6 then
  some (.inr (x5, s))
  else
  (rd 41 (s 198) x4).bind fun v5 =>
  if v5 = 0 then
  (rd 41 (s 197) x6).bind fun v7 =>
  if v7 = (-1) then
  jn_X9_fewestGoings_75 a1 x2 x3 x4 x5 x6 (-1) s
  else
  (rd 41 (s 197) x6).bind fun v9 =>
  jn_X9_fewestGoings_75 a1 x2 x3 x4 x5 x6 (v9 + 1) s
  else
  some (.inr (x5, s))
def jn_X9_fewestGoings_106 (a1 : Nat) (x2 : Int32) (x3 : Int32) (x4 : Int32) (x5 : Int32) (s : Mem) : Option ((Int32 × Mem) ⊕ (Mem)) :=
  (wr 41 s 197 x4 x5).bind fun s14 =>
  some (.inl ((x4 + 1), s14))
def st_X9_fewestGoings_15 (a1 : Nat) (x2 : Int32) (x3 : Int32) (x4 : Int32) (s : Mem) : Option ((Int32 × Mem) ⊕ (Mem)) :=
  if x2 < x4 then
  some (.inr (s))
  else
  (it FUEL (fun y => st_X9_fewestGoings_34 a1 x2 x3 x4 y.1 y.2.1 y.2.2) ((-1), (jmmax 0 (x4 - x3)), s)).bind fun r13 =>
  jn_X9_fewestGoings_106 a1 x2 x3 x4 r13.1 r13.2
def f_X9_fewestGoings (a1 : Nat) (x2 : Int32) (x3 : Int32) (s : Mem) : Option (Int32 × Mem) :=
  (f_X9_markBad a1 s).bind fun r1 =>
  (wr 41 r1 197 0 0).bind fun s2 =>
  (it FUEL (fun y => st_X9_fewestGoings_15 a1 x2 x3 y.1 y.2) (1, s2)).bind fun r15 =>
  (rd 41 (r15 197) x2).bind fun v16 =>
  some (v16, r15)
set_option maxRecDepth 100000 in
set_option maxHeartbeats 4000000 in
theorem jo_X9_fewestGoings_75 {fr : Nat} (hfr : 1 ≤ fr) (Z : AZ) (X : AX Z cX9_fewestGoings 8 RX9 (some .int) 0 fr) (a1 : Nat) (h1 : IO 0 a1 6) (x2 : Int32) (x3 : Int32) (x4 : Int32) (x5 : Int32) (x6 : Int32) (t0 : Int32) (s : Mem) (q : (Int32 × Int32 × Mem) ⊕ (Int32 × Mem)) (h : jn_X9_fewestGoings_75 a1 x2 x3 x4 x5 x6 t0 s = some q) (hi : ∀ y : Int32 × Int32 × Mem, q = .inl y → AW Z y.2.2 34 [some (.ref (zr Z 195)), none, some (.int x2), some (.int x3), some (.int x4), some (.int y.1), some (.int y.2.1), none] []) (he : ∀ b : Int32 × Mem, q = .inr b → AW Z b.2 106 [some (.ref (zr Z 195)), none, some (.int x2), some (.int x3), some (.int x4), some (.int b.1), none, none] []) : AW Z s 75 [some (.ref (zr Z 195)), none, some (.int x2), some (.int x3), some (.int x4), some (.int x5), some (.int x6), none] [.int t0] := by
  unfold jn_X9_fewestGoings_75 at h
  refine aw_istore (L' := [some (.ref (zr Z 195)), none, some (.int x2), some (.int x3), some (.int x4), some (.int x5), some (.int x6), some (.int t0)]) X dX9_fewestGoings_75 (by decide) rfl ?_
  refine aw_iload X dX9_fewestGoings_77 rfl ?_
  refine aw_iconst (v := (-1)) X dX9_fewestGoings_79 (by decide) ?_
  refine aw_icmp_eq (tgt := 100) X dX9_fewestGoings_80 (by decide) (fun c10 => ?_) (fun c10 => ?_)
  · rw [if_pos c10] at h
    refine aw_iinc (v := (x6 + 1)) (L' := [some (.ref (zr Z 195)), none, some (.int x2), some (.int x3), some (.int x4), some (.int x5), some (.int (x6 + 1)), some (.int t0)]) X dX9_fewestGoings_100 rfl rfl (by decide) rfl ?_
    refine aw_goto (tgt := 34) X dX9_fewestGoings_103 (by decide) ?_
    cases h
    refine aw_msk [true, false, true, true, true, true, true, false] ?_
    exact hi _ rfl
  · rw [if_neg c10] at h
    refine aw_iload X dX9_fewestGoings_83 rfl ?_
    refine aw_iconst (v := (-1)) X dX9_fewestGoings_85 (by decide) ?_
    refine aw_icmp_eq (tgt := 96) X dX9_fewestGoings_86 (by decide) (fun c11 => ?_) (fun c11 => ?_)
    · rw [if_pos c11] at h
      refine aw_iload X dX9_fewestGoings_96 rfl ?_
      refine aw_istore (L' := [some (.ref (zr Z 195)), none, some (.int x2), some (.int x3), some (.int x4), some (.int t0), some (.int x6), some (.int t0)]) X dX9_fewestGoings_98 (by decide) rfl ?_
      refine aw_iinc (v := (x6 + 1)) (L' := [some (.ref (zr Z 195)), none, some (.int x2), some (.int x3), some (.int x4), some (.int t0), some (.int (x6 + 1)), some (.int t0)]) X dX9_fewestGoings_100 rfl rfl (by decide) rfl ?_
      refine aw_goto (tgt := 34) X dX9_fewestGoings_103 (by decide) ?_
      cases h
      refine aw_msk [true, false, true, true, true, true, true, false] ?_
      exact hi _ rfl
    · rw [if_neg c11] at h
      refine aw_iload X dX9_fewestGoings_89 rfl ?_
      refine aw_iload X dX9_fewestGoings_91 rfl ?_
      refine aw_icmp_ge (tgt := 100) X dX9_fewestGoings_93 (by decide) (fun c12 => ?_) (fun c12 => ?_)
      · rw [if_pos c12] at h
        refine aw_iinc (v := (x6 + 1)) (L' := [some (.ref (zr Z 195)), none, some (.int x2), some (.int x3), some (.int x4), some (.int x5), some (.int (x6 + 1)), some (.int t0)]) X dX9_fewestGoings_100 rfl rfl (by decide) rfl ?_
        refine aw_goto (tgt := 34) X dX9_fewestGoings_103 (by decide) ?_
        cases h
        refine aw_msk [true, false, true, true, true, true, true, false] ?_
        exact hi _ rfl
      · rw [if_neg c12] at h
        refine aw_iload X dX9_fewestGoings_96 rfl ?_
        refine aw_istore (L' := [some (.ref (zr Z 195)), none, some (.int x2), some (.int x3), some (.int x4), some (.int t0), some (.int x6), some (.int t0)]) X dX9_fewestGoings_98 (by decide) rfl ?_
        refine aw_iinc (v := (x6 + 1)) (L' := [some (.ref (zr Z 195)), none, some (.int x2), some (.int x3), some (.int x4), some (.int t0), some (.int (x6 + 1)), some (.int t0)]) X dX9_fewestGoings_100 rfl rfl (by decide) rfl ?_
        refine aw_goto (tgt := 34) X dX9_fewestGoings_103 (by decide) ?_
        cases h
        refine aw_msk [true, false, true, true, true, true, true, false] ?_
        exact hi _ rfl
set_option maxRecDepth 100000 in
set_option maxHeartbeats 4000000 in
theorem so_X9_fewestGoings_34 {fr : Nat} (hfr : 1 ≤ fr) (Z : AZ) (X : AX Z cX9_fewestGoings 8 RX9 (some .int) 0 fr) (a1 : Nat) (h1 : IO 0 a1 6) (x2 : Int32) (x3 : Int32) (x4 : Int32) (x5 : Int32) (x6 : Int32) (s : Mem) (q : (Int32 × Int32 × Mem) ⊕ (Int32 × Mem)) (h : st_X9_fewestGoings_34 a1 x2 x3 x4 x5 x6 s = some q) (hi : ∀ y : Int32 × Int32 × Mem, q = .inl y → AW Z y.2.2 34 [some (.ref (zr Z 195)), none, some (.int x2), some (.int x3), some (.int x4), some (.int y.1), some (.int y.2.1), none] []) (he : ∀ b : Int32 × Mem, q = .inr b → AW Z b.2 106 [some (.ref (zr Z 195)), none, some (.int x2), some (.int x3), some (.int x4), some (.int b.1), none, none] []) : AW Z s 34 [some (.ref (zr Z 195)), none, some (.int x2), some (.int x3), some (.int x4), some (.int x5), some (.int x6), none] [] := by
  unfold st_X9_fewestGoings_34 at h
  refine aw_iload X dX9_fewestGoings_34 rfl ?_
  refine aw_iload X dX9_fewestGoings_36 rfl ?_
  refine aw_icmp_ge (tgt := 106) X dX9_fewestGoings_38 (by decide) (fun c4 => ?_) (fun c4 => ?_)
  · rw [if_pos c4] at h
    cases h
    refine aw_msk [true, false, true, true, true, true, false, false] ?_
    exact he _ rfl
  · rw [if_neg c4] at h
    refine aw_aload_n X dX9_fewestGoings_41 rfl ?_
    refine aw_getr X dX9_fewestGoings_42 fl_RX9_18 iu_RX9 gu_RX9_2 ?_
    refine aw_iload X dX9_fewestGoings_45 rfl ?_
    obtain ⟨v5, ev5, h⟩ := bnd h
    refine aw_zald X dX9_fewestGoings_47 iu_RX9_2 ev5 ?_
    refine aw_if_ne (tgt := 106) X dX9_fewestGoings_48 (by decide) (fun c6 => ?_) (fun c6 => ?_)
    · rw [if_neg c6] at h
      cases h
      refine aw_msk [true, false, true, true, true, true, false, false] ?_
      exact he _ rfl
    · rw [if_pos c6] at h
      refine aw_aload_n X dX9_fewestGoings_51 rfl ?_
      refine aw_getr X dX9_fewestGoings_52 fl_RX9_15 iu_RX9 gu_RX9_1 ?_
      refine aw_iload X dX9_fewestGoings_55 rfl ?_
      obtain ⟨v7, ev7, h⟩ := bnd h
      refine aw_iald X dX9_fewestGoings_57 iu_RX9_1 ev7 ?_
      refine aw_iconst (v := (-1)) X dX9_fewestGoings_58 (by decide) ?_
      refine aw_icmp_ne (tgt := 66) X dX9_fewestGoings_59 (by decide) (fun c8 => ?_) (fun c8 => ?_)
      · rw [if_neg c8] at h
        refine aw_aload_n X dX9_fewestGoings_66 rfl ?_
        refine aw_getr X dX9_fewestGoings_67 fl_RX9_15 iu_RX9 gu_RX9_1 ?_
        refine aw_iload X dX9_fewestGoings_70 rfl ?_
        obtain ⟨v9, ev9, h⟩ := bnd h
        refine aw_iald X dX9_fewestGoings_72 iu_RX9_1 ev9 ?_
        refine aw_iconst (v := 1) X dX9_fewestGoings_73 (by decide) ?_
        refine aw_iadd X dX9_fewestGoings_74 ?_
        refine aw_msk [true, false, true, true, true, true, true, false] ?_
        exact jo_X9_fewestGoings_75 hfr Z X a1 h1 _ _ _ _ _ _ _ _ h hi he
      · rw [if_pos c8] at h
        refine aw_iconst (v := (-1)) X dX9_fewestGoings_62 (by decide) ?_
        refine aw_goto (tgt := 75) X dX9_fewestGoings_63 (by decide) ?_
        refine aw_msk [true, false, true, true, true, true, true, false] ?_
        exact jo_X9_fewestGoings_75 hfr Z X a1 h1 _ _ _ _ _ _ _ _ h hi he
set_option maxRecDepth 100000 in
set_option maxHeartbeats 4000000 in
theorem jo_X9_fewestGoings_106 {fr : Nat} (hfr : 1 ≤ fr) (Z : AZ) (X : AX Z cX9_fewestGoings 8 RX9 (some .int) 0 fr) (a1 : Nat) (h1 : IO 0 a1 6) (x2 : Int32) (x3 : Int32) (x4 : Int32) (x5 : Int32) (s : Mem) (q : (Int32 × Mem) ⊕ (Mem)) (h : jn_X9_fewestGoings_106 a1 x2 x3 x4 x5 s = some q) (hi : ∀ y : Int32 × Mem, q = .inl y → AW Z y.2 15 [some (.ref (zr Z 195)), none, some (.int x2), some (.int x3), some (.int y.1), none, none, none] []) (he : ∀ b : Mem, q = .inr b → AW Z b 121 [some (.ref (zr Z 195)), none, some (.int x2), none, none, none, none, none] []) : AW Z s 106 [some (.ref (zr Z 195)), none, some (.int x2), some (.int x3), some (.int x4), some (.int x5), none, none] [] := by
  unfold jn_X9_fewestGoings_106 at h
  refine aw_aload_n X dX9_fewestGoings_106 rfl ?_
  refine aw_getr X dX9_fewestGoings_107 fl_RX9_15 iu_RX9 gu_RX9_1 ?_
  refine aw_iload X dX9_fewestGoings_110 rfl ?_
  refine aw_iload X dX9_fewestGoings_112 rfl ?_
  obtain ⟨s14, es14, h⟩ := bnd h
  refine aw_iast X dX9_fewestGoings_114 iu_RX9_1 es14 ?_
  refine aw_iinc (v := (x4 + 1)) (L' := [some (.ref (zr Z 195)), none, some (.int x2), some (.int x3), some (.int (x4 + 1)), some (.int x5), none, none]) X dX9_fewestGoings_115 rfl rfl (by decide) rfl ?_
  refine aw_goto (tgt := 15) X dX9_fewestGoings_118 (by decide) ?_
  cases h
  refine aw_msk [true, false, true, true, true, false, false, false] ?_
  exact hi _ rfl
set_option maxRecDepth 100000 in
set_option maxHeartbeats 4000000 in
theorem so_X9_fewestGoings_15 {fr : Nat} (hfr : 1 ≤ fr) (Z : AZ) (X : AX Z cX9_fewestGoings 8 RX9 (some .int) 0 fr) (a1 : Nat) (h1 : IO 0 a1 6) (x2 : Int32) (x3 : Int32) (x4 : Int32) (s : Mem) (q : (Int32 × Mem) ⊕ (Mem)) (h : st_X9_fewestGoings_15 a1 x2 x3 x4 s = some q) (hi : ∀ y : Int32 × Mem, q = .inl y → AW Z y.2 15 [some (.ref (zr Z 195)), none, some (.int x2), some (.int x3), some (.int y.1), none, none, none] []) (he : ∀ b : Mem, q = .inr b → AW Z b 121 [some (.ref (zr Z 195)), none, some (.int x2), none, none, none, none, none] []) : AW Z s 15 [some (.ref (zr Z 195)), none, some (.int x2), some (.int x3), some (.int x4), none, none, none] [] := by
  unfold st_X9_fewestGoings_15 at h
  refine aw_iload X dX9_fewestGoings_15 rfl ?_
  refine aw_iload_n X dX9_fewestGoings_17 rfl ?_
  refine aw_icmp_gt (tgt := 121) X dX9_fewestGoings_18 (by decide) (fun c3 => ?_) (fun c3 => ?_)
  · rw [if_pos c3] at h
    cases h
    refine aw_msk [true, false, true, false, false, false, false, false] ?_
    exact he _ rfl
  · rw [if_neg c3] at h
    refine aw_iconst (v := (-1)) X dX9_fewestGoings_21 (by decide) ?_
    refine aw_istore (L' := [some (.ref (zr Z 195)), none, some (.int x2), some (.int x3), some (.int x4), some (.int (-1)), none, none]) X dX9_fewestGoings_22 (by decide) rfl ?_
    refine aw_iconst (v := 0) X dX9_fewestGoings_24 (by decide) ?_
    refine aw_iload X dX9_fewestGoings_25 rfl ?_
    refine aw_iload_n X dX9_fewestGoings_27 rfl ?_
    refine aw_isub X dX9_fewestGoings_28 ?_
    refine aw_mmax X (Nat.le_trans (by decide) hfr) dX9_fewestGoings_29 mc_RX9_40 rfl ?_
    refine aw_istore (L' := [some (.ref (zr Z 195)), none, some (.int x2), some (.int x3), some (.int x4), some (.int (-1)), some (.int (jmmax 0 (x4 - x3))), none]) X dX9_fewestGoings_32 (by decide) rfl ?_
    obtain ⟨r13, er13, h⟩ := bnd h
    refine aw_msk [true, false, true, true, true, true, true, false] ?_
    refine it_ok (P := fun y : Int32 × Int32 × Mem => AW Z y.2.2 34 [some (.ref (zr Z 195)), none, some (.int x2), some (.int x3), some (.int x4), some (.int y.1), some (.int y.2.1), none] []) (Q := fun b : Int32 × Mem => AW Z b.2 106 [some (.ref (zr Z 195)), none, some (.int x2), some (.int x3), some (.int x4), some (.int b.1), none, none] []) (fun y q hq hi he => so_X9_fewestGoings_34 hfr Z X a1 h1 x2 x3 x4 y.1 y.2.1 y.2.2 q hq hi he) FUEL _ _ er13 ?_
    refine aw_msk [true, false, true, true, true, true, false, false] ?_
    exact jo_X9_fewestGoings_106 hfr Z X a1 h1 _ _ _ _ _ _ h hi he
set_option maxRecDepth 100000 in
set_option maxHeartbeats 4000000 in
theorem w_X9_fewestGoings {fr : Nat} (hfr : 1 ≤ fr) (Z : AZ) (X : AX Z cX9_fewestGoings 8 RX9 (some .int) 0 fr) (a1 : Nat) (h1 : IO 0 a1 6) (x2 : Int32) (x3 : Int32) (s : Mem) (r : Int32 × Mem) (hz : zres Z = (some (.int r.1), r.2)) (h : f_X9_fewestGoings a1 x2 x3 s = some r) : AW Z s 0 [some (.ref (zr Z 195)), some (.ref (zr Z a1)), some (.int x2), some (.int x3), none, none, none, none] [] := by
  unfold f_X9_fewestGoings at h
  refine aw_aload_n X dX9_fewestGoings_0 rfl ?_
  refine aw_aload_n X dX9_fewestGoings_1 rfl ?_
  obtain ⟨r1, er1, h⟩ := bnd h
  refine aw_callV X dX9_fewestGoings_2 cv_RX9_88 (ok_X9_markBad h1 er1 _ _ _ _ _) iu_RX9 rfl (Nat.le_trans (by decide) hfr) (by decide) rfl rfl (Nat.le_of_ble_eq_true rfl) ?_
  refine aw_aload_n X dX9_fewestGoings_5 rfl ?_
  refine aw_getr X dX9_fewestGoings_6 fl_RX9_15 iu_RX9 gu_RX9_1 ?_
  refine aw_iconst (v := 0) X dX9_fewestGoings_9 (by decide) ?_
  refine aw_iconst (v := 0) X dX9_fewestGoings_10 (by decide) ?_
  obtain ⟨s2, es2, h⟩ := bnd h
  refine aw_iast X dX9_fewestGoings_11 iu_RX9_1 es2 ?_
  refine aw_iconst (v := 1) X dX9_fewestGoings_12 (by decide) ?_
  refine aw_istore (L' := [some (.ref (zr Z 195)), some (.ref (zr Z a1)), some (.int x2), some (.int x3), some (.int 1), none, none, none]) X dX9_fewestGoings_13 (by decide) rfl ?_
  obtain ⟨r15, er15, h⟩ := bnd h
  refine aw_msk [true, false, true, true, true, false, false, false] ?_
  refine it_ok (P := fun y : Int32 × Mem => AW Z y.2 15 [some (.ref (zr Z 195)), none, some (.int x2), some (.int x3), some (.int y.1), none, none, none] []) (Q := fun b : Mem => AW Z b 121 [some (.ref (zr Z 195)), none, some (.int x2), none, none, none, none, none] []) (fun y q hq hi he => so_X9_fewestGoings_15 hfr Z X a1 h1 x2 x3 y.1 y.2 q hq hi he) FUEL _ _ er15 ?_
  refine aw_aload_n X dX9_fewestGoings_121 rfl ?_
  refine aw_getr X dX9_fewestGoings_122 fl_RX9_15 iu_RX9 gu_RX9_1 ?_
  refine aw_iload_n X dX9_fewestGoings_125 rfl ?_
  obtain ⟨v16, ev16, h⟩ := bnd h
  refine aw_iald X dX9_fewestGoings_126 iu_RX9_1 ev16 ?_
  cases h
  exact aw_iret X dX9_fewestGoings_127 rfl hz.symm
set_option maxRecDepth 100000 in
set_option maxHeartbeats 4000000 in
theorem ok_X9_fewestGoings {a1 : Nat} (h1 : IO 0 a1 6) {x2 x3 : Int32} {s : Mem} {r : Int32 × Mem} (h : f_X9_fewestGoings a1 x2 x3 s = some r) (l : Launch) (D : va_G) (ρ : Nat → Nat) (cA : ClassId × ClassId × ClassId) (τ : AT) : AM l D ρ cA 0 τ yX9_fewestGoings cX9_fewestGoings 8 (some .int) 1 [.ref (ρ 195), .ref (ρ a1), .int x2, .int x3] (some (.int r.1)) s r.2 := by
  refine AM_of (L := [some (.ref (ρ 195)), some (.ref (ρ a1)), some (.int x2), some (.int x3), none, none, none, none]) (by decide) (by simp [Value.category]) (Nat.le_of_ble_eq_true rfl) (fun j v q => ?_) (fun Z X hρ hz => ?_)
  · exact aL_ok (n := 4) [.ref (ρ 195), .ref (ρ a1), .int x2, .int x3] j v q
  · subst hρ
    exact w_X9_fewestGoings (Nat.le_refl _) Z X a1 h1 x2 x3 s r hz h

theorem dX9_isLost_0 : decode cX9_isLost 0 = .ok (.iconst 0, 1) := by decide +kernel
theorem dX9_isLost_1 : decode cX9_isLost 1 = .ok (.istore_n 3, 1) := by decide +kernel
theorem dX9_isLost_2 : decode cX9_isLost 2 = .ok (.iconst 0, 1) := by decide +kernel
theorem dX9_isLost_3 : decode cX9_isLost 3 = .ok (.istore 4, 2) := by decide +kernel
theorem dX9_isLost_5 : decode cX9_isLost 5 = .ok (.iconst 0, 1) := by decide +kernel
theorem dX9_isLost_6 : decode cX9_isLost 6 = .ok (.istore 5, 2) := by decide +kernel
theorem dX9_isLost_8 : decode cX9_isLost 8 = .ok (.iload 5, 2) := by decide +kernel
theorem dX9_isLost_10 : decode cX9_isLost 10 = .ok (.aload_n 0, 1) := by decide +kernel
theorem dX9_isLost_11 : decode cX9_isLost 11 = .ok (.getfield 25, 3) := by decide +kernel
theorem dX9_isLost_14 : decode cX9_isLost 14 = .ok (.if_icmp .ge 51, 3) := by decide +kernel
theorem dX9_isLost_17 : decode cX9_isLost 17 = .ok (.iload 5, 2) := by decide +kernel
theorem dX9_isLost_19 : decode cX9_isLost 19 = .ok (.iload_n 1, 1) := by decide +kernel
theorem dX9_isLost_20 : decode cX9_isLost 20 = .ok (.if_icmp .ne 7, 3) := by decide +kernel
theorem dX9_isLost_23 : decode cX9_isLost 23 = .ok (.iload_n 2, 1) := by decide +kernel
theorem dX9_isLost_24 : decode cX9_isLost 24 = .ok (.goto 10, 3) := by decide +kernel
theorem dX9_isLost_27 : decode cX9_isLost 27 = .ok (.aload_n 0, 1) := by decide +kernel
theorem dX9_isLost_28 : decode cX9_isLost 28 = .ok (.getfield 31, 3) := by decide +kernel
theorem dX9_isLost_31 : decode cX9_isLost 31 = .ok (.iload 5, 2) := by decide +kernel
theorem dX9_isLost_33 : decode cX9_isLost 33 = .ok (.iaload, 1) := by decide +kernel
theorem dX9_isLost_34 : decode cX9_isLost 34 = .ok (.istore 6, 2) := by decide +kernel
theorem dX9_isLost_36 : decode cX9_isLost 36 = .ok (.iload_n 3, 1) := by decide +kernel
theorem dX9_isLost_37 : decode cX9_isLost 37 = .ok (.iload 6, 2) := by decide +kernel
theorem dX9_isLost_39 : decode cX9_isLost 39 = .ok (.ixor, 1) := by decide +kernel
theorem dX9_isLost_40 : decode cX9_isLost 40 = .ok (.istore_n 3, 1) := by decide +kernel
theorem dX9_isLost_41 : decode cX9_isLost 41 = .ok (.iload 4, 2) := by decide +kernel
theorem dX9_isLost_43 : decode cX9_isLost 43 = .ok (.ifCond .ne 9, 3) := by decide +kernel
theorem dX9_isLost_46 : decode cX9_isLost 46 = .ok (.iload 6, 2) := by decide +kernel
theorem dX9_isLost_48 : decode cX9_isLost 48 = .ok (.iconst 1, 1) := by decide +kernel
theorem dX9_isLost_49 : decode cX9_isLost 49 = .ok (.if_icmp .le 7, 3) := by decide +kernel
theorem dX9_isLost_52 : decode cX9_isLost 52 = .ok (.iconst 1, 1) := by decide +kernel
theorem dX9_isLost_53 : decode cX9_isLost 53 = .ok (.goto 4, 3) := by decide +kernel
theorem dX9_isLost_56 : decode cX9_isLost 56 = .ok (.iconst 0, 1) := by decide +kernel
theorem dX9_isLost_57 : decode cX9_isLost 57 = .ok (.istore 4, 2) := by decide +kernel
theorem dX9_isLost_59 : decode cX9_isLost 59 = .ok (.iinc 5 1, 3) := by decide +kernel
theorem dX9_isLost_62 : decode cX9_isLost 62 = .ok (.goto (-54), 3) := by decide +kernel
theorem dX9_isLost_65 : decode cX9_isLost 65 = .ok (.iload 4, 2) := by decide +kernel
theorem dX9_isLost_67 : decode cX9_isLost 67 = .ok (.ifCond .eq 15, 3) := by decide +kernel
theorem dX9_isLost_70 : decode cX9_isLost 70 = .ok (.iload_n 3, 1) := by decide +kernel
theorem dX9_isLost_71 : decode cX9_isLost 71 = .ok (.ifCond .ne 7, 3) := by decide +kernel
theorem dX9_isLost_74 : decode cX9_isLost 74 = .ok (.iconst 1, 1) := by decide +kernel
theorem dX9_isLost_75 : decode cX9_isLost 75 = .ok (.goto 17, 3) := by decide +kernel
theorem dX9_isLost_78 : decode cX9_isLost 78 = .ok (.iconst 0, 1) := by decide +kernel
theorem dX9_isLost_79 : decode cX9_isLost 79 = .ok (.goto 13, 3) := by decide +kernel
theorem dX9_isLost_82 : decode cX9_isLost 82 = .ok (.iload_n 3, 1) := by decide +kernel
theorem dX9_isLost_83 : decode cX9_isLost 83 = .ok (.iconst 1, 1) := by decide +kernel
theorem dX9_isLost_84 : decode cX9_isLost 84 = .ok (.if_icmp .ne 7, 3) := by decide +kernel
theorem dX9_isLost_87 : decode cX9_isLost 87 = .ok (.iconst 1, 1) := by decide +kernel
theorem dX9_isLost_88 : decode cX9_isLost 88 = .ok (.goto 4, 3) := by decide +kernel
theorem dX9_isLost_91 : decode cX9_isLost 91 = .ok (.iconst 0, 1) := by decide +kernel
theorem dX9_isLost_92 : decode cX9_isLost 92 = .ok (.ireturn, 1) := by decide +kernel
def jn_X9_isLost_52 (a0 : Nat) (x1 : Int32) (x2 : Int32) (x3 : Int32) (x5 : Int32) (s : Mem) : Option ((Int32 × Int32 × Int32 × Mem) ⊕ (Int32 × Int32 × Mem)) :=
  some (.inl (x3, 1, (x5 + 1), s))
def jn_X9_isLost_34 (a0 : Nat) (x1 : Int32) (x2 : Int32) (x3 : Int32) (x4 : Int32) (x5 : Int32) (t0 : Int32) (s : Mem) : Option ((Int32 × Int32 × Int32 × Mem) ⊕ (Int32 × Int32 × Mem)) :=
  if x4 = 0 then
  if t0 ≤ 1 then
  some (.inl ((x3 ^^^ t0), 0, (x5 + 1), s))
  else
  jn_X9_isLost_52 a0 x1 x2 (x3 ^^^ t0) x5 s
  else
  jn_X9_isLost_52 a0 x1 x2 (x3 ^^^ t0) x5 s
def st_X9_isLost_8 (a0 : Nat) (x1 : Int32) (x2 : Int32) (x3 : Int32) (x4 : Int32) (x5 : Int32) (s : Mem) : Option ((Int32 × Int32 × Int32 × Mem) ⊕ (Int32 × Int32 × Mem)) :=
  if (s a0 1) ≤ x5 then
  some (.inr (x3, x4, s))
  else
  if x5 = x1 then
  jn_X9_isLost_34 a0 x1 x2 x3 x4 x5 x2 s
  else
  (rd (gL 0 (a0 + 1)) (s (a0 + 1)) x5).bind fun v3 =>
  jn_X9_isLost_34 a0 x1 x2 x3 x4 x5 v3 s
def f_X9_isLost (a0 : Nat) (x1 : Int32) (x2 : Int32) (s : Mem) : Option (Int32 × Mem) :=
  (it FUEL (fun y => st_X9_isLost_8 a0 x1 x2 y.1 y.2.1 y.2.2.1 y.2.2.2) (0, 0, 0, s)).bind fun r6 =>
  if r6.2.1 = 0 then
  if r6.1 = 1 then
  some (1, r6.2.2)
  else
  some (0, r6.2.2)
  else
  if r6.1 = 0 then
  some (1, r6.2.2)
  else
  some (0, r6.2.2)
set_option maxRecDepth 100000 in
set_option maxHeartbeats 4000000 in
theorem jo_X9_isLost_52 {fr : Nat} (hfr : 0 ≤ fr) (Z : AZ) (X : AX Z cX9_isLost 7 RX9 (some .boolean) 0 fr) (a0 : Nat) (h0 : IO 0 a0 6) (x1 : Int32) (x2 : Int32) (x3 : Int32) (x5 : Int32) (s : Mem) (q : (Int32 × Int32 × Int32 × Mem) ⊕ (Int32 × Int32 × Mem)) (h : jn_X9_isLost_52 a0 x1 x2 x3 x5 s = some q) (hi : ∀ y : Int32 × Int32 × Int32 × Mem, q = .inl y → AW Z y.2.2.2 8 [some (.ref (zr Z a0)), some (.int x1), some (.int x2), some (.int y.1), some (.int y.2.1), some (.int y.2.2.1), none] []) (he : ∀ b : Int32 × Int32 × Mem, q = .inr b → AW Z b.2.2 65 [none, none, none, some (.int b.1), some (.int b.2.1), none, none] []) : AW Z s 52 [some (.ref (zr Z a0)), some (.int x1), some (.int x2), some (.int x3), none, some (.int x5), none] [] := by
  unfold jn_X9_isLost_52 at h
  refine aw_iconst (v := 1) X dX9_isLost_52 (by decide) ?_
  refine aw_goto (tgt := 57) X dX9_isLost_53 (by decide) ?_
  refine aw_istore (L' := [some (.ref (zr Z a0)), some (.int x1), some (.int x2), some (.int x3), some (.int 1), some (.int x5), none]) X dX9_isLost_57 (by decide) rfl ?_
  refine aw_iinc (v := (x5 + 1)) (L' := [some (.ref (zr Z a0)), some (.int x1), some (.int x2), some (.int x3), some (.int 1), some (.int (x5 + 1)), none]) X dX9_isLost_59 rfl rfl (by decide) rfl ?_
  refine aw_goto (tgt := 8) X dX9_isLost_62 (by decide) ?_
  cases h
  refine aw_msk [true, true, true, true, true, true, false] ?_
  exact hi _ rfl
set_option maxRecDepth 100000 in
set_option maxHeartbeats 4000000 in
theorem jo_X9_isLost_34 {fr : Nat} (hfr : 0 ≤ fr) (Z : AZ) (X : AX Z cX9_isLost 7 RX9 (some .boolean) 0 fr) (a0 : Nat) (h0 : IO 0 a0 6) (x1 : Int32) (x2 : Int32) (x3 : Int32) (x4 : Int32) (x5 : Int32) (t0 : Int32) (s : Mem) (q : (Int32 × Int32 × Int32 × Mem) ⊕ (Int32 × Int32 × Mem)) (h : jn_X9_isLost_34 a0 x1 x2 x3 x4 x5 t0 s = some q) (hi : ∀ y : Int32 × Int32 × Int32 × Mem, q = .inl y → AW Z y.2.2.2 8 [some (.ref (zr Z a0)), some (.int x1), some (.int x2), some (.int y.1), some (.int y.2.1), some (.int y.2.2.1), none] []) (he : ∀ b : Int32 × Int32 × Mem, q = .inr b → AW Z b.2.2 65 [none, none, none, some (.int b.1), some (.int b.2.1), none, none] []) : AW Z s 34 [some (.ref (zr Z a0)), some (.int x1), some (.int x2), some (.int x3), some (.int x4), some (.int x5), none] [.int t0] := by
  unfold jn_X9_isLost_34 at h
  refine aw_istore (L' := [some (.ref (zr Z a0)), some (.int x1), some (.int x2), some (.int x3), some (.int x4), some (.int x5), some (.int t0)]) X dX9_isLost_34 (by decide) rfl ?_
  refine aw_iload_n X dX9_isLost_36 rfl ?_
  refine aw_iload X dX9_isLost_37 rfl ?_
  refine aw_ixor X dX9_isLost_39 ?_
  refine aw_istore_n (L' := [some (.ref (zr Z a0)), some (.int x1), some (.int x2), some (.int (x3 ^^^ t0)), some (.int x4), some (.int x5), some (.int t0)]) X dX9_isLost_40 (by decide) rfl ?_
  refine aw_iload X dX9_isLost_41 rfl ?_
  refine aw_if_ne (tgt := 52) X dX9_isLost_43 (by decide) (fun c4 => ?_) (fun c4 => ?_)
  · rw [if_neg c4] at h
    refine aw_msk [true, true, true, true, false, true, false] ?_
    exact jo_X9_isLost_52 hfr Z X a0 h0 _ _ _ _ _ _ h hi he
  · rw [if_pos c4] at h
    refine aw_iload X dX9_isLost_46 rfl ?_
    refine aw_iconst (v := 1) X dX9_isLost_48 (by decide) ?_
    refine aw_icmp_le (tgt := 56) X dX9_isLost_49 (by decide) (fun c5 => ?_) (fun c5 => ?_)
    · rw [if_pos c5] at h
      refine aw_iconst (v := 0) X dX9_isLost_56 (by decide) ?_
      refine aw_istore (L' := [some (.ref (zr Z a0)), some (.int x1), some (.int x2), some (.int (x3 ^^^ t0)), some (.int 0), some (.int x5), some (.int t0)]) X dX9_isLost_57 (by decide) rfl ?_
      refine aw_iinc (v := (x5 + 1)) (L' := [some (.ref (zr Z a0)), some (.int x1), some (.int x2), some (.int (x3 ^^^ t0)), some (.int 0), some (.int (x5 + 1)), some (.int t0)]) X dX9_isLost_59 rfl rfl (by decide) rfl ?_
      refine aw_goto (tgt := 8) X dX9_isLost_62 (by decide) ?_
      cases h
      refine aw_msk [true, true, true, true, true, true, false] ?_
      exact hi _ rfl
    · rw [if_neg c5] at h
      refine aw_msk [true, true, true, true, false, true, false] ?_
      exact jo_X9_isLost_52 hfr Z X a0 h0 _ _ _ _ _ _ h hi he
set_option maxRecDepth 100000 in
set_option maxHeartbeats 4000000 in
theorem so_X9_isLost_8 {fr : Nat} (hfr : 0 ≤ fr) (Z : AZ) (X : AX Z cX9_isLost 7 RX9 (some .boolean) 0 fr) (a0 : Nat) (h0 : IO 0 a0 6) (x1 : Int32) (x2 : Int32) (x3 : Int32) (x4 : Int32) (x5 : Int32) (s : Mem) (q : (Int32 × Int32 × Int32 × Mem) ⊕ (Int32 × Int32 × Mem)) (h : st_X9_isLost_8 a0 x1 x2 x3 x4 x5 s = some q) (hi : ∀ y : Int32 × Int32 × Int32 × Mem, q = .inl y → AW Z y.2.2.2 8 [some (.ref (zr Z a0)), some (.int x1), some (.int x2), some (.int y.1), some (.int y.2.1), some (.int y.2.2.1), none] []) (he : ∀ b : Int32 × Int32 × Mem, q = .inr b → AW Z b.2.2 65 [none, none, none, some (.int b.1), some (.int b.2.1), none, none] []) : AW Z s 8 [some (.ref (zr Z a0)), some (.int x1), some (.int x2), some (.int x3), some (.int x4), some (.int x5), none] [] := by
  unfold st_X9_isLost_8 at h
  refine aw_iload X dX9_isLost_8 rfl ?_
  refine aw_aload_n X dX9_isLost_10 rfl ?_
  refine aw_geti X dX9_isLost_11 fl_RX9_25 h0 (gt_RX7_1 h0) ?_
  refine aw_icmp_ge (tgt := 65) X dX9_isLost_14 (by decide) (fun c1 => ?_) (fun c1 => ?_)
  · rw [if_pos c1] at h
    cases h
    refine aw_msk [false, false, false, true, true, false, false] ?_
    exact he _ rfl
  · rw [if_neg c1] at h
    refine aw_iload X dX9_isLost_17 rfl ?_
    refine aw_iload_n X dX9_isLost_19 rfl ?_
    refine aw_icmp_ne (tgt := 27) X dX9_isLost_20 (by decide) (fun c2 => ?_) (fun c2 => ?_)
    · rw [if_neg c2] at h
      refine aw_aload_n X dX9_isLost_27 rfl ?_
      refine aw_getr X dX9_isLost_28 fl_RX9_31 h0 (gt_RX7_0 h0) ?_
      refine aw_iload X dX9_isLost_31 rfl ?_
      obtain ⟨v3, ev3, h⟩ := bnd h
      refine aw_iald X dX9_isLost_33 (it_RX7_0 h0) ev3 ?_
      refine aw_msk [true, true, true, true, true, true, false] ?_
      exact jo_X9_isLost_34 hfr Z X a0 h0 _ _ _ _ _ _ _ _ h hi he
    · rw [if_pos c2] at h
      refine aw_iload_n X dX9_isLost_23 rfl ?_
      refine aw_goto (tgt := 34) X dX9_isLost_24 (by decide) ?_
      refine aw_msk [true, true, true, true, true, true, false] ?_
      exact jo_X9_isLost_34 hfr Z X a0 h0 _ _ _ _ _ _ _ _ h hi he
set_option maxRecDepth 100000 in
set_option maxHeartbeats 4000000 in
theorem w_X9_isLost {fr : Nat} (hfr : 0 ≤ fr) (Z : AZ) (X : AX Z cX9_isLost 7 RX9 (some .boolean) 0 fr) (a0 : Nat) (h0 : IO 0 a0 6) (x1 : Int32) (x2 : Int32) (s : Mem) (r : Int32 × Mem) (hz : zres Z = (some (.int r.1), r.2)) (h : f_X9_isLost a0 x1 x2 s = some r) : AW Z s 0 [some (.ref (zr Z a0)), some (.int x1), some (.int x2), none, none, none, none] [] := by
  unfold f_X9_isLost at h
  refine aw_iconst (v := 0) X dX9_isLost_0 (by decide) ?_
  refine aw_istore_n (L' := [some (.ref (zr Z a0)), some (.int x1), some (.int x2), some (.int 0), none, none, none]) X dX9_isLost_1 (by decide) rfl ?_
  refine aw_iconst (v := 0) X dX9_isLost_2 (by decide) ?_
  refine aw_istore (L' := [some (.ref (zr Z a0)), some (.int x1), some (.int x2), some (.int 0), some (.int 0), none, none]) X dX9_isLost_3 (by decide) rfl ?_
  refine aw_iconst (v := 0) X dX9_isLost_5 (by decide) ?_
  refine aw_istore (L' := [some (.ref (zr Z a0)), some (.int x1), some (.int x2), some (.int 0), some (.int 0), some (.int 0), none]) X dX9_isLost_6 (by decide) rfl ?_
  obtain ⟨r6, er6, h⟩ := bnd h
  refine aw_msk [true, true, true, true, true, true, false] ?_
  refine it_ok (P := fun y : Int32 × Int32 × Int32 × Mem => AW Z y.2.2.2 8 [some (.ref (zr Z a0)), some (.int x1), some (.int x2), some (.int y.1), some (.int y.2.1), some (.int y.2.2.1), none] []) (Q := fun b : Int32 × Int32 × Mem => AW Z b.2.2 65 [none, none, none, some (.int b.1), some (.int b.2.1), none, none] []) (fun y q hq hi he => so_X9_isLost_8 hfr Z X a0 h0 x1 x2 y.1 y.2.1 y.2.2.1 y.2.2.2 q hq hi he) FUEL _ _ er6 ?_
  refine aw_iload X dX9_isLost_65 rfl ?_
  refine aw_if_eq (tgt := 82) X dX9_isLost_67 (by decide) (fun c7 => ?_) (fun c7 => ?_)
  · rw [if_pos c7] at h
    refine aw_iload_n X dX9_isLost_82 rfl ?_
    refine aw_iconst (v := 1) X dX9_isLost_83 (by decide) ?_
    refine aw_icmp_ne (tgt := 91) X dX9_isLost_84 (by decide) (fun c8 => ?_) (fun c8 => ?_)
    · rw [if_neg c8] at h
      refine aw_iconst (v := 0) X dX9_isLost_91 (by decide) ?_
      cases h
      exact aw_zret X dX9_isLost_92 rfl rfl hz.symm
    · rw [if_pos c8] at h
      refine aw_iconst (v := 1) X dX9_isLost_87 (by decide) ?_
      refine aw_goto (tgt := 92) X dX9_isLost_88 (by decide) ?_
      cases h
      exact aw_zret X dX9_isLost_92 rfl rfl hz.symm
  · rw [if_neg c7] at h
    refine aw_iload_n X dX9_isLost_70 rfl ?_
    refine aw_if_ne (tgt := 78) X dX9_isLost_71 (by decide) (fun c9 => ?_) (fun c9 => ?_)
    · rw [if_neg c9] at h
      refine aw_iconst (v := 0) X dX9_isLost_78 (by decide) ?_
      refine aw_goto (tgt := 92) X dX9_isLost_79 (by decide) ?_
      cases h
      exact aw_zret X dX9_isLost_92 rfl rfl hz.symm
    · rw [if_pos c9] at h
      refine aw_iconst (v := 1) X dX9_isLost_74 (by decide) ?_
      refine aw_goto (tgt := 92) X dX9_isLost_75 (by decide) ?_
      cases h
      exact aw_zret X dX9_isLost_92 rfl rfl hz.symm
set_option maxRecDepth 100000 in
set_option maxHeartbeats 4000000 in
theorem ok_X9_isLost {a0 : Nat} (h0 : IO 0 a0 6) {x1 x2 : Int32} {s : Mem} {r : Int32 × Mem} (h : f_X9_isLost a0 x1 x2 s = some r) (l : Launch) (D : va_G) (ρ : Nat → Nat) (cA : ClassId × ClassId × ClassId) (τ : AT) : AM l D ρ cA 0 τ yX9_isLost cX9_isLost 7 (some .boolean) 0 [.ref (ρ a0), .int x1, .int x2] (some (.int r.1)) s r.2 := by
  refine AM_of (L := [some (.ref (ρ a0)), some (.int x1), some (.int x2), none, none, none, none]) (by decide) (by simp [Value.category]) (Nat.le_of_ble_eq_true rfl) (fun j v q => ?_) (fun Z X hρ hz => ?_)
  · exact aL_ok (n := 4) [.ref (ρ a0), .int x1, .int x2] j v q
  · subst hρ
    exact w_X9_isLost (Nat.le_refl _) Z X a0 h0 x1 x2 s r hz h

theorem dX9_winningMove_0 : decode cX9_winningMove 0 = .ok (.iconst 0, 1) := by decide +kernel
theorem dX9_winningMove_1 : decode cX9_winningMove 1 = .ok (.istore_n 2, 1) := by decide +kernel
theorem dX9_winningMove_2 : decode cX9_winningMove 2 = .ok (.iload_n 2, 1) := by decide +kernel
theorem dX9_winningMove_3 : decode cX9_winningMove 3 = .ok (.aload_n 1, 1) := by decide +kernel
theorem dX9_winningMove_4 : decode cX9_winningMove 4 = .ok (.getfield 25, 3) := by decide +kernel
theorem dX9_winningMove_7 : decode cX9_winningMove 7 = .ok (.if_icmp .ge 50, 3) := by decide +kernel
theorem dX9_winningMove_10 : decode cX9_winningMove 10 = .ok (.iconst 1, 1) := by decide +kernel
theorem dX9_winningMove_11 : decode cX9_winningMove 11 = .ok (.istore_n 3, 1) := by decide +kernel
theorem dX9_winningMove_12 : decode cX9_winningMove 12 = .ok (.iload_n 3, 1) := by decide +kernel
theorem dX9_winningMove_13 : decode cX9_winningMove 13 = .ok (.aload_n 1, 1) := by decide +kernel
theorem dX9_winningMove_14 : decode cX9_winningMove 14 = .ok (.getfield 31, 3) := by decide +kernel
theorem dX9_winningMove_17 : decode cX9_winningMove 17 = .ok (.iload_n 2, 1) := by decide +kernel
theorem dX9_winningMove_18 : decode cX9_winningMove 18 = .ok (.iaload, 1) := by decide +kernel
theorem dX9_winningMove_19 : decode cX9_winningMove 19 = .ok (.if_icmp .gt 32, 3) := by decide +kernel
theorem dX9_winningMove_22 : decode cX9_winningMove 22 = .ok (.aload_n 1, 1) := by decide +kernel
theorem dX9_winningMove_23 : decode cX9_winningMove 23 = .ok (.iload_n 2, 1) := by decide +kernel
theorem dX9_winningMove_24 : decode cX9_winningMove 24 = .ok (.aload_n 1, 1) := by decide +kernel
theorem dX9_winningMove_25 : decode cX9_winningMove 25 = .ok (.getfield 31, 3) := by decide +kernel
theorem dX9_winningMove_28 : decode cX9_winningMove 28 = .ok (.iload_n 2, 1) := by decide +kernel
theorem dX9_winningMove_29 : decode cX9_winningMove 29 = .ok (.iaload, 1) := by decide +kernel
theorem dX9_winningMove_30 : decode cX9_winningMove 30 = .ok (.iload_n 3, 1) := by decide +kernel
theorem dX9_winningMove_31 : decode cX9_winningMove 31 = .ok (.isub, 1) := by decide +kernel
theorem dX9_winningMove_32 : decode cX9_winningMove 32 = .ok (.invokestatic 94, 3) := by decide +kernel
theorem dX9_winningMove_35 : decode cX9_winningMove 35 = .ok (.ifCond .eq 10, 3) := by decide +kernel
theorem dX9_winningMove_38 : decode cX9_winningMove 38 = .ok (.bipush 100, 2) := by decide +kernel
theorem dX9_winningMove_40 : decode cX9_winningMove 40 = .ok (.iload_n 2, 1) := by decide +kernel
theorem dX9_winningMove_41 : decode cX9_winningMove 41 = .ok (.imul, 1) := by decide +kernel
theorem dX9_winningMove_42 : decode cX9_winningMove 42 = .ok (.iload_n 3, 1) := by decide +kernel
theorem dX9_winningMove_43 : decode cX9_winningMove 43 = .ok (.iadd, 1) := by decide +kernel
theorem dX9_winningMove_44 : decode cX9_winningMove 44 = .ok (.ireturn, 1) := by decide +kernel
theorem dX9_winningMove_45 : decode cX9_winningMove 45 = .ok (.iinc 3 1, 3) := by decide +kernel
theorem dX9_winningMove_48 : decode cX9_winningMove 48 = .ok (.goto (-36), 3) := by decide +kernel
theorem dX9_winningMove_51 : decode cX9_winningMove 51 = .ok (.iinc 2 1, 3) := by decide +kernel
theorem dX9_winningMove_54 : decode cX9_winningMove 54 = .ok (.goto (-52), 3) := by decide +kernel
theorem dX9_winningMove_57 : decode cX9_winningMove 57 = .ok (.iconst (-1), 1) := by decide +kernel
theorem dX9_winningMove_58 : decode cX9_winningMove 58 = .ok (.ireturn, 1) := by decide +kernel
def st_X9_winningMove_12 (a1 : Nat) (x2 : Int32) (x3 : Int32) (s : Mem) : Option ((Int32 × Mem) ⊕ (Nat × Int32 × Mem)) :=
  (rd (gL 0 (a1 + 1)) (s (a1 + 1)) x2).bind fun v2 =>
  if v2 < x3 then
  some (.inr (1, 0, s))
  else
  (rd (gL 0 (a1 + 1)) (s (a1 + 1)) x2).bind fun v4 =>
  (f_X9_isLost a1 x2 (v4 - x3) s).bind fun r5 =>
  if r5.1 = 0 then
  some (.inl ((x3 + 1), r5.2))
  else
  some (.inr (0, x3, r5.2))
def st_X9_winningMove_2 (a1 : Nat) (x2 : Int32) (s : Mem) : Option ((Int32 × Mem) ⊕ (Nat × Int32 × Int32 × Mem)) :=
  if (s a1 1) ≤ x2 then
  some (.inr (1, 0, 0, s))
  else
  (it FUEL (fun y => st_X9_winningMove_12 a1 x2 y.1 y.2) (1, s)).bind fun r7 =>
  if r7.1 = 0 then some (.inr (0, x2, r7.2.1, r7.2.2)) else some (.inl ((x2 + 1), r7.2.2))
def f_X9_winningMove (a1 : Nat) (s : Mem) : Option (Int32 × Mem) :=
  (it FUEL (fun y => st_X9_winningMove_2 a1 y.1 y.2) (0, s)).bind fun r8 =>
  if r8.1 = 0 then some (((100 * r8.2.1) + r8.2.2.1), r8.2.2.2) else some ((-1), r8.2.2.2)
set_option maxRecDepth 100000 in
set_option maxHeartbeats 4000000 in
theorem so_X9_winningMove_12 {fr : Nat} (hfr : 1 ≤ fr) (Z : AZ) (X : AX Z cX9_winningMove 4 RX9 (some .int) 0 fr) (a1 : Nat) (h1 : IO 0 a1 6) (x2 : Int32) (x3 : Int32) (s : Mem) (q : (Int32 × Mem) ⊕ (Nat × Int32 × Mem)) (h : st_X9_winningMove_12 a1 x2 x3 s = some q) (hi : ∀ y : Int32 × Mem, q = .inl y → AW Z y.2 12 [none, some (.ref (zr Z a1)), some (.int x2), some (.int y.1)] []) (he : ∀ b : Nat × Int32 × Mem, q = .inr b → (b.1 = 0 → AW Z b.2.2 38 [none, none, some (.int x2), some (.int b.2.1)] []) ∧ (b.1 = 1 → AW Z b.2.2 51 [none, some (.ref (zr Z a1)), some (.int x2), none] [])) : AW Z s 12 [none, some (.ref (zr Z a1)), some (.int x2), some (.int x3)] [] := by
  unfold st_X9_winningMove_12 at h
  refine aw_iload_n X dX9_winningMove_12 rfl ?_
  refine aw_aload_n X dX9_winningMove_13 rfl ?_
  refine aw_getr X dX9_winningMove_14 fl_RX9_31 h1 (gt_RX7_0 h1) ?_
  refine aw_iload_n X dX9_winningMove_17 rfl ?_
  obtain ⟨v2, ev2, h⟩ := bnd h
  refine aw_iald X dX9_winningMove_18 (it_RX7_0 h1) ev2 ?_
  refine aw_icmp_gt (tgt := 51) X dX9_winningMove_19 (by decide) (fun c3 => ?_) (fun c3 => ?_)
  · rw [if_pos c3] at h
    cases h
    refine aw_msk [false, true, true, false] ?_
    exact (he _ rfl).2 rfl
  · rw [if_neg c3] at h
    refine aw_aload_n X dX9_winningMove_22 rfl ?_
    refine aw_iload_n X dX9_winningMove_23 rfl ?_
    refine aw_aload_n X dX9_winningMove_24 rfl ?_
    refine aw_getr X dX9_winningMove_25 fl_RX9_31 h1 (gt_RX7_0 h1) ?_
    refine aw_iload_n X dX9_winningMove_28 rfl ?_
    obtain ⟨v4, ev4, h⟩ := bnd h
    refine aw_iald X dX9_winningMove_29 (it_RX7_0 h1) ev4 ?_
    refine aw_iload_n X dX9_winningMove_30 rfl ?_
    refine aw_isub X dX9_winningMove_31 ?_
    obtain ⟨r5, er5, h⟩ := bnd h
    refine aw_callS X dX9_winningMove_32 cv_RX9_94 (ok_X9_isLost h1 er5 _ _ _ _ _) (Nat.le_trans (by decide) hfr) (by decide) rfl rfl (Nat.le_of_ble_eq_true rfl) ?_
    refine aw_if_eq (tgt := 45) X dX9_winningMove_35 (by decide) (fun c6 => ?_) (fun c6 => ?_)
    · rw [if_pos c6] at h
      refine aw_iinc (v := (x3 + 1)) (L' := [none, some (.ref (zr Z a1)), some (.int x2), some (.int (x3 + 1))]) X dX9_winningMove_45 rfl rfl (by decide) rfl ?_
      refine aw_goto (tgt := 12) X dX9_winningMove_48 (by decide) ?_
      cases h
      refine aw_msk [false, true, true, true] ?_
      exact hi _ rfl
    · rw [if_neg c6] at h
      cases h
      refine aw_msk [false, false, true, true] ?_
      exact (he _ rfl).1 rfl
set_option maxRecDepth 100000 in
set_option maxHeartbeats 4000000 in
theorem so_X9_winningMove_2 {fr : Nat} (hfr : 1 ≤ fr) (Z : AZ) (X : AX Z cX9_winningMove 4 RX9 (some .int) 0 fr) (a1 : Nat) (h1 : IO 0 a1 6) (x2 : Int32) (s : Mem) (q : (Int32 × Mem) ⊕ (Nat × Int32 × Int32 × Mem)) (h : st_X9_winningMove_2 a1 x2 s = some q) (hi : ∀ y : Int32 × Mem, q = .inl y → AW Z y.2 2 [none, some (.ref (zr Z a1)), some (.int y.1), none] []) (he : ∀ b : Nat × Int32 × Int32 × Mem, q = .inr b → (b.1 = 0 → AW Z b.2.2.2 38 [none, none, some (.int b.2.1), some (.int b.2.2.1)] []) ∧ (b.1 = 1 → AW Z b.2.2.2 57 [none, none, none, none] [])) : AW Z s 2 [none, some (.ref (zr Z a1)), some (.int x2), none] [] := by
  unfold st_X9_winningMove_2 at h
  refine aw_iload_n X dX9_winningMove_2 rfl ?_
  refine aw_aload_n X dX9_winningMove_3 rfl ?_
  refine aw_geti X dX9_winningMove_4 fl_RX9_25 h1 (gt_RX7_1 h1) ?_
  refine aw_icmp_ge (tgt := 57) X dX9_winningMove_7 (by decide) (fun c1 => ?_) (fun c1 => ?_)
  · rw [if_pos c1] at h
    cases h
    refine aw_msk [false, false, false, false] ?_
    exact (he _ rfl).2 rfl
  · rw [if_neg c1] at h
    refine aw_iconst (v := 1) X dX9_winningMove_10 (by decide) ?_
    refine aw_istore_n (L' := [none, some (.ref (zr Z a1)), some (.int x2), some (.int 1)]) X dX9_winningMove_11 (by decide) rfl ?_
    obtain ⟨r7, er7, h⟩ := bnd h
    refine aw_msk [false, true, true, true] ?_
    refine it_ok (P := fun y : Int32 × Mem => AW Z y.2 12 [none, some (.ref (zr Z a1)), some (.int x2), some (.int y.1)] []) (Q := fun b : Nat × Int32 × Mem => (b.1 = 0 → AW Z b.2.2 38 [none, none, some (.int x2), some (.int b.2.1)] []) ∧ (b.1 = 1 → AW Z b.2.2 51 [none, some (.ref (zr Z a1)), some (.int x2), none] [])) (fun y q hq hi he => so_X9_winningMove_12 hfr Z X a1 h1 x2 y.1 y.2 q hq hi he) FUEL _ _ er7 ?_
    refine ⟨fun c0 => ?_, fun c1 => ?_⟩
    · rw [if_pos c0] at h
      cases h
      refine aw_msk [false, false, true, true] ?_
      exact (he _ rfl).1 rfl
    · rw [if_neg (by rw [c1]; decide)] at h
      refine aw_iinc (v := (x2 + 1)) (L' := [none, some (.ref (zr Z a1)), some (.int (x2 + 1)), none]) X dX9_winningMove_51 rfl rfl (by decide) rfl ?_
      refine aw_goto (tgt := 2) X dX9_winningMove_54 (by decide) ?_
      cases h
      refine aw_msk [false, true, true, false] ?_
      exact hi _ rfl
set_option maxRecDepth 100000 in
set_option maxHeartbeats 4000000 in
theorem w_X9_winningMove {fr : Nat} (hfr : 1 ≤ fr) (Z : AZ) (X : AX Z cX9_winningMove 4 RX9 (some .int) 0 fr) (a1 : Nat) (h1 : IO 0 a1 6) (s : Mem) (r : Int32 × Mem) (hz : zres Z = (some (.int r.1), r.2)) (h : f_X9_winningMove a1 s = some r) : AW Z s 0 [some (.ref (zr Z 195)), some (.ref (zr Z a1)), none, none] [] := by
  unfold f_X9_winningMove at h
  refine aw_iconst (v := 0) X dX9_winningMove_0 (by decide) ?_
  refine aw_istore_n (L' := [some (.ref (zr Z 195)), some (.ref (zr Z a1)), some (.int 0), none]) X dX9_winningMove_1 (by decide) rfl ?_
  obtain ⟨r8, er8, h⟩ := bnd h
  refine aw_msk [false, true, true, false] ?_
  refine it_ok (P := fun y : Int32 × Mem => AW Z y.2 2 [none, some (.ref (zr Z a1)), some (.int y.1), none] []) (Q := fun b : Nat × Int32 × Int32 × Mem => (b.1 = 0 → AW Z b.2.2.2 38 [none, none, some (.int b.2.1), some (.int b.2.2.1)] []) ∧ (b.1 = 1 → AW Z b.2.2.2 57 [none, none, none, none] [])) (fun y q hq hi he => so_X9_winningMove_2 hfr Z X a1 h1 y.1 y.2 q hq hi he) FUEL _ _ er8 ?_
  refine ⟨fun c0 => ?_, fun c1 => ?_⟩
  · rw [if_pos c0] at h
    refine aw_bipush (v := 100) X dX9_winningMove_38 (by decide) ?_
    refine aw_iload_n X dX9_winningMove_40 rfl ?_
    refine aw_imul X dX9_winningMove_41 ?_
    refine aw_iload_n X dX9_winningMove_42 rfl ?_
    refine aw_iadd X dX9_winningMove_43 ?_
    cases h
    exact aw_iret X dX9_winningMove_44 rfl hz.symm
  · rw [if_neg (by rw [c1]; decide)] at h
    refine aw_iconst (v := (-1)) X dX9_winningMove_57 (by decide) ?_
    cases h
    exact aw_iret X dX9_winningMove_58 rfl hz.symm
set_option maxRecDepth 100000 in
set_option maxHeartbeats 4000000 in
theorem ok_X9_winningMove {a1 : Nat} (h1 : IO 0 a1 6) {s : Mem} {r : Int32 × Mem} (h : f_X9_winningMove a1 s = some r) (l : Launch) (D : va_G) (ρ : Nat → Nat) (cA : ClassId × ClassId × ClassId) (τ : AT) : AM l D ρ cA 0 τ yX9_winningMove cX9_winningMove 4 (some .int) 1 [.ref (ρ 195), .ref (ρ a1)] (some (.int r.1)) s r.2 := by
  refine AM_of (L := [some (.ref (ρ 195)), some (.ref (ρ a1)), none, none]) (by decide) (by simp [Value.category]) (Nat.le_of_ble_eq_true rfl) (fun j v q => ?_) (fun Z X hρ hz => ?_)
  · exact aL_ok (n := 2) [.ref (ρ 195), .ref (ρ a1)] j v q
  · subst hρ
    exact w_X9_winningMove (Nat.le_refl _) Z X a1 h1 s r hz h

theorem dX10_copyFrom_0 : decode cX10_copyFrom 0 = .ok (.aload_n 0, 1) := by decide +kernel
theorem dX10_copyFrom_1 : decode cX10_copyFrom 1 = .ok (.getfield 14, 3) := by decide +kernel
theorem dX10_copyFrom_4 : decode cX10_copyFrom 4 = .ok (.aload_n 1, 1) := by decide +kernel
theorem dX10_copyFrom_5 : decode cX10_copyFrom 5 = .ok (.getfield 14, 3) := by decide +kernel
theorem dX10_copyFrom_8 : decode cX10_copyFrom 8 = .ok (.invokevirtual 55, 3) := by decide +kernel
theorem dX10_copyFrom_11 : decode cX10_copyFrom 11 = .ok (.aload_n 0, 1) := by decide +kernel
theorem dX10_copyFrom_12 : decode cX10_copyFrom 12 = .ok (.getfield 23, 3) := by decide +kernel
theorem dX10_copyFrom_15 : decode cX10_copyFrom 15 = .ok (.aload_n 1, 1) := by decide +kernel
theorem dX10_copyFrom_16 : decode cX10_copyFrom 16 = .ok (.getfield 23, 3) := by decide +kernel
theorem dX10_copyFrom_19 : decode cX10_copyFrom 19 = .ok (.invokevirtual 59, 3) := by decide +kernel
theorem dX10_copyFrom_22 : decode cX10_copyFrom 22 = .ok (.aload_n 0, 1) := by decide +kernel
theorem dX10_copyFrom_23 : decode cX10_copyFrom 23 = .ok (.getfield 30, 3) := by decide +kernel
theorem dX10_copyFrom_26 : decode cX10_copyFrom 26 = .ok (.aload_n 1, 1) := by decide +kernel
theorem dX10_copyFrom_27 : decode cX10_copyFrom 27 = .ok (.getfield 30, 3) := by decide +kernel
theorem dX10_copyFrom_30 : decode cX10_copyFrom 30 = .ok (.invokevirtual 62, 3) := by decide +kernel
theorem dX10_copyFrom_33 : decode cX10_copyFrom 33 = .ok (.aload_n 0, 1) := by decide +kernel
theorem dX10_copyFrom_34 : decode cX10_copyFrom 34 = .ok (.getfield 34, 3) := by decide +kernel
theorem dX10_copyFrom_37 : decode cX10_copyFrom 37 = .ok (.aload_n 1, 1) := by decide +kernel
theorem dX10_copyFrom_38 : decode cX10_copyFrom 38 = .ok (.getfield 34, 3) := by decide +kernel
theorem dX10_copyFrom_41 : decode cX10_copyFrom 41 = .ok (.invokevirtual 62, 3) := by decide +kernel
theorem dX10_copyFrom_44 : decode cX10_copyFrom 44 = .ok (.aload_n 0, 1) := by decide +kernel
theorem dX10_copyFrom_45 : decode cX10_copyFrom 45 = .ok (.getfield 40, 3) := by decide +kernel
theorem dX10_copyFrom_48 : decode cX10_copyFrom 48 = .ok (.aload_n 1, 1) := by decide +kernel
theorem dX10_copyFrom_49 : decode cX10_copyFrom 49 = .ok (.getfield 40, 3) := by decide +kernel
theorem dX10_copyFrom_52 : decode cX10_copyFrom 52 = .ok (.invokevirtual 65, 3) := by decide +kernel
theorem dX10_copyFrom_55 : decode cX10_copyFrom 55 = .ok (.aload_n 0, 1) := by decide +kernel
theorem dX10_copyFrom_56 : decode cX10_copyFrom 56 = .ok (.getfield 47, 3) := by decide +kernel
theorem dX10_copyFrom_59 : decode cX10_copyFrom 59 = .ok (.aload_n 1, 1) := by decide +kernel
theorem dX10_copyFrom_60 : decode cX10_copyFrom 60 = .ok (.getfield 47, 3) := by decide +kernel
theorem dX10_copyFrom_63 : decode cX10_copyFrom 63 = .ok (.invokevirtual 68, 3) := by decide +kernel
theorem dX10_copyFrom_66 : decode cX10_copyFrom 66 = .ok (.aload_n 1, 1) := by decide +kernel
theorem dX10_copyFrom_67 : decode cX10_copyFrom 67 = .ok (.getfield 51, 3) := by decide +kernel
theorem dX10_copyFrom_70 : decode cX10_copyFrom 70 = .ok (.iconst 0, 1) := by decide +kernel
theorem dX10_copyFrom_71 : decode cX10_copyFrom 71 = .ok (.aload_n 0, 1) := by decide +kernel
theorem dX10_copyFrom_72 : decode cX10_copyFrom 72 = .ok (.getfield 51, 3) := by decide +kernel
theorem dX10_copyFrom_75 : decode cX10_copyFrom 75 = .ok (.iconst 0, 1) := by decide +kernel
theorem dX10_copyFrom_76 : decode cX10_copyFrom 76 = .ok (.sipush 600, 3) := by decide +kernel
theorem dX10_copyFrom_79 : decode cX10_copyFrom 79 = .ok (.invokestatic 71, 3) := by decide +kernel
theorem dX10_copyFrom_82 : decode cX10_copyFrom 82 = .ok (.return_, 1) := by decide +kernel
def f_X10_copyFrom (a0 : Nat) (a1 : Nat) (s : Mem) : Option (Mem) :=
  (f_X0_copyFrom (a0 + 1) (a1 + 1) s).bind fun r1 =>
  (f_X1_copyFrom (a0 + 9) (a1 + 9) r1).bind fun r2 =>
  (f_X5_copyFrom (a0 + 16) (a1 + 16) r2).bind fun r3 =>
  (f_X5_copyFrom (a0 + 21) (a1 + 21) r3).bind fun r4 =>
  (f_X3_copyFrom (a0 + 26) (a1 + 26) r4).bind fun r5 =>
  (f_X8_copyFrom (a0 + 31) (a1 + 31) r5).bind fun r6 =>
  (cpy 600 600 r6 (a1 + 56) 0 (a0 + 56) 0 600).bind fun s7 =>
  some s7
set_option maxRecDepth 100000 in
set_option maxHeartbeats 4000000 in
theorem w_X10_copyFrom {fr : Nat} (hfr : 3 ≤ fr) (Z : AZ) (X : AX Z cX10_copyFrom 2 RX10 none 0 fr) (a0 : Nat) (a1 : Nat) (h0 : IO 0 a0 9) (h1 : IO 0 a1 9) (s : Mem) (r : Mem) (hz : zres Z = (none, r)) (h : f_X10_copyFrom a0 a1 s = some r) : AW Z s 0 [some (.ref (zr Z a0)), some (.ref (zr Z a1))] [] := by
  unfold f_X10_copyFrom at h
  refine aw_aload_n X dX10_copyFrom_0 rfl ?_
  refine aw_getr X dX10_copyFrom_1 fl_RX10_14 h0 (gt_RX10_0 h0) ?_
  refine aw_aload_n X dX10_copyFrom_4 rfl ?_
  refine aw_getr X dX10_copyFrom_5 fl_RX10_14 h1 (gt_RX10_0 h1) ?_
  obtain ⟨r1, er1, h⟩ := bnd h
  refine aw_callV X dX10_copyFrom_8 cv_RX10_55 (ok_X0_copyFrom (it_RX10_0 h0) (it_RX10_0 h1) er1 _ _ _ _ _) (it_RX10_0 h0) rfl (Nat.le_trans (by decide) hfr) (by decide) rfl rfl (Nat.le_of_ble_eq_true rfl) ?_
  refine aw_aload_n X dX10_copyFrom_11 rfl ?_
  refine aw_getr X dX10_copyFrom_12 fl_RX10_23 h0 (gt_RX10_1 h0) ?_
  refine aw_aload_n X dX10_copyFrom_15 rfl ?_
  refine aw_getr X dX10_copyFrom_16 fl_RX10_23 h1 (gt_RX10_1 h1) ?_
  obtain ⟨r2, er2, h⟩ := bnd h
  refine aw_callV X dX10_copyFrom_19 cv_RX10_59 (ok_X1_copyFrom (it_RX10_1 h0) (it_RX10_1 h1) er2 _ _ _ _ _) (it_RX10_1 h0) rfl (Nat.le_trans (by decide) hfr) (by decide) rfl rfl (Nat.le_of_ble_eq_true rfl) ?_
  refine aw_aload_n X dX10_copyFrom_22 rfl ?_
  refine aw_getr X dX10_copyFrom_23 fl_RX10_30 h0 (gt_RX10_2 h0) ?_
  refine aw_aload_n X dX10_copyFrom_26 rfl ?_
  refine aw_getr X dX10_copyFrom_27 fl_RX10_30 h1 (gt_RX10_2 h1) ?_
  obtain ⟨r3, er3, h⟩ := bnd h
  refine aw_callV X dX10_copyFrom_30 cv_RX10_62 (ok_X5_copyFrom (it_RX10_2 h0) (it_RX10_2 h1) er3 _ _ _ _ _) (it_RX10_2 h0) rfl (Nat.le_trans (by decide) hfr) (by decide) rfl rfl (Nat.le_of_ble_eq_true rfl) ?_
  refine aw_aload_n X dX10_copyFrom_33 rfl ?_
  refine aw_getr X dX10_copyFrom_34 fl_RX10_34 h0 (gt_RX10_3 h0) ?_
  refine aw_aload_n X dX10_copyFrom_37 rfl ?_
  refine aw_getr X dX10_copyFrom_38 fl_RX10_34 h1 (gt_RX10_3 h1) ?_
  obtain ⟨r4, er4, h⟩ := bnd h
  refine aw_callV X dX10_copyFrom_41 cv_RX10_62 (ok_X5_copyFrom (it_RX10_3 h0) (it_RX10_3 h1) er4 _ _ _ _ _) (it_RX10_3 h0) rfl (Nat.le_trans (by decide) hfr) (by decide) rfl rfl (Nat.le_of_ble_eq_true rfl) ?_
  refine aw_aload_n X dX10_copyFrom_44 rfl ?_
  refine aw_getr X dX10_copyFrom_45 fl_RX10_40 h0 (gt_RX10_4 h0) ?_
  refine aw_aload_n X dX10_copyFrom_48 rfl ?_
  refine aw_getr X dX10_copyFrom_49 fl_RX10_40 h1 (gt_RX10_4 h1) ?_
  obtain ⟨r5, er5, h⟩ := bnd h
  refine aw_callV X dX10_copyFrom_52 cv_RX10_65 (ok_X3_copyFrom (it_RX10_4 h0) (it_RX10_4 h1) er5 _ _ _ _ _) (it_RX10_4 h0) rfl (Nat.le_trans (by decide) hfr) (by decide) rfl rfl (Nat.le_of_ble_eq_true rfl) ?_
  refine aw_aload_n X dX10_copyFrom_55 rfl ?_
  refine aw_getr X dX10_copyFrom_56 fl_RX10_47 h0 (gt_RX10_5 h0) ?_
  refine aw_aload_n X dX10_copyFrom_59 rfl ?_
  refine aw_getr X dX10_copyFrom_60 fl_RX10_47 h1 (gt_RX10_5 h1) ?_
  obtain ⟨r6, er6, h⟩ := bnd h
  refine aw_callV X dX10_copyFrom_63 cv_RX10_68 (ok_X8_copyFrom (it_RX10_5 h0) (it_RX10_5 h1) er6 _ _ _ _ _) (it_RX10_5 h0) rfl (Nat.le_trans (by decide) hfr) (by decide) rfl rfl (Nat.le_of_ble_eq_true rfl) ?_
  refine aw_aload_n X dX10_copyFrom_66 rfl ?_
  refine aw_getr X dX10_copyFrom_67 fl_RX10_51 h1 (gt_RX10_6 h1) ?_
  refine aw_iconst (v := 0) X dX10_copyFrom_70 (by decide) ?_
  refine aw_aload_n X dX10_copyFrom_71 rfl ?_
  refine aw_getr X dX10_copyFrom_72 fl_RX10_51 h0 (gt_RX10_6 h0) ?_
  refine aw_iconst (v := 0) X dX10_copyFrom_75 (by decide) ?_
  refine aw_sipush (v := 600) X dX10_copyFrom_76 (by decide) ?_
  obtain ⟨s7, es7, h⟩ := bnd h
  refine aw_copy X (Nat.le_trans (by decide) hfr) dX10_copyFrom_79 ac_RX10_71 rfl (it_RX10_6 h1) (it_RX10_6 h0) es7 ?_
  cases h
  exact aw_vret X dX10_copyFrom_82 rfl hz.symm
set_option maxRecDepth 100000 in
set_option maxHeartbeats 4000000 in
theorem ok_X10_copyFrom {a0 : Nat} {a1 : Nat} (h0 : IO 0 a0 9) (h1 : IO 0 a1 9) {s : Mem} {r : Mem} (h : f_X10_copyFrom a0 a1 s = some r) (l : Launch) (D : va_G) (ρ : Nat → Nat) (cA : ClassId × ClassId × ClassId) (τ : AT) : AM l D ρ cA 0 τ yX10_copyFrom cX10_copyFrom 2 none 3 [.ref (ρ a0), .ref (ρ a1)] none s r := by
  refine AM_of (L := [some (.ref (ρ a0)), some (.ref (ρ a1))]) (by decide) (by simp [Value.category]) (Nat.le_of_ble_eq_true rfl) (fun j v q => ?_) (fun Z X hρ hz => ?_)
  · exact aL_ok (n := 0) [.ref (ρ a0), .ref (ρ a1)] j v q
  · subst hρ
    exact w_X10_copyFrom (Nat.le_refl _) Z X a0 a1 h0 h1 s r hz h

theorem dX10_write_0 : decode cX10_write 0 = .ok (.aload_n 1, 1) := by decide +kernel
theorem dX10_write_1 : decode cX10_write 1 = .ok (.getfield 159, 3) := by decide +kernel
theorem dX10_write_4 : decode cX10_write 4 = .ok (.ifCond .ne 13, 3) := by decide +kernel
theorem dX10_write_7 : decode cX10_write 7 = .ok (.aload_n 1, 1) := by decide +kernel
theorem dX10_write_8 : decode cX10_write 8 = .ok (.getfield 184, 3) := by decide +kernel
theorem dX10_write_11 : decode cX10_write 11 = .ok (.sipush 150, 3) := by decide +kernel
theorem dX10_write_14 : decode cX10_write 14 = .ok (.if_icmp .lt 4, 3) := by decide +kernel
theorem dX10_write_17 : decode cX10_write 17 = .ok (.return_, 1) := by decide +kernel
theorem dX10_write_18 : decode cX10_write 18 = .ok (.aload_n 1, 1) := by decide +kernel
theorem dX10_write_19 : decode cX10_write 19 = .ok (.getfield 184, 3) := by decide +kernel
theorem dX10_write_22 : decode cX10_write 22 = .ok (.iconst 4, 1) := by decide +kernel
theorem dX10_write_23 : decode cX10_write 23 = .ok (.imul, 1) := by decide +kernel
theorem dX10_write_24 : decode cX10_write 24 = .ok (.istore 5, 2) := by decide +kernel
theorem dX10_write_26 : decode cX10_write 26 = .ok (.aload_n 0, 1) := by decide +kernel
theorem dX10_write_27 : decode cX10_write 27 = .ok (.getfield 51, 3) := by decide +kernel
theorem dX10_write_30 : decode cX10_write 30 = .ok (.iload 5, 2) := by decide +kernel
theorem dX10_write_32 : decode cX10_write 32 = .ok (.aload_n 1, 1) := by decide +kernel
theorem dX10_write_33 : decode cX10_write 33 = .ok (.getfield 84, 3) := by decide +kernel
theorem dX10_write_36 : decode cX10_write 36 = .ok (.iastore, 1) := by decide +kernel
theorem dX10_write_37 : decode cX10_write 37 = .ok (.aload_n 0, 1) := by decide +kernel
theorem dX10_write_38 : decode cX10_write 38 = .ok (.getfield 51, 3) := by decide +kernel
theorem dX10_write_41 : decode cX10_write 41 = .ok (.iload 5, 2) := by decide +kernel
theorem dX10_write_43 : decode cX10_write 43 = .ok (.iconst 1, 1) := by decide +kernel
theorem dX10_write_44 : decode cX10_write 44 = .ok (.iadd, 1) := by decide +kernel
theorem dX10_write_45 : decode cX10_write 45 = .ok (.iload_n 2, 1) := by decide +kernel
theorem dX10_write_46 : decode cX10_write 46 = .ok (.iastore, 1) := by decide +kernel
theorem dX10_write_47 : decode cX10_write 47 = .ok (.aload_n 0, 1) := by decide +kernel
theorem dX10_write_48 : decode cX10_write 48 = .ok (.getfield 51, 3) := by decide +kernel
theorem dX10_write_51 : decode cX10_write 51 = .ok (.iload 5, 2) := by decide +kernel
theorem dX10_write_53 : decode cX10_write 53 = .ok (.iconst 2, 1) := by decide +kernel
theorem dX10_write_54 : decode cX10_write 54 = .ok (.iadd, 1) := by decide +kernel
theorem dX10_write_55 : decode cX10_write 55 = .ok (.iload_n 3, 1) := by decide +kernel
theorem dX10_write_56 : decode cX10_write 56 = .ok (.iastore, 1) := by decide +kernel
theorem dX10_write_57 : decode cX10_write 57 = .ok (.aload_n 0, 1) := by decide +kernel
theorem dX10_write_58 : decode cX10_write 58 = .ok (.getfield 51, 3) := by decide +kernel
theorem dX10_write_61 : decode cX10_write 61 = .ok (.iload 5, 2) := by decide +kernel
theorem dX10_write_63 : decode cX10_write 63 = .ok (.iconst 3, 1) := by decide +kernel
theorem dX10_write_64 : decode cX10_write 64 = .ok (.iadd, 1) := by decide +kernel
theorem dX10_write_65 : decode cX10_write 65 = .ok (.iload 4, 2) := by decide +kernel
theorem dX10_write_67 : decode cX10_write 67 = .ok (.iastore, 1) := by decide +kernel
theorem dX10_write_68 : decode cX10_write 68 = .ok (.aload_n 1, 1) := by decide +kernel
theorem dX10_write_69 : decode cX10_write 69 = .ok (.dup, 1) := by decide +kernel
theorem dX10_write_70 : decode cX10_write 70 = .ok (.getfield 184, 3) := by decide +kernel
theorem dX10_write_73 : decode cX10_write 73 = .ok (.iconst 1, 1) := by decide +kernel
theorem dX10_write_74 : decode cX10_write 74 = .ok (.iadd, 1) := by decide +kernel
theorem dX10_write_75 : decode cX10_write 75 = .ok (.putfield 184, 3) := by decide +kernel
theorem dX10_write_78 : decode cX10_write 78 = .ok (.return_, 1) := by decide +kernel
def f_X10_write (a0 : Nat) (a1 : Nat) (x2 : Int32) (x3 : Int32) (x4 : Int32) (s : Mem) : Option (Mem) :=
  if (s a1 0) = 0 then
  if (s a1 12) < 150 then
  (wr 600 s (a0 + 56) ((s a1 12) * 4) (s a1 10)).bind fun s3 =>
  (wr 600 s3 (a0 + 56) (((s a1 12) * 4) + 1) x2).bind fun s4 =>
  (wr 600 s4 (a0 + 56) (((s a1 12) * 4) + 2) x3).bind fun s5 =>
  (wr 600 s5 (a0 + 56) (((s a1 12) * 4) + 3) x4).bind fun s6 =>
  some (mset s6 a1 12 ((s6 a1 12) + 1))
  else
  some s
  else
  some s
set_option maxRecDepth 100000 in
set_option maxHeartbeats 4000000 in
theorem w_X10_write {fr : Nat} (hfr : 0 ≤ fr) (Z : AZ) (X : AX Z cX10_write 6 RX10 none 0 fr) (a0 : Nat) (a1 : Nat) (h0 : IO 0 a0 9) (h1 : IO 0 a1 0) (x2 : Int32) (x3 : Int32) (x4 : Int32) (s : Mem) (r : Mem) (hz : zres Z = (none, r)) (h : f_X10_write a0 a1 x2 x3 x4 s = some r) : AW Z s 0 [some (.ref (zr Z a0)), some (.ref (zr Z a1)), some (.int x2), some (.int x3), some (.int x4), none] [] := by
  unfold f_X10_write at h
  refine aw_aload_n X dX10_write_0 rfl ?_
  refine aw_geti X dX10_write_1 fl_RX10_159 h1 (gt_RX0_0 h1) ?_
  refine aw_if_ne (tgt := 17) X dX10_write_4 (by decide) (fun c1 => ?_) (fun c1 => ?_)
  · rw [if_neg c1] at h
    cases h
    exact aw_vret X dX10_write_17 rfl hz.symm
  · rw [if_pos c1] at h
    refine aw_aload_n X dX10_write_7 rfl ?_
    refine aw_geti X dX10_write_8 fl_RX10_184 h1 (gt_RX0_12 h1) ?_
    refine aw_sipush (v := 150) X dX10_write_11 (by decide) ?_
    refine aw_icmp_lt (tgt := 18) X dX10_write_14 (by decide) (fun c2 => ?_) (fun c2 => ?_)
    · rw [if_pos c2] at h
      refine aw_aload_n X dX10_write_18 rfl ?_
      refine aw_geti X dX10_write_19 fl_RX10_184 h1 (gt_RX0_12 h1) ?_
      refine aw_iconst (v := 4) X dX10_write_22 (by decide) ?_
      refine aw_imul X dX10_write_23 ?_
      refine aw_istore (L' := [some (.ref (zr Z a0)), some (.ref (zr Z a1)), some (.int x2), some (.int x3), some (.int x4), some (.int ((s a1 12) * 4))]) X dX10_write_24 (by decide) rfl ?_
      refine aw_aload_n X dX10_write_26 rfl ?_
      refine aw_getr X dX10_write_27 fl_RX10_51 h0 (gt_RX10_6 h0) ?_
      refine aw_iload X dX10_write_30 rfl ?_
      refine aw_aload_n X dX10_write_32 rfl ?_
      refine aw_geti X dX10_write_33 fl_RX10_84 h1 (gt_RX0_10 h1) ?_
      obtain ⟨s3, es3, h⟩ := bnd h
      refine aw_iast X dX10_write_36 (it_RX10_6 h0) es3 ?_
      refine aw_aload_n X dX10_write_37 rfl ?_
      refine aw_getr X dX10_write_38 fl_RX10_51 h0 (gt_RX10_6 h0) ?_
      refine aw_iload X dX10_write_41 rfl ?_
      refine aw_iconst (v := 1) X dX10_write_43 (by decide) ?_
      refine aw_iadd X dX10_write_44 ?_
      refine aw_iload_n X dX10_write_45 rfl ?_
      obtain ⟨s4, es4, h⟩ := bnd h
      refine aw_iast X dX10_write_46 (it_RX10_6 h0) es4 ?_
      refine aw_aload_n X dX10_write_47 rfl ?_
      refine aw_getr X dX10_write_48 fl_RX10_51 h0 (gt_RX10_6 h0) ?_
      refine aw_iload X dX10_write_51 rfl ?_
      refine aw_iconst (v := 2) X dX10_write_53 (by decide) ?_
      refine aw_iadd X dX10_write_54 ?_
      refine aw_iload_n X dX10_write_55 rfl ?_
      obtain ⟨s5, es5, h⟩ := bnd h
      refine aw_iast X dX10_write_56 (it_RX10_6 h0) es5 ?_
      refine aw_aload_n X dX10_write_57 rfl ?_
      refine aw_getr X dX10_write_58 fl_RX10_51 h0 (gt_RX10_6 h0) ?_
      refine aw_iload X dX10_write_61 rfl ?_
      refine aw_iconst (v := 3) X dX10_write_63 (by decide) ?_
      refine aw_iadd X dX10_write_64 ?_
      refine aw_iload X dX10_write_65 rfl ?_
      obtain ⟨s6, es6, h⟩ := bnd h
      refine aw_iast X dX10_write_67 (it_RX10_6 h0) es6 ?_
      refine aw_aload_n X dX10_write_68 rfl ?_
      refine aw_dup X dX10_write_69 rfl ?_
      refine aw_geti X dX10_write_70 fl_RX10_184 h1 (gt_RX0_12 h1) ?_
      refine aw_iconst (v := 1) X dX10_write_73 (by decide) ?_
      refine aw_iadd X dX10_write_74 ?_
      refine aw_put X dX10_write_75 fp_RX10_184 h1 (gt_RX0_12 h1) rfl rfl ?_
      cases h
      exact aw_vret X dX10_write_78 rfl hz.symm
    · rw [if_neg c2] at h
      cases h
      exact aw_vret X dX10_write_17 rfl hz.symm
set_option maxRecDepth 100000 in
set_option maxHeartbeats 4000000 in
theorem ok_X10_write {a0 : Nat} {a1 : Nat} (h0 : IO 0 a0 9) (h1 : IO 0 a1 0) {x2 x3 x4 : Int32} {s : Mem} {r : Mem} (h : f_X10_write a0 a1 x2 x3 x4 s = some r) (l : Launch) (D : va_G) (ρ : Nat → Nat) (cA : ClassId × ClassId × ClassId) (τ : AT) : AM l D ρ cA 0 τ yX10_write cX10_write 6 none 0 [.ref (ρ a0), .ref (ρ a1), .int x2, .int x3, .int x4] none s r := by
  refine AM_of (L := [some (.ref (ρ a0)), some (.ref (ρ a1)), some (.int x2), some (.int x3), some (.int x4), none]) (by decide) (by simp [Value.category]) (Nat.le_of_ble_eq_true rfl) (fun j v q => ?_) (fun Z X hρ hz => ?_)
  · exact aL_ok (n := 1) [.ref (ρ a0), .ref (ρ a1), .int x2, .int x3, .int x4] j v q
  · subst hρ
    exact w_X10_write (Nat.le_refl _) Z X a0 a1 h0 h1 x2 x3 x4 s r hz h

theorem dX10_nameOne_0 : decode cX10_nameOne 0 = .ok (.aload_n 1, 1) := by decide +kernel
theorem dX10_nameOne_1 : decode cX10_nameOne 1 = .ok (.getfield 123, 3) := by decide +kernel
theorem dX10_nameOne_4 : decode cX10_nameOne 4 = .ok (.iload_n 3, 1) := by decide +kernel
theorem dX10_nameOne_5 : decode cX10_nameOne 5 = .ok (.dup2, 1) := by decide +kernel
theorem dX10_nameOne_6 : decode cX10_nameOne 6 = .ok (.iaload, 1) := by decide +kernel
theorem dX10_nameOne_7 : decode cX10_nameOne 7 = .ok (.iconst 1, 1) := by decide +kernel
theorem dX10_nameOne_8 : decode cX10_nameOne 8 = .ok (.iadd, 1) := by decide +kernel
theorem dX10_nameOne_9 : decode cX10_nameOne 9 = .ok (.iastore, 1) := by decide +kernel
theorem dX10_nameOne_10 : decode cX10_nameOne 10 = .ok (.aload_n 1, 1) := by decide +kernel
theorem dX10_nameOne_11 : decode cX10_nameOne 11 = .ok (.iload_n 3, 1) := by decide +kernel
theorem dX10_nameOne_12 : decode cX10_nameOne 12 = .ok (.aload_n 1, 1) := by decide +kernel
theorem dX10_nameOne_13 : decode cX10_nameOne 13 = .ok (.getfield 106, 3) := by decide +kernel
theorem dX10_nameOne_16 : decode cX10_nameOne 16 = .ok (.iload_n 3, 1) := by decide +kernel
theorem dX10_nameOne_17 : decode cX10_nameOne 17 = .ok (.iaload, 1) := by decide +kernel
theorem dX10_nameOne_18 : decode cX10_nameOne 18 = .ok (.aload_n 0, 1) := by decide +kernel
theorem dX10_nameOne_19 : decode cX10_nameOne 19 = .ok (.getfield 23, 3) := by decide +kernel
theorem dX10_nameOne_22 : decode cX10_nameOne 22 = .ok (.iconst 0, 1) := by decide +kernel
theorem dX10_nameOne_23 : decode cX10_nameOne 23 = .ok (.aload_n 1, 1) := by decide +kernel
theorem dX10_nameOne_24 : decode cX10_nameOne 24 = .ok (.iload_n 3, 1) := by decide +kernel
theorem dX10_nameOne_25 : decode cX10_nameOne 25 = .ok (.invokevirtual 126, 3) := by decide +kernel
theorem dX10_nameOne_28 : decode cX10_nameOne 28 = .ok (.iadd, 1) := by decide +kernel
theorem dX10_nameOne_29 : decode cX10_nameOne 29 = .ok (.invokevirtual 130, 3) := by decide +kernel
theorem dX10_nameOne_32 : decode cX10_nameOne 32 = .ok (.aload_n 1, 1) := by decide +kernel
theorem dX10_nameOne_33 : decode cX10_nameOne 33 = .ok (.iload_n 3, 1) := by decide +kernel
theorem dX10_nameOne_34 : decode cX10_nameOne 34 = .ok (.iload_n 2, 1) := by decide +kernel
theorem dX10_nameOne_35 : decode cX10_nameOne 35 = .ok (.invokevirtual 134, 3) := by decide +kernel
theorem dX10_nameOne_38 : decode cX10_nameOne 38 = .ok (.aload_n 0, 1) := by decide +kernel
theorem dX10_nameOne_39 : decode cX10_nameOne 39 = .ok (.aload_n 1, 1) := by decide +kernel
theorem dX10_nameOne_40 : decode cX10_nameOne 40 = .ok (.iconst 0, 1) := by decide +kernel
theorem dX10_nameOne_41 : decode cX10_nameOne 41 = .ok (.iload_n 3, 1) := by decide +kernel
theorem dX10_nameOne_42 : decode cX10_nameOne 42 = .ok (.aload_n 1, 1) := by decide +kernel
theorem dX10_nameOne_43 : decode cX10_nameOne 43 = .ok (.getfield 106, 3) := by decide +kernel
theorem dX10_nameOne_46 : decode cX10_nameOne 46 = .ok (.iload_n 3, 1) := by decide +kernel
theorem dX10_nameOne_47 : decode cX10_nameOne 47 = .ok (.iaload, 1) := by decide +kernel
theorem dX10_nameOne_48 : decode cX10_nameOne 48 = .ok (.invokevirtual 137, 3) := by decide +kernel
theorem dX10_nameOne_51 : decode cX10_nameOne 51 = .ok (.return_, 1) := by decide +kernel
def f_X10_nameOne (a0 : Nat) (a1 : Nat) (x2 : Int32) (x3 : Int32) (s : Mem) : Option (Mem) :=
  (rd 14 (s (a1 + 5)) x3).bind fun v1 =>
  (wr 14 s (a1 + 5) x3 (v1 + 1)).bind fun s2 =>
  (rd 14 (s2 (a1 + 2)) x3).bind fun v3 =>
  (f_X1_ask (a0 + 9) a1 0 x3 s2).bind fun r4 =>
  (f_X0_hiccup a1 x3 (v3 + r4.1) r4.2).bind fun r5 =>
  (f_X0_blame a1 x3 x2 r5).bind fun r6 =>
  (rd 14 (r6 (a1 + 2)) x3).bind fun v7 =>
  (f_X10_write a0 a1 0 x3 v7 r6).bind fun r8 =>
  some r8
set_option maxRecDepth 100000 in
set_option maxHeartbeats 4000000 in
theorem w_X10_nameOne {fr : Nat} (hfr : 4 ≤ fr) (Z : AZ) (X : AX Z cX10_nameOne 4 RX10 none 0 fr) (a0 : Nat) (a1 : Nat) (h0 : IO 0 a0 9) (h1 : IO 0 a1 0) (x2 : Int32) (x3 : Int32) (s : Mem) (r : Mem) (hz : zres Z = (none, r)) (h : f_X10_nameOne a0 a1 x2 x3 s = some r) : AW Z s 0 [some (.ref (zr Z a0)), some (.ref (zr Z a1)), some (.int x2), some (.int x3)] [] := by
  unfold f_X10_nameOne at h
  refine aw_aload_n X dX10_nameOne_0 rfl ?_
  refine aw_getr X dX10_nameOne_1 fl_RX10_123 h1 (gt_RX0_6 h1) ?_
  refine aw_iload_n X dX10_nameOne_4 rfl ?_
  refine aw_dup2 X dX10_nameOne_5 rfl rfl ?_
  obtain ⟨v1, ev1, h⟩ := bnd h
  refine aw_iald X dX10_nameOne_6 (it_RX0_6 h1) ev1 ?_
  refine aw_iconst (v := 1) X dX10_nameOne_7 (by decide) ?_
  refine aw_iadd X dX10_nameOne_8 ?_
  obtain ⟨s2, es2, h⟩ := bnd h
  refine aw_iast X dX10_nameOne_9 (it_RX0_6 h1) es2 ?_
  refine aw_aload_n X dX10_nameOne_10 rfl ?_
  refine aw_iload_n X dX10_nameOne_11 rfl ?_
  refine aw_aload_n X dX10_nameOne_12 rfl ?_
  refine aw_getr X dX10_nameOne_13 fl_RX10_106 h1 (gt_RX0_3 h1) ?_
  refine aw_iload_n X dX10_nameOne_16 rfl ?_
  obtain ⟨v3, ev3, h⟩ := bnd h
  refine aw_iald X dX10_nameOne_17 (it_RX0_3 h1) ev3 ?_
  refine aw_aload_n X dX10_nameOne_18 rfl ?_
  refine aw_getr X dX10_nameOne_19 fl_RX10_23 h0 (gt_RX10_1 h0) ?_
  refine aw_iconst (v := 0) X dX10_nameOne_22 (by decide) ?_
  refine aw_aload_n X dX10_nameOne_23 rfl ?_
  refine aw_iload_n X dX10_nameOne_24 rfl ?_
  obtain ⟨r4, er4, h⟩ := bnd h
  refine aw_callV X dX10_nameOne_25 cv_RX10_126 (ok_X1_ask (it_RX10_1 h0) h1 er4 _ _ _ _ _) (it_RX10_1 h0) rfl (Nat.le_trans (by decide) hfr) (by decide) rfl rfl (Nat.le_of_ble_eq_true rfl) ?_
  refine aw_iadd X dX10_nameOne_28 ?_
  obtain ⟨r5, er5, h⟩ := bnd h
  refine aw_callV X dX10_nameOne_29 cv_RX10_130 (ok_X0_hiccup h1 er5 _ _ _ _ _) h1 rfl (Nat.le_trans (by decide) hfr) (by decide) rfl rfl (Nat.le_of_ble_eq_true rfl) ?_
  refine aw_aload_n X dX10_nameOne_32 rfl ?_
  refine aw_iload_n X dX10_nameOne_33 rfl ?_
  refine aw_iload_n X dX10_nameOne_34 rfl ?_
  obtain ⟨r6, er6, h⟩ := bnd h
  refine aw_callV X dX10_nameOne_35 cv_RX10_134 (ok_X0_blame h1 er6 _ _ _ _ _) h1 rfl (Nat.le_trans (by decide) hfr) (by decide) rfl rfl (Nat.le_of_ble_eq_true rfl) ?_
  refine aw_aload_n X dX10_nameOne_38 rfl ?_
  refine aw_aload_n X dX10_nameOne_39 rfl ?_
  refine aw_iconst (v := 0) X dX10_nameOne_40 (by decide) ?_
  refine aw_iload_n X dX10_nameOne_41 rfl ?_
  refine aw_aload_n X dX10_nameOne_42 rfl ?_
  refine aw_getr X dX10_nameOne_43 fl_RX10_106 h1 (gt_RX0_3 h1) ?_
  refine aw_iload_n X dX10_nameOne_46 rfl ?_
  obtain ⟨v7, ev7, h⟩ := bnd h
  refine aw_iald X dX10_nameOne_47 (it_RX0_3 h1) ev7 ?_
  obtain ⟨r8, er8, h⟩ := bnd h
  refine aw_callV X dX10_nameOne_48 cv_RX10_137 (ok_X10_write h0 h1 er8 _ _ _ _ _) h0 rfl (Nat.le_trans (by decide) hfr) (by decide) rfl rfl (Nat.le_of_ble_eq_true rfl) ?_
  cases h
  exact aw_vret X dX10_nameOne_51 rfl hz.symm
set_option maxRecDepth 100000 in
set_option maxHeartbeats 4000000 in
theorem ok_X10_nameOne {a0 : Nat} {a1 : Nat} (h0 : IO 0 a0 9) (h1 : IO 0 a1 0) {x2 x3 : Int32} {s : Mem} {r : Mem} (h : f_X10_nameOne a0 a1 x2 x3 s = some r) (l : Launch) (D : va_G) (ρ : Nat → Nat) (cA : ClassId × ClassId × ClassId) (τ : AT) : AM l D ρ cA 0 τ yX10_nameOne cX10_nameOne 4 none 4 [.ref (ρ a0), .ref (ρ a1), .int x2, .int x3] none s r := by
  refine AM_of (L := [some (.ref (ρ a0)), some (.ref (ρ a1)), some (.int x2), some (.int x3)]) (by decide) (by simp [Value.category]) (Nat.le_of_ble_eq_true rfl) (fun j v q => ?_) (fun Z X hρ hz => ?_)
  · exact aL_ok (n := 0) [.ref (ρ a0), .ref (ρ a1), .int x2, .int x3] j v q
  · subst hρ
    exact w_X10_nameOne (Nat.le_refl _) Z X a0 a1 h0 h1 x2 x3 s r hz h

theorem dX10_frighten_0 : decode cX10_frighten 0 = .ok (.aload_n 1, 1) := by decide +kernel
theorem dX10_frighten_1 : decode cX10_frighten 1 = .ok (.iload_n 2, 1) := by decide +kernel
theorem dX10_frighten_2 : decode cX10_frighten 2 = .ok (.aload_n 1, 1) := by decide +kernel
theorem dX10_frighten_3 : decode cX10_frighten 3 = .ok (.getfield 106, 3) := by decide +kernel
theorem dX10_frighten_6 : decode cX10_frighten 6 = .ok (.iload_n 2, 1) := by decide +kernel
theorem dX10_frighten_7 : decode cX10_frighten 7 = .ok (.iaload, 1) := by decide +kernel
theorem dX10_frighten_8 : decode cX10_frighten 8 = .ok (.iconst 2, 1) := by decide +kernel
theorem dX10_frighten_9 : decode cX10_frighten 9 = .ok (.idiv, 1) := by decide +kernel
theorem dX10_frighten_10 : decode cX10_frighten 10 = .ok (.invokevirtual 130, 3) := by decide +kernel
theorem dX10_frighten_13 : decode cX10_frighten 13 = .ok (.aload_n 1, 1) := by decide +kernel
theorem dX10_frighten_14 : decode cX10_frighten 14 = .ok (.getfield 156, 3) := by decide +kernel
theorem dX10_frighten_17 : decode cX10_frighten 17 = .ok (.iload_n 2, 1) := by decide +kernel
theorem dX10_frighten_18 : decode cX10_frighten 18 = .ok (.dup2, 1) := by decide +kernel
theorem dX10_frighten_19 : decode cX10_frighten 19 = .ok (.iaload, 1) := by decide +kernel
theorem dX10_frighten_20 : decode cX10_frighten 20 = .ok (.iconst 1, 1) := by decide +kernel
theorem dX10_frighten_21 : decode cX10_frighten 21 = .ok (.iadd, 1) := by decide +kernel
theorem dX10_frighten_22 : decode cX10_frighten 22 = .ok (.iastore, 1) := by decide +kernel
theorem dX10_frighten_23 : decode cX10_frighten 23 = .ok (.aload_n 0, 1) := by decide +kernel
theorem dX10_frighten_24 : decode cX10_frighten 24 = .ok (.aload_n 1, 1) := by decide +kernel
theorem dX10_frighten_25 : decode cX10_frighten 25 = .ok (.iconst 5, 1) := by decide +kernel
theorem dX10_frighten_26 : decode cX10_frighten 26 = .ok (.iload_n 2, 1) := by decide +kernel
theorem dX10_frighten_27 : decode cX10_frighten 27 = .ok (.aload_n 1, 1) := by decide +kernel
theorem dX10_frighten_28 : decode cX10_frighten 28 = .ok (.getfield 106, 3) := by decide +kernel
theorem dX10_frighten_31 : decode cX10_frighten 31 = .ok (.iload_n 2, 1) := by decide +kernel
theorem dX10_frighten_32 : decode cX10_frighten 32 = .ok (.iaload, 1) := by decide +kernel
theorem dX10_frighten_33 : decode cX10_frighten 33 = .ok (.invokevirtual 137, 3) := by decide +kernel
theorem dX10_frighten_36 : decode cX10_frighten 36 = .ok (.return_, 1) := by decide +kernel
def f_X10_frighten (a0 : Nat) (a1 : Nat) (x2 : Int32) (s : Mem) : Option (Mem) :=
  (rd 14 (s (a1 + 2)) x2).bind fun v1 =>
  (f_X0_hiccup a1 x2 (v1 / 2) s).bind fun r2 =>
  (rd 14 (r2 (a1 + 7)) x2).bind fun v3 =>
  (wr 14 r2 (a1 + 7) x2 (v3 + 1)).bind fun s4 =>
  (rd 14 (s4 (a1 + 2)) x2).bind fun v5 =>
  (f_X10_write a0 a1 5 x2 v5 s4).bind fun r6 =>
  some r6
set_option maxRecDepth 100000 in
set_option maxHeartbeats 4000000 in
theorem w_X10_frighten {fr : Nat} (hfr : 2 ≤ fr) (Z : AZ) (X : AX Z cX10_frighten 3 RX10 none 0 fr) (a0 : Nat) (a1 : Nat) (h0 : IO 0 a0 9) (h1 : IO 0 a1 0) (x2 : Int32) (s : Mem) (r : Mem) (hz : zres Z = (none, r)) (h : f_X10_frighten a0 a1 x2 s = some r) : AW Z s 0 [some (.ref (zr Z a0)), some (.ref (zr Z a1)), some (.int x2)] [] := by
  unfold f_X10_frighten at h
  refine aw_aload_n X dX10_frighten_0 rfl ?_
  refine aw_iload_n X dX10_frighten_1 rfl ?_
  refine aw_aload_n X dX10_frighten_2 rfl ?_
  refine aw_getr X dX10_frighten_3 fl_RX10_106 h1 (gt_RX0_3 h1) ?_
  refine aw_iload_n X dX10_frighten_6 rfl ?_
  obtain ⟨v1, ev1, h⟩ := bnd h
  refine aw_iald X dX10_frighten_7 (it_RX0_3 h1) ev1 ?_
  refine aw_iconst (v := 2) X dX10_frighten_8 (by decide) ?_
  refine aw_idiv X dX10_frighten_9 (by decide) ?_
  obtain ⟨r2, er2, h⟩ := bnd h
  refine aw_callV X dX10_frighten_10 cv_RX10_130 (ok_X0_hiccup h1 er2 _ _ _ _ _) h1 rfl (Nat.le_trans (by decide) hfr) (by decide) rfl rfl (Nat.le_of_ble_eq_true rfl) ?_
  refine aw_aload_n X dX10_frighten_13 rfl ?_
  refine aw_getr X dX10_frighten_14 fl_RX10_156 h1 (gt_RX0_8 h1) ?_
  refine aw_iload_n X dX10_frighten_17 rfl ?_
  refine aw_dup2 X dX10_frighten_18 rfl rfl ?_
  obtain ⟨v3, ev3, h⟩ := bnd h
  refine aw_iald X dX10_frighten_19 (it_RX0_8 h1) ev3 ?_
  refine aw_iconst (v := 1) X dX10_frighten_20 (by decide) ?_
  refine aw_iadd X dX10_frighten_21 ?_
  obtain ⟨s4, es4, h⟩ := bnd h
  refine aw_iast X dX10_frighten_22 (it_RX0_8 h1) es4 ?_
  refine aw_aload_n X dX10_frighten_23 rfl ?_
  refine aw_aload_n X dX10_frighten_24 rfl ?_
  refine aw_iconst (v := 5) X dX10_frighten_25 (by decide) ?_
  refine aw_iload_n X dX10_frighten_26 rfl ?_
  refine aw_aload_n X dX10_frighten_27 rfl ?_
  refine aw_getr X dX10_frighten_28 fl_RX10_106 h1 (gt_RX0_3 h1) ?_
  refine aw_iload_n X dX10_frighten_31 rfl ?_
  obtain ⟨v5, ev5, h⟩ := bnd h
  refine aw_iald X dX10_frighten_32 (it_RX0_3 h1) ev5 ?_
  obtain ⟨r6, er6, h⟩ := bnd h
  refine aw_callV X dX10_frighten_33 cv_RX10_137 (ok_X10_write h0 h1 er6 _ _ _ _ _) h0 rfl (Nat.le_trans (by decide) hfr) (by decide) rfl rfl (Nat.le_of_ble_eq_true rfl) ?_
  cases h
  exact aw_vret X dX10_frighten_36 rfl hz.symm
set_option maxRecDepth 100000 in
set_option maxHeartbeats 4000000 in
theorem ok_X10_frighten {a0 : Nat} {a1 : Nat} (h0 : IO 0 a0 9) (h1 : IO 0 a1 0) {x2 : Int32} {s : Mem} {r : Mem} (h : f_X10_frighten a0 a1 x2 s = some r) (l : Launch) (D : va_G) (ρ : Nat → Nat) (cA : ClassId × ClassId × ClassId) (τ : AT) : AM l D ρ cA 0 τ yX10_frighten cX10_frighten 3 none 2 [.ref (ρ a0), .ref (ρ a1), .int x2] none s r := by
  refine AM_of (L := [some (.ref (ρ a0)), some (.ref (ρ a1)), some (.int x2)]) (by decide) (by simp [Value.category]) (Nat.le_of_ble_eq_true rfl) (fun j v q => ?_) (fun Z X hρ hz => ?_)
  · exact aL_ok (n := 0) [.ref (ρ a0), .ref (ρ a1), .int x2] j v q
  · subst hρ
    exact w_X10_frighten (Nat.le_refl _) Z X a0 a1 h0 h1 x2 s r hz h

theorem dX10_handOn_0 : decode cX10_handOn 0 = .ok (.aload_n 1, 1) := by decide +kernel
theorem dX10_handOn_1 : decode cX10_handOn 1 = .ok (.getfield 106, 3) := by decide +kernel
theorem dX10_handOn_4 : decode cX10_handOn 4 = .ok (.iload_n 2, 1) := by decide +kernel
theorem dX10_handOn_5 : decode cX10_handOn 5 = .ok (.iaload, 1) := by decide +kernel
theorem dX10_handOn_6 : decode cX10_handOn 6 = .ok (.ifCond .le 41, 3) := by decide +kernel
theorem dX10_handOn_9 : decode cX10_handOn 9 = .ok (.aload_n 1, 1) := by decide +kernel
theorem dX10_handOn_10 : decode cX10_handOn 10 = .ok (.iload_n 3, 1) := by decide +kernel
theorem dX10_handOn_11 : decode cX10_handOn 11 = .ok (.aload_n 1, 1) := by decide +kernel
theorem dX10_handOn_12 : decode cX10_handOn 12 = .ok (.getfield 106, 3) := by decide +kernel
theorem dX10_handOn_15 : decode cX10_handOn 15 = .ok (.iload_n 3, 1) := by decide +kernel
theorem dX10_handOn_16 : decode cX10_handOn 16 = .ok (.iaload, 1) := by decide +kernel
theorem dX10_handOn_17 : decode cX10_handOn 17 = .ok (.aload_n 1, 1) := by decide +kernel
theorem dX10_handOn_18 : decode cX10_handOn 18 = .ok (.getfield 106, 3) := by decide +kernel
theorem dX10_handOn_21 : decode cX10_handOn 21 = .ok (.iload_n 2, 1) := by decide +kernel
theorem dX10_handOn_22 : decode cX10_handOn 22 = .ok (.iaload, 1) := by decide +kernel
theorem dX10_handOn_23 : decode cX10_handOn 23 = .ok (.iadd, 1) := by decide +kernel
theorem dX10_handOn_24 : decode cX10_handOn 24 = .ok (.invokevirtual 130, 3) := by decide +kernel
theorem dX10_handOn_27 : decode cX10_handOn 27 = .ok (.aload_n 1, 1) := by decide +kernel
theorem dX10_handOn_28 : decode cX10_handOn 28 = .ok (.iload_n 3, 1) := by decide +kernel
theorem dX10_handOn_29 : decode cX10_handOn 29 = .ok (.iload_n 2, 1) := by decide +kernel
theorem dX10_handOn_30 : decode cX10_handOn 30 = .ok (.invokevirtual 134, 3) := by decide +kernel
theorem dX10_handOn_33 : decode cX10_handOn 33 = .ok (.aload_n 1, 1) := by decide +kernel
theorem dX10_handOn_34 : decode cX10_handOn 34 = .ok (.iload_n 2, 1) := by decide +kernel
theorem dX10_handOn_35 : decode cX10_handOn 35 = .ok (.iconst 0, 1) := by decide +kernel
theorem dX10_handOn_36 : decode cX10_handOn 36 = .ok (.invokevirtual 130, 3) := by decide +kernel
theorem dX10_handOn_39 : decode cX10_handOn 39 = .ok (.aload_n 0, 1) := by decide +kernel
theorem dX10_handOn_40 : decode cX10_handOn 40 = .ok (.aload_n 1, 1) := by decide +kernel
theorem dX10_handOn_41 : decode cX10_handOn 41 = .ok (.iconst 4, 1) := by decide +kernel
theorem dX10_handOn_42 : decode cX10_handOn 42 = .ok (.iload_n 2, 1) := by decide +kernel
theorem dX10_handOn_43 : decode cX10_handOn 43 = .ok (.iload_n 3, 1) := by decide +kernel
theorem dX10_handOn_44 : decode cX10_handOn 44 = .ok (.invokevirtual 137, 3) := by decide +kernel
theorem dX10_handOn_47 : decode cX10_handOn 47 = .ok (.return_, 1) := by decide +kernel
def f_X10_handOn (a0 : Nat) (a1 : Nat) (x2 : Int32) (x3 : Int32) (s : Mem) : Option (Mem) :=
  (rd 14 (s (a1 + 2)) x2).bind fun v1 =>
  if v1 ≤ 0 then
  some s
  else
  (rd 14 (s (a1 + 2)) x3).bind fun v3 =>
  (rd 14 (s (a1 + 2)) x2).bind fun v4 =>
  (f_X0_hiccup a1 x3 (v3 + v4) s).bind fun r5 =>
  (f_X0_blame a1 x3 x2 r5).bind fun r6 =>
  (f_X0_hiccup a1 x2 0 r6).bind fun r7 =>
  (f_X10_write a0 a1 4 x2 x3 r7).bind fun r8 =>
  some r8
set_option maxRecDepth 100000 in
set_option maxHeartbeats 4000000 in
theorem w_X10_handOn {fr : Nat} (hfr : 2 ≤ fr) (Z : AZ) (X : AX Z cX10_handOn 4 RX10 none 0 fr) (a0 : Nat) (a1 : Nat) (h0 : IO 0 a0 9) (h1 : IO 0 a1 0) (x2 : Int32) (x3 : Int32) (s : Mem) (r : Mem) (hz : zres Z = (none, r)) (h : f_X10_handOn a0 a1 x2 x3 s = some r) : AW Z s 0 [some (.ref (zr Z a0)), some (.ref (zr Z a1)), some (.int x2), some (.int x3)] [] := by
  unfold f_X10_handOn at h
  refine aw_aload_n X dX10_handOn_0 rfl ?_
  refine aw_getr X dX10_handOn_1 fl_RX10_106 h1 (gt_RX0_3 h1) ?_
  refine aw_iload_n X dX10_handOn_4 rfl ?_
  obtain ⟨v1, ev1, h⟩ := bnd h
  refine aw_iald X dX10_handOn_5 (it_RX0_3 h1) ev1 ?_
  refine aw_if_le (tgt := 47) X dX10_handOn_6 (by decide) (fun c2 => ?_) (fun c2 => ?_)
  · rw [if_pos c2] at h
    cases h
    exact aw_vret X dX10_handOn_47 rfl hz.symm
  · rw [if_neg c2] at h
    refine aw_aload_n X dX10_handOn_9 rfl ?_
    refine aw_iload_n X dX10_handOn_10 rfl ?_
    refine aw_aload_n X dX10_handOn_11 rfl ?_
    refine aw_getr X dX10_handOn_12 fl_RX10_106 h1 (gt_RX0_3 h1) ?_
    refine aw_iload_n X dX10_handOn_15 rfl ?_
    obtain ⟨v3, ev3, h⟩ := bnd h
    refine aw_iald X dX10_handOn_16 (it_RX0_3 h1) ev3 ?_
    refine aw_aload_n X dX10_handOn_17 rfl ?_
    refine aw_getr X dX10_handOn_18 fl_RX10_106 h1 (gt_RX0_3 h1) ?_
    refine aw_iload_n X dX10_handOn_21 rfl ?_
    obtain ⟨v4, ev4, h⟩ := bnd h
    refine aw_iald X dX10_handOn_22 (it_RX0_3 h1) ev4 ?_
    refine aw_iadd X dX10_handOn_23 ?_
    obtain ⟨r5, er5, h⟩ := bnd h
    refine aw_callV X dX10_handOn_24 cv_RX10_130 (ok_X0_hiccup h1 er5 _ _ _ _ _) h1 rfl (Nat.le_trans (by decide) hfr) (by decide) rfl rfl (Nat.le_of_ble_eq_true rfl) ?_
    refine aw_aload_n X dX10_handOn_27 rfl ?_
    refine aw_iload_n X dX10_handOn_28 rfl ?_
    refine aw_iload_n X dX10_handOn_29 rfl ?_
    obtain ⟨r6, er6, h⟩ := bnd h
    refine aw_callV X dX10_handOn_30 cv_RX10_134 (ok_X0_blame h1 er6 _ _ _ _ _) h1 rfl (Nat.le_trans (by decide) hfr) (by decide) rfl rfl (Nat.le_of_ble_eq_true rfl) ?_
    refine aw_aload_n X dX10_handOn_33 rfl ?_
    refine aw_iload_n X dX10_handOn_34 rfl ?_
    refine aw_iconst (v := 0) X dX10_handOn_35 (by decide) ?_
    obtain ⟨r7, er7, h⟩ := bnd h
    refine aw_callV X dX10_handOn_36 cv_RX10_130 (ok_X0_hiccup h1 er7 _ _ _ _ _) h1 rfl (Nat.le_trans (by decide) hfr) (by decide) rfl rfl (Nat.le_of_ble_eq_true rfl) ?_
    refine aw_aload_n X dX10_handOn_39 rfl ?_
    refine aw_aload_n X dX10_handOn_40 rfl ?_
    refine aw_iconst (v := 4) X dX10_handOn_41 (by decide) ?_
    refine aw_iload_n X dX10_handOn_42 rfl ?_
    refine aw_iload_n X dX10_handOn_43 rfl ?_
    obtain ⟨r8, er8, h⟩ := bnd h
    refine aw_callV X dX10_handOn_44 cv_RX10_137 (ok_X10_write h0 h1 er8 _ _ _ _ _) h0 rfl (Nat.le_trans (by decide) hfr) (by decide) rfl rfl (Nat.le_of_ble_eq_true rfl) ?_
    cases h
    exact aw_vret X dX10_handOn_47 rfl hz.symm
set_option maxRecDepth 100000 in
set_option maxHeartbeats 4000000 in
theorem ok_X10_handOn {a0 : Nat} {a1 : Nat} (h0 : IO 0 a0 9) (h1 : IO 0 a1 0) {x2 x3 : Int32} {s : Mem} {r : Mem} (h : f_X10_handOn a0 a1 x2 x3 s = some r) (l : Launch) (D : va_G) (ρ : Nat → Nat) (cA : ClassId × ClassId × ClassId) (τ : AT) : AM l D ρ cA 0 τ yX10_handOn cX10_handOn 4 none 2 [.ref (ρ a0), .ref (ρ a1), .int x2, .int x3] none s r := by
  refine AM_of (L := [some (.ref (ρ a0)), some (.ref (ρ a1)), some (.int x2), some (.int x3)]) (by decide) (by simp [Value.category]) (Nat.le_of_ble_eq_true rfl) (fun j v q => ?_) (fun Z X hρ hz => ?_)
  · exact aL_ok (n := 0) [.ref (ρ a0), .ref (ρ a1), .int x2, .int x3] j v q
  · subst hρ
    exact w_X10_handOn (Nat.le_refl _) Z X a0 a1 h0 h1 x2 x3 s r hz h

theorem dX10_cure_0 : decode cX10_cure 0 = .ok (.iload_n 2, 1) := by decide +kernel
theorem dX10_cure_1 : decode cX10_cure 1 = .ok (.tableswitch 64 1 3 #[27, 36, 53], 27) := by decide +kernel
theorem dX10_cure_28 : decode cX10_cure 28 = .ok (.aload_n 0, 1) := by decide +kernel
theorem dX10_cure_29 : decode cX10_cure 29 = .ok (.aload_n 1, 1) := by decide +kernel
theorem dX10_cure_30 : decode cX10_cure 30 = .ok (.iload_n 3, 1) := by decide +kernel
theorem dX10_cure_31 : decode cX10_cure 31 = .ok (.invokevirtual 140, 3) := by decide +kernel
theorem dX10_cure_34 : decode cX10_cure 34 = .ok (.goto 50, 3) := by decide +kernel
theorem dX10_cure_37 : decode cX10_cure 37 = .ok (.aload_n 1, 1) := by decide +kernel
theorem dX10_cure_38 : decode cX10_cure 38 = .ok (.iload_n 3, 1) := by decide +kernel
theorem dX10_cure_39 : decode cX10_cure 39 = .ok (.aload_n 1, 1) := by decide +kernel
theorem dX10_cure_40 : decode cX10_cure 40 = .ok (.getfield 106, 3) := by decide +kernel
theorem dX10_cure_43 : decode cX10_cure 43 = .ok (.iload_n 3, 1) := by decide +kernel
theorem dX10_cure_44 : decode cX10_cure 44 = .ok (.iaload, 1) := by decide +kernel
theorem dX10_cure_45 : decode cX10_cure 45 = .ok (.iload 4, 2) := by decide +kernel
theorem dX10_cure_47 : decode cX10_cure 47 = .ok (.isub, 1) := by decide +kernel
theorem dX10_cure_48 : decode cX10_cure 48 = .ok (.invokevirtual 130, 3) := by decide +kernel
theorem dX10_cure_51 : decode cX10_cure 51 = .ok (.goto 33, 3) := by decide +kernel
theorem dX10_cure_54 : decode cX10_cure 54 = .ok (.aload_n 0, 1) := by decide +kernel
theorem dX10_cure_55 : decode cX10_cure 55 = .ok (.aload_n 1, 1) := by decide +kernel
theorem dX10_cure_56 : decode cX10_cure 56 = .ok (.iload_n 3, 1) := by decide +kernel
theorem dX10_cure_57 : decode cX10_cure 57 = .ok (.iload 4, 2) := by decide +kernel
theorem dX10_cure_59 : decode cX10_cure 59 = .ok (.invokevirtual 144, 3) := by decide +kernel
theorem dX10_cure_62 : decode cX10_cure 62 = .ok (.goto 22, 3) := by decide +kernel
theorem dX10_cure_65 : decode cX10_cure 65 = .ok (.aload_n 1, 1) := by decide +kernel
theorem dX10_cure_66 : decode cX10_cure 66 = .ok (.getfield 147, 3) := by decide +kernel
theorem dX10_cure_69 : decode cX10_cure 69 = .ok (.iload_n 3, 1) := by decide +kernel
theorem dX10_cure_70 : decode cX10_cure 70 = .ok (.bipush 9, 2) := by decide +kernel
theorem dX10_cure_72 : decode cX10_cure 72 = .ok (.aload_n 1, 1) := by decide +kernel
theorem dX10_cure_73 : decode cX10_cure 73 = .ok (.getfield 147, 3) := by decide +kernel
theorem dX10_cure_76 : decode cX10_cure 76 = .ok (.iload_n 3, 1) := by decide +kernel
theorem dX10_cure_77 : decode cX10_cure 77 = .ok (.iaload, 1) := by decide +kernel
theorem dX10_cure_78 : decode cX10_cure 78 = .ok (.iconst 1, 1) := by decide +kernel
theorem dX10_cure_79 : decode cX10_cure 79 = .ok (.iadd, 1) := by decide +kernel
theorem dX10_cure_80 : decode cX10_cure 80 = .ok (.invokestatic 150, 3) := by decide +kernel
theorem dX10_cure_83 : decode cX10_cure 83 = .ok (.iastore, 1) := by decide +kernel
theorem dX10_cure_84 : decode cX10_cure 84 = .ok (.return_, 1) := by decide +kernel
def f_X10_cure (a0 : Nat) (a1 : Nat) (x2 : Int32) (x3 : Int32) (x4 : Int32) (s : Mem) : Option (Mem) :=
  if x2 = 1 then
  (f_X10_frighten a0 a1 x3 s).bind fun r2 =>
  some r2
  else if x2 = 2 then
  (rd 14 (s (a1 + 2)) x3).bind fun v4 =>
  (f_X0_hiccup a1 x3 (v4 - x4) s).bind fun r5 =>
  some r5
  else if x2 = 3 then
  (f_X10_handOn a0 a1 x3 x4 s).bind fun r7 =>
  some r7
  else 
  (rd 14 (s (a1 + 1)) x3).bind fun v8 =>
  (wr 14 s (a1 + 1) x3 (jmmin 9 (v8 + 1))).bind fun s9 =>
  some s9
set_option maxRecDepth 100000 in
set_option maxHeartbeats 4000000 in
theorem w_X10_cure {fr : Nat} (hfr : 3 ≤ fr) (Z : AZ) (X : AX Z cX10_cure 5 RX10 none 0 fr) (a0 : Nat) (a1 : Nat) (h0 : IO 0 a0 9) (h1 : IO 0 a1 0) (x2 : Int32) (x3 : Int32) (x4 : Int32) (s : Mem) (r : Mem) (hz : zres Z = (none, r)) (h : f_X10_cure a0 a1 x2 x3 x4 s = some r) : AW Z s 0 [some (.ref (zr Z a0)), some (.ref (zr Z a1)), some (.int x2), some (.int x3), some (.int x4)] [] := by
  unfold f_X10_cure at h
  refine aw_iload_n X dX10_cure_0 rfl ?_
  by_cases c1 : x2 = 1
  · rw [if_pos c1] at h
    refine aw_tsw (tgt := 28) X dX10_cure_1 (by rw [c1]; decide) ?_
    refine aw_aload_n X dX10_cure_28 rfl ?_
    refine aw_aload_n X dX10_cure_29 rfl ?_
    refine aw_iload_n X dX10_cure_30 rfl ?_
    obtain ⟨r2, er2, h⟩ := bnd h
    refine aw_callV X dX10_cure_31 cv_RX10_140 (ok_X10_frighten h0 h1 er2 _ _ _ _ _) h0 rfl (Nat.le_trans (by decide) hfr) (by decide) rfl rfl (Nat.le_of_ble_eq_true rfl) ?_
    refine aw_goto (tgt := 84) X dX10_cure_34 (by decide) ?_
    cases h
    exact aw_vret X dX10_cure_84 rfl hz.symm
  rw [if_neg c1] at h
  by_cases c3 : x2 = 2
  · rw [if_pos c3] at h
    refine aw_tsw (tgt := 37) X dX10_cure_1 (by rw [c3]; decide) ?_
    refine aw_aload_n X dX10_cure_37 rfl ?_
    refine aw_iload_n X dX10_cure_38 rfl ?_
    refine aw_aload_n X dX10_cure_39 rfl ?_
    refine aw_getr X dX10_cure_40 fl_RX10_106 h1 (gt_RX0_3 h1) ?_
    refine aw_iload_n X dX10_cure_43 rfl ?_
    obtain ⟨v4, ev4, h⟩ := bnd h
    refine aw_iald X dX10_cure_44 (it_RX0_3 h1) ev4 ?_
    refine aw_iload X dX10_cure_45 rfl ?_
    refine aw_isub X dX10_cure_47 ?_
    obtain ⟨r5, er5, h⟩ := bnd h
    refine aw_callV X dX10_cure_48 cv_RX10_130 (ok_X0_hiccup h1 er5 _ _ _ _ _) h1 rfl (Nat.le_trans (by decide) hfr) (by decide) rfl rfl (Nat.le_of_ble_eq_true rfl) ?_
    refine aw_goto (tgt := 84) X dX10_cure_51 (by decide) ?_
    cases h
    exact aw_vret X dX10_cure_84 rfl hz.symm
  rw [if_neg c3] at h
  by_cases c6 : x2 = 3
  · rw [if_pos c6] at h
    refine aw_tsw (tgt := 54) X dX10_cure_1 (by rw [c6]; decide) ?_
    refine aw_aload_n X dX10_cure_54 rfl ?_
    refine aw_aload_n X dX10_cure_55 rfl ?_
    refine aw_iload_n X dX10_cure_56 rfl ?_
    refine aw_iload X dX10_cure_57 rfl ?_
    obtain ⟨r7, er7, h⟩ := bnd h
    refine aw_callV X dX10_cure_59 cv_RX10_144 (ok_X10_handOn h0 h1 er7 _ _ _ _ _) h0 rfl (Nat.le_trans (by decide) hfr) (by decide) rfl rfl (Nat.le_of_ble_eq_true rfl) ?_
    refine aw_goto (tgt := 84) X dX10_cure_62 (by decide) ?_
    cases h
    exact aw_vret X dX10_cure_84 rfl hz.symm
  rw [if_neg c6] at h
  refine aw_tswd (tgt := 65) X dX10_cure_1 (by decide) (fun z h1 h2 => ?_) ?_
  · have hz9 : z = 1 ∨ z = 2 ∨ z = 3 := by omega
    rcases hz9 with rfl | rfl | rfl
    · exact c1
    · exact c3
    · exact c6
  refine aw_aload_n X dX10_cure_65 rfl ?_
  refine aw_getr X dX10_cure_66 fl_RX10_147 h1 (gt_RX0_2 h1) ?_
  refine aw_iload_n X dX10_cure_69 rfl ?_
  refine aw_bipush (v := 9) X dX10_cure_70 (by decide) ?_
  refine aw_aload_n X dX10_cure_72 rfl ?_
  refine aw_getr X dX10_cure_73 fl_RX10_147 h1 (gt_RX0_2 h1) ?_
  refine aw_iload_n X dX10_cure_76 rfl ?_
  obtain ⟨v8, ev8, h⟩ := bnd h
  refine aw_iald X dX10_cure_77 (it_RX0_2 h1) ev8 ?_
  refine aw_iconst (v := 1) X dX10_cure_78 (by decide) ?_
  refine aw_iadd X dX10_cure_79 ?_
  refine aw_mmin X (Nat.le_trans (by decide) hfr) dX10_cure_80 mc_RX10_150 rfl ?_
  obtain ⟨s9, es9, h⟩ := bnd h
  refine aw_iast X dX10_cure_83 (it_RX0_2 h1) es9 ?_
  cases h
  exact aw_vret X dX10_cure_84 rfl hz.symm
set_option maxRecDepth 100000 in
set_option maxHeartbeats 4000000 in
theorem ok_X10_cure {a0 : Nat} {a1 : Nat} (h0 : IO 0 a0 9) (h1 : IO 0 a1 0) {x2 x3 x4 : Int32} {s : Mem} {r : Mem} (h : f_X10_cure a0 a1 x2 x3 x4 s = some r) (l : Launch) (D : va_G) (ρ : Nat → Nat) (cA : ClassId × ClassId × ClassId) (τ : AT) : AM l D ρ cA 0 τ yX10_cure cX10_cure 5 none 3 [.ref (ρ a0), .ref (ρ a1), .int x2, .int x3, .int x4] none s r := by
  refine AM_of (L := [some (.ref (ρ a0)), some (.ref (ρ a1)), some (.int x2), some (.int x3), some (.int x4)]) (by decide) (by simp [Value.category]) (Nat.le_of_ble_eq_true rfl) (fun j v q => ?_) (fun Z X hρ hz => ?_)
  · exact aL_ok (n := 0) [.ref (ρ a0), .ref (ρ a1), .int x2, .int x3, .int x4] j v q
  · subst hρ
    exact w_X10_cure (Nat.le_refl _) Z X a0 a1 h0 h1 x2 x3 x4 s r hz h

theorem dX10_stops_0 : decode cX10_stops 0 = .ok (.aload_n 0, 1) := by decide +kernel
theorem dX10_stops_1 : decode cX10_stops 1 = .ok (.getfield 23, 3) := by decide +kernel
theorem dX10_stops_4 : decode cX10_stops 4 = .ok (.iconst 1, 1) := by decide +kernel
theorem dX10_stops_5 : decode cX10_stops 5 = .ok (.aload_n 1, 1) := by decide +kernel
theorem dX10_stops_6 : decode cX10_stops 6 = .ok (.iload_n 2, 1) := by decide +kernel
theorem dX10_stops_7 : decode cX10_stops 7 = .ok (.invokevirtual 126, 3) := by decide +kernel
theorem dX10_stops_10 : decode cX10_stops 10 = .ok (.istore_n 3, 1) := by decide +kernel
theorem dX10_stops_11 : decode cX10_stops 11 = .ok (.aload_n 1, 1) := by decide +kernel
theorem dX10_stops_12 : decode cX10_stops 12 = .ok (.getfield 159, 3) := by decide +kernel
theorem dX10_stops_15 : decode cX10_stops 15 = .ok (.ifCond .eq 18, 3) := by decide +kernel
theorem dX10_stops_18 : decode cX10_stops 18 = .ok (.iload_n 3, 1) := by decide +kernel
theorem dX10_stops_19 : decode cX10_stops 19 = .ok (.sipush 500, 3) := by decide +kernel
theorem dX10_stops_22 : decode cX10_stops 22 = .ok (.if_icmp .lt 7, 3) := by decide +kernel
theorem dX10_stops_25 : decode cX10_stops 25 = .ok (.iconst 1, 1) := by decide +kernel
theorem dX10_stops_26 : decode cX10_stops 26 = .ok (.goto 27, 3) := by decide +kernel
theorem dX10_stops_29 : decode cX10_stops 29 = .ok (.iconst 0, 1) := by decide +kernel
theorem dX10_stops_30 : decode cX10_stops 30 = .ok (.goto 23, 3) := by decide +kernel
theorem dX10_stops_33 : decode cX10_stops 33 = .ok (.iload_n 3, 1) := by decide +kernel
theorem dX10_stops_34 : decode cX10_stops 34 = .ok (.ifCond .le 18, 3) := by decide +kernel
theorem dX10_stops_37 : decode cX10_stops 37 = .ok (.aload_n 1, 1) := by decide +kernel
theorem dX10_stops_38 : decode cX10_stops 38 = .ok (.sipush 1000, 3) := by decide +kernel
theorem dX10_stops_41 : decode cX10_stops 41 = .ok (.invokevirtual 163, 3) := by decide +kernel
theorem dX10_stops_44 : decode cX10_stops 44 = .ok (.iload_n 3, 1) := by decide +kernel
theorem dX10_stops_45 : decode cX10_stops 45 = .ok (.if_icmp .ge 7, 3) := by decide +kernel
theorem dX10_stops_48 : decode cX10_stops 48 = .ok (.iconst 1, 1) := by decide +kernel
theorem dX10_stops_49 : decode cX10_stops 49 = .ok (.goto 4, 3) := by decide +kernel
theorem dX10_stops_52 : decode cX10_stops 52 = .ok (.iconst 0, 1) := by decide +kernel
theorem dX10_stops_53 : decode cX10_stops 53 = .ok (.istore 4, 2) := by decide +kernel
theorem dX10_stops_55 : decode cX10_stops 55 = .ok (.iload 4, 2) := by decide +kernel
theorem dX10_stops_57 : decode cX10_stops 57 = .ok (.ifCond .eq 22, 3) := by decide +kernel
theorem dX10_stops_60 : decode cX10_stops 60 = .ok (.aload_n 0, 1) := by decide +kernel
theorem dX10_stops_61 : decode cX10_stops 61 = .ok (.aload_n 1, 1) := by decide +kernel
theorem dX10_stops_62 : decode cX10_stops 62 = .ok (.iconst 1, 1) := by decide +kernel
theorem dX10_stops_63 : decode cX10_stops 63 = .ok (.iload_n 2, 1) := by decide +kernel
theorem dX10_stops_64 : decode cX10_stops 64 = .ok (.aload_n 1, 1) := by decide +kernel
theorem dX10_stops_65 : decode cX10_stops 65 = .ok (.getfield 106, 3) := by decide +kernel
theorem dX10_stops_68 : decode cX10_stops 68 = .ok (.iload_n 2, 1) := by decide +kernel
theorem dX10_stops_69 : decode cX10_stops 69 = .ok (.iaload, 1) := by decide +kernel
theorem dX10_stops_70 : decode cX10_stops 70 = .ok (.invokevirtual 137, 3) := by decide +kernel
theorem dX10_stops_73 : decode cX10_stops 73 = .ok (.aload_n 1, 1) := by decide +kernel
theorem dX10_stops_74 : decode cX10_stops 74 = .ok (.iload_n 2, 1) := by decide +kernel
theorem dX10_stops_75 : decode cX10_stops 75 = .ok (.iconst 0, 1) := by decide +kernel
theorem dX10_stops_76 : decode cX10_stops 76 = .ok (.invokevirtual 130, 3) := by decide +kernel
theorem dX10_stops_79 : decode cX10_stops 79 = .ok (.iload 4, 2) := by decide +kernel
theorem dX10_stops_81 : decode cX10_stops 81 = .ok (.ireturn, 1) := by decide +kernel
def jn_X10_stops_53 (a0 : Nat) (a1 : Nat) (x2 : Int32) (t0 : Int32) (s : Mem) : Option (Int32 × Mem) :=
  if t0 = 0 then
  if ¬ (t0 = 0 ∨ t0 = 1) then none else some (t0, s)
  else
  (rd 14 (s (a1 + 2)) x2).bind fun v6 =>
  (f_X10_write a0 a1 1 x2 v6 s).bind fun r7 =>
  (f_X0_hiccup a1 x2 0 r7).bind fun r8 =>
  if ¬ (t0 = 0 ∨ t0 = 1) then none else some (t0, r8)
def jn_X10_stops_52 (a0 : Nat) (a1 : Nat) (x2 : Int32) (s : Mem) : Option (Int32 × Mem) :=
  jn_X10_stops_53 a0 a1 x2 0 s
def f_X10_stops (a0 : Nat) (a1 : Nat) (x2 : Int32) (s : Mem) : Option (Int32 × Mem) :=
  (f_X1_ask (a0 + 9) a1 1 x2 s).bind fun r1 =>
  if (r1.2 a1 0) = 0 then
  if r1.1 ≤ 0 then
  jn_X10_stops_52 a0 a1 x2 r1.2
  else
  (f_X0_draw a1 1000 r1.2).bind fun r10 =>
  if r1.1 ≤ r10.1 then
  jn_X10_stops_52 a0 a1 x2 r10.2
  else
  jn_X10_stops_53 a0 a1 x2 1 r10.2
  else
  if r1.1 < 500 then
  jn_X10_stops_53 a0 a1 x2 0 r1.2
  else
  jn_X10_stops_53 a0 a1 x2 1 r1.2
set_option maxRecDepth 100000 in
set_option maxHeartbeats 4000000 in
theorem jo_X10_stops_53 {fr : Nat} (hfr : 4 ≤ fr) (Z : AZ) (X : AX Z cX10_stops 5 RX10 (some .boolean) 0 fr) (a0 : Nat) (a1 : Nat) (h0 : IO 0 a0 9) (h1 : IO 0 a1 0) (x2 : Int32) (t0 : Int32) (s : Mem) (r : Int32 × Mem) (hz : zres Z = (some (.int r.1), r.2)) (h : jn_X10_stops_53 a0 a1 x2 t0 s = some r) : AW Z s 53 [some (.ref (zr Z a0)), some (.ref (zr Z a1)), some (.int x2), none, none] [.int t0] := by
  unfold jn_X10_stops_53 at h
  refine aw_istore (L' := [some (.ref (zr Z a0)), some (.ref (zr Z a1)), some (.int x2), none, some (.int t0)]) X dX10_stops_53 (by decide) rfl ?_
  refine aw_iload X dX10_stops_55 rfl ?_
  refine aw_if_eq (tgt := 79) X dX10_stops_57 (by decide) (fun c4 => ?_) (fun c4 => ?_)
  · rw [if_pos c4] at h
    refine aw_iload X dX10_stops_79 rfl ?_
    by_cases c5 : ¬ (t0 = 0 ∨ t0 = 1)
    · rw [if_pos c5] at h
      cases h
    rw [if_neg c5] at h
    cases h
    exact aw_zret X dX10_stops_81 rfl (bz_n (Decidable.of_not_not c5)) hz.symm
  · rw [if_neg c4] at h
    refine aw_aload_n X dX10_stops_60 rfl ?_
    refine aw_aload_n X dX10_stops_61 rfl ?_
    refine aw_iconst (v := 1) X dX10_stops_62 (by decide) ?_
    refine aw_iload_n X dX10_stops_63 rfl ?_
    refine aw_aload_n X dX10_stops_64 rfl ?_
    refine aw_getr X dX10_stops_65 fl_RX10_106 h1 (gt_RX0_3 h1) ?_
    refine aw_iload_n X dX10_stops_68 rfl ?_
    obtain ⟨v6, ev6, h⟩ := bnd h
    refine aw_iald X dX10_stops_69 (it_RX0_3 h1) ev6 ?_
    obtain ⟨r7, er7, h⟩ := bnd h
    refine aw_callV X dX10_stops_70 cv_RX10_137 (ok_X10_write h0 h1 er7 _ _ _ _ _) h0 rfl (Nat.le_trans (by decide) hfr) (by decide) rfl rfl (Nat.le_of_ble_eq_true rfl) ?_
    refine aw_aload_n X dX10_stops_73 rfl ?_
    refine aw_iload_n X dX10_stops_74 rfl ?_
    refine aw_iconst (v := 0) X dX10_stops_75 (by decide) ?_
    obtain ⟨r8, er8, h⟩ := bnd h
    refine aw_callV X dX10_stops_76 cv_RX10_130 (ok_X0_hiccup h1 er8 _ _ _ _ _) h1 rfl (Nat.le_trans (by decide) hfr) (by decide) rfl rfl (Nat.le_of_ble_eq_true rfl) ?_
    refine aw_iload X dX10_stops_79 rfl ?_
    by_cases c9 : ¬ (t0 = 0 ∨ t0 = 1)
    · rw [if_pos c9] at h
      cases h
    rw [if_neg c9] at h
    cases h
    exact aw_zret X dX10_stops_81 rfl (bz_n (Decidable.of_not_not c9)) hz.symm
set_option maxRecDepth 100000 in
set_option maxHeartbeats 4000000 in
theorem jo_X10_stops_52 {fr : Nat} (hfr : 4 ≤ fr) (Z : AZ) (X : AX Z cX10_stops 5 RX10 (some .boolean) 0 fr) (a0 : Nat) (a1 : Nat) (h0 : IO 0 a0 9) (h1 : IO 0 a1 0) (x2 : Int32) (s : Mem) (r : Int32 × Mem) (hz : zres Z = (some (.int r.1), r.2)) (h : jn_X10_stops_52 a0 a1 x2 s = some r) : AW Z s 52 [some (.ref (zr Z a0)), some (.ref (zr Z a1)), some (.int x2), none, none] [] := by
  unfold jn_X10_stops_52 at h
  refine aw_iconst (v := 0) X dX10_stops_52 (by decide) ?_
  refine aw_msk [true, true, true, false, false] ?_
  exact jo_X10_stops_53 hfr Z X a0 a1 h0 h1 _ _ _ _ hz h
set_option maxRecDepth 100000 in
set_option maxHeartbeats 4000000 in
theorem w_X10_stops {fr : Nat} (hfr : 4 ≤ fr) (Z : AZ) (X : AX Z cX10_stops 5 RX10 (some .boolean) 0 fr) (a0 : Nat) (a1 : Nat) (h0 : IO 0 a0 9) (h1 : IO 0 a1 0) (x2 : Int32) (s : Mem) (r : Int32 × Mem) (hz : zres Z = (some (.int r.1), r.2)) (h : f_X10_stops a0 a1 x2 s = some r) : AW Z s 0 [some (.ref (zr Z a0)), some (.ref (zr Z a1)), some (.int x2), none, none] [] := by
  unfold f_X10_stops at h
  refine aw_aload_n X dX10_stops_0 rfl ?_
  refine aw_getr X dX10_stops_1 fl_RX10_23 h0 (gt_RX10_1 h0) ?_
  refine aw_iconst (v := 1) X dX10_stops_4 (by decide) ?_
  refine aw_aload_n X dX10_stops_5 rfl ?_
  refine aw_iload_n X dX10_stops_6 rfl ?_
  obtain ⟨r1, er1, h⟩ := bnd h
  refine aw_callV X dX10_stops_7 cv_RX10_126 (ok_X1_ask (it_RX10_1 h0) h1 er1 _ _ _ _ _) (it_RX10_1 h0) rfl (Nat.le_trans (by decide) hfr) (by decide) rfl rfl (Nat.le_of_ble_eq_true rfl) ?_
  refine aw_istore_n (L' := [some (.ref (zr Z a0)), some (.ref (zr Z a1)), some (.int x2), some (.int r1.1), none]) X dX10_stops_10 (by decide) rfl ?_
  refine aw_aload_n X dX10_stops_11 rfl ?_
  refine aw_geti X dX10_stops_12 fl_RX10_159 h1 (gt_RX0_0 h1) ?_
  refine aw_if_eq (tgt := 33) X dX10_stops_15 (by decide) (fun c2 => ?_) (fun c2 => ?_)
  · rw [if_pos c2] at h
    refine aw_iload_n X dX10_stops_33 rfl ?_
    refine aw_if_le (tgt := 52) X dX10_stops_34 (by decide) (fun c3 => ?_) (fun c3 => ?_)
    · rw [if_pos c3] at h
      refine aw_msk [true, true, true, false, false] ?_
      exact jo_X10_stops_52 hfr Z X a0 a1 h0 h1 _ _ _ hz h
    · rw [if_neg c3] at h
      refine aw_aload_n X dX10_stops_37 rfl ?_
      refine aw_sipush (v := 1000) X dX10_stops_38 (by decide) ?_
      obtain ⟨r10, er10, h⟩ := bnd h
      refine aw_callV X dX10_stops_41 cv_RX10_163 (ok_X0_draw h1 er10 _ _ _ _ _) h1 rfl (Nat.le_trans (by decide) hfr) (by decide) rfl rfl (Nat.le_of_ble_eq_true rfl) ?_
      refine aw_iload_n X dX10_stops_44 rfl ?_
      refine aw_icmp_ge (tgt := 52) X dX10_stops_45 (by decide) (fun c11 => ?_) (fun c11 => ?_)
      · rw [if_pos c11] at h
        refine aw_msk [true, true, true, false, false] ?_
        exact jo_X10_stops_52 hfr Z X a0 a1 h0 h1 _ _ _ hz h
      · rw [if_neg c11] at h
        refine aw_iconst (v := 1) X dX10_stops_48 (by decide) ?_
        refine aw_goto (tgt := 53) X dX10_stops_49 (by decide) ?_
        refine aw_msk [true, true, true, false, false] ?_
        exact jo_X10_stops_53 hfr Z X a0 a1 h0 h1 _ _ _ _ hz h
  · rw [if_neg c2] at h
    refine aw_iload_n X dX10_stops_18 rfl ?_
    refine aw_sipush (v := 500) X dX10_stops_19 (by decide) ?_
    refine aw_icmp_lt (tgt := 29) X dX10_stops_22 (by decide) (fun c12 => ?_) (fun c12 => ?_)
    · rw [if_pos c12] at h
      refine aw_iconst (v := 0) X dX10_stops_29 (by decide) ?_
      refine aw_goto (tgt := 53) X dX10_stops_30 (by decide) ?_
      refine aw_msk [true, true, true, false, false] ?_
      exact jo_X10_stops_53 hfr Z X a0 a1 h0 h1 _ _ _ _ hz h
    · rw [if_neg c12] at h
      refine aw_iconst (v := 1) X dX10_stops_25 (by decide) ?_
      refine aw_goto (tgt := 53) X dX10_stops_26 (by decide) ?_
      refine aw_msk [true, true, true, false, false] ?_
      exact jo_X10_stops_53 hfr Z X a0 a1 h0 h1 _ _ _ _ hz h
set_option maxRecDepth 100000 in
set_option maxHeartbeats 4000000 in
theorem ok_X10_stops {a0 : Nat} {a1 : Nat} (h0 : IO 0 a0 9) (h1 : IO 0 a1 0) {x2 : Int32} {s : Mem} {r : Int32 × Mem} (h : f_X10_stops a0 a1 x2 s = some r) (l : Launch) (D : va_G) (ρ : Nat → Nat) (cA : ClassId × ClassId × ClassId) (τ : AT) : AM l D ρ cA 0 τ yX10_stops cX10_stops 5 (some .boolean) 4 [.ref (ρ a0), .ref (ρ a1), .int x2] (some (.int r.1)) s r.2 := by
  refine AM_of (L := [some (.ref (ρ a0)), some (.ref (ρ a1)), some (.int x2), none, none]) (by decide) (by simp [Value.category]) (Nat.le_of_ble_eq_true rfl) (fun j v q => ?_) (fun Z X hρ hz => ?_)
  · exact aL_ok (n := 2) [.ref (ρ a0), .ref (ρ a1), .int x2] j v q
  · subst hρ
    exact w_X10_stops (Nat.le_refl _) Z X a0 a1 h0 h1 x2 s r hz h
