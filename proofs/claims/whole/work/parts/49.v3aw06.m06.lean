/-! ===== walks: X11_tongues .. X12_wordAt ===== -/
theorem dX11_tongues_0 : decode cX11_tongues 0 = .ok (.iload_n 1, 1) := by decide +kernel
theorem dX11_tongues_1 : decode cX11_tongues 1 = .ok (.iconst 1, 1) := by decide +kernel
theorem dX11_tongues_2 : decode cX11_tongues 2 = .ok (.if_icmp .lt 19, 3) := by decide +kernel
theorem dX11_tongues_5 : decode cX11_tongues 5 = .ok (.iload_n 1, 1) := by decide +kernel
theorem dX11_tongues_6 : decode cX11_tongues 6 = .ok (.sipush 9999, 3) := by decide +kernel
theorem dX11_tongues_9 : decode cX11_tongues 9 = .ok (.if_icmp .gt 12, 3) := by decide +kernel
theorem dX11_tongues_12 : decode cX11_tongues 12 = .ok (.iload_n 3, 1) := by decide +kernel
theorem dX11_tongues_13 : decode cX11_tongues 13 = .ok (.ifCond .lt 8, 3) := by decide +kernel
theorem dX11_tongues_16 : decode cX11_tongues 16 = .ok (.iload_n 3, 1) := by decide +kernel
theorem dX11_tongues_17 : decode cX11_tongues 17 = .ok (.iconst 2, 1) := by decide +kernel
theorem dX11_tongues_18 : decode cX11_tongues 18 = .ok (.if_icmp .le 5, 3) := by decide +kernel
theorem dX11_tongues_21 : decode cX11_tongues 21 = .ok (.iconst (-1), 1) := by decide +kernel
theorem dX11_tongues_22 : decode cX11_tongues 22 = .ok (.ireturn, 1) := by decide +kernel
theorem dX11_tongues_23 : decode cX11_tongues 23 = .ok (.iload_n 3, 1) := by decide +kernel
theorem dX11_tongues_24 : decode cX11_tongues 24 = .ok (.iconst 2, 1) := by decide +kernel
theorem dX11_tongues_25 : decode cX11_tongues 25 = .ok (.if_icmp .ne 8, 3) := by decide +kernel
theorem dX11_tongues_28 : decode cX11_tongues 28 = .ok (.iload_n 1, 1) := by decide +kernel
theorem dX11_tongues_29 : decode cX11_tongues 29 = .ok (.invokestatic 344, 3) := by decide +kernel
theorem dX11_tongues_32 : decode cX11_tongues 32 = .ok (.ireturn, 1) := by decide +kernel
theorem dX11_tongues_33 : decode cX11_tongues 33 = .ok (.iload_n 2, 1) := by decide +kernel
theorem dX11_tongues_34 : decode cX11_tongues 34 = .ok (.iconst 2, 1) := by decide +kernel
theorem dX11_tongues_35 : decode cX11_tongues 35 = .ok (.if_icmp .lt 9, 3) := by decide +kernel
theorem dX11_tongues_38 : decode cX11_tongues 38 = .ok (.iload_n 2, 1) := by decide +kernel
theorem dX11_tongues_39 : decode cX11_tongues 39 = .ok (.bipush 16, 2) := by decide +kernel
theorem dX11_tongues_41 : decode cX11_tongues 41 = .ok (.if_icmp .le 5, 3) := by decide +kernel
theorem dX11_tongues_44 : decode cX11_tongues 44 = .ok (.iconst (-1), 1) := by decide +kernel
theorem dX11_tongues_45 : decode cX11_tongues 45 = .ok (.ireturn, 1) := by decide +kernel
theorem dX11_tongues_46 : decode cX11_tongues 46 = .ok (.iload_n 3, 1) := by decide +kernel
theorem dX11_tongues_47 : decode cX11_tongues 47 = .ok (.ifCond .ne 9, 3) := by decide +kernel
theorem dX11_tongues_50 : decode cX11_tongues 50 = .ok (.iload_n 1, 1) := by decide +kernel
theorem dX11_tongues_51 : decode cX11_tongues 51 = .ok (.iload_n 2, 1) := by decide +kernel
theorem dX11_tongues_52 : decode cX11_tongues 52 = .ok (.invokestatic 347, 3) := by decide +kernel
theorem dX11_tongues_55 : decode cX11_tongues 55 = .ok (.ireturn, 1) := by decide +kernel
theorem dX11_tongues_56 : decode cX11_tongues 56 = .ok (.iload_n 1, 1) := by decide +kernel
theorem dX11_tongues_57 : decode cX11_tongues 57 = .ok (.iload_n 2, 1) := by decide +kernel
theorem dX11_tongues_58 : decode cX11_tongues 58 = .ok (.invokestatic 350, 3) := by decide +kernel
theorem dX11_tongues_61 : decode cX11_tongues 61 = .ok (.ifCond .eq 7, 3) := by decide +kernel
theorem dX11_tongues_64 : decode cX11_tongues 64 = .ok (.iconst 1, 1) := by decide +kernel
theorem dX11_tongues_65 : decode cX11_tongues 65 = .ok (.goto 4, 3) := by decide +kernel
theorem dX11_tongues_68 : decode cX11_tongues 68 = .ok (.iconst 0, 1) := by decide +kernel
theorem dX11_tongues_69 : decode cX11_tongues 69 = .ok (.ireturn, 1) := by decide +kernel
set_option maxRecDepth 100000 in
set_option maxHeartbeats 4000000 in
theorem w_X11_tongues {fr : Nat} (hfr : 2 ≤ fr) (Z : AZ) (X : AX Z cX11_tongues 4 RX11 (some .int) 0 fr) (x1 : Int32) (x2 : Int32) (x3 : Int32) (s : Mem) (r : Int32 × Mem) (hz : zres Z = (some (.int r.1), r.2)) (h : f_X11_tongues x1 x2 x3 s = some r) : AW Z s 0 [some (.ref (zr Z 0)), some (.int x1), some (.int x2), some (.int x3)] [] := by
  unfold f_X11_tongues at h
  refine aw_iload_n X dX11_tongues_0 rfl ?_
  refine aw_iconst (v := 1) X dX11_tongues_1 (by decide) ?_
  refine aw_icmp_lt (tgt := 21) X dX11_tongues_2 (by decide) (fun c1 => ?_) (fun c1 => ?_)
  · rw [if_pos c1] at h
    refine aw_iconst (v := (-1)) X dX11_tongues_21 (by decide) ?_
    cases h
    exact aw_iret X dX11_tongues_22 rfl hz.symm
  · rw [if_neg c1] at h
    refine aw_iload_n X dX11_tongues_5 rfl ?_
    refine aw_sipush (v := 9999) X dX11_tongues_6 (by decide) ?_
    refine aw_icmp_gt (tgt := 21) X dX11_tongues_9 (by decide) (fun c2 => ?_) (fun c2 => ?_)
    · rw [if_pos c2] at h
      refine aw_iconst (v := (-1)) X dX11_tongues_21 (by decide) ?_
      cases h
      exact aw_iret X dX11_tongues_22 rfl hz.symm
    · rw [if_neg c2] at h
      refine aw_iload_n X dX11_tongues_12 rfl ?_
      refine aw_if_lt (tgt := 21) X dX11_tongues_13 (by decide) (fun c3 => ?_) (fun c3 => ?_)
      · rw [if_pos c3] at h
        refine aw_iconst (v := (-1)) X dX11_tongues_21 (by decide) ?_
        cases h
        exact aw_iret X dX11_tongues_22 rfl hz.symm
      · rw [if_neg c3] at h
        refine aw_iload_n X dX11_tongues_16 rfl ?_
        refine aw_iconst (v := 2) X dX11_tongues_17 (by decide) ?_
        refine aw_icmp_le (tgt := 23) X dX11_tongues_18 (by decide) (fun c4 => ?_) (fun c4 => ?_)
        · rw [if_pos c4] at h
          refine aw_iload_n X dX11_tongues_23 rfl ?_
          refine aw_iconst (v := 2) X dX11_tongues_24 (by decide) ?_
          refine aw_icmp_ne (tgt := 33) X dX11_tongues_25 (by decide) (fun c5 => ?_) (fun c5 => ?_)
          · rw [if_neg c5] at h
            refine aw_iload_n X dX11_tongues_33 rfl ?_
            refine aw_iconst (v := 2) X dX11_tongues_34 (by decide) ?_
            refine aw_icmp_lt (tgt := 44) X dX11_tongues_35 (by decide) (fun c6 => ?_) (fun c6 => ?_)
            · rw [if_pos c6] at h
              refine aw_iconst (v := (-1)) X dX11_tongues_44 (by decide) ?_
              cases h
              exact aw_iret X dX11_tongues_45 rfl hz.symm
            · rw [if_neg c6] at h
              refine aw_iload_n X dX11_tongues_38 rfl ?_
              refine aw_bipush (v := 16) X dX11_tongues_39 (by decide) ?_
              refine aw_icmp_le (tgt := 46) X dX11_tongues_41 (by decide) (fun c7 => ?_) (fun c7 => ?_)
              · rw [if_pos c7] at h
                refine aw_iload_n X dX11_tongues_46 rfl ?_
                refine aw_if_ne (tgt := 56) X dX11_tongues_47 (by decide) (fun c8 => ?_) (fun c8 => ?_)
                · rw [if_neg c8] at h
                  refine aw_iload_n X dX11_tongues_56 rfl ?_
                  refine aw_iload_n X dX11_tongues_57 rfl ?_
                  obtain ⟨r9, er9, h⟩ := bnd h
                  refine aw_callS X dX11_tongues_58 cv_RX11_350 (ok_X2_readsAlike er9 _ _ _ _ _) (Nat.le_trans (by decide) hfr) (by decide) rfl rfl (Nat.le_of_ble_eq_true rfl) ?_
                  refine aw_if_eq (tgt := 68) X dX11_tongues_61 (by decide) (fun c10 => ?_) (fun c10 => ?_)
                  · rw [if_pos c10] at h
                    refine aw_iconst (v := 0) X dX11_tongues_68 (by decide) ?_
                    cases h
                    exact aw_iret X dX11_tongues_69 rfl hz.symm
                  · rw [if_neg c10] at h
                    refine aw_iconst (v := 1) X dX11_tongues_64 (by decide) ?_
                    refine aw_goto (tgt := 69) X dX11_tongues_65 (by decide) ?_
                    cases h
                    exact aw_iret X dX11_tongues_69 rfl hz.symm
                · rw [if_pos c8] at h
                  refine aw_iload_n X dX11_tongues_50 rfl ?_
                  refine aw_iload_n X dX11_tongues_51 rfl ?_
                  obtain ⟨r11, er11, h⟩ := bnd h
                  refine aw_callS X dX11_tongues_52 cv_RX11_347 (ok_X2_digitSum er11 _ _ _ _ _) (Nat.le_trans (by decide) hfr) (by decide) rfl rfl (Nat.le_of_ble_eq_true rfl) ?_
                  cases h
                  exact aw_iret X dX11_tongues_55 rfl hz.symm
              · rw [if_neg c7] at h
                refine aw_iconst (v := (-1)) X dX11_tongues_44 (by decide) ?_
                cases h
                exact aw_iret X dX11_tongues_45 rfl hz.symm
          · rw [if_pos c5] at h
            refine aw_iload_n X dX11_tongues_28 rfl ?_
            obtain ⟨r12, er12, h⟩ := bnd h
            refine aw_callS X dX11_tongues_29 cv_RX11_344 (ok_X2_leastAlikeBase er12 _ _ _ _ _) (Nat.le_trans (by decide) hfr) (by decide) rfl rfl (Nat.le_of_ble_eq_true rfl) ?_
            cases h
            exact aw_iret X dX11_tongues_32 rfl hz.symm
        · rw [if_neg c4] at h
          refine aw_iconst (v := (-1)) X dX11_tongues_21 (by decide) ?_
          cases h
          exact aw_iret X dX11_tongues_22 rfl hz.symm
set_option maxRecDepth 100000 in
set_option maxHeartbeats 4000000 in
theorem ok_X11_tongues {x1 x2 x3 : Int32} {s : Mem} {r : Int32 × Mem} (h : f_X11_tongues x1 x2 x3 s = some r) (l : Launch) (D : va_G) (ρ : Nat → Nat) (cA : ClassId × ClassId × ClassId) (τ : AT) : AM l D ρ cA 0 τ yX11_tongues cX11_tongues 4 (some .int) 2 [.ref (ρ 0), .int x1, .int x2, .int x3] (some (.int r.1)) s r.2 := by
  refine AM_of (L := [some (.ref (ρ 0)), some (.int x1), some (.int x2), some (.int x3)]) (by decide) (by simp [Value.category]) (Nat.le_of_ble_eq_true rfl) (fun j v q => ?_) (fun Z X hρ hz hτ => ?_)
  · exact aL_ok (n := 0) [.ref (ρ 0), .int x1, .int x2, .int x3] j v q
  · subst hρ
    subst hτ
    exact w_X11_tongues (Nat.le_refl _) Z X x1 x2 x3 s r hz h

theorem dX11_squares_0 : decode cX11_squares 0 = .ok (.iload_n 1, 1) := by decide +kernel
theorem dX11_squares_1 : decode cX11_squares 1 = .ok (.iconst 1, 1) := by decide +kernel
theorem dX11_squares_2 : decode cX11_squares 2 = .ok (.if_icmp .lt 19, 3) := by decide +kernel
theorem dX11_squares_5 : decode cX11_squares 5 = .ok (.iload_n 1, 1) := by decide +kernel
theorem dX11_squares_6 : decode cX11_squares 6 = .ok (.sipush 9999, 3) := by decide +kernel
theorem dX11_squares_9 : decode cX11_squares 9 = .ok (.if_icmp .gt 12, 3) := by decide +kernel
theorem dX11_squares_12 : decode cX11_squares 12 = .ok (.iload_n 2, 1) := by decide +kernel
theorem dX11_squares_13 : decode cX11_squares 13 = .ok (.ifCond .lt 8, 3) := by decide +kernel
theorem dX11_squares_16 : decode cX11_squares 16 = .ok (.iload_n 2, 1) := by decide +kernel
theorem dX11_squares_17 : decode cX11_squares 17 = .ok (.iconst 1, 1) := by decide +kernel
theorem dX11_squares_18 : decode cX11_squares 18 = .ok (.if_icmp .le 5, 3) := by decide +kernel
theorem dX11_squares_21 : decode cX11_squares 21 = .ok (.iconst (-1), 1) := by decide +kernel
theorem dX11_squares_22 : decode cX11_squares 22 = .ok (.ireturn, 1) := by decide +kernel
theorem dX11_squares_23 : decode cX11_squares 23 = .ok (.iload_n 2, 1) := by decide +kernel
theorem dX11_squares_24 : decode cX11_squares 24 = .ok (.ifCond .ne 10, 3) := by decide +kernel
theorem dX11_squares_27 : decode cX11_squares 27 = .ok (.iload_n 1, 1) := by decide +kernel
theorem dX11_squares_28 : decode cX11_squares 28 = .ok (.invokestatic 353, 3) := by decide +kernel
theorem dX11_squares_31 : decode cX11_squares 31 = .ok (.goto 7, 3) := by decide +kernel
theorem dX11_squares_34 : decode cX11_squares 34 = .ok (.iload_n 1, 1) := by decide +kernel
theorem dX11_squares_35 : decode cX11_squares 35 = .ok (.invokestatic 356, 3) := by decide +kernel
theorem dX11_squares_38 : decode cX11_squares 38 = .ok (.ireturn, 1) := by decide +kernel
set_option maxRecDepth 100000 in
set_option maxHeartbeats 4000000 in
theorem w_X11_squares {fr : Nat} (hfr : 2 ≤ fr) (Z : AZ) (X : AX Z cX11_squares 3 RX11 (some .int) 0 fr) (x1 : Int32) (x2 : Int32) (s : Mem) (r : Int32 × Mem) (hz : zres Z = (some (.int r.1), r.2)) (h : f_X11_squares x1 x2 s = some r) : AW Z s 0 [some (.ref (zr Z 0)), some (.int x1), some (.int x2)] [] := by
  unfold f_X11_squares at h
  refine aw_iload_n X dX11_squares_0 rfl ?_
  refine aw_iconst (v := 1) X dX11_squares_1 (by decide) ?_
  refine aw_icmp_lt (tgt := 21) X dX11_squares_2 (by decide) (fun c1 => ?_) (fun c1 => ?_)
  · rw [if_pos c1] at h
    refine aw_iconst (v := (-1)) X dX11_squares_21 (by decide) ?_
    cases h
    exact aw_iret X dX11_squares_22 rfl hz.symm
  · rw [if_neg c1] at h
    refine aw_iload_n X dX11_squares_5 rfl ?_
    refine aw_sipush (v := 9999) X dX11_squares_6 (by decide) ?_
    refine aw_icmp_gt (tgt := 21) X dX11_squares_9 (by decide) (fun c2 => ?_) (fun c2 => ?_)
    · rw [if_pos c2] at h
      refine aw_iconst (v := (-1)) X dX11_squares_21 (by decide) ?_
      cases h
      exact aw_iret X dX11_squares_22 rfl hz.symm
    · rw [if_neg c2] at h
      refine aw_iload_n X dX11_squares_12 rfl ?_
      refine aw_if_lt (tgt := 21) X dX11_squares_13 (by decide) (fun c3 => ?_) (fun c3 => ?_)
      · rw [if_pos c3] at h
        refine aw_iconst (v := (-1)) X dX11_squares_21 (by decide) ?_
        cases h
        exact aw_iret X dX11_squares_22 rfl hz.symm
      · rw [if_neg c3] at h
        refine aw_iload_n X dX11_squares_16 rfl ?_
        refine aw_iconst (v := 1) X dX11_squares_17 (by decide) ?_
        refine aw_icmp_le (tgt := 23) X dX11_squares_18 (by decide) (fun c4 => ?_) (fun c4 => ?_)
        · rw [if_pos c4] at h
          refine aw_iload_n X dX11_squares_23 rfl ?_
          refine aw_if_ne (tgt := 34) X dX11_squares_24 (by decide) (fun c5 => ?_) (fun c5 => ?_)
          · rw [if_neg c5] at h
            refine aw_iload_n X dX11_squares_34 rfl ?_
            obtain ⟨r6, er6, h⟩ := bnd h
            refine aw_callS X dX11_squares_35 cv_RX11_356 (ok_X2_waysOfTwoSquares er6 _ _ _ _ _) (Nat.le_trans (by decide) hfr) (by decide) rfl rfl (Nat.le_of_ble_eq_true rfl) ?_
            cases h
            exact aw_iret X dX11_squares_38 rfl hz.symm
          · rw [if_pos c5] at h
            refine aw_iload_n X dX11_squares_27 rfl ?_
            obtain ⟨r7, er7, h⟩ := bnd h
            refine aw_callS X dX11_squares_28 cv_RX11_353 (ok_X2_fewestSquares er7 _ _ _ _ _) (Nat.le_trans (by decide) hfr) (by decide) rfl rfl (Nat.le_of_ble_eq_true rfl) ?_
            refine aw_goto (tgt := 38) X dX11_squares_31 (by decide) ?_
            cases h
            exact aw_iret X dX11_squares_38 rfl hz.symm
        · rw [if_neg c4] at h
          refine aw_iconst (v := (-1)) X dX11_squares_21 (by decide) ?_
          cases h
          exact aw_iret X dX11_squares_22 rfl hz.symm
set_option maxRecDepth 100000 in
set_option maxHeartbeats 4000000 in
theorem ok_X11_squares {x1 x2 : Int32} {s : Mem} {r : Int32 × Mem} (h : f_X11_squares x1 x2 s = some r) (l : Launch) (D : va_G) (ρ : Nat → Nat) (cA : ClassId × ClassId × ClassId) (τ : AT) : AM l D ρ cA 0 τ yX11_squares cX11_squares 3 (some .int) 2 [.ref (ρ 0), .int x1, .int x2] (some (.int r.1)) s r.2 := by
  refine AM_of (L := [some (.ref (ρ 0)), some (.int x1), some (.int x2)]) (by decide) (by simp [Value.category]) (Nat.le_of_ble_eq_true rfl) (fun j v q => ?_) (fun Z X hρ hz hτ => ?_)
  · exact aL_ok (n := 0) [.ref (ρ 0), .int x1, .int x2] j v q
  · subst hρ
    subst hτ
    exact w_X11_squares (Nat.le_refl _) Z X x1 x2 s r hz h

theorem dX11_tell_0 : decode cX11_tell 0 = .ok (.iload_n 1, 1) := by decide +kernel
theorem dX11_tell_1 : decode cX11_tell 1 = .ok (.iconst (-1), 1) := by decide +kernel
theorem dX11_tell_2 : decode cX11_tell 2 = .ok (.if_icmp .ne 8, 3) := by decide +kernel
theorem dX11_tell_5 : decode cX11_tell 5 = .ok (.aload_n 0, 1) := by decide +kernel
theorem dX11_tell_6 : decode cX11_tell 6 = .ok (.invokevirtual 232, 3) := by decide +kernel
theorem dX11_tell_9 : decode cX11_tell 9 = .ok (.ireturn, 1) := by decide +kernel
theorem dX11_tell_10 : decode cX11_tell 10 = .ok (.iload_n 1, 1) := by decide +kernel
theorem dX11_tell_11 : decode cX11_tell 11 = .ok (.iload_n 2, 1) := by decide +kernel
theorem dX11_tell_12 : decode cX11_tell 12 = .ok (.if_icmp .lt 15, 3) := by decide +kernel
theorem dX11_tell_15 : decode cX11_tell 15 = .ok (.iload_n 1, 1) := by decide +kernel
theorem dX11_tell_16 : decode cX11_tell 16 = .ok (.iload_n 3, 1) := by decide +kernel
theorem dX11_tell_17 : decode cX11_tell 17 = .ok (.if_icmp .gt 10, 3) := by decide +kernel
theorem dX11_tell_20 : decode cX11_tell 20 = .ok (.aload_n 0, 1) := by decide +kernel
theorem dX11_tell_21 : decode cX11_tell 21 = .ok (.invokevirtual 237, 3) := by decide +kernel
theorem dX11_tell_24 : decode cX11_tell 24 = .ok (.ifCond .eq 7, 3) := by decide +kernel
theorem dX11_tell_27 : decode cX11_tell 27 = .ok (.iconst (-1), 1) := by decide +kernel
theorem dX11_tell_28 : decode cX11_tell 28 = .ok (.goto 8, 3) := by decide +kernel
theorem dX11_tell_31 : decode cX11_tell 31 = .ok (.aload_n 0, 1) := by decide +kernel
theorem dX11_tell_32 : decode cX11_tell 32 = .ok (.iload_n 1, 1) := by decide +kernel
theorem dX11_tell_33 : decode cX11_tell 33 = .ok (.invokevirtual 241, 3) := by decide +kernel
theorem dX11_tell_36 : decode cX11_tell 36 = .ok (.ireturn, 1) := by decide +kernel
set_option maxRecDepth 100000 in
set_option maxHeartbeats 4000000 in
theorem jo_X11_tell_27 {fr : Nat} (hfr : 2 ≤ fr) (Z : AZ) (X : AX Z cX11_tell 4 RX11 (some .int) 0 fr) (a0 : Nat) (h0 : IO 0 a0 6) (s : Mem) (r : Int32 × Mem) (hz : zres Z = (some (.int r.1), r.2)) (h : jn_X11_tell_27 a0 s = some r) : AW Z s 27 [none, none, none, none] [] := by
  unfold jn_X11_tell_27 at h
  refine aw_iconst (v := (-1)) X dX11_tell_27 (by decide) ?_
  refine aw_goto (tgt := 36) X dX11_tell_28 (by decide) ?_
  cases h
  exact aw_iret X dX11_tell_36 rfl hz.symm
set_option maxRecDepth 100000 in
set_option maxHeartbeats 4000000 in
theorem w_X11_tell {fr : Nat} (hfr : 2 ≤ fr) (Z : AZ) (X : AX Z cX11_tell 4 RX11 (some .int) 0 fr) (a0 : Nat) (h0 : IO 0 a0 6) (x1 : Int32) (x2 : Int32) (x3 : Int32) (s : Mem) (r : Int32 × Mem) (hz : zres Z = (some (.int r.1), r.2)) (h : f_X11_tell a0 x1 x2 x3 s = some r) : AW Z s 0 [some (.ref (zr Z a0)), some (.int x1), some (.int x2), some (.int x3)] [] := by
  unfold f_X11_tell at h
  refine aw_iload_n X dX11_tell_0 rfl ?_
  refine aw_iconst (v := (-1)) X dX11_tell_1 (by decide) ?_
  refine aw_icmp_ne (tgt := 10) X dX11_tell_2 (by decide) (fun c1 => ?_) (fun c1 => ?_)
  · rw [if_neg c1] at h
    refine aw_iload_n X dX11_tell_10 rfl ?_
    refine aw_iload_n X dX11_tell_11 rfl ?_
    refine aw_icmp_lt (tgt := 27) X dX11_tell_12 (by decide) (fun c2 => ?_) (fun c2 => ?_)
    · rw [if_pos c2] at h
      refine aw_msk [false, false, false, false] ?_
      exact jo_X11_tell_27 hfr Z X a0 h0 _ _ hz h
    · rw [if_neg c2] at h
      refine aw_iload_n X dX11_tell_15 rfl ?_
      refine aw_iload_n X dX11_tell_16 rfl ?_
      refine aw_icmp_gt (tgt := 27) X dX11_tell_17 (by decide) (fun c3 => ?_) (fun c3 => ?_)
      · rw [if_pos c3] at h
        refine aw_msk [false, false, false, false] ?_
        exact jo_X11_tell_27 hfr Z X a0 h0 _ _ hz h
      · rw [if_neg c3] at h
        refine aw_aload_n X dX11_tell_20 rfl ?_
        obtain ⟨r4, er4, h⟩ := bnd h
        refine aw_callV X dX11_tell_21 cv_RX11_237 (ok_X7_isFull h0 er4 _ _ _ _ _) h0 rfl (Nat.le_trans (by decide) hfr) (by decide) rfl rfl (Nat.le_of_ble_eq_true rfl) ?_
        refine aw_if_eq (tgt := 31) X dX11_tell_24 (by decide) (fun c5 => ?_) (fun c5 => ?_)
        · rw [if_pos c5] at h
          refine aw_aload_n X dX11_tell_31 rfl ?_
          refine aw_iload_n X dX11_tell_32 rfl ?_
          obtain ⟨r6, er6, h⟩ := bnd h
          refine aw_callV X dX11_tell_33 cv_RX11_241 (ok_X7_add h0 er6 _ _ _ _ _) h0 rfl (Nat.le_trans (by decide) hfr) (by decide) rfl rfl (Nat.le_of_ble_eq_true rfl) ?_
          cases h
          exact aw_iret X dX11_tell_36 rfl hz.symm
        · rw [if_neg c5] at h
          refine aw_msk [false, false, false, false] ?_
          exact jo_X11_tell_27 hfr Z X a0 h0 _ _ hz h
  · rw [if_pos c1] at h
    refine aw_aload_n X dX11_tell_5 rfl ?_
    obtain ⟨r7, er7, h⟩ := bnd h
    refine aw_callV X dX11_tell_6 cv_RX11_232 (ok_X7_clear h0 er7 _ _ _ _ _) h0 rfl (Nat.le_trans (by decide) hfr) (by decide) rfl rfl (Nat.le_of_ble_eq_true rfl) ?_
    cases h
    exact aw_iret X dX11_tell_9 rfl hz.symm
set_option maxRecDepth 100000 in
set_option maxHeartbeats 4000000 in
theorem ok_X11_tell {a0 : Nat} (h0 : IO 0 a0 6) {x1 x2 x3 : Int32} {s : Mem} {r : Int32 × Mem} (h : f_X11_tell a0 x1 x2 x3 s = some r) (l : Launch) (D : va_G) (ρ : Nat → Nat) (cA : ClassId × ClassId × ClassId) (τ : AT) : AM l D ρ cA 0 τ yX11_tell cX11_tell 4 (some .int) 2 [.ref (ρ a0), .int x1, .int x2, .int x3] (some (.int r.1)) s r.2 := by
  refine AM_of (L := [some (.ref (ρ a0)), some (.int x1), some (.int x2), some (.int x3)]) (by decide) (by simp [Value.category]) (Nat.le_of_ble_eq_true rfl) (fun j v q => ?_) (fun Z X hρ hz hτ => ?_)
  · exact aL_ok (n := 0) [.ref (ρ a0), .int x1, .int x2, .int x3] j v q
  · subst hρ
    subst hτ
    exact w_X11_tell (Nat.le_refl _) Z X a0 h0 x1 x2 x3 s r hz h

theorem dX11_kin_0 : decode cX11_kin 0 = .ok (.aload_n 0, 1) := by decide +kernel
theorem dX11_kin_1 : decode cX11_kin 1 = .ok (.getfield 10, 3) := by decide +kernel
theorem dX11_kin_4 : decode cX11_kin 4 = .ok (.getfield 222, 3) := by decide +kernel
theorem dX11_kin_7 : decode cX11_kin 7 = .ok (.getfield 359, 3) := by decide +kernel
theorem dX11_kin_10 : decode cX11_kin 10 = .ok (.iload_n 1, 1) := by decide +kernel
theorem dX11_kin_11 : decode cX11_kin 11 = .ok (.iconst 0, 1) := by decide +kernel
theorem dX11_kin_12 : decode cX11_kin 12 = .ok (.bipush 7, 2) := by decide +kernel
theorem dX11_kin_14 : decode cX11_kin 14 = .ok (.invokestatic 362, 3) := by decide +kernel
theorem dX11_kin_17 : decode cX11_kin 17 = .ok (.ireturn, 1) := by decide +kernel
set_option maxRecDepth 100000 in
set_option maxHeartbeats 4000000 in
theorem w_X11_kin {fr : Nat} (hfr : 3 ≤ fr) (Z : AZ) (X : AX Z cX11_kin 2 RX11 (some .int) 0 fr) (x1 : Int32) (s : Mem) (r : Int32 × Mem) (hz : zres Z = (some (.int r.1), r.2)) (h : f_X11_kin x1 s = some r) : AW Z s 0 [some (.ref (zr Z 0)), some (.int x1)] [] := by
  unfold f_X11_kin at h
  refine aw_aload_n X dX11_kin_0 rfl ?_
  refine aw_getr X dX11_kin_1 fl_RX11_10 iu_RX11 gu_RX11_0 ?_
  refine aw_getr X dX11_kin_4 fl_RX11_222 iu_RX11_0 (gt_RX10_5 iu_RX11_0) ?_
  refine aw_getr X dX11_kin_7 fl_RX11_359 (it_RX10_5 iu_RX11_0) (gt_RX8_9 (it_RX10_5 iu_RX11_0)) ?_
  refine aw_iload_n X dX11_kin_10 rfl ?_
  refine aw_iconst (v := 0) X dX11_kin_11 (by decide) ?_
  refine aw_bipush (v := 7) X dX11_kin_12 (by decide) ?_
  obtain ⟨r1, er1, h⟩ := bnd h
  refine aw_callS X dX11_kin_14 cv_RX11_362 (ok_X11_tell (it_RX8_9 (it_RX10_5 iu_RX11_0)) er1 _ _ _ _ _) (Nat.le_trans (by decide) hfr) (by decide) rfl rfl (Nat.le_of_ble_eq_true rfl) ?_
  cases h
  exact aw_iret X dX11_kin_17 rfl hz.symm
set_option maxRecDepth 100000 in
set_option maxHeartbeats 4000000 in
theorem ok_X11_kin {x1 : Int32} {s : Mem} {r : Int32 × Mem} (h : f_X11_kin x1 s = some r) (l : Launch) (D : va_G) (ρ : Nat → Nat) (cA : ClassId × ClassId × ClassId) (τ : AT) : AM l D ρ cA 0 τ yX11_kin cX11_kin 2 (some .int) 3 [.ref (ρ 0), .int x1] (some (.int r.1)) s r.2 := by
  refine AM_of (L := [some (.ref (ρ 0)), some (.int x1)]) (by decide) (by simp [Value.category]) (Nat.le_of_ble_eq_true rfl) (fun j v q => ?_) (fun Z X hρ hz hτ => ?_)
  · exact aL_ok (n := 0) [.ref (ρ 0), .int x1] j v q
  · subst hρ
    subst hτ
    exact w_X11_kin (Nat.le_refl _) Z X x1 s r hz h

theorem dX11_tree_0 : decode cX11_tree 0 = .ok (.aload_n 0, 1) := by decide +kernel
theorem dX11_tree_1 : decode cX11_tree 1 = .ok (.getfield 10, 3) := by decide +kernel
theorem dX11_tree_4 : decode cX11_tree 4 = .ok (.getfield 222, 3) := by decide +kernel
theorem dX11_tree_7 : decode cX11_tree 7 = .ok (.getfield 359, 3) := by decide +kernel
theorem dX11_tree_10 : decode cX11_tree 10 = .ok (.astore 4, 2) := by decide +kernel
theorem dX11_tree_12 : decode cX11_tree 12 = .ok (.aload 4, 2) := by decide +kernel
theorem dX11_tree_14 : decode cX11_tree 14 = .ok (.getfield 248, 3) := by decide +kernel
theorem dX11_tree_17 : decode cX11_tree 17 = .ok (.iconst 1, 1) := by decide +kernel
theorem dX11_tree_18 : decode cX11_tree 18 = .ok (.iadd, 1) := by decide +kernel
theorem dX11_tree_19 : decode cX11_tree 19 = .ok (.istore 5, 2) := by decide +kernel
theorem dX11_tree_21 : decode cX11_tree 21 = .ok (.iload_n 1, 1) := by decide +kernel
theorem dX11_tree_22 : decode cX11_tree 22 = .ok (.ifCond .lt 30, 3) := by decide +kernel
theorem dX11_tree_25 : decode cX11_tree 25 = .ok (.iload_n 1, 1) := by decide +kernel
theorem dX11_tree_26 : decode cX11_tree 26 = .ok (.iload 5, 2) := by decide +kernel
theorem dX11_tree_28 : decode cX11_tree 28 = .ok (.if_icmp .gt 24, 3) := by decide +kernel
theorem dX11_tree_31 : decode cX11_tree 31 = .ok (.iload_n 3, 1) := by decide +kernel
theorem dX11_tree_32 : decode cX11_tree 32 = .ok (.ifCond .lt 20, 3) := by decide +kernel
theorem dX11_tree_35 : decode cX11_tree 35 = .ok (.iload_n 3, 1) := by decide +kernel
theorem dX11_tree_36 : decode cX11_tree 36 = .ok (.iconst 1, 1) := by decide +kernel
theorem dX11_tree_37 : decode cX11_tree 37 = .ok (.if_icmp .gt 15, 3) := by decide +kernel
theorem dX11_tree_40 : decode cX11_tree 40 = .ok (.aload_n 0, 1) := by decide +kernel
theorem dX11_tree_41 : decode cX11_tree 41 = .ok (.getfield 53, 3) := by decide +kernel
theorem dX11_tree_44 : decode cX11_tree 44 = .ok (.aload 4, 2) := by decide +kernel
theorem dX11_tree_46 : decode cX11_tree 46 = .ok (.invokevirtual 366, 3) := by decide +kernel
theorem dX11_tree_49 : decode cX11_tree 49 = .ok (.ifCond .ne 5, 3) := by decide +kernel
theorem dX11_tree_52 : decode cX11_tree 52 = .ok (.iconst (-1), 1) := by decide +kernel
theorem dX11_tree_53 : decode cX11_tree 53 = .ok (.ireturn, 1) := by decide +kernel
theorem dX11_tree_54 : decode cX11_tree 54 = .ok (.iload_n 3, 1) := by decide +kernel
theorem dX11_tree_55 : decode cX11_tree 55 = .ok (.ifCond .ne 16, 3) := by decide +kernel
theorem dX11_tree_58 : decode cX11_tree 58 = .ok (.aload_n 0, 1) := by decide +kernel
theorem dX11_tree_59 : decode cX11_tree 59 = .ok (.getfield 53, 3) := by decide +kernel
theorem dX11_tree_62 : decode cX11_tree 62 = .ok (.iload_n 1, 1) := by decide +kernel
theorem dX11_tree_63 : decode cX11_tree 63 = .ok (.iload 5, 2) := by decide +kernel
theorem dX11_tree_65 : decode cX11_tree 65 = .ok (.iconst 1, 1) := by decide +kernel
theorem dX11_tree_66 : decode cX11_tree 66 = .ok (.iadd, 1) := by decide +kernel
theorem dX11_tree_67 : decode cX11_tree 67 = .ok (.invokevirtual 370, 3) := by decide +kernel
theorem dX11_tree_70 : decode cX11_tree 70 = .ok (.ireturn, 1) := by decide +kernel
theorem dX11_tree_71 : decode cX11_tree 71 = .ok (.iload_n 2, 1) := by decide +kernel
theorem dX11_tree_72 : decode cX11_tree 72 = .ok (.ifCond .lt 9, 3) := by decide +kernel
theorem dX11_tree_75 : decode cX11_tree 75 = .ok (.iload_n 2, 1) := by decide +kernel
theorem dX11_tree_76 : decode cX11_tree 76 = .ok (.iload 5, 2) := by decide +kernel
theorem dX11_tree_78 : decode cX11_tree 78 = .ok (.if_icmp .le 7, 3) := by decide +kernel
theorem dX11_tree_81 : decode cX11_tree 81 = .ok (.iconst (-1), 1) := by decide +kernel
theorem dX11_tree_82 : decode cX11_tree 82 = .ok (.goto 12, 3) := by decide +kernel
theorem dX11_tree_85 : decode cX11_tree 85 = .ok (.aload_n 0, 1) := by decide +kernel
theorem dX11_tree_86 : decode cX11_tree 86 = .ok (.getfield 53, 3) := by decide +kernel
theorem dX11_tree_89 : decode cX11_tree 89 = .ok (.iload_n 1, 1) := by decide +kernel
theorem dX11_tree_90 : decode cX11_tree 90 = .ok (.iload_n 2, 1) := by decide +kernel
theorem dX11_tree_91 : decode cX11_tree 91 = .ok (.invokevirtual 373, 3) := by decide +kernel
theorem dX11_tree_94 : decode cX11_tree 94 = .ok (.ireturn, 1) := by decide +kernel
set_option maxRecDepth 100000 in
set_option maxHeartbeats 4000000 in
theorem jo_X11_tree_81 {fr : Nat} (hfr : 3 ≤ fr) (Z : AZ) (X : AX Z cX11_tree 6 RX11 (some .int) 0 fr) (s : Mem) (r : Int32 × Mem) (hz : zres Z = (some (.int r.1), r.2)) (h : jn_X11_tree_81 s = some r) : AW Z s 81 [none, none, none, none, none, none] [] := by
  unfold jn_X11_tree_81 at h
  refine aw_iconst (v := (-1)) X dX11_tree_81 (by decide) ?_
  refine aw_goto (tgt := 94) X dX11_tree_82 (by decide) ?_
  cases h
  exact aw_iret X dX11_tree_94 rfl hz.symm
set_option maxRecDepth 100000 in
set_option maxHeartbeats 4000000 in
theorem w_X11_tree {fr : Nat} (hfr : 3 ≤ fr) (Z : AZ) (X : AX Z cX11_tree 6 RX11 (some .int) 0 fr) (x1 : Int32) (x2 : Int32) (x3 : Int32) (s : Mem) (r : Int32 × Mem) (hz : zres Z = (some (.int r.1), r.2)) (h : f_X11_tree x1 x2 x3 s = some r) : AW Z s 0 [some (.ref (zr Z 0)), some (.int x1), some (.int x2), some (.int x3), none, none] [] := by
  unfold f_X11_tree at h
  refine aw_aload_n X dX11_tree_0 rfl ?_
  refine aw_getr X dX11_tree_1 fl_RX11_10 iu_RX11 gu_RX11_0 ?_
  refine aw_getr X dX11_tree_4 fl_RX11_222 iu_RX11_0 (gt_RX10_5 iu_RX11_0) ?_
  refine aw_getr X dX11_tree_7 fl_RX11_359 (it_RX10_5 iu_RX11_0) (gt_RX8_9 (it_RX10_5 iu_RX11_0)) ?_
  refine aw_astore (L' := [some (.ref (zr Z 0)), some (.int x1), some (.int x2), some (.int x3), some (.ref (zr Z ((1 + 31) + 19))), none]) X dX11_tree_10 (by decide) rfl ?_
  refine aw_aload X dX11_tree_12 rfl ?_
  refine aw_geti X dX11_tree_14 fl_RX11_248 (it_RX8_9 (it_RX10_5 iu_RX11_0)) (gt_RX7_1 (it_RX8_9 (it_RX10_5 iu_RX11_0))) ?_
  refine aw_iconst (v := 1) X dX11_tree_17 (by decide) ?_
  refine aw_iadd X dX11_tree_18 ?_
  refine aw_istore (L' := [some (.ref (zr Z 0)), some (.int x1), some (.int x2), some (.int x3), some (.ref (zr Z ((1 + 31) + 19))), some (.int ((s ((1 + 31) + 19) 1) + 1))]) X dX11_tree_19 (by decide) rfl ?_
  refine aw_iload_n X dX11_tree_21 rfl ?_
  refine aw_if_lt (tgt := 52) X dX11_tree_22 (by decide) (fun c1 => ?_) (fun c1 => ?_)
  · rw [if_pos c1] at h
    refine aw_iconst (v := (-1)) X dX11_tree_52 (by decide) ?_
    cases h
    exact aw_iret X dX11_tree_53 rfl hz.symm
  · rw [if_neg c1] at h
    refine aw_iload_n X dX11_tree_25 rfl ?_
    refine aw_iload X dX11_tree_26 rfl ?_
    refine aw_icmp_gt (tgt := 52) X dX11_tree_28 (by decide) (fun c2 => ?_) (fun c2 => ?_)
    · rw [if_pos c2] at h
      refine aw_iconst (v := (-1)) X dX11_tree_52 (by decide) ?_
      cases h
      exact aw_iret X dX11_tree_53 rfl hz.symm
    · rw [if_neg c2] at h
      refine aw_iload_n X dX11_tree_31 rfl ?_
      refine aw_if_lt (tgt := 52) X dX11_tree_32 (by decide) (fun c3 => ?_) (fun c3 => ?_)
      · rw [if_pos c3] at h
        refine aw_iconst (v := (-1)) X dX11_tree_52 (by decide) ?_
        cases h
        exact aw_iret X dX11_tree_53 rfl hz.symm
      · rw [if_neg c3] at h
        refine aw_iload_n X dX11_tree_35 rfl ?_
        refine aw_iconst (v := 1) X dX11_tree_36 (by decide) ?_
        refine aw_icmp_gt (tgt := 52) X dX11_tree_37 (by decide) (fun c4 => ?_) (fun c4 => ?_)
        · rw [if_pos c4] at h
          refine aw_iconst (v := (-1)) X dX11_tree_52 (by decide) ?_
          cases h
          exact aw_iret X dX11_tree_53 rfl hz.symm
        · rw [if_neg c4] at h
          refine aw_aload_n X dX11_tree_40 rfl ?_
          refine aw_getr X dX11_tree_41 fl_RX11_53 iu_RX11 gu_RX11_8 ?_
          refine aw_aload X dX11_tree_44 rfl ?_
          obtain ⟨r5, er5, h⟩ := bnd h
          refine aw_callV X dX11_tree_46 cv_RX11_366 (ok_X9_growTree (it_RX8_9 (it_RX10_5 iu_RX11_0)) er5 _ _ _ _ _) iu_RX11_8 rfl (Nat.le_trans (by decide) hfr) (by decide) rfl rfl (Nat.le_of_ble_eq_true rfl) ?_
          refine aw_if_ne (tgt := 54) X dX11_tree_49 (by decide) (fun c6 => ?_) (fun c6 => ?_)
          · rw [if_neg c6] at h
            refine aw_iload_n X dX11_tree_54 rfl ?_
            refine aw_if_ne (tgt := 71) X dX11_tree_55 (by decide) (fun c7 => ?_) (fun c7 => ?_)
            · rw [if_neg c7] at h
              refine aw_iload_n X dX11_tree_71 rfl ?_
              refine aw_if_lt (tgt := 81) X dX11_tree_72 (by decide) (fun c8 => ?_) (fun c8 => ?_)
              · rw [if_pos c8] at h
                refine aw_msk [false, false, false, false, false, false] ?_
                exact jo_X11_tree_81 hfr Z X _ _ hz h
              · rw [if_neg c8] at h
                refine aw_iload_n X dX11_tree_75 rfl ?_
                refine aw_iload X dX11_tree_76 rfl ?_
                refine aw_icmp_le (tgt := 85) X dX11_tree_78 (by decide) (fun c9 => ?_) (fun c9 => ?_)
                · rw [if_pos c9] at h
                  refine aw_aload_n X dX11_tree_85 rfl ?_
                  refine aw_getr X dX11_tree_86 fl_RX11_53 iu_RX11 gu_RX11_8 ?_
                  refine aw_iload_n X dX11_tree_89 rfl ?_
                  refine aw_iload_n X dX11_tree_90 rfl ?_
                  obtain ⟨r10, er10, h⟩ := bnd h
                  refine aw_callV X dX11_tree_91 cv_RX11_373 (ok_X9_joiningsBetween er10 _ _ _ _ _) iu_RX11_8 rfl (Nat.le_trans (by decide) hfr) (by decide) rfl rfl (Nat.le_of_ble_eq_true rfl) ?_
                  cases h
                  exact aw_iret X dX11_tree_94 rfl hz.symm
                · rw [if_neg c9] at h
                  refine aw_msk [false, false, false, false, false, false] ?_
                  exact jo_X11_tree_81 hfr Z X _ _ hz h
            · rw [if_pos c7] at h
              refine aw_aload_n X dX11_tree_58 rfl ?_
              refine aw_getr X dX11_tree_59 fl_RX11_53 iu_RX11 gu_RX11_8 ?_
              refine aw_iload_n X dX11_tree_62 rfl ?_
              refine aw_iload X dX11_tree_63 rfl ?_
              refine aw_iconst (v := 1) X dX11_tree_65 (by decide) ?_
              refine aw_iadd X dX11_tree_66 ?_
              obtain ⟨r11, er11, h⟩ := bnd h
              refine aw_callV X dX11_tree_67 cv_RX11_370 (ok_X9_joinedTo er11 _ _ _ _ _) iu_RX11_8 rfl (Nat.le_trans (by decide) hfr) (by decide) rfl rfl (Nat.le_of_ble_eq_true rfl) ?_
              cases h
              exact aw_iret X dX11_tree_70 rfl hz.symm
          · rw [if_pos c6] at h
            refine aw_iconst (v := (-1)) X dX11_tree_52 (by decide) ?_
            cases h
            exact aw_iret X dX11_tree_53 rfl hz.symm
set_option maxRecDepth 100000 in
set_option maxHeartbeats 4000000 in
theorem ok_X11_tree {x1 x2 x3 : Int32} {s : Mem} {r : Int32 × Mem} (h : f_X11_tree x1 x2 x3 s = some r) (l : Launch) (D : va_G) (ρ : Nat → Nat) (cA : ClassId × ClassId × ClassId) (τ : AT) : AM l D ρ cA 0 τ yX11_tree cX11_tree 6 (some .int) 3 [.ref (ρ 0), .int x1, .int x2, .int x3] (some (.int r.1)) s r.2 := by
  refine AM_of (L := [some (.ref (ρ 0)), some (.int x1), some (.int x2), some (.int x3), none, none]) (by decide) (by simp [Value.category]) (Nat.le_of_ble_eq_true rfl) (fun j v q => ?_) (fun Z X hρ hz hτ => ?_)
  · exact aL_ok (n := 2) [.ref (ρ 0), .int x1, .int x2, .int x3] j v q
  · subst hρ
    subst hτ
    exact w_X11_tree (Nat.le_refl _) Z X x1 x2 x3 s r hz h

theorem dX11_step_0 : decode cX11_step 0 = .ok (.aload_n 0, 1) := by decide +kernel
theorem dX11_step_1 : decode cX11_step 1 = .ok (.getfield 10, 3) := by decide +kernel
theorem dX11_step_4 : decode cX11_step 4 = .ok (.getfield 222, 3) := by decide +kernel
theorem dX11_step_7 : decode cX11_step 7 = .ok (.getfield 376, 3) := by decide +kernel
theorem dX11_step_10 : decode cX11_step 10 = .ok (.iload_n 1, 1) := by decide +kernel
theorem dX11_step_11 : decode cX11_step 11 = .ok (.iconst 1, 1) := by decide +kernel
theorem dX11_step_12 : decode cX11_step 12 = .ok (.bipush 40, 2) := by decide +kernel
theorem dX11_step_14 : decode cX11_step 14 = .ok (.invokestatic 362, 3) := by decide +kernel
theorem dX11_step_17 : decode cX11_step 17 = .ok (.ireturn, 1) := by decide +kernel
set_option maxRecDepth 100000 in
set_option maxHeartbeats 4000000 in
theorem w_X11_step {fr : Nat} (hfr : 3 ≤ fr) (Z : AZ) (X : AX Z cX11_step 2 RX11 (some .int) 0 fr) (x1 : Int32) (s : Mem) (r : Int32 × Mem) (hz : zres Z = (some (.int r.1), r.2)) (h : f_X11_step x1 s = some r) : AW Z s 0 [some (.ref (zr Z 0)), some (.int x1)] [] := by
  unfold f_X11_step at h
  refine aw_aload_n X dX11_step_0 rfl ?_
  refine aw_getr X dX11_step_1 fl_RX11_10 iu_RX11 gu_RX11_0 ?_
  refine aw_getr X dX11_step_4 fl_RX11_222 iu_RX11_0 (gt_RX10_5 iu_RX11_0) ?_
  refine aw_getr X dX11_step_7 fl_RX11_376 (it_RX10_5 iu_RX11_0) (gt_RX8_10 (it_RX10_5 iu_RX11_0)) ?_
  refine aw_iload_n X dX11_step_10 rfl ?_
  refine aw_iconst (v := 1) X dX11_step_11 (by decide) ?_
  refine aw_bipush (v := 40) X dX11_step_12 (by decide) ?_
  obtain ⟨r1, er1, h⟩ := bnd h
  refine aw_callS X dX11_step_14 cv_RX11_362 (ok_X11_tell (it_RX8_10 (it_RX10_5 iu_RX11_0)) er1 _ _ _ _ _) (Nat.le_trans (by decide) hfr) (by decide) rfl rfl (Nat.le_of_ble_eq_true rfl) ?_
  cases h
  exact aw_iret X dX11_step_17 rfl hz.symm
set_option maxRecDepth 100000 in
set_option maxHeartbeats 4000000 in
theorem ok_X11_step {x1 : Int32} {s : Mem} {r : Int32 × Mem} (h : f_X11_step x1 s = some r) (l : Launch) (D : va_G) (ρ : Nat → Nat) (cA : ClassId × ClassId × ClassId) (τ : AT) : AM l D ρ cA 0 τ yX11_step cX11_step 2 (some .int) 3 [.ref (ρ 0), .int x1] (some (.int r.1)) s r.2 := by
  refine AM_of (L := [some (.ref (ρ 0)), some (.int x1)]) (by decide) (by simp [Value.category]) (Nat.le_of_ble_eq_true rfl) (fun j v q => ?_) (fun Z X hρ hz hτ => ?_)
  · exact aL_ok (n := 0) [.ref (ρ 0), .int x1] j v q
  · subst hρ
    subst hτ
    exact w_X11_step (Nat.le_refl _) Z X x1 s r hz h

theorem dX11_stair_0 : decode cX11_stair 0 = .ok (.iload_n 1, 1) := by decide +kernel
theorem dX11_stair_1 : decode cX11_stair 1 = .ok (.ifCond .lt 29, 3) := by decide +kernel
theorem dX11_stair_4 : decode cX11_stair 4 = .ok (.iload_n 1, 1) := by decide +kernel
theorem dX11_stair_5 : decode cX11_stair 5 = .ok (.bipush 40, 2) := by decide +kernel
theorem dX11_stair_7 : decode cX11_stair 7 = .ok (.if_icmp .gt 23, 3) := by decide +kernel
theorem dX11_stair_10 : decode cX11_stair 10 = .ok (.iload_n 2, 1) := by decide +kernel
theorem dX11_stair_11 : decode cX11_stair 11 = .ok (.iconst 1, 1) := by decide +kernel
theorem dX11_stair_12 : decode cX11_stair 12 = .ok (.if_icmp .lt 18, 3) := by decide +kernel
theorem dX11_stair_15 : decode cX11_stair 15 = .ok (.iload_n 2, 1) := by decide +kernel
theorem dX11_stair_16 : decode cX11_stair 16 = .ok (.bipush 6, 2) := by decide +kernel
theorem dX11_stair_18 : decode cX11_stair 18 = .ok (.if_icmp .gt 12, 3) := by decide +kernel
theorem dX11_stair_21 : decode cX11_stair 21 = .ok (.iload_n 3, 1) := by decide +kernel
theorem dX11_stair_22 : decode cX11_stair 22 = .ok (.ifCond .lt 8, 3) := by decide +kernel
theorem dX11_stair_25 : decode cX11_stair 25 = .ok (.iload_n 3, 1) := by decide +kernel
theorem dX11_stair_26 : decode cX11_stair 26 = .ok (.iconst 1, 1) := by decide +kernel
theorem dX11_stair_27 : decode cX11_stair 27 = .ok (.if_icmp .le 5, 3) := by decide +kernel
theorem dX11_stair_30 : decode cX11_stair 30 = .ok (.iconst (-1), 1) := by decide +kernel
theorem dX11_stair_31 : decode cX11_stair 31 = .ok (.ireturn, 1) := by decide +kernel
theorem dX11_stair_32 : decode cX11_stair 32 = .ok (.iload_n 3, 1) := by decide +kernel
theorem dX11_stair_33 : decode cX11_stair 33 = .ok (.ifCond .ne 25, 3) := by decide +kernel
theorem dX11_stair_36 : decode cX11_stair 36 = .ok (.aload_n 0, 1) := by decide +kernel
theorem dX11_stair_37 : decode cX11_stair 37 = .ok (.getfield 53, 3) := by decide +kernel
theorem dX11_stair_40 : decode cX11_stair 40 = .ok (.aload_n 0, 1) := by decide +kernel
theorem dX11_stair_41 : decode cX11_stair 41 = .ok (.getfield 10, 3) := by decide +kernel
theorem dX11_stair_44 : decode cX11_stair 44 = .ok (.getfield 222, 3) := by decide +kernel
theorem dX11_stair_47 : decode cX11_stair 47 = .ok (.getfield 376, 3) := by decide +kernel
theorem dX11_stair_50 : decode cX11_stair 50 = .ok (.iload_n 1, 1) := by decide +kernel
theorem dX11_stair_51 : decode cX11_stair 51 = .ok (.iload_n 2, 1) := by decide +kernel
theorem dX11_stair_52 : decode cX11_stair 52 = .ok (.invokevirtual 379, 3) := by decide +kernel
theorem dX11_stair_55 : decode cX11_stair 55 = .ok (.goto 22, 3) := by decide +kernel
theorem dX11_stair_58 : decode cX11_stair 58 = .ok (.aload_n 0, 1) := by decide +kernel
theorem dX11_stair_59 : decode cX11_stair 59 = .ok (.getfield 53, 3) := by decide +kernel
theorem dX11_stair_62 : decode cX11_stair 62 = .ok (.aload_n 0, 1) := by decide +kernel
theorem dX11_stair_63 : decode cX11_stair 63 = .ok (.getfield 10, 3) := by decide +kernel
theorem dX11_stair_66 : decode cX11_stair 66 = .ok (.getfield 222, 3) := by decide +kernel
theorem dX11_stair_69 : decode cX11_stair 69 = .ok (.getfield 376, 3) := by decide +kernel
theorem dX11_stair_72 : decode cX11_stair 72 = .ok (.iload_n 1, 1) := by decide +kernel
theorem dX11_stair_73 : decode cX11_stair 73 = .ok (.iload_n 2, 1) := by decide +kernel
theorem dX11_stair_74 : decode cX11_stair 74 = .ok (.invokevirtual 383, 3) := by decide +kernel
theorem dX11_stair_77 : decode cX11_stair 77 = .ok (.ireturn, 1) := by decide +kernel
set_option maxRecDepth 100000 in
set_option maxHeartbeats 4000000 in
theorem w_X11_stair {fr : Nat} (hfr : 3 ≤ fr) (Z : AZ) (X : AX Z cX11_stair 4 RX11 (some .int) 0 fr) (x1 : Int32) (x2 : Int32) (x3 : Int32) (s : Mem) (r : Int32 × Mem) (hz : zres Z = (some (.int r.1), r.2)) (h : f_X11_stair x1 x2 x3 s = some r) : AW Z s 0 [some (.ref (zr Z 0)), some (.int x1), some (.int x2), some (.int x3)] [] := by
  unfold f_X11_stair at h
  refine aw_iload_n X dX11_stair_0 rfl ?_
  refine aw_if_lt (tgt := 30) X dX11_stair_1 (by decide) (fun c1 => ?_) (fun c1 => ?_)
  · rw [if_pos c1] at h
    refine aw_iconst (v := (-1)) X dX11_stair_30 (by decide) ?_
    cases h
    exact aw_iret X dX11_stair_31 rfl hz.symm
  · rw [if_neg c1] at h
    refine aw_iload_n X dX11_stair_4 rfl ?_
    refine aw_bipush (v := 40) X dX11_stair_5 (by decide) ?_
    refine aw_icmp_gt (tgt := 30) X dX11_stair_7 (by decide) (fun c2 => ?_) (fun c2 => ?_)
    · rw [if_pos c2] at h
      refine aw_iconst (v := (-1)) X dX11_stair_30 (by decide) ?_
      cases h
      exact aw_iret X dX11_stair_31 rfl hz.symm
    · rw [if_neg c2] at h
      refine aw_iload_n X dX11_stair_10 rfl ?_
      refine aw_iconst (v := 1) X dX11_stair_11 (by decide) ?_
      refine aw_icmp_lt (tgt := 30) X dX11_stair_12 (by decide) (fun c3 => ?_) (fun c3 => ?_)
      · rw [if_pos c3] at h
        refine aw_iconst (v := (-1)) X dX11_stair_30 (by decide) ?_
        cases h
        exact aw_iret X dX11_stair_31 rfl hz.symm
      · rw [if_neg c3] at h
        refine aw_iload_n X dX11_stair_15 rfl ?_
        refine aw_bipush (v := 6) X dX11_stair_16 (by decide) ?_
        refine aw_icmp_gt (tgt := 30) X dX11_stair_18 (by decide) (fun c4 => ?_) (fun c4 => ?_)
        · rw [if_pos c4] at h
          refine aw_iconst (v := (-1)) X dX11_stair_30 (by decide) ?_
          cases h
          exact aw_iret X dX11_stair_31 rfl hz.symm
        · rw [if_neg c4] at h
          refine aw_iload_n X dX11_stair_21 rfl ?_
          refine aw_if_lt (tgt := 30) X dX11_stair_22 (by decide) (fun c5 => ?_) (fun c5 => ?_)
          · rw [if_pos c5] at h
            refine aw_iconst (v := (-1)) X dX11_stair_30 (by decide) ?_
            cases h
            exact aw_iret X dX11_stair_31 rfl hz.symm
          · rw [if_neg c5] at h
            refine aw_iload_n X dX11_stair_25 rfl ?_
            refine aw_iconst (v := 1) X dX11_stair_26 (by decide) ?_
            refine aw_icmp_le (tgt := 32) X dX11_stair_27 (by decide) (fun c6 => ?_) (fun c6 => ?_)
            · rw [if_pos c6] at h
              refine aw_iload_n X dX11_stair_32 rfl ?_
              refine aw_if_ne (tgt := 58) X dX11_stair_33 (by decide) (fun c7 => ?_) (fun c7 => ?_)
              · rw [if_neg c7] at h
                refine aw_aload_n X dX11_stair_58 rfl ?_
                refine aw_getr X dX11_stair_59 fl_RX11_53 iu_RX11 gu_RX11_8 ?_
                refine aw_aload_n X dX11_stair_62 rfl ?_
                refine aw_getr X dX11_stair_63 fl_RX11_10 iu_RX11 gu_RX11_0 ?_
                refine aw_getr X dX11_stair_66 fl_RX11_222 iu_RX11_0 (gt_RX10_5 iu_RX11_0) ?_
                refine aw_getr X dX11_stair_69 fl_RX11_376 (it_RX10_5 iu_RX11_0) (gt_RX8_10 (it_RX10_5 iu_RX11_0)) ?_
                refine aw_iload_n X dX11_stair_72 rfl ?_
                refine aw_iload_n X dX11_stair_73 rfl ?_
                obtain ⟨r8, er8, h⟩ := bnd h
                refine aw_callV X dX11_stair_74 cv_RX11_383 (ok_X9_fewestGoings (it_RX8_10 (it_RX10_5 iu_RX11_0)) er8 _ _ _ _ _) iu_RX11_8 rfl (Nat.le_trans (by decide) hfr) (by decide) rfl rfl (Nat.le_of_ble_eq_true rfl) ?_
                cases h
                exact aw_iret X dX11_stair_77 rfl hz.symm
              · rw [if_pos c7] at h
                refine aw_aload_n X dX11_stair_36 rfl ?_
                refine aw_getr X dX11_stair_37 fl_RX11_53 iu_RX11 gu_RX11_8 ?_
                refine aw_aload_n X dX11_stair_40 rfl ?_
                refine aw_getr X dX11_stair_41 fl_RX11_10 iu_RX11 gu_RX11_0 ?_
                refine aw_getr X dX11_stair_44 fl_RX11_222 iu_RX11_0 (gt_RX10_5 iu_RX11_0) ?_
                refine aw_getr X dX11_stair_47 fl_RX11_376 (it_RX10_5 iu_RX11_0) (gt_RX8_10 (it_RX10_5 iu_RX11_0)) ?_
                refine aw_iload_n X dX11_stair_50 rfl ?_
                refine aw_iload_n X dX11_stair_51 rfl ?_
                obtain ⟨r9, er9, h⟩ := bnd h
                refine aw_callV X dX11_stair_52 cv_RX11_379 (ok_X9_waysUp (it_RX8_10 (it_RX10_5 iu_RX11_0)) er9 _ _ _ _ _) iu_RX11_8 rfl (Nat.le_trans (by decide) hfr) (by decide) rfl rfl (Nat.le_of_ble_eq_true rfl) ?_
                refine aw_goto (tgt := 77) X dX11_stair_55 (by decide) ?_
                cases h
                exact aw_iret X dX11_stair_77 rfl hz.symm
            · rw [if_neg c6] at h
              refine aw_iconst (v := (-1)) X dX11_stair_30 (by decide) ?_
              cases h
              exact aw_iret X dX11_stair_31 rfl hz.symm
set_option maxRecDepth 100000 in
set_option maxHeartbeats 4000000 in
theorem ok_X11_stair {x1 x2 x3 : Int32} {s : Mem} {r : Int32 × Mem} (h : f_X11_stair x1 x2 x3 s = some r) (l : Launch) (D : va_G) (ρ : Nat → Nat) (cA : ClassId × ClassId × ClassId) (τ : AT) : AM l D ρ cA 0 τ yX11_stair cX11_stair 4 (some .int) 3 [.ref (ρ 0), .int x1, .int x2, .int x3] (some (.int r.1)) s r.2 := by
  refine AM_of (L := [some (.ref (ρ 0)), some (.int x1), some (.int x2), some (.int x3)]) (by decide) (by simp [Value.category]) (Nat.le_of_ble_eq_true rfl) (fun j v q => ?_) (fun Z X hρ hz hτ => ?_)
  · exact aL_ok (n := 0) [.ref (ρ 0), .int x1, .int x2, .int x3] j v q
  · subst hρ
    subst hτ
    exact w_X11_stair (Nat.le_refl _) Z X x1 x2 x3 s r hz h

theorem dX11_heap_0 : decode cX11_heap 0 = .ok (.aload_n 0, 1) := by decide +kernel
theorem dX11_heap_1 : decode cX11_heap 1 = .ok (.getfield 10, 3) := by decide +kernel
theorem dX11_heap_4 : decode cX11_heap 4 = .ok (.getfield 222, 3) := by decide +kernel
theorem dX11_heap_7 : decode cX11_heap 7 = .ok (.getfield 386, 3) := by decide +kernel
theorem dX11_heap_10 : decode cX11_heap 10 = .ok (.iload_n 1, 1) := by decide +kernel
theorem dX11_heap_11 : decode cX11_heap 11 = .ok (.iconst 0, 1) := by decide +kernel
theorem dX11_heap_12 : decode cX11_heap 12 = .ok (.bipush 15, 2) := by decide +kernel
theorem dX11_heap_14 : decode cX11_heap 14 = .ok (.invokestatic 362, 3) := by decide +kernel
theorem dX11_heap_17 : decode cX11_heap 17 = .ok (.ireturn, 1) := by decide +kernel
set_option maxRecDepth 100000 in
set_option maxHeartbeats 4000000 in
theorem w_X11_heap {fr : Nat} (hfr : 3 ≤ fr) (Z : AZ) (X : AX Z cX11_heap 2 RX11 (some .int) 0 fr) (x1 : Int32) (s : Mem) (r : Int32 × Mem) (hz : zres Z = (some (.int r.1), r.2)) (h : f_X11_heap x1 s = some r) : AW Z s 0 [some (.ref (zr Z 0)), some (.int x1)] [] := by
  unfold f_X11_heap at h
  refine aw_aload_n X dX11_heap_0 rfl ?_
  refine aw_getr X dX11_heap_1 fl_RX11_10 iu_RX11 gu_RX11_0 ?_
  refine aw_getr X dX11_heap_4 fl_RX11_222 iu_RX11_0 (gt_RX10_5 iu_RX11_0) ?_
  refine aw_getr X dX11_heap_7 fl_RX11_386 (it_RX10_5 iu_RX11_0) (gt_RX8_11 (it_RX10_5 iu_RX11_0)) ?_
  refine aw_iload_n X dX11_heap_10 rfl ?_
  refine aw_iconst (v := 0) X dX11_heap_11 (by decide) ?_
  refine aw_bipush (v := 15) X dX11_heap_12 (by decide) ?_
  obtain ⟨r1, er1, h⟩ := bnd h
  refine aw_callS X dX11_heap_14 cv_RX11_362 (ok_X11_tell (it_RX8_11 (it_RX10_5 iu_RX11_0)) er1 _ _ _ _ _) (Nat.le_trans (by decide) hfr) (by decide) rfl rfl (Nat.le_of_ble_eq_true rfl) ?_
  cases h
  exact aw_iret X dX11_heap_17 rfl hz.symm
set_option maxRecDepth 100000 in
set_option maxHeartbeats 4000000 in
theorem ok_X11_heap {x1 : Int32} {s : Mem} {r : Int32 × Mem} (h : f_X11_heap x1 s = some r) (l : Launch) (D : va_G) (ρ : Nat → Nat) (cA : ClassId × ClassId × ClassId) (τ : AT) : AM l D ρ cA 0 τ yX11_heap cX11_heap 2 (some .int) 3 [.ref (ρ 0), .int x1] (some (.int r.1)) s r.2 := by
  refine AM_of (L := [some (.ref (ρ 0)), some (.int x1)]) (by decide) (by simp [Value.category]) (Nat.le_of_ble_eq_true rfl) (fun j v q => ?_) (fun Z X hρ hz hτ => ?_)
  · exact aL_ok (n := 0) [.ref (ρ 0), .int x1] j v q
  · subst hρ
    subst hτ
    exact w_X11_heap (Nat.le_refl _) Z X x1 s r hz h

theorem dX11_game_0 : decode cX11_game 0 = .ok (.aload_n 0, 1) := by decide +kernel
theorem dX11_game_1 : decode cX11_game 1 = .ok (.getfield 53, 3) := by decide +kernel
theorem dX11_game_4 : decode cX11_game 4 = .ok (.aload_n 0, 1) := by decide +kernel
theorem dX11_game_5 : decode cX11_game 5 = .ok (.getfield 10, 3) := by decide +kernel
theorem dX11_game_8 : decode cX11_game 8 = .ok (.getfield 222, 3) := by decide +kernel
theorem dX11_game_11 : decode cX11_game 11 = .ok (.getfield 386, 3) := by decide +kernel
theorem dX11_game_14 : decode cX11_game 14 = .ok (.invokevirtual 389, 3) := by decide +kernel
theorem dX11_game_17 : decode cX11_game 17 = .ok (.ireturn, 1) := by decide +kernel
set_option maxRecDepth 100000 in
set_option maxHeartbeats 4000000 in
theorem w_X11_game {fr : Nat} (hfr : 3 ≤ fr) (Z : AZ) (X : AX Z cX11_game 1 RX11 (some .int) 0 fr) (s : Mem) (r : Int32 × Mem) (hz : zres Z = (some (.int r.1), r.2)) (h : f_X11_game s = some r) : AW Z s 0 [some (.ref (zr Z 0))] [] := by
  unfold f_X11_game at h
  refine aw_aload_n X dX11_game_0 rfl ?_
  refine aw_getr X dX11_game_1 fl_RX11_53 iu_RX11 gu_RX11_8 ?_
  refine aw_aload_n X dX11_game_4 rfl ?_
  refine aw_getr X dX11_game_5 fl_RX11_10 iu_RX11 gu_RX11_0 ?_
  refine aw_getr X dX11_game_8 fl_RX11_222 iu_RX11_0 (gt_RX10_5 iu_RX11_0) ?_
  refine aw_getr X dX11_game_11 fl_RX11_386 (it_RX10_5 iu_RX11_0) (gt_RX8_11 (it_RX10_5 iu_RX11_0)) ?_
  obtain ⟨r1, er1, h⟩ := bnd h
  refine aw_callV X dX11_game_14 cv_RX11_389 (ok_X9_winningMove (it_RX8_11 (it_RX10_5 iu_RX11_0)) er1 _ _ _ _ _) iu_RX11_8 rfl (Nat.le_trans (by decide) hfr) (by decide) rfl rfl (Nat.le_of_ble_eq_true rfl) ?_
  cases h
  exact aw_iret X dX11_game_17 rfl hz.symm
set_option maxRecDepth 100000 in
set_option maxHeartbeats 4000000 in
theorem ok_X11_game {s : Mem} {r : Int32 × Mem} (h : f_X11_game s = some r) (l : Launch) (D : va_G) (ρ : Nat → Nat) (cA : ClassId × ClassId × ClassId) (τ : AT) : AM l D ρ cA 0 τ yX11_game cX11_game 1 (some .int) 3 [.ref (ρ 0)] (some (.int r.1)) s r.2 := by
  refine AM_of (L := [some (.ref (ρ 0))]) (by decide) (by simp [Value.category]) (Nat.le_of_ble_eq_true rfl) (fun j v q => ?_) (fun Z X hρ hz hτ => ?_)
  · exact aL_ok (n := 0) [.ref (ρ 0)] j v q
  · subst hρ
    subst hτ
    exact w_X11_game (Nat.le_refl _) Z X s r hz h

theorem dX11_undo_0 : decode cX11_undo 0 = .ok (.aload_n 0, 1) := by decide +kernel
theorem dX11_undo_1 : decode cX11_undo 1 = .ok (.getfield 36, 3) := by decide +kernel
theorem dX11_undo_4 : decode cX11_undo 4 = .ok (.ifCond .ne 5, 3) := by decide +kernel
theorem dX11_undo_7 : decode cX11_undo 7 = .ok (.iconst 0, 1) := by decide +kernel
theorem dX11_undo_8 : decode cX11_undo 8 = .ok (.ireturn, 1) := by decide +kernel
theorem dX11_undo_9 : decode cX11_undo 9 = .ok (.aload_n 0, 1) := by decide +kernel
theorem dX11_undo_10 : decode cX11_undo 10 = .ok (.aload_n 0, 1) := by decide +kernel
theorem dX11_undo_11 : decode cX11_undo 11 = .ok (.getfield 40, 3) := by decide +kernel
theorem dX11_undo_14 : decode cX11_undo 14 = .ok (.ifCond .ne 7, 3) := by decide +kernel
theorem dX11_undo_17 : decode cX11_undo 17 = .ok (.iconst 5, 1) := by decide +kernel
theorem dX11_undo_18 : decode cX11_undo 18 = .ok (.goto 9, 3) := by decide +kernel
theorem dX11_undo_21 : decode cX11_undo 21 = .ok (.aload_n 0, 1) := by decide +kernel
theorem dX11_undo_22 : decode cX11_undo 22 = .ok (.getfield 40, 3) := by decide +kernel
theorem dX11_undo_25 : decode cX11_undo 25 = .ok (.iconst 1, 1) := by decide +kernel
theorem dX11_undo_26 : decode cX11_undo 26 = .ok (.isub, 1) := by decide +kernel
theorem dX11_undo_27 : decode cX11_undo 27 = .ok (.putfield 40, 3) := by decide +kernel
theorem dX11_undo_30 : decode cX11_undo 30 = .ok (.aload_n 0, 1) := by decide +kernel
theorem dX11_undo_31 : decode cX11_undo 31 = .ok (.dup, 1) := by decide +kernel
theorem dX11_undo_32 : decode cX11_undo 32 = .ok (.getfield 36, 3) := by decide +kernel
theorem dX11_undo_35 : decode cX11_undo 35 = .ok (.iconst 1, 1) := by decide +kernel
theorem dX11_undo_36 : decode cX11_undo 36 = .ok (.isub, 1) := by decide +kernel
theorem dX11_undo_37 : decode cX11_undo 37 = .ok (.putfield 36, 3) := by decide +kernel
theorem dX11_undo_40 : decode cX11_undo 40 = .ok (.aload_n 0, 1) := by decide +kernel
theorem dX11_undo_41 : decode cX11_undo 41 = .ok (.getfield 10, 3) := by decide +kernel
theorem dX11_undo_44 : decode cX11_undo 44 = .ok (.getfield 57, 3) := by decide +kernel
theorem dX11_undo_47 : decode cX11_undo 47 = .ok (.aload_n 0, 1) := by decide +kernel
theorem dX11_undo_48 : decode cX11_undo 48 = .ok (.getfield 32, 3) := by decide +kernel
theorem dX11_undo_51 : decode cX11_undo 51 = .ok (.aload_n 0, 1) := by decide +kernel
theorem dX11_undo_52 : decode cX11_undo 52 = .ok (.getfield 40, 3) := by decide +kernel
theorem dX11_undo_55 : decode cX11_undo 55 = .ok (.aaload, 1) := by decide +kernel
theorem dX11_undo_56 : decode cX11_undo 56 = .ok (.invokevirtual 195, 3) := by decide +kernel
theorem dX11_undo_59 : decode cX11_undo 59 = .ok (.iconst 1, 1) := by decide +kernel
theorem dX11_undo_60 : decode cX11_undo 60 = .ok (.ireturn, 1) := by decide +kernel
set_option maxRecDepth 100000 in
set_option maxHeartbeats 4000000 in
theorem jo_X11_undo_27 {fr : Nat} (hfr : 1 ≤ fr) (Z : AZ) (X : AX Z cX11_undo 1 RX11 (some .boolean) 0 fr) (t1 : Int32) (s : Mem) (r : Int32 × Mem) (hz : zres Z = (some (.int r.1), r.2)) (h : jn_X11_undo_27 t1 s = some r) : AW Z s 27 [some (.ref (zr Z 0))] [.int t1, .ref (zr Z 0)] := by
  unfold jn_X11_undo_27 at h
  refine aw_put X dX11_undo_27 fp_RX11_40 iu_RX11 gu_RX11_6 rfl rfl ?_
  refine aw_aload_n X dX11_undo_30 rfl ?_
  refine aw_dup X dX11_undo_31 rfl ?_
  refine aw_geti X dX11_undo_32 fl_RX11_36 iu_RX11 gu_RX11_5 ?_
  refine aw_iconst (v := 1) X dX11_undo_35 (by decide) ?_
  refine aw_isub X dX11_undo_36 ?_
  refine aw_put X dX11_undo_37 fp_RX11_36 iu_RX11 gu_RX11_5 rfl rfl ?_
  refine aw_aload_n X dX11_undo_40 rfl ?_
  refine aw_getr X dX11_undo_41 fl_RX11_10 iu_RX11 gu_RX11_0 ?_
  refine aw_getr X dX11_undo_44 fl_RX11_57 iu_RX11_0 (gt_RX10_0 iu_RX11_0) ?_
  refine aw_aload_n X dX11_undo_47 rfl ?_
  refine aw_getr X dX11_undo_48 fl_RX11_32 iu_RX11 gu_RX11_4 ?_
  refine aw_aload_n X dX11_undo_51 rfl ?_
  refine aw_geti X dX11_undo_52 fl_RX11_40 iu_RX11 gu_RX11_6 ?_
  obtain ⟨v3, ev3, h⟩ := bnd h
  refine aw_aaldq X dX11_undo_55 iu_RX11_4 ev3 ?_
  obtain ⟨r4, er4, h⟩ := bnd h
  refine aw_callV X dX11_undo_56 cv_RX11_195 (ok_X0_copyFrom (it_RX10_0 iu_RX11_0) (rdq_io ev3) er4 _ _ _ _ _) (it_RX10_0 iu_RX11_0) rfl (Nat.le_trans (by decide) hfr) (by decide) rfl rfl (Nat.le_of_ble_eq_true rfl) ?_
  refine aw_iconst (v := 1) X dX11_undo_59 (by decide) ?_
  cases h
  exact aw_zret X dX11_undo_60 rfl rfl hz.symm
set_option maxRecDepth 100000 in
set_option maxHeartbeats 4000000 in
theorem w_X11_undo {fr : Nat} (hfr : 1 ≤ fr) (Z : AZ) (X : AX Z cX11_undo 1 RX11 (some .boolean) 0 fr) (s : Mem) (r : Int32 × Mem) (hz : zres Z = (some (.int r.1), r.2)) (h : f_X11_undo s = some r) : AW Z s 0 [some (.ref (zr Z 0))] [] := by
  unfold f_X11_undo at h
  refine aw_aload_n X dX11_undo_0 rfl ?_
  refine aw_geti X dX11_undo_1 fl_RX11_36 iu_RX11 gu_RX11_5 ?_
  refine aw_if_ne (tgt := 9) X dX11_undo_4 (by decide) (fun c1 => ?_) (fun c1 => ?_)
  · rw [if_neg c1] at h
    refine aw_aload_n X dX11_undo_9 rfl ?_
    refine aw_aload_n X dX11_undo_10 rfl ?_
    refine aw_geti X dX11_undo_11 fl_RX11_40 iu_RX11 gu_RX11_6 ?_
    refine aw_if_ne (tgt := 21) X dX11_undo_14 (by decide) (fun c2 => ?_) (fun c2 => ?_)
    · rw [if_neg c2] at h
      refine aw_aload_n X dX11_undo_21 rfl ?_
      refine aw_geti X dX11_undo_22 fl_RX11_40 iu_RX11 gu_RX11_6 ?_
      refine aw_iconst (v := 1) X dX11_undo_25 (by decide) ?_
      refine aw_isub X dX11_undo_26 ?_
      refine aw_msk [true] ?_
      exact jo_X11_undo_27 hfr Z X _ _ _ hz h
    · rw [if_pos c2] at h
      refine aw_iconst (v := 5) X dX11_undo_17 (by decide) ?_
      refine aw_goto (tgt := 27) X dX11_undo_18 (by decide) ?_
      refine aw_msk [true] ?_
      exact jo_X11_undo_27 hfr Z X _ _ _ hz h
  · rw [if_pos c1] at h
    refine aw_iconst (v := 0) X dX11_undo_7 (by decide) ?_
    cases h
    exact aw_zret X dX11_undo_8 rfl rfl hz.symm
set_option maxRecDepth 100000 in
set_option maxHeartbeats 4000000 in
theorem ok_X11_undo {s : Mem} {r : Int32 × Mem} (h : f_X11_undo s = some r) (l : Launch) (D : va_G) (ρ : Nat → Nat) (cA : ClassId × ClassId × ClassId) (τ : AT) : AM l D ρ cA 0 τ yX11_undo cX11_undo 1 (some .boolean) 1 [.ref (ρ 0)] (some (.int r.1)) s r.2 := by
  refine AM_of (L := [some (.ref (ρ 0))]) (by decide) (by simp [Value.category]) (Nat.le_of_ble_eq_true rfl) (fun j v q => ?_) (fun Z X hρ hz hτ => ?_)
  · exact aL_ok (n := 0) [.ref (ρ 0)] j v q
  · subst hρ
    subst hτ
    exact w_X11_undo (Nat.le_refl _) Z X s r hz h

theorem dX11_image_0 : decode cX11_image 0 = .ok (.iload_n 1, 1) := by decide +kernel
theorem dX11_image_1 : decode cX11_image 1 = .ok (.ifCond .eq 21, 3) := by decide +kernel
theorem dX11_image_4 : decode cX11_image 4 = .ok (.aload_n 0, 1) := by decide +kernel
theorem dX11_image_5 : decode cX11_image 5 = .ok (.getfield 16, 3) := by decide +kernel
theorem dX11_image_8 : decode cX11_image 8 = .ok (.aload_n 0, 1) := by decide +kernel
theorem dX11_image_9 : decode cX11_image 9 = .ok (.getfield 10, 3) := by decide +kernel
theorem dX11_image_12 : decode cX11_image 12 = .ok (.invokevirtual 392, 3) := by decide +kernel
theorem dX11_image_15 : decode cX11_image 15 = .ok (.aload_n 0, 1) := by decide +kernel
theorem dX11_image_16 : decode cX11_image 16 = .ok (.iconst 1, 1) := by decide +kernel
theorem dX11_image_17 : decode cX11_image 17 = .ok (.putfield 19, 3) := by decide +kernel
theorem dX11_image_20 : decode cX11_image 20 = .ok (.iconst 1, 1) := by decide +kernel
theorem dX11_image_21 : decode cX11_image 21 = .ok (.ireturn, 1) := by decide +kernel
theorem dX11_image_22 : decode cX11_image 22 = .ok (.aload_n 0, 1) := by decide +kernel
theorem dX11_image_23 : decode cX11_image 23 = .ok (.getfield 19, 3) := by decide +kernel
theorem dX11_image_26 : decode cX11_image 26 = .ok (.ifCond .ne 5, 3) := by decide +kernel
theorem dX11_image_29 : decode cX11_image 29 = .ok (.iconst 0, 1) := by decide +kernel
theorem dX11_image_30 : decode cX11_image 30 = .ok (.ireturn, 1) := by decide +kernel
theorem dX11_image_31 : decode cX11_image 31 = .ok (.aload_n 0, 1) := by decide +kernel
theorem dX11_image_32 : decode cX11_image 32 = .ok (.getfield 10, 3) := by decide +kernel
theorem dX11_image_35 : decode cX11_image 35 = .ok (.aload_n 0, 1) := by decide +kernel
theorem dX11_image_36 : decode cX11_image 36 = .ok (.getfield 16, 3) := by decide +kernel
theorem dX11_image_39 : decode cX11_image 39 = .ok (.invokevirtual 392, 3) := by decide +kernel
theorem dX11_image_42 : decode cX11_image 42 = .ok (.aload_n 0, 1) := by decide +kernel
theorem dX11_image_43 : decode cX11_image 43 = .ok (.invokevirtual 63, 3) := by decide +kernel
theorem dX11_image_46 : decode cX11_image 46 = .ok (.iconst 1, 1) := by decide +kernel
theorem dX11_image_47 : decode cX11_image 47 = .ok (.ireturn, 1) := by decide +kernel
set_option maxRecDepth 100000 in
set_option maxHeartbeats 4000000 in
theorem w_X11_image {fr : Nat} (hfr : 4 ≤ fr) (Z : AZ) (X : AX Z cX11_image 2 RX11 (some .boolean) 0 fr) (x1 : Int32) (s : Mem) (r : Int32 × Mem) (hz : zres Z = (some (.int r.1), r.2)) (h : f_X11_image x1 s = some r) : AW Z s 0 [some (.ref (zr Z 0)), some (.int x1)] [] := by
  unfold f_X11_image at h
  refine aw_iload_n X dX11_image_0 rfl ?_
  refine aw_if_eq (tgt := 22) X dX11_image_1 (by decide) (fun c1 => ?_) (fun c1 => ?_)
  · rw [if_pos c1] at h
    refine aw_aload_n X dX11_image_22 rfl ?_
    refine aw_geti X dX11_image_23 fl_RX11_19 iu_RX11 gu_RX11_2 ?_
    refine aw_if_ne (tgt := 31) X dX11_image_26 (by decide) (fun c2 => ?_) (fun c2 => ?_)
    · rw [if_neg c2] at h
      refine aw_aload_n X dX11_image_31 rfl ?_
      refine aw_getr X dX11_image_32 fl_RX11_10 iu_RX11 gu_RX11_0 ?_
      refine aw_aload_n X dX11_image_35 rfl ?_
      refine aw_getr X dX11_image_36 fl_RX11_16 iu_RX11 gu_RX11_1 ?_
      obtain ⟨r3, er3, h⟩ := bnd h
      refine aw_callV X dX11_image_39 cv_RX11_392 (ok_X10_copyFrom iu_RX11_0 iu_RX11_1 er3 _ _ _ _ _) iu_RX11_0 rfl (Nat.le_trans (by decide) hfr) (by decide) rfl rfl (Nat.le_of_ble_eq_true rfl) ?_
      refine aw_aload_n X dX11_image_42 rfl ?_
      obtain ⟨r4, er4, h⟩ := bnd h
      refine aw_callV X dX11_image_43 cv_RX11_63 (ok_X11_forget er4 _ _ _ _ _) iu_RX11 rfl (Nat.le_trans (by decide) hfr) (by decide) rfl rfl (Nat.le_of_ble_eq_true rfl) ?_
      refine aw_iconst (v := 1) X dX11_image_46 (by decide) ?_
      cases h
      exact aw_zret X dX11_image_47 rfl rfl hz.symm
    · rw [if_pos c2] at h
      refine aw_iconst (v := 0) X dX11_image_29 (by decide) ?_
      cases h
      exact aw_zret X dX11_image_30 rfl rfl hz.symm
  · rw [if_neg c1] at h
    refine aw_aload_n X dX11_image_4 rfl ?_
    refine aw_getr X dX11_image_5 fl_RX11_16 iu_RX11 gu_RX11_1 ?_
    refine aw_aload_n X dX11_image_8 rfl ?_
    refine aw_getr X dX11_image_9 fl_RX11_10 iu_RX11 gu_RX11_0 ?_
    obtain ⟨r5, er5, h⟩ := bnd h
    refine aw_callV X dX11_image_12 cv_RX11_392 (ok_X10_copyFrom iu_RX11_1 iu_RX11_0 er5 _ _ _ _ _) iu_RX11_1 rfl (Nat.le_trans (by decide) hfr) (by decide) rfl rfl (Nat.le_of_ble_eq_true rfl) ?_
    refine aw_aload_n X dX11_image_15 rfl ?_
    refine aw_iconst (v := 1) X dX11_image_16 (by decide) ?_
    refine aw_put X dX11_image_17 fp_RX11_19 iu_RX11 gu_RX11_2 rfl rfl ?_
    refine aw_iconst (v := 1) X dX11_image_20 (by decide) ?_
    cases h
    exact aw_zret X dX11_image_21 rfl rfl hz.symm
set_option maxRecDepth 100000 in
set_option maxHeartbeats 4000000 in
theorem ok_X11_image {x1 : Int32} {s : Mem} {r : Int32 × Mem} (h : f_X11_image x1 s = some r) (l : Launch) (D : va_G) (ρ : Nat → Nat) (cA : ClassId × ClassId × ClassId) (τ : AT) : AM l D ρ cA 0 τ yX11_image cX11_image 2 (some .boolean) 4 [.ref (ρ 0), .int x1] (some (.int r.1)) s r.2 := by
  refine AM_of (L := [some (.ref (ρ 0)), some (.int x1)]) (by decide) (by simp [Value.category]) (Nat.le_of_ble_eq_true rfl) (fun j v q => ?_) (fun Z X hρ hz hτ => ?_)
  · exact aL_ok (n := 0) [.ref (ρ 0), .int x1] j v q
  · subst hρ
    subst hτ
    exact w_X11_image (Nat.le_refl _) Z X x1 s r hz h

theorem dX11_look_0 : decode cX11_look 0 = .ok (.iload_n 1, 1) := by decide +kernel
theorem dX11_look_1 : decode cX11_look 1 = .ok (.tableswitch 174 0 10 #[59, 70, 81, 92, 103, 114, 125, 136, 147, 158, 169], 59) := by decide +kernel
theorem dX11_look_60 : decode cX11_look 60 = .ok (.aload_n 0, 1) := by decide +kernel
theorem dX11_look_61 : decode cX11_look 61 = .ok (.getfield 10, 3) := by decide +kernel
theorem dX11_look_64 : decode cX11_look 64 = .ok (.getfield 57, 3) := by decide +kernel
theorem dX11_look_67 : decode cX11_look 67 = .ok (.getfield 66, 3) := by decide +kernel
theorem dX11_look_70 : decode cX11_look 70 = .ok (.ireturn, 1) := by decide +kernel
theorem dX11_look_71 : decode cX11_look 71 = .ok (.aload_n 0, 1) := by decide +kernel
theorem dX11_look_72 : decode cX11_look 72 = .ok (.getfield 10, 3) := by decide +kernel
theorem dX11_look_75 : decode cX11_look 75 = .ok (.getfield 57, 3) := by decide +kernel
theorem dX11_look_78 : decode cX11_look 78 = .ok (.invokevirtual 215, 3) := by decide +kernel
theorem dX11_look_81 : decode cX11_look 81 = .ok (.ireturn, 1) := by decide +kernel
theorem dX11_look_82 : decode cX11_look 82 = .ok (.aload_n 0, 1) := by decide +kernel
theorem dX11_look_83 : decode cX11_look 83 = .ok (.getfield 10, 3) := by decide +kernel
theorem dX11_look_86 : decode cX11_look 86 = .ok (.getfield 57, 3) := by decide +kernel
theorem dX11_look_89 : decode cX11_look 89 = .ok (.getfield 212, 3) := by decide +kernel
theorem dX11_look_92 : decode cX11_look 92 = .ok (.ireturn, 1) := by decide +kernel
theorem dX11_look_93 : decode cX11_look 93 = .ok (.aload_n 0, 1) := by decide +kernel
theorem dX11_look_94 : decode cX11_look 94 = .ok (.getfield 10, 3) := by decide +kernel
theorem dX11_look_97 : decode cX11_look 97 = .ok (.getfield 57, 3) := by decide +kernel
theorem dX11_look_100 : decode cX11_look 100 = .ok (.getfield 107, 3) := by decide +kernel
theorem dX11_look_103 : decode cX11_look 103 = .ok (.ireturn, 1) := by decide +kernel
theorem dX11_look_104 : decode cX11_look 104 = .ok (.aload_n 0, 1) := by decide +kernel
theorem dX11_look_105 : decode cX11_look 105 = .ok (.getfield 10, 3) := by decide +kernel
theorem dX11_look_108 : decode cX11_look 108 = .ok (.getfield 57, 3) := by decide +kernel
theorem dX11_look_111 : decode cX11_look 111 = .ok (.getfield 189, 3) := by decide +kernel
theorem dX11_look_114 : decode cX11_look 114 = .ok (.ireturn, 1) := by decide +kernel
theorem dX11_look_115 : decode cX11_look 115 = .ok (.aload_n 0, 1) := by decide +kernel
theorem dX11_look_116 : decode cX11_look 116 = .ok (.getfield 10, 3) := by decide +kernel
theorem dX11_look_119 : decode cX11_look 119 = .ok (.getfield 57, 3) := by decide +kernel
theorem dX11_look_122 : decode cX11_look 122 = .ok (.getfield 60, 3) := by decide +kernel
theorem dX11_look_125 : decode cX11_look 125 = .ok (.ireturn, 1) := by decide +kernel
theorem dX11_look_126 : decode cX11_look 126 = .ok (.aload_n 0, 1) := by decide +kernel
theorem dX11_look_127 : decode cX11_look 127 = .ok (.getfield 10, 3) := by decide +kernel
theorem dX11_look_130 : decode cX11_look 130 = .ok (.getfield 136, 3) := by decide +kernel
theorem dX11_look_133 : decode cX11_look 133 = .ok (.getfield 395, 3) := by decide +kernel
theorem dX11_look_136 : decode cX11_look 136 = .ok (.ireturn, 1) := by decide +kernel
theorem dX11_look_137 : decode cX11_look 137 = .ok (.aload_n 0, 1) := by decide +kernel
theorem dX11_look_138 : decode cX11_look 138 = .ok (.getfield 10, 3) := by decide +kernel
theorem dX11_look_141 : decode cX11_look 141 = .ok (.getfield 144, 3) := by decide +kernel
theorem dX11_look_144 : decode cX11_look 144 = .ok (.getfield 396, 3) := by decide +kernel
theorem dX11_look_147 : decode cX11_look 147 = .ok (.ireturn, 1) := by decide +kernel
theorem dX11_look_148 : decode cX11_look 148 = .ok (.aload_n 0, 1) := by decide +kernel
theorem dX11_look_149 : decode cX11_look 149 = .ok (.getfield 10, 3) := by decide +kernel
theorem dX11_look_152 : decode cX11_look 152 = .ok (.getfield 152, 3) := by decide +kernel
theorem dX11_look_155 : decode cX11_look 155 = .ok (.getfield 396, 3) := by decide +kernel
theorem dX11_look_158 : decode cX11_look 158 = .ok (.ireturn, 1) := by decide +kernel
theorem dX11_look_159 : decode cX11_look 159 = .ok (.aload_n 0, 1) := by decide +kernel
theorem dX11_look_160 : decode cX11_look 160 = .ok (.getfield 10, 3) := by decide +kernel
theorem dX11_look_163 : decode cX11_look 163 = .ok (.getfield 155, 3) := by decide +kernel
theorem dX11_look_166 : decode cX11_look 166 = .ok (.getfield 399, 3) := by decide +kernel
theorem dX11_look_169 : decode cX11_look 169 = .ok (.ireturn, 1) := by decide +kernel
theorem dX11_look_170 : decode cX11_look 170 = .ok (.aload_n 0, 1) := by decide +kernel
theorem dX11_look_171 : decode cX11_look 171 = .ok (.getfield 36, 3) := by decide +kernel
theorem dX11_look_174 : decode cX11_look 174 = .ok (.ireturn, 1) := by decide +kernel
theorem dX11_look_175 : decode cX11_look 175 = .ok (.ldc_w 400, 3) := by decide +kernel
theorem dX11_look_178 : decode cX11_look 178 = .ok (.ireturn, 1) := by decide +kernel
set_option maxRecDepth 100000 in
set_option maxHeartbeats 4000000 in
theorem w_X11_look {fr : Nat} (hfr : 1 ≤ fr) (Z : AZ) (X : AX Z cX11_look 2 RX11 (some .int) 0 fr) (x1 : Int32) (s : Mem) (r : Int32 × Mem) (hz : zres Z = (some (.int r.1), r.2)) (h : f_X11_look x1 s = some r) : AW Z s 0 [some (.ref (zr Z 0)), some (.int x1)] [] := by
  unfold f_X11_look at h
  refine aw_iload_n X dX11_look_0 rfl ?_
  by_cases c1 : x1 = 0
  · rw [if_pos c1] at h
    refine aw_tsw (tgt := 60) X dX11_look_1 (by rw [c1]; decide) ?_
    refine aw_aload_n X dX11_look_60 rfl ?_
    refine aw_getr X dX11_look_61 fl_RX11_10 iu_RX11 gu_RX11_0 ?_
    refine aw_getr X dX11_look_64 fl_RX11_57 iu_RX11_0 (gt_RX10_0 iu_RX11_0) ?_
    refine aw_geti X dX11_look_67 fl_RX11_66 (it_RX10_0 iu_RX11_0) (gt_RX0_1 (it_RX10_0 iu_RX11_0)) ?_
    cases h
    exact aw_iret X dX11_look_70 rfl hz.symm
  rw [if_neg c1] at h
  by_cases c2 : x1 = 1
  · rw [if_pos c2] at h
    refine aw_tsw (tgt := 71) X dX11_look_1 (by rw [c2]; decide) ?_
    refine aw_aload_n X dX11_look_71 rfl ?_
    refine aw_getr X dX11_look_72 fl_RX11_10 iu_RX11 gu_RX11_0 ?_
    refine aw_getr X dX11_look_75 fl_RX11_57 iu_RX11_0 (gt_RX10_0 iu_RX11_0) ?_
    obtain ⟨r3, er3, h⟩ := bnd h
    refine aw_callV X dX11_look_78 cv_RX11_215 (ok_X0_havers (it_RX10_0 iu_RX11_0) er3 _ _ _ _ _) (it_RX10_0 iu_RX11_0) rfl (Nat.le_trans (by decide) hfr) (by decide) rfl rfl (Nat.le_of_ble_eq_true rfl) ?_
    cases h
    exact aw_iret X dX11_look_81 rfl hz.symm
  rw [if_neg c2] at h
  by_cases c4 : x1 = 2
  · rw [if_pos c4] at h
    refine aw_tsw (tgt := 82) X dX11_look_1 (by rw [c4]; decide) ?_
    refine aw_aload_n X dX11_look_82 rfl ?_
    refine aw_getr X dX11_look_83 fl_RX11_10 iu_RX11 gu_RX11_0 ?_
    refine aw_getr X dX11_look_86 fl_RX11_57 iu_RX11_0 (gt_RX10_0 iu_RX11_0) ?_
    refine aw_geti X dX11_look_89 fl_RX11_212 (it_RX10_0 iu_RX11_0) (gt_RX0_9 (it_RX10_0 iu_RX11_0)) ?_
    cases h
    exact aw_iret X dX11_look_92 rfl hz.symm
  rw [if_neg c4] at h
  by_cases c5 : x1 = 3
  · rw [if_pos c5] at h
    refine aw_tsw (tgt := 93) X dX11_look_1 (by rw [c5]; decide) ?_
    refine aw_aload_n X dX11_look_93 rfl ?_
    refine aw_getr X dX11_look_94 fl_RX11_10 iu_RX11 gu_RX11_0 ?_
    refine aw_getr X dX11_look_97 fl_RX11_57 iu_RX11_0 (gt_RX10_0 iu_RX11_0) ?_
    refine aw_geti X dX11_look_100 fl_RX11_107 (it_RX10_0 iu_RX11_0) (gt_RX0_10 (it_RX10_0 iu_RX11_0)) ?_
    cases h
    exact aw_iret X dX11_look_103 rfl hz.symm
  rw [if_neg c5] at h
  by_cases c6 : x1 = 4
  · rw [if_pos c6] at h
    refine aw_tsw (tgt := 104) X dX11_look_1 (by rw [c6]; decide) ?_
    refine aw_aload_n X dX11_look_104 rfl ?_
    refine aw_getr X dX11_look_105 fl_RX11_10 iu_RX11 gu_RX11_0 ?_
    refine aw_getr X dX11_look_108 fl_RX11_57 iu_RX11_0 (gt_RX10_0 iu_RX11_0) ?_
    refine aw_geti X dX11_look_111 fl_RX11_189 (it_RX10_0 iu_RX11_0) (gt_RX0_12 (it_RX10_0 iu_RX11_0)) ?_
    cases h
    exact aw_iret X dX11_look_114 rfl hz.symm
  rw [if_neg c6] at h
  by_cases c7 : x1 = 5
  · rw [if_pos c7] at h
    refine aw_tsw (tgt := 115) X dX11_look_1 (by rw [c7]; decide) ?_
    refine aw_aload_n X dX11_look_115 rfl ?_
    refine aw_getr X dX11_look_116 fl_RX11_10 iu_RX11 gu_RX11_0 ?_
    refine aw_getr X dX11_look_119 fl_RX11_57 iu_RX11_0 (gt_RX10_0 iu_RX11_0) ?_
    refine aw_geti X dX11_look_122 fl_RX11_60 (it_RX10_0 iu_RX11_0) (gt_RX0_11 (it_RX10_0 iu_RX11_0)) ?_
    cases h
    exact aw_iret X dX11_look_125 rfl hz.symm
  rw [if_neg c7] at h
  by_cases c8 : x1 = 6
  · rw [if_pos c8] at h
    refine aw_tsw (tgt := 126) X dX11_look_1 (by rw [c8]; decide) ?_
    refine aw_aload_n X dX11_look_126 rfl ?_
    refine aw_getr X dX11_look_127 fl_RX11_10 iu_RX11 gu_RX11_0 ?_
    refine aw_getr X dX11_look_130 fl_RX11_136 iu_RX11_0 (gt_RX10_1 iu_RX11_0) ?_
    refine aw_geti X dX11_look_133 fl_RX11_395 (it_RX10_1 iu_RX11_0) (gt_RX1_0 (it_RX10_1 iu_RX11_0)) ?_
    cases h
    exact aw_iret X dX11_look_136 rfl hz.symm
  rw [if_neg c8] at h
  by_cases c9 : x1 = 7
  · rw [if_pos c9] at h
    refine aw_tsw (tgt := 137) X dX11_look_1 (by rw [c9]; decide) ?_
    refine aw_aload_n X dX11_look_137 rfl ?_
    refine aw_getr X dX11_look_138 fl_RX11_10 iu_RX11 gu_RX11_0 ?_
    refine aw_getr X dX11_look_141 fl_RX11_144 iu_RX11_0 (gt_RX10_2 iu_RX11_0) ?_
    refine aw_geti X dX11_look_144 fl_RX11_396 (it_RX10_2 iu_RX11_0) (gt_RX5_0 (it_RX10_2 iu_RX11_0)) ?_
    cases h
    exact aw_iret X dX11_look_147 rfl hz.symm
  rw [if_neg c9] at h
  by_cases c10 : x1 = 8
  · rw [if_pos c10] at h
    refine aw_tsw (tgt := 148) X dX11_look_1 (by rw [c10]; decide) ?_
    refine aw_aload_n X dX11_look_148 rfl ?_
    refine aw_getr X dX11_look_149 fl_RX11_10 iu_RX11 gu_RX11_0 ?_
    refine aw_getr X dX11_look_152 fl_RX11_152 iu_RX11_0 (gt_RX10_3 iu_RX11_0) ?_
    refine aw_geti X dX11_look_155 fl_RX11_396 (it_RX10_3 iu_RX11_0) (gt_RX5_0 (it_RX10_3 iu_RX11_0)) ?_
    cases h
    exact aw_iret X dX11_look_158 rfl hz.symm
  rw [if_neg c10] at h
  by_cases c11 : x1 = 9
  · rw [if_pos c11] at h
    refine aw_tsw (tgt := 159) X dX11_look_1 (by rw [c11]; decide) ?_
    refine aw_aload_n X dX11_look_159 rfl ?_
    refine aw_getr X dX11_look_160 fl_RX11_10 iu_RX11 gu_RX11_0 ?_
    refine aw_getr X dX11_look_163 fl_RX11_155 iu_RX11_0 (gt_RX10_4 iu_RX11_0) ?_
    refine aw_geti X dX11_look_166 fl_RX11_399 (it_RX10_4 iu_RX11_0) (gt_RX3_0 (it_RX10_4 iu_RX11_0)) ?_
    cases h
    exact aw_iret X dX11_look_169 rfl hz.symm
  rw [if_neg c11] at h
  by_cases c12 : x1 = 10
  · rw [if_pos c12] at h
    refine aw_tsw (tgt := 170) X dX11_look_1 (by rw [c12]; decide) ?_
    refine aw_aload_n X dX11_look_170 rfl ?_
    refine aw_geti X dX11_look_171 fl_RX11_36 iu_RX11 gu_RX11_5 ?_
    cases h
    exact aw_iret X dX11_look_174 rfl hz.symm
  rw [if_neg c12] at h
  refine aw_tswd (tgt := 175) X dX11_look_1 (by decide) (fun z h1 h2 => ?_) ?_
  · have hz9 : z = 0 ∨ z = 1 ∨ z = 2 ∨ z = 3 ∨ z = 4 ∨ z = 5 ∨ z = 6 ∨ z = 7 ∨ z = 8 ∨ z = 9 ∨ z = 10 := by omega
    rcases hz9 with rfl | rfl | rfl | rfl | rfl | rfl | rfl | rfl | rfl | rfl | rfl
    · exact c1
    · exact c2
    · exact c4
    · exact c5
    · exact c6
    · exact c7
    · exact c8
    · exact c9
    · exact c10
    · exact c11
    · exact c12
  refine aw_ldcw X dX11_look_175 kc_RX11_400 ?_
  cases h
  exact aw_iret X dX11_look_178 rfl hz.symm
set_option maxRecDepth 100000 in
set_option maxHeartbeats 4000000 in
theorem ok_X11_look {x1 : Int32} {s : Mem} {r : Int32 × Mem} (h : f_X11_look x1 s = some r) (l : Launch) (D : va_G) (ρ : Nat → Nat) (cA : ClassId × ClassId × ClassId) (τ : AT) : AM l D ρ cA 0 τ yX11_look cX11_look 2 (some .int) 1 [.ref (ρ 0), .int x1] (some (.int r.1)) s r.2 := by
  refine AM_of (L := [some (.ref (ρ 0)), some (.int x1)]) (by decide) (by simp [Value.category]) (Nat.le_of_ble_eq_true rfl) (fun j v q => ?_) (fun Z X hρ hz hτ => ?_)
  · exact aL_ok (n := 0) [.ref (ρ 0), .int x1] j v q
  · subst hρ
    subst hτ
    exact w_X11_look (Nat.le_refl _) Z X x1 s r hz h

theorem dX12_isIn_0 : decode cX12_isIn 0 = .ok (.iload_n 1, 1) := by decide +kernel
theorem dX12_isIn_1 : decode cX12_isIn 1 = .ok (.iload_n 2, 1) := by decide +kernel
theorem dX12_isIn_2 : decode cX12_isIn 2 = .ok (.if_icmp .lt 12, 3) := by decide +kernel
theorem dX12_isIn_5 : decode cX12_isIn 5 = .ok (.iload_n 1, 1) := by decide +kernel
theorem dX12_isIn_6 : decode cX12_isIn 6 = .ok (.iload_n 3, 1) := by decide +kernel
theorem dX12_isIn_7 : decode cX12_isIn 7 = .ok (.if_icmp .gt 7, 3) := by decide +kernel
theorem dX12_isIn_10 : decode cX12_isIn 10 = .ok (.iconst 1, 1) := by decide +kernel
theorem dX12_isIn_11 : decode cX12_isIn 11 = .ok (.goto 4, 3) := by decide +kernel
theorem dX12_isIn_14 : decode cX12_isIn 14 = .ok (.iconst 0, 1) := by decide +kernel
theorem dX12_isIn_15 : decode cX12_isIn 15 = .ok (.ireturn, 1) := by decide +kernel
set_option maxRecDepth 100000 in
set_option maxHeartbeats 4000000 in
theorem w_X12_isIn {fr : Nat} (hfr : 0 ≤ fr) (Z : AZ) (X : AX Z cX12_isIn 4 RX12 (some .boolean) 1 fr) (x1 : Int32) (x2 : Int32) (x3 : Int32) (s : Mem) (r : Int32 × Mem) (hz : zres Z = (some (.int r.1), r.2)) (h : f_X12_isIn x1 x2 x3 s = some r) : AW Z s 0 [some (.ref (zr Z 0)), some (.int x1), some (.int x2), some (.int x3)] [] := by
  unfold f_X12_isIn at h
  refine aw_iload_n X dX12_isIn_0 rfl ?_
  refine aw_iload_n X dX12_isIn_1 rfl ?_
  refine aw_icmp_lt (tgt := 14) X dX12_isIn_2 (by decide) (fun c1 => ?_) (fun c1 => ?_)
  · rw [if_pos c1] at h
    refine aw_iconst (v := 0) X dX12_isIn_14 (by decide) ?_
    cases h
    exact aw_zret X dX12_isIn_15 rfl rfl hz.symm
  · rw [if_neg c1] at h
    refine aw_iload_n X dX12_isIn_5 rfl ?_
    refine aw_iload_n X dX12_isIn_6 rfl ?_
    refine aw_icmp_gt (tgt := 14) X dX12_isIn_7 (by decide) (fun c2 => ?_) (fun c2 => ?_)
    · rw [if_pos c2] at h
      refine aw_iconst (v := 0) X dX12_isIn_14 (by decide) ?_
      cases h
      exact aw_zret X dX12_isIn_15 rfl rfl hz.symm
    · rw [if_neg c2] at h
      refine aw_iconst (v := 1) X dX12_isIn_10 (by decide) ?_
      refine aw_goto (tgt := 15) X dX12_isIn_11 (by decide) ?_
      cases h
      exact aw_zret X dX12_isIn_15 rfl rfl hz.symm
set_option maxRecDepth 100000 in
set_option maxHeartbeats 4000000 in
theorem ok_X12_isIn {x1 x2 x3 : Int32} {s : Mem} {r : Int32 × Mem} (h : f_X12_isIn x1 x2 x3 s = some r) (l : Launch) (D : va_G) (ρ : Nat → Nat) (cA : ClassId × ClassId × ClassId) (τ : AT) : AM l D ρ cA 1 τ yX12_isIn cX12_isIn 4 (some .boolean) 0 [.ref (ρ 0), .int x1, .int x2, .int x3] (some (.int r.1)) s r.2 := by
  refine AM_of (L := [some (.ref (ρ 0)), some (.int x1), some (.int x2), some (.int x3)]) (by decide) (by simp [Value.category]) (Nat.le_of_ble_eq_true rfl) (fun j v q => ?_) (fun Z X hρ hz hτ => ?_)
  · exact aL_ok (n := 0) [.ref (ρ 0), .int x1, .int x2, .int x3] j v q
  · subst hρ
    subst hτ
    exact w_X12_isIn (Nat.le_refl _) Z X x1 x2 x3 s r hz h

theorem dX12_bounded_0 : decode cX12_bounded 0 = .ok (.iload_n 1, 1) := by decide +kernel
theorem dX12_bounded_1 : decode cX12_bounded 1 = .ok (.iload_n 2, 1) := by decide +kernel
theorem dX12_bounded_2 : decode cX12_bounded 2 = .ok (.if_icmp .ge 7, 3) := by decide +kernel
theorem dX12_bounded_5 : decode cX12_bounded 5 = .ok (.iload_n 2, 1) := by decide +kernel
theorem dX12_bounded_6 : decode cX12_bounded 6 = .ok (.goto 13, 3) := by decide +kernel
theorem dX12_bounded_9 : decode cX12_bounded 9 = .ok (.iload_n 1, 1) := by decide +kernel
theorem dX12_bounded_10 : decode cX12_bounded 10 = .ok (.iload_n 3, 1) := by decide +kernel
theorem dX12_bounded_11 : decode cX12_bounded 11 = .ok (.if_icmp .le 7, 3) := by decide +kernel
theorem dX12_bounded_14 : decode cX12_bounded 14 = .ok (.iload_n 3, 1) := by decide +kernel
theorem dX12_bounded_15 : decode cX12_bounded 15 = .ok (.goto 4, 3) := by decide +kernel
theorem dX12_bounded_18 : decode cX12_bounded 18 = .ok (.iload_n 1, 1) := by decide +kernel
theorem dX12_bounded_19 : decode cX12_bounded 19 = .ok (.ireturn, 1) := by decide +kernel
set_option maxRecDepth 100000 in
set_option maxHeartbeats 4000000 in
theorem w_X12_bounded {fr : Nat} (hfr : 0 ≤ fr) (Z : AZ) (X : AX Z cX12_bounded 4 RX12 (some .int) 1 fr) (x1 : Int32) (x2 : Int32) (x3 : Int32) (s : Mem) (r : Int32 × Mem) (hz : zres Z = (some (.int r.1), r.2)) (h : f_X12_bounded x1 x2 x3 s = some r) : AW Z s 0 [some (.ref (zr Z 0)), some (.int x1), some (.int x2), some (.int x3)] [] := by
  unfold f_X12_bounded at h
  refine aw_iload_n X dX12_bounded_0 rfl ?_
  refine aw_iload_n X dX12_bounded_1 rfl ?_
  refine aw_icmp_ge (tgt := 9) X dX12_bounded_2 (by decide) (fun c1 => ?_) (fun c1 => ?_)
  · rw [if_pos c1] at h
    refine aw_iload_n X dX12_bounded_9 rfl ?_
    refine aw_iload_n X dX12_bounded_10 rfl ?_
    refine aw_icmp_le (tgt := 18) X dX12_bounded_11 (by decide) (fun c2 => ?_) (fun c2 => ?_)
    · rw [if_pos c2] at h
      refine aw_iload_n X dX12_bounded_18 rfl ?_
      cases h
      exact aw_iret X dX12_bounded_19 rfl hz.symm
    · rw [if_neg c2] at h
      refine aw_iload_n X dX12_bounded_14 rfl ?_
      refine aw_goto (tgt := 19) X dX12_bounded_15 (by decide) ?_
      cases h
      exact aw_iret X dX12_bounded_19 rfl hz.symm
  · rw [if_neg c1] at h
    refine aw_iload_n X dX12_bounded_5 rfl ?_
    refine aw_goto (tgt := 19) X dX12_bounded_6 (by decide) ?_
    cases h
    exact aw_iret X dX12_bounded_19 rfl hz.symm
set_option maxRecDepth 100000 in
set_option maxHeartbeats 4000000 in
theorem ok_X12_bounded {x1 x2 x3 : Int32} {s : Mem} {r : Int32 × Mem} (h : f_X12_bounded x1 x2 x3 s = some r) (l : Launch) (D : va_G) (ρ : Nat → Nat) (cA : ClassId × ClassId × ClassId) (τ : AT) : AM l D ρ cA 1 τ yX12_bounded cX12_bounded 4 (some .int) 0 [.ref (ρ 0), .int x1, .int x2, .int x3] (some (.int r.1)) s r.2 := by
  refine AM_of (L := [some (.ref (ρ 0)), some (.int x1), some (.int x2), some (.int x3)]) (by decide) (by simp [Value.category]) (Nat.le_of_ble_eq_true rfl) (fun j v q => ?_) (fun Z X hρ hz hτ => ?_)
  · exact aL_ok (n := 0) [.ref (ρ 0), .int x1, .int x2, .int x3] j v q
  · subst hρ
    subst hτ
    exact w_X12_bounded (Nat.le_refl _) Z X x1 x2 x3 s r hz h

theorem dX12_greater_0 : decode cX12_greater 0 = .ok (.iload_n 1, 1) := by decide +kernel
theorem dX12_greater_1 : decode cX12_greater 1 = .ok (.iload_n 2, 1) := by decide +kernel
theorem dX12_greater_2 : decode cX12_greater 2 = .ok (.if_icmp .le 7, 3) := by decide +kernel
theorem dX12_greater_5 : decode cX12_greater 5 = .ok (.iload_n 1, 1) := by decide +kernel
theorem dX12_greater_6 : decode cX12_greater 6 = .ok (.goto 4, 3) := by decide +kernel
theorem dX12_greater_9 : decode cX12_greater 9 = .ok (.iload_n 2, 1) := by decide +kernel
theorem dX12_greater_10 : decode cX12_greater 10 = .ok (.ireturn, 1) := by decide +kernel
set_option maxRecDepth 100000 in
set_option maxHeartbeats 4000000 in
theorem w_X12_greater {fr : Nat} (hfr : 0 ≤ fr) (Z : AZ) (X : AX Z cX12_greater 3 RX12 (some .int) 1 fr) (x1 : Int32) (x2 : Int32) (s : Mem) (r : Int32 × Mem) (hz : zres Z = (some (.int r.1), r.2)) (h : f_X12_greater x1 x2 s = some r) : AW Z s 0 [some (.ref (zr Z 0)), some (.int x1), some (.int x2)] [] := by
  unfold f_X12_greater at h
  refine aw_iload_n X dX12_greater_0 rfl ?_
  refine aw_iload_n X dX12_greater_1 rfl ?_
  refine aw_icmp_le (tgt := 9) X dX12_greater_2 (by decide) (fun c1 => ?_) (fun c1 => ?_)
  · rw [if_pos c1] at h
    refine aw_iload_n X dX12_greater_9 rfl ?_
    cases h
    exact aw_iret X dX12_greater_10 rfl hz.symm
  · rw [if_neg c1] at h
    refine aw_iload_n X dX12_greater_5 rfl ?_
    refine aw_goto (tgt := 10) X dX12_greater_6 (by decide) ?_
    cases h
    exact aw_iret X dX12_greater_10 rfl hz.symm
set_option maxRecDepth 100000 in
set_option maxHeartbeats 4000000 in
theorem ok_X12_greater {x1 x2 : Int32} {s : Mem} {r : Int32 × Mem} (h : f_X12_greater x1 x2 s = some r) (l : Launch) (D : va_G) (ρ : Nat → Nat) (cA : ClassId × ClassId × ClassId) (τ : AT) : AM l D ρ cA 1 τ yX12_greater cX12_greater 3 (some .int) 0 [.ref (ρ 0), .int x1, .int x2] (some (.int r.1)) s r.2 := by
  refine AM_of (L := [some (.ref (ρ 0)), some (.int x1), some (.int x2)]) (by decide) (by simp [Value.category]) (Nat.le_of_ble_eq_true rfl) (fun j v q => ?_) (fun Z X hρ hz hτ => ?_)
  · exact aL_ok (n := 0) [.ref (ρ 0), .int x1, .int x2] j v q
  · subst hρ
    subst hτ
    exact w_X12_greater (Nat.le_refl _) Z X x1 x2 s r hz h

theorem dX12_lesser_0 : decode cX12_lesser 0 = .ok (.iload_n 1, 1) := by decide +kernel
theorem dX12_lesser_1 : decode cX12_lesser 1 = .ok (.iload_n 2, 1) := by decide +kernel
theorem dX12_lesser_2 : decode cX12_lesser 2 = .ok (.if_icmp .ge 7, 3) := by decide +kernel
theorem dX12_lesser_5 : decode cX12_lesser 5 = .ok (.iload_n 1, 1) := by decide +kernel
theorem dX12_lesser_6 : decode cX12_lesser 6 = .ok (.goto 4, 3) := by decide +kernel
theorem dX12_lesser_9 : decode cX12_lesser 9 = .ok (.iload_n 2, 1) := by decide +kernel
theorem dX12_lesser_10 : decode cX12_lesser 10 = .ok (.ireturn, 1) := by decide +kernel
set_option maxRecDepth 100000 in
set_option maxHeartbeats 4000000 in
theorem w_X12_lesser {fr : Nat} (hfr : 0 ≤ fr) (Z : AZ) (X : AX Z cX12_lesser 3 RX12 (some .int) 1 fr) (x1 : Int32) (x2 : Int32) (s : Mem) (r : Int32 × Mem) (hz : zres Z = (some (.int r.1), r.2)) (h : f_X12_lesser x1 x2 s = some r) : AW Z s 0 [some (.ref (zr Z 0)), some (.int x1), some (.int x2)] [] := by
  unfold f_X12_lesser at h
  refine aw_iload_n X dX12_lesser_0 rfl ?_
  refine aw_iload_n X dX12_lesser_1 rfl ?_
  refine aw_icmp_ge (tgt := 9) X dX12_lesser_2 (by decide) (fun c1 => ?_) (fun c1 => ?_)
  · rw [if_pos c1] at h
    refine aw_iload_n X dX12_lesser_9 rfl ?_
    cases h
    exact aw_iret X dX12_lesser_10 rfl hz.symm
  · rw [if_neg c1] at h
    refine aw_iload_n X dX12_lesser_5 rfl ?_
    refine aw_goto (tgt := 10) X dX12_lesser_6 (by decide) ?_
    cases h
    exact aw_iret X dX12_lesser_10 rfl hz.symm
set_option maxRecDepth 100000 in
set_option maxHeartbeats 4000000 in
theorem ok_X12_lesser {x1 x2 : Int32} {s : Mem} {r : Int32 × Mem} (h : f_X12_lesser x1 x2 s = some r) (l : Launch) (D : va_G) (ρ : Nat → Nat) (cA : ClassId × ClassId × ClassId) (τ : AT) : AM l D ρ cA 1 τ yX12_lesser cX12_lesser 3 (some .int) 0 [.ref (ρ 0), .int x1, .int x2] (some (.int r.1)) s r.2 := by
  refine AM_of (L := [some (.ref (ρ 0)), some (.int x1), some (.int x2)]) (by decide) (by simp [Value.category]) (Nat.le_of_ble_eq_true rfl) (fun j v q => ?_) (fun Z X hρ hz hτ => ?_)
  · exact aL_ok (n := 0) [.ref (ρ 0), .int x1, .int x2] j v q
  · subst hρ
    subst hτ
    exact w_X12_lesser (Nat.le_refl _) Z X x1 x2 s r hz h

theorem dX12_plain_0 : decode cX12_plain 0 = .ok (.iload_n 1, 1) := by decide +kernel
theorem dX12_plain_1 : decode cX12_plain 1 = .ok (.ifCond .ge 8, 3) := by decide +kernel
theorem dX12_plain_4 : decode cX12_plain 4 = .ok (.iload_n 1, 1) := by decide +kernel
theorem dX12_plain_5 : decode cX12_plain 5 = .ok (.ineg, 1) := by decide +kernel
theorem dX12_plain_6 : decode cX12_plain 6 = .ok (.goto 4, 3) := by decide +kernel
theorem dX12_plain_9 : decode cX12_plain 9 = .ok (.iload_n 1, 1) := by decide +kernel
theorem dX12_plain_10 : decode cX12_plain 10 = .ok (.ireturn, 1) := by decide +kernel
set_option maxRecDepth 100000 in
set_option maxHeartbeats 4000000 in
theorem w_X12_plain {fr : Nat} (hfr : 0 ≤ fr) (Z : AZ) (X : AX Z cX12_plain 2 RX12 (some .int) 1 fr) (x1 : Int32) (s : Mem) (r : Int32 × Mem) (hz : zres Z = (some (.int r.1), r.2)) (h : f_X12_plain x1 s = some r) : AW Z s 0 [some (.ref (zr Z 0)), some (.int x1)] [] := by
  unfold f_X12_plain at h
  refine aw_iload_n X dX12_plain_0 rfl ?_
  refine aw_if_ge (tgt := 9) X dX12_plain_1 (by decide) (fun c1 => ?_) (fun c1 => ?_)
  · rw [if_pos c1] at h
    refine aw_iload_n X dX12_plain_9 rfl ?_
    cases h
    exact aw_iret X dX12_plain_10 rfl hz.symm
  · rw [if_neg c1] at h
    refine aw_iload_n X dX12_plain_4 rfl ?_
    refine aw_ineg X dX12_plain_5 ?_
    refine aw_goto (tgt := 10) X dX12_plain_6 (by decide) ?_
    cases h
    exact aw_iret X dX12_plain_10 rfl hz.symm
set_option maxRecDepth 100000 in
set_option maxHeartbeats 4000000 in
theorem ok_X12_plain {x1 : Int32} {s : Mem} {r : Int32 × Mem} (h : f_X12_plain x1 s = some r) (l : Launch) (D : va_G) (ρ : Nat → Nat) (cA : ClassId × ClassId × ClassId) (τ : AT) : AM l D ρ cA 1 τ yX12_plain cX12_plain 2 (some .int) 0 [.ref (ρ 0), .int x1] (some (.int r.1)) s r.2 := by
  refine AM_of (L := [some (.ref (ρ 0)), some (.int x1)]) (by decide) (by simp [Value.category]) (Nat.le_of_ble_eq_true rfl) (fun j v q => ?_) (fun Z X hρ hz hτ => ?_)
  · exact aL_ok (n := 0) [.ref (ρ 0), .int x1] j v q
  · subst hρ
    subst hτ
    exact w_X12_plain (Nat.le_refl _) Z X x1 s r hz h

theorem dX12_onesOf_0 : decode cX12_onesOf 0 = .ok (.iconst 0, 1) := by decide +kernel
theorem dX12_onesOf_1 : decode cX12_onesOf 1 = .ok (.istore_n 2, 1) := by decide +kernel
theorem dX12_onesOf_2 : decode cX12_onesOf 2 = .ok (.iload_n 1, 1) := by decide +kernel
theorem dX12_onesOf_3 : decode cX12_onesOf 3 = .ok (.istore_n 3, 1) := by decide +kernel
theorem dX12_onesOf_4 : decode cX12_onesOf 4 = .ok (.iload_n 3, 1) := by decide +kernel
theorem dX12_onesOf_5 : decode cX12_onesOf 5 = .ok (.ifCond .eq 16, 3) := by decide +kernel
theorem dX12_onesOf_8 : decode cX12_onesOf 8 = .ok (.iload_n 2, 1) := by decide +kernel
theorem dX12_onesOf_9 : decode cX12_onesOf 9 = .ok (.iconst 1, 1) := by decide +kernel
theorem dX12_onesOf_10 : decode cX12_onesOf 10 = .ok (.iadd, 1) := by decide +kernel
theorem dX12_onesOf_11 : decode cX12_onesOf 11 = .ok (.istore_n 2, 1) := by decide +kernel
theorem dX12_onesOf_12 : decode cX12_onesOf 12 = .ok (.iload_n 3, 1) := by decide +kernel
theorem dX12_onesOf_13 : decode cX12_onesOf 13 = .ok (.iload_n 3, 1) := by decide +kernel
theorem dX12_onesOf_14 : decode cX12_onesOf 14 = .ok (.iconst 1, 1) := by decide +kernel
theorem dX12_onesOf_15 : decode cX12_onesOf 15 = .ok (.isub, 1) := by decide +kernel
theorem dX12_onesOf_16 : decode cX12_onesOf 16 = .ok (.iand, 1) := by decide +kernel
theorem dX12_onesOf_17 : decode cX12_onesOf 17 = .ok (.istore_n 3, 1) := by decide +kernel
theorem dX12_onesOf_18 : decode cX12_onesOf 18 = .ok (.goto (-14), 3) := by decide +kernel
theorem dX12_onesOf_21 : decode cX12_onesOf 21 = .ok (.iload_n 2, 1) := by decide +kernel
theorem dX12_onesOf_22 : decode cX12_onesOf 22 = .ok (.ireturn, 1) := by decide +kernel
set_option maxRecDepth 100000 in
set_option maxHeartbeats 4000000 in
theorem so_X12_onesOf_4 {fr : Nat} (hfr : 0 ≤ fr) (Z : AZ) (X : AX Z cX12_onesOf 4 RX12 (some .int) 1 fr) (x2 : Int32) (x3 : Int32) (s : Mem) (q : (Int32 × Int32 × Mem) ⊕ (Int32 × Mem)) (h : st_X12_onesOf_4 x2 x3 s = some q) (hi : ∀ y : Int32 × Int32 × Mem, q = .inl y → AW Z y.2.2 4 [none, none, some (.int y.1), some (.int y.2.1)] []) (he : ∀ b : Int32 × Mem, q = .inr b → AW Z b.2 21 [none, none, some (.int b.1), none] []) : AW Z s 4 [none, none, some (.int x2), some (.int x3)] [] := by
  unfold st_X12_onesOf_4 at h
  refine aw_iload_n X dX12_onesOf_4 rfl ?_
  refine aw_if_eq (tgt := 21) X dX12_onesOf_5 (by decide) (fun c1 => ?_) (fun c1 => ?_)
  · rw [if_pos c1] at h
    cases h
    refine aw_msk [false, false, true, false] ?_
    exact he _ rfl
  · rw [if_neg c1] at h
    refine aw_iload_n X dX12_onesOf_8 rfl ?_
    refine aw_iconst (v := 1) X dX12_onesOf_9 (by decide) ?_
    refine aw_iadd X dX12_onesOf_10 ?_
    refine aw_istore_n (L' := [none, none, some (.int (x2 + 1)), some (.int x3)]) X dX12_onesOf_11 (by decide) rfl ?_
    refine aw_iload_n X dX12_onesOf_12 rfl ?_
    refine aw_iload_n X dX12_onesOf_13 rfl ?_
    refine aw_iconst (v := 1) X dX12_onesOf_14 (by decide) ?_
    refine aw_isub X dX12_onesOf_15 ?_
    refine aw_iand X dX12_onesOf_16 ?_
    refine aw_istore_n (L' := [none, none, some (.int (x2 + 1)), some (.int (x3 &&& (x3 - 1)))]) X dX12_onesOf_17 (by decide) rfl ?_
    refine aw_goto (tgt := 4) X dX12_onesOf_18 (by decide) ?_
    cases h
    refine aw_msk [false, false, true, true] ?_
    exact hi _ rfl
set_option maxRecDepth 100000 in
set_option maxHeartbeats 4000000 in
theorem w_X12_onesOf {fr : Nat} (hfr : 0 ≤ fr) (Z : AZ) (X : AX Z cX12_onesOf 4 RX12 (some .int) 1 fr) (x1 : Int32) (s : Mem) (r : Int32 × Mem) (hz : zres Z = (some (.int r.1), r.2)) (h : f_X12_onesOf x1 s = some r) : AW Z s 0 [some (.ref (zr Z 0)), some (.int x1), none, none] [] := by
  unfold f_X12_onesOf at h
  refine aw_iconst (v := 0) X dX12_onesOf_0 (by decide) ?_
  refine aw_istore_n (L' := [some (.ref (zr Z 0)), some (.int x1), some (.int 0), none]) X dX12_onesOf_1 (by decide) rfl ?_
  refine aw_iload_n X dX12_onesOf_2 rfl ?_
  refine aw_istore_n (L' := [some (.ref (zr Z 0)), some (.int x1), some (.int 0), some (.int x1)]) X dX12_onesOf_3 (by decide) rfl ?_
  obtain ⟨r2, er2, h⟩ := bnd h
  refine aw_msk [false, false, true, true] ?_
  refine it_ok (P := fun y : Int32 × Int32 × Mem => AW Z y.2.2 4 [none, none, some (.int y.1), some (.int y.2.1)] []) (Q := fun b : Int32 × Mem => AW Z b.2 21 [none, none, some (.int b.1), none] []) (fun y q hq hi he => so_X12_onesOf_4 hfr Z X y.1 y.2.1 y.2.2 q hq hi he) FUEL _ _ er2 ?_
  refine aw_iload_n X dX12_onesOf_21 rfl ?_
  cases h
  exact aw_iret X dX12_onesOf_22 rfl hz.symm
set_option maxRecDepth 100000 in
set_option maxHeartbeats 4000000 in
theorem ok_X12_onesOf {x1 : Int32} {s : Mem} {r : Int32 × Mem} (h : f_X12_onesOf x1 s = some r) (l : Launch) (D : va_G) (ρ : Nat → Nat) (cA : ClassId × ClassId × ClassId) (τ : AT) : AM l D ρ cA 1 τ yX12_onesOf cX12_onesOf 4 (some .int) 0 [.ref (ρ 0), .int x1] (some (.int r.1)) s r.2 := by
  refine AM_of (L := [some (.ref (ρ 0)), some (.int x1), none, none]) (by decide) (by simp [Value.category]) (Nat.le_of_ble_eq_true rfl) (fun j v q => ?_) (fun Z X hρ hz hτ => ?_)
  · exact aL_ok (n := 2) [.ref (ρ 0), .int x1] j v q
  · subst hρ
    subst hτ
    exact w_X12_onesOf (Nat.le_refl _) Z X x1 s r hz h

theorem dX12_has_0 : decode cX12_has 0 = .ok (.iload_n 1, 1) := by decide +kernel
theorem dX12_has_1 : decode cX12_has 1 = .ok (.iload_n 2, 1) := by decide +kernel
theorem dX12_has_2 : decode cX12_has 2 = .ok (.ishr, 1) := by decide +kernel
theorem dX12_has_3 : decode cX12_has 3 = .ok (.iconst 1, 1) := by decide +kernel
theorem dX12_has_4 : decode cX12_has 4 = .ok (.iand, 1) := by decide +kernel
theorem dX12_has_5 : decode cX12_has 5 = .ok (.iconst 1, 1) := by decide +kernel
theorem dX12_has_6 : decode cX12_has 6 = .ok (.if_icmp .ne 7, 3) := by decide +kernel
theorem dX12_has_9 : decode cX12_has 9 = .ok (.iconst 1, 1) := by decide +kernel
theorem dX12_has_10 : decode cX12_has 10 = .ok (.goto 4, 3) := by decide +kernel
theorem dX12_has_13 : decode cX12_has 13 = .ok (.iconst 0, 1) := by decide +kernel
theorem dX12_has_14 : decode cX12_has 14 = .ok (.ireturn, 1) := by decide +kernel
set_option maxRecDepth 100000 in
set_option maxHeartbeats 4000000 in
theorem w_X12_has {fr : Nat} (hfr : 0 ≤ fr) (Z : AZ) (X : AX Z cX12_has 3 RX12 (some .boolean) 1 fr) (x1 : Int32) (x2 : Int32) (s : Mem) (r : Int32 × Mem) (hz : zres Z = (some (.int r.1), r.2)) (h : f_X12_has x1 x2 s = some r) : AW Z s 0 [some (.ref (zr Z 0)), some (.int x1), some (.int x2)] [] := by
  unfold f_X12_has at h
  refine aw_iload_n X dX12_has_0 rfl ?_
  refine aw_iload_n X dX12_has_1 rfl ?_
  refine aw_ishr X dX12_has_2 ?_
  refine aw_iconst (v := 1) X dX12_has_3 (by decide) ?_
  refine aw_iand X dX12_has_4 ?_
  refine aw_iconst (v := 1) X dX12_has_5 (by decide) ?_
  refine aw_icmp_ne (tgt := 13) X dX12_has_6 (by decide) (fun c1 => ?_) (fun c1 => ?_)
  · rw [if_neg c1] at h
    refine aw_iconst (v := 0) X dX12_has_13 (by decide) ?_
    cases h
    exact aw_zret X dX12_has_14 rfl rfl hz.symm
  · rw [if_pos c1] at h
    refine aw_iconst (v := 1) X dX12_has_9 (by decide) ?_
    refine aw_goto (tgt := 14) X dX12_has_10 (by decide) ?_
    cases h
    exact aw_zret X dX12_has_14 rfl rfl hz.symm
set_option maxRecDepth 100000 in
set_option maxHeartbeats 4000000 in
theorem ok_X12_has {x1 x2 : Int32} {s : Mem} {r : Int32 × Mem} (h : f_X12_has x1 x2 s = some r) (l : Launch) (D : va_G) (ρ : Nat → Nat) (cA : ClassId × ClassId × ClassId) (τ : AT) : AM l D ρ cA 1 τ yX12_has cX12_has 3 (some .boolean) 0 [.ref (ρ 0), .int x1, .int x2] (some (.int r.1)) s r.2 := by
  refine AM_of (L := [some (.ref (ρ 0)), some (.int x1), some (.int x2)]) (by decide) (by simp [Value.category]) (Nat.le_of_ble_eq_true rfl) (fun j v q => ?_) (fun Z X hρ hz hτ => ?_)
  · exact aL_ok (n := 0) [.ref (ρ 0), .int x1, .int x2] j v q
  · subst hρ
    subst hτ
    exact w_X12_has (Nat.le_refl _) Z X x1 x2 s r hz h

theorem dX12_keepsAhead_0 : decode cX12_keepsAhead 0 = .ok (.aload_n 0, 1) := by decide +kernel
theorem dX12_keepsAhead_1 : decode cX12_keepsAhead 1 = .ok (.getfield 125, 3) := by decide +kernel
theorem dX12_keepsAhead_4 : decode cX12_keepsAhead 4 = .ok (.bipush 6, 2) := by decide +kernel
theorem dX12_keepsAhead_6 : decode cX12_keepsAhead 6 = .ok (.if_icmp .ne 47, 3) := by decide +kernel
theorem dX12_keepsAhead_9 : decode cX12_keepsAhead 9 = .ok (.aload_n 0, 1) := by decide +kernel
theorem dX12_keepsAhead_10 : decode cX12_keepsAhead 10 = .ok (.aload_n 0, 1) := by decide +kernel
theorem dX12_keepsAhead_11 : decode cX12_keepsAhead 11 = .ok (.getfield 125, 3) := by decide +kernel
theorem dX12_keepsAhead_14 : decode cX12_keepsAhead 14 = .ok (.iconst 1, 1) := by decide +kernel
theorem dX12_keepsAhead_15 : decode cX12_keepsAhead 15 = .ok (.isub, 1) := by decide +kernel
theorem dX12_keepsAhead_16 : decode cX12_keepsAhead 16 = .ok (.putfield 125, 3) := by decide +kernel
theorem dX12_keepsAhead_19 : decode cX12_keepsAhead 19 = .ok (.iconst 0, 1) := by decide +kernel
theorem dX12_keepsAhead_20 : decode cX12_keepsAhead 20 = .ok (.istore_n 1, 1) := by decide +kernel
theorem dX12_keepsAhead_21 : decode cX12_keepsAhead 21 = .ok (.iload_n 1, 1) := by decide +kernel
theorem dX12_keepsAhead_22 : decode cX12_keepsAhead 22 = .ok (.bipush 102, 2) := by decide +kernel
theorem dX12_keepsAhead_24 : decode cX12_keepsAhead 24 = .ok (.aload_n 0, 1) := by decide +kernel
theorem dX12_keepsAhead_25 : decode cX12_keepsAhead 25 = .ok (.getfield 125, 3) := by decide +kernel
theorem dX12_keepsAhead_28 : decode cX12_keepsAhead 28 = .ok (.imul, 1) := by decide +kernel
theorem dX12_keepsAhead_29 : decode cX12_keepsAhead 29 = .ok (.if_icmp .ge 24, 3) := by decide +kernel
theorem dX12_keepsAhead_32 : decode cX12_keepsAhead 32 = .ok (.aload_n 0, 1) := by decide +kernel
theorem dX12_keepsAhead_33 : decode cX12_keepsAhead 33 = .ok (.getfield 13, 3) := by decide +kernel
theorem dX12_keepsAhead_36 : decode cX12_keepsAhead 36 = .ok (.iload_n 1, 1) := by decide +kernel
theorem dX12_keepsAhead_37 : decode cX12_keepsAhead 37 = .ok (.aload_n 0, 1) := by decide +kernel
theorem dX12_keepsAhead_38 : decode cX12_keepsAhead 38 = .ok (.getfield 13, 3) := by decide +kernel
theorem dX12_keepsAhead_41 : decode cX12_keepsAhead 41 = .ok (.iload_n 1, 1) := by decide +kernel
theorem dX12_keepsAhead_42 : decode cX12_keepsAhead 42 = .ok (.bipush 102, 2) := by decide +kernel
theorem dX12_keepsAhead_44 : decode cX12_keepsAhead 44 = .ok (.iadd, 1) := by decide +kernel
theorem dX12_keepsAhead_45 : decode cX12_keepsAhead 45 = .ok (.iaload, 1) := by decide +kernel
theorem dX12_keepsAhead_46 : decode cX12_keepsAhead 46 = .ok (.iastore, 1) := by decide +kernel
theorem dX12_keepsAhead_47 : decode cX12_keepsAhead 47 = .ok (.iinc 1 1, 3) := by decide +kernel
theorem dX12_keepsAhead_50 : decode cX12_keepsAhead 50 = .ok (.goto (-29), 3) := by decide +kernel
theorem dX12_keepsAhead_53 : decode cX12_keepsAhead 53 = .ok (.iconst 0, 1) := by decide +kernel
theorem dX12_keepsAhead_54 : decode cX12_keepsAhead 54 = .ok (.istore_n 1, 1) := by decide +kernel
theorem dX12_keepsAhead_55 : decode cX12_keepsAhead 55 = .ok (.iload_n 1, 1) := by decide +kernel
theorem dX12_keepsAhead_56 : decode cX12_keepsAhead 56 = .ok (.bipush 102, 2) := by decide +kernel
theorem dX12_keepsAhead_58 : decode cX12_keepsAhead 58 = .ok (.if_icmp .ge 29, 3) := by decide +kernel
theorem dX12_keepsAhead_61 : decode cX12_keepsAhead 61 = .ok (.aload_n 0, 1) := by decide +kernel
theorem dX12_keepsAhead_62 : decode cX12_keepsAhead 62 = .ok (.getfield 13, 3) := by decide +kernel
theorem dX12_keepsAhead_65 : decode cX12_keepsAhead 65 = .ok (.bipush 102, 2) := by decide +kernel
theorem dX12_keepsAhead_67 : decode cX12_keepsAhead 67 = .ok (.aload_n 0, 1) := by decide +kernel
theorem dX12_keepsAhead_68 : decode cX12_keepsAhead 68 = .ok (.getfield 125, 3) := by decide +kernel
theorem dX12_keepsAhead_71 : decode cX12_keepsAhead 71 = .ok (.imul, 1) := by decide +kernel
theorem dX12_keepsAhead_72 : decode cX12_keepsAhead 72 = .ok (.iload_n 1, 1) := by decide +kernel
theorem dX12_keepsAhead_73 : decode cX12_keepsAhead 73 = .ok (.iadd, 1) := by decide +kernel
theorem dX12_keepsAhead_74 : decode cX12_keepsAhead 74 = .ok (.aload_n 0, 1) := by decide +kernel
theorem dX12_keepsAhead_75 : decode cX12_keepsAhead 75 = .ok (.getfield 7, 3) := by decide +kernel
theorem dX12_keepsAhead_78 : decode cX12_keepsAhead 78 = .ok (.iload_n 1, 1) := by decide +kernel
theorem dX12_keepsAhead_79 : decode cX12_keepsAhead 79 = .ok (.iaload, 1) := by decide +kernel
theorem dX12_keepsAhead_80 : decode cX12_keepsAhead 80 = .ok (.iastore, 1) := by decide +kernel
theorem dX12_keepsAhead_81 : decode cX12_keepsAhead 81 = .ok (.iinc 1 1, 3) := by decide +kernel
theorem dX12_keepsAhead_84 : decode cX12_keepsAhead 84 = .ok (.goto (-29), 3) := by decide +kernel
theorem dX12_keepsAhead_87 : decode cX12_keepsAhead 87 = .ok (.aload_n 0, 1) := by decide +kernel
theorem dX12_keepsAhead_88 : decode cX12_keepsAhead 88 = .ok (.aload_n 0, 1) := by decide +kernel
theorem dX12_keepsAhead_89 : decode cX12_keepsAhead 89 = .ok (.getfield 125, 3) := by decide +kernel
theorem dX12_keepsAhead_92 : decode cX12_keepsAhead 92 = .ok (.iconst 1, 1) := by decide +kernel
theorem dX12_keepsAhead_93 : decode cX12_keepsAhead 93 = .ok (.iadd, 1) := by decide +kernel
theorem dX12_keepsAhead_94 : decode cX12_keepsAhead 94 = .ok (.putfield 125, 3) := by decide +kernel
theorem dX12_keepsAhead_97 : decode cX12_keepsAhead 97 = .ok (.return_, 1) := by decide +kernel
set_option maxRecDepth 100000 in
set_option maxHeartbeats 4000000 in
theorem so_X12_keepsAhead_55 {fr : Nat} (hfr : 0 ≤ fr) (Z : AZ) (X : AX Z cX12_keepsAhead 2 RX12 none 1 fr) (x1 : Int32) (s : Mem) (q : (Int32 × Mem) ⊕ (Mem)) (h : st_X12_keepsAhead_55 x1 s = some q) (hi : ∀ y : Int32 × Mem, q = .inl y → AW Z y.2 55 [some (.ref (zr Z 0)), some (.int y.1)] []) (he : ∀ b : Mem, q = .inr b → AW Z b 87 [some (.ref (zr Z 0)), none] []) : AW Z s 55 [some (.ref (zr Z 0)), some (.int x1)] [] := by
  unfold st_X12_keepsAhead_55 at h
  refine aw_iload_n X dX12_keepsAhead_55 rfl ?_
  refine aw_bipush (v := 102) X dX12_keepsAhead_56 (by decide) ?_
  refine aw_icmp_ge (tgt := 87) X dX12_keepsAhead_58 (by decide) (fun c2 => ?_) (fun c2 => ?_)
  · rw [if_pos c2] at h
    cases h
    refine aw_msk [true, false] ?_
    exact he _ rfl
  · rw [if_neg c2] at h
    refine aw_aload_n X dX12_keepsAhead_61 rfl ?_
    refine aw_getr X dX12_keepsAhead_62 fl_RX12_13 iu_RX12 gu_RX12_2 ?_
    refine aw_bipush (v := 102) X dX12_keepsAhead_65 (by decide) ?_
    refine aw_aload_n X dX12_keepsAhead_67 rfl ?_
    refine aw_geti X dX12_keepsAhead_68 fl_RX12_125 iu_RX12 gu_RX12_3 ?_
    refine aw_imul X dX12_keepsAhead_71 ?_
    refine aw_iload_n X dX12_keepsAhead_72 rfl ?_
    refine aw_iadd X dX12_keepsAhead_73 ?_
    refine aw_aload_n X dX12_keepsAhead_74 rfl ?_
    refine aw_getr X dX12_keepsAhead_75 fl_RX12_7 iu_RX12 gu_RX12_1 ?_
    refine aw_iload_n X dX12_keepsAhead_78 rfl ?_
    obtain ⟨v3, ev3, h⟩ := bnd h
    refine aw_iald X dX12_keepsAhead_79 iu_RX12_1 ev3 ?_
    obtain ⟨s4, es4, h⟩ := bnd h
    refine aw_iast X dX12_keepsAhead_80 iu_RX12_2 es4 ?_
    refine aw_iinc (v := (x1 + 1)) (L' := [some (.ref (zr Z 0)), some (.int (x1 + 1))]) X dX12_keepsAhead_81 rfl rfl (by decide) rfl ?_
    refine aw_goto (tgt := 55) X dX12_keepsAhead_84 (by decide) ?_
    cases h
    refine aw_msk [true, true] ?_
    exact hi _ rfl
set_option maxRecDepth 100000 in
set_option maxHeartbeats 4000000 in
theorem jo_X12_keepsAhead_53 {fr : Nat} (hfr : 0 ≤ fr) (Z : AZ) (X : AX Z cX12_keepsAhead 2 RX12 none 1 fr) (s : Mem) (r : Mem) (hz : zres Z = (none, r)) (h : jn_X12_keepsAhead_53 s = some r) : AW Z s 53 [some (.ref (zr Z 0)), none] [] := by
  unfold jn_X12_keepsAhead_53 at h
  refine aw_iconst (v := 0) X dX12_keepsAhead_53 (by decide) ?_
  refine aw_istore_n (L' := [some (.ref (zr Z 0)), some (.int 0)]) X dX12_keepsAhead_54 (by decide) rfl ?_
  obtain ⟨r5, er5, h⟩ := bnd h
  refine aw_msk [true, true] ?_
  refine it_ok (P := fun y : Int32 × Mem => AW Z y.2 55 [some (.ref (zr Z 0)), some (.int y.1)] []) (Q := fun b : Mem => AW Z b 87 [some (.ref (zr Z 0)), none] []) (fun y q hq hi he => so_X12_keepsAhead_55 hfr Z X y.1 y.2 q hq hi he) FUEL _ _ er5 ?_
  refine aw_aload_n X dX12_keepsAhead_87 rfl ?_
  refine aw_aload_n X dX12_keepsAhead_88 rfl ?_
  refine aw_geti X dX12_keepsAhead_89 fl_RX12_125 iu_RX12 gu_RX12_3 ?_
  refine aw_iconst (v := 1) X dX12_keepsAhead_92 (by decide) ?_
  refine aw_iadd X dX12_keepsAhead_93 ?_
  refine aw_put X dX12_keepsAhead_94 fp_RX12_125 iu_RX12 gu_RX12_3 rfl rfl ?_
  cases h
  exact aw_vret X dX12_keepsAhead_97 rfl hz.symm
set_option maxRecDepth 100000 in
set_option maxHeartbeats 4000000 in
theorem so_X12_keepsAhead_21 {fr : Nat} (hfr : 0 ≤ fr) (Z : AZ) (X : AX Z cX12_keepsAhead 2 RX12 none 1 fr) (x1 : Int32) (s : Mem) (q : (Int32 × Mem) ⊕ (Mem)) (h : st_X12_keepsAhead_21 x1 s = some q) (hi : ∀ y : Int32 × Mem, q = .inl y → AW Z y.2 21 [some (.ref (zr Z 0)), some (.int y.1)] []) (he : ∀ b : Mem, q = .inr b → AW Z b 53 [some (.ref (zr Z 0)), none] []) : AW Z s 21 [some (.ref (zr Z 0)), some (.int x1)] [] := by
  unfold st_X12_keepsAhead_21 at h
  refine aw_iload_n X dX12_keepsAhead_21 rfl ?_
  refine aw_bipush (v := 102) X dX12_keepsAhead_22 (by decide) ?_
  refine aw_aload_n X dX12_keepsAhead_24 rfl ?_
  refine aw_geti X dX12_keepsAhead_25 fl_RX12_125 iu_RX12 gu_RX12_3 ?_
  refine aw_imul X dX12_keepsAhead_28 ?_
  refine aw_icmp_ge (tgt := 53) X dX12_keepsAhead_29 (by decide) (fun c6 => ?_) (fun c6 => ?_)
  · rw [if_pos c6] at h
    cases h
    refine aw_msk [true, false] ?_
    exact he _ rfl
  · rw [if_neg c6] at h
    refine aw_aload_n X dX12_keepsAhead_32 rfl ?_
    refine aw_getr X dX12_keepsAhead_33 fl_RX12_13 iu_RX12 gu_RX12_2 ?_
    refine aw_iload_n X dX12_keepsAhead_36 rfl ?_
    refine aw_aload_n X dX12_keepsAhead_37 rfl ?_
    refine aw_getr X dX12_keepsAhead_38 fl_RX12_13 iu_RX12 gu_RX12_2 ?_
    refine aw_iload_n X dX12_keepsAhead_41 rfl ?_
    refine aw_bipush (v := 102) X dX12_keepsAhead_42 (by decide) ?_
    refine aw_iadd X dX12_keepsAhead_44 ?_
    obtain ⟨v7, ev7, h⟩ := bnd h
    refine aw_iald X dX12_keepsAhead_45 iu_RX12_2 ev7 ?_
    obtain ⟨s8, es8, h⟩ := bnd h
    refine aw_iast X dX12_keepsAhead_46 iu_RX12_2 es8 ?_
    refine aw_iinc (v := (x1 + 1)) (L' := [some (.ref (zr Z 0)), some (.int (x1 + 1))]) X dX12_keepsAhead_47 rfl rfl (by decide) rfl ?_
    refine aw_goto (tgt := 21) X dX12_keepsAhead_50 (by decide) ?_
    cases h
    refine aw_msk [true, true] ?_
    exact hi _ rfl
set_option maxRecDepth 100000 in
set_option maxHeartbeats 4000000 in
theorem w_X12_keepsAhead {fr : Nat} (hfr : 0 ≤ fr) (Z : AZ) (X : AX Z cX12_keepsAhead 2 RX12 none 1 fr) (s : Mem) (r : Mem) (hz : zres Z = (none, r)) (h : f_X12_keepsAhead s = some r) : AW Z s 0 [some (.ref (zr Z 0)), none] [] := by
  unfold f_X12_keepsAhead at h
  refine aw_aload_n X dX12_keepsAhead_0 rfl ?_
  refine aw_geti X dX12_keepsAhead_1 fl_RX12_125 iu_RX12 gu_RX12_3 ?_
  refine aw_bipush (v := 6) X dX12_keepsAhead_4 (by decide) ?_
  refine aw_icmp_ne (tgt := 53) X dX12_keepsAhead_6 (by decide) (fun c1 => ?_) (fun c1 => ?_)
  · rw [if_neg c1] at h
    refine aw_msk [true, false] ?_
    exact jo_X12_keepsAhead_53 hfr Z X _ _ hz h
  · rw [if_pos c1] at h
    refine aw_aload_n X dX12_keepsAhead_9 rfl ?_
    refine aw_aload_n X dX12_keepsAhead_10 rfl ?_
    refine aw_geti X dX12_keepsAhead_11 fl_RX12_125 iu_RX12 gu_RX12_3 ?_
    refine aw_iconst (v := 1) X dX12_keepsAhead_14 (by decide) ?_
    refine aw_isub X dX12_keepsAhead_15 ?_
    refine aw_put X dX12_keepsAhead_16 fp_RX12_125 iu_RX12 gu_RX12_3 rfl rfl ?_
    refine aw_iconst (v := 0) X dX12_keepsAhead_19 (by decide) ?_
    refine aw_istore_n (L' := [some (.ref (zr Z 0)), some (.int 0)]) X dX12_keepsAhead_20 (by decide) rfl ?_
    obtain ⟨r9, er9, h⟩ := bnd h
    refine aw_msk [true, true] ?_
    refine it_ok (P := fun y : Int32 × Mem => AW Z y.2 21 [some (.ref (zr Z 0)), some (.int y.1)] []) (Q := fun b : Mem => AW Z b 53 [some (.ref (zr Z 0)), none] []) (fun y q hq hi he => so_X12_keepsAhead_21 hfr Z X y.1 y.2 q hq hi he) FUEL _ _ er9 ?_
    refine aw_msk [true, false] ?_
    exact jo_X12_keepsAhead_53 hfr Z X _ _ hz h
set_option maxRecDepth 100000 in
set_option maxHeartbeats 4000000 in
theorem ok_X12_keepsAhead {s : Mem} {r : Mem} (h : f_X12_keepsAhead s = some r) (l : Launch) (D : va_G) (ρ : Nat → Nat) (cA : ClassId × ClassId × ClassId) (τ : AT) : AM l D ρ cA 1 τ yX12_keepsAhead cX12_keepsAhead 2 none 0 [.ref (ρ 0)] none s r := by
  refine AM_of (L := [some (.ref (ρ 0)), none]) (by decide) (by simp [Value.category]) (Nat.le_of_ble_eq_true rfl) (fun j v q => ?_) (fun Z X hρ hz hτ => ?_)
  · exact aL_ok (n := 1) [.ref (ρ 0)] j v q
  · subst hρ
    subst hτ
    exact w_X12_keepsAhead (Nat.le_refl _) Z X s r hz h

theorem dX12_undo_0 : decode cX12_undo 0 = .ok (.aload_n 0, 1) := by decide +kernel
theorem dX12_undo_1 : decode cX12_undo 1 = .ok (.iconst 0, 1) := by decide +kernel
theorem dX12_undo_2 : decode cX12_undo 2 = .ok (.putfield 122, 3) := by decide +kernel
theorem dX12_undo_5 : decode cX12_undo 5 = .ok (.aload_n 0, 1) := by decide +kernel
theorem dX12_undo_6 : decode cX12_undo 6 = .ok (.getfield 125, 3) := by decide +kernel
theorem dX12_undo_9 : decode cX12_undo 9 = .ok (.ifCond .ne 5, 3) := by decide +kernel
theorem dX12_undo_12 : decode cX12_undo 12 = .ok (.iconst 0, 1) := by decide +kernel
theorem dX12_undo_13 : decode cX12_undo 13 = .ok (.ireturn, 1) := by decide +kernel
theorem dX12_undo_14 : decode cX12_undo 14 = .ok (.aload_n 0, 1) := by decide +kernel
theorem dX12_undo_15 : decode cX12_undo 15 = .ok (.aload_n 0, 1) := by decide +kernel
theorem dX12_undo_16 : decode cX12_undo 16 = .ok (.getfield 125, 3) := by decide +kernel
theorem dX12_undo_19 : decode cX12_undo 19 = .ok (.iconst 1, 1) := by decide +kernel
theorem dX12_undo_20 : decode cX12_undo 20 = .ok (.isub, 1) := by decide +kernel
theorem dX12_undo_21 : decode cX12_undo 21 = .ok (.putfield 125, 3) := by decide +kernel
theorem dX12_undo_24 : decode cX12_undo 24 = .ok (.iconst 0, 1) := by decide +kernel
theorem dX12_undo_25 : decode cX12_undo 25 = .ok (.istore_n 1, 1) := by decide +kernel
theorem dX12_undo_26 : decode cX12_undo 26 = .ok (.iload_n 1, 1) := by decide +kernel
theorem dX12_undo_27 : decode cX12_undo 27 = .ok (.bipush 102, 2) := by decide +kernel
theorem dX12_undo_29 : decode cX12_undo 29 = .ok (.if_icmp .ge 29, 3) := by decide +kernel
theorem dX12_undo_32 : decode cX12_undo 32 = .ok (.aload_n 0, 1) := by decide +kernel
theorem dX12_undo_33 : decode cX12_undo 33 = .ok (.getfield 7, 3) := by decide +kernel
theorem dX12_undo_36 : decode cX12_undo 36 = .ok (.iload_n 1, 1) := by decide +kernel
theorem dX12_undo_37 : decode cX12_undo 37 = .ok (.aload_n 0, 1) := by decide +kernel
theorem dX12_undo_38 : decode cX12_undo 38 = .ok (.getfield 13, 3) := by decide +kernel
theorem dX12_undo_41 : decode cX12_undo 41 = .ok (.bipush 102, 2) := by decide +kernel
theorem dX12_undo_43 : decode cX12_undo 43 = .ok (.aload_n 0, 1) := by decide +kernel
theorem dX12_undo_44 : decode cX12_undo 44 = .ok (.getfield 125, 3) := by decide +kernel
theorem dX12_undo_47 : decode cX12_undo 47 = .ok (.imul, 1) := by decide +kernel
theorem dX12_undo_48 : decode cX12_undo 48 = .ok (.iload_n 1, 1) := by decide +kernel
theorem dX12_undo_49 : decode cX12_undo 49 = .ok (.iadd, 1) := by decide +kernel
theorem dX12_undo_50 : decode cX12_undo 50 = .ok (.iaload, 1) := by decide +kernel
theorem dX12_undo_51 : decode cX12_undo 51 = .ok (.iastore, 1) := by decide +kernel
theorem dX12_undo_52 : decode cX12_undo 52 = .ok (.iinc 1 1, 3) := by decide +kernel
theorem dX12_undo_55 : decode cX12_undo 55 = .ok (.goto (-29), 3) := by decide +kernel
theorem dX12_undo_58 : decode cX12_undo 58 = .ok (.iconst 1, 1) := by decide +kernel
theorem dX12_undo_59 : decode cX12_undo 59 = .ok (.ireturn, 1) := by decide +kernel
set_option maxRecDepth 100000 in
set_option maxHeartbeats 4000000 in
theorem so_X12_undo_26 {fr : Nat} (hfr : 0 ≤ fr) (Z : AZ) (X : AX Z cX12_undo 2 RX12 (some .boolean) 1 fr) (x1 : Int32) (s : Mem) (q : (Int32 × Mem) ⊕ (Mem)) (h : st_X12_undo_26 x1 s = some q) (hi : ∀ y : Int32 × Mem, q = .inl y → AW Z y.2 26 [some (.ref (zr Z 0)), some (.int y.1)] []) (he : ∀ b : Mem, q = .inr b → AW Z b 58 [none, none] []) : AW Z s 26 [some (.ref (zr Z 0)), some (.int x1)] [] := by
  unfold st_X12_undo_26 at h
  refine aw_iload_n X dX12_undo_26 rfl ?_
  refine aw_bipush (v := 102) X dX12_undo_27 (by decide) ?_
  refine aw_icmp_ge (tgt := 58) X dX12_undo_29 (by decide) (fun c2 => ?_) (fun c2 => ?_)
  · rw [if_pos c2] at h
    cases h
    refine aw_msk [false, false] ?_
    exact he _ rfl
  · rw [if_neg c2] at h
    refine aw_aload_n X dX12_undo_32 rfl ?_
    refine aw_getr X dX12_undo_33 fl_RX12_7 iu_RX12 gu_RX12_1 ?_
    refine aw_iload_n X dX12_undo_36 rfl ?_
    refine aw_aload_n X dX12_undo_37 rfl ?_
    refine aw_getr X dX12_undo_38 fl_RX12_13 iu_RX12 gu_RX12_2 ?_
    refine aw_bipush (v := 102) X dX12_undo_41 (by decide) ?_
    refine aw_aload_n X dX12_undo_43 rfl ?_
    refine aw_geti X dX12_undo_44 fl_RX12_125 iu_RX12 gu_RX12_3 ?_
    refine aw_imul X dX12_undo_47 ?_
    refine aw_iload_n X dX12_undo_48 rfl ?_
    refine aw_iadd X dX12_undo_49 ?_
    obtain ⟨v3, ev3, h⟩ := bnd h
    refine aw_iald X dX12_undo_50 iu_RX12_2 ev3 ?_
    obtain ⟨s4, es4, h⟩ := bnd h
    refine aw_iast X dX12_undo_51 iu_RX12_1 es4 ?_
    refine aw_iinc (v := (x1 + 1)) (L' := [some (.ref (zr Z 0)), some (.int (x1 + 1))]) X dX12_undo_52 rfl rfl (by decide) rfl ?_
    refine aw_goto (tgt := 26) X dX12_undo_55 (by decide) ?_
    cases h
    refine aw_msk [true, true] ?_
    exact hi _ rfl
set_option maxRecDepth 100000 in
set_option maxHeartbeats 4000000 in
theorem w_X12_undo {fr : Nat} (hfr : 0 ≤ fr) (Z : AZ) (X : AX Z cX12_undo 2 RX12 (some .boolean) 1 fr) (s : Mem) (r : Int32 × Mem) (hz : zres Z = (some (.int r.1), r.2)) (h : f_X12_undo s = some r) : AW Z s 0 [some (.ref (zr Z 0)), none] [] := by
  unfold f_X12_undo at h
  refine aw_aload_n X dX12_undo_0 rfl ?_
  refine aw_iconst (v := 0) X dX12_undo_1 (by decide) ?_
  refine aw_put X dX12_undo_2 fp_RX12_122 iu_RX12 gu_RX12_0 rfl rfl ?_
  refine aw_aload_n X dX12_undo_5 rfl ?_
  refine aw_geti X dX12_undo_6 fl_RX12_125 iu_RX12 gu_RX12_3 ?_
  refine aw_if_ne (tgt := 14) X dX12_undo_9 (by decide) (fun c1 => ?_) (fun c1 => ?_)
  · rw [if_neg c1] at h
    refine aw_aload_n X dX12_undo_14 rfl ?_
    refine aw_aload_n X dX12_undo_15 rfl ?_
    refine aw_geti X dX12_undo_16 fl_RX12_125 iu_RX12 gu_RX12_3 ?_
    refine aw_iconst (v := 1) X dX12_undo_19 (by decide) ?_
    refine aw_isub X dX12_undo_20 ?_
    refine aw_put X dX12_undo_21 fp_RX12_125 iu_RX12 gu_RX12_3 rfl rfl ?_
    refine aw_iconst (v := 0) X dX12_undo_24 (by decide) ?_
    refine aw_istore_n (L' := [some (.ref (zr Z 0)), some (.int 0)]) X dX12_undo_25 (by decide) rfl ?_
    obtain ⟨r5, er5, h⟩ := bnd h
    refine aw_msk [true, true] ?_
    refine it_ok (P := fun y : Int32 × Mem => AW Z y.2 26 [some (.ref (zr Z 0)), some (.int y.1)] []) (Q := fun b : Mem => AW Z b 58 [none, none] []) (fun y q hq hi he => so_X12_undo_26 hfr Z X y.1 y.2 q hq hi he) FUEL _ _ er5 ?_
    refine aw_iconst (v := 1) X dX12_undo_58 (by decide) ?_
    cases h
    exact aw_zret X dX12_undo_59 rfl rfl hz.symm
  · rw [if_pos c1] at h
    refine aw_iconst (v := 0) X dX12_undo_12 (by decide) ?_
    cases h
    exact aw_zret X dX12_undo_13 rfl rfl hz.symm
set_option maxRecDepth 100000 in
set_option maxHeartbeats 4000000 in
theorem ok_X12_undo {s : Mem} {r : Int32 × Mem} (h : f_X12_undo s = some r) (l : Launch) (D : va_G) (ρ : Nat → Nat) (cA : ClassId × ClassId × ClassId) (τ : AT) : AM l D ρ cA 1 τ yX12_undo cX12_undo 2 (some .boolean) 0 [.ref (ρ 0)] (some (.int r.1)) s r.2 := by
  refine AM_of (L := [some (.ref (ρ 0)), none]) (by decide) (by simp [Value.category]) (Nat.le_of_ble_eq_true rfl) (fun j v q => ?_) (fun Z X hρ hz hτ => ?_)
  · exact aL_ok (n := 1) [.ref (ρ 0)] j v q
  · subst hρ
    subst hτ
    exact w_X12_undo (Nat.le_refl _) Z X s r hz h

theorem dX12_thinks_0 : decode cX12_thinks 0 = .ok (.iconst 0, 1) := by decide +kernel
theorem dX12_thinks_1 : decode cX12_thinks 1 = .ok (.istore_n 1, 1) := by decide +kernel
theorem dX12_thinks_2 : decode cX12_thinks 2 = .ok (.iload_n 1, 1) := by decide +kernel
theorem dX12_thinks_3 : decode cX12_thinks 3 = .ok (.bipush 102, 2) := by decide +kernel
theorem dX12_thinks_5 : decode cX12_thinks 5 = .ok (.if_icmp .ge 21, 3) := by decide +kernel
theorem dX12_thinks_8 : decode cX12_thinks 8 = .ok (.aload_n 0, 1) := by decide +kernel
theorem dX12_thinks_9 : decode cX12_thinks 9 = .ok (.getfield 16, 3) := by decide +kernel
theorem dX12_thinks_12 : decode cX12_thinks 12 = .ok (.iload_n 1, 1) := by decide +kernel
theorem dX12_thinks_13 : decode cX12_thinks 13 = .ok (.aload_n 0, 1) := by decide +kernel
theorem dX12_thinks_14 : decode cX12_thinks 14 = .ok (.getfield 7, 3) := by decide +kernel
theorem dX12_thinks_17 : decode cX12_thinks 17 = .ok (.iload_n 1, 1) := by decide +kernel
theorem dX12_thinks_18 : decode cX12_thinks 18 = .ok (.iaload, 1) := by decide +kernel
theorem dX12_thinks_19 : decode cX12_thinks 19 = .ok (.iastore, 1) := by decide +kernel
theorem dX12_thinks_20 : decode cX12_thinks 20 = .ok (.iinc 1 1, 3) := by decide +kernel
theorem dX12_thinks_23 : decode cX12_thinks 23 = .ok (.goto (-21), 3) := by decide +kernel
theorem dX12_thinks_26 : decode cX12_thinks 26 = .ok (.aload_n 0, 1) := by decide +kernel
theorem dX12_thinks_27 : decode cX12_thinks 27 = .ok (.iconst 1, 1) := by decide +kernel
theorem dX12_thinks_28 : decode cX12_thinks 28 = .ok (.putfield 128, 3) := by decide +kernel
theorem dX12_thinks_31 : decode cX12_thinks 31 = .ok (.return_, 1) := by decide +kernel
set_option maxRecDepth 100000 in
set_option maxHeartbeats 4000000 in
theorem so_X12_thinks_2 {fr : Nat} (hfr : 0 ≤ fr) (Z : AZ) (X : AX Z cX12_thinks 2 RX12 none 1 fr) (x1 : Int32) (s : Mem) (q : (Int32 × Mem) ⊕ (Mem)) (h : st_X12_thinks_2 x1 s = some q) (hi : ∀ y : Int32 × Mem, q = .inl y → AW Z y.2 2 [some (.ref (zr Z 0)), some (.int y.1)] []) (he : ∀ b : Mem, q = .inr b → AW Z b 26 [some (.ref (zr Z 0)), none] []) : AW Z s 2 [some (.ref (zr Z 0)), some (.int x1)] [] := by
  unfold st_X12_thinks_2 at h
  refine aw_iload_n X dX12_thinks_2 rfl ?_
  refine aw_bipush (v := 102) X dX12_thinks_3 (by decide) ?_
  refine aw_icmp_ge (tgt := 26) X dX12_thinks_5 (by decide) (fun c1 => ?_) (fun c1 => ?_)
  · rw [if_pos c1] at h
    cases h
    refine aw_msk [true, false] ?_
    exact he _ rfl
  · rw [if_neg c1] at h
    refine aw_aload_n X dX12_thinks_8 rfl ?_
    refine aw_getr X dX12_thinks_9 fl_RX12_16 iu_RX12 gu_RX12_4 ?_
    refine aw_iload_n X dX12_thinks_12 rfl ?_
    refine aw_aload_n X dX12_thinks_13 rfl ?_
    refine aw_getr X dX12_thinks_14 fl_RX12_7 iu_RX12 gu_RX12_1 ?_
    refine aw_iload_n X dX12_thinks_17 rfl ?_
    obtain ⟨v2, ev2, h⟩ := bnd h
    refine aw_iald X dX12_thinks_18 iu_RX12_1 ev2 ?_
    obtain ⟨s3, es3, h⟩ := bnd h
    refine aw_iast X dX12_thinks_19 iu_RX12_4 es3 ?_
    refine aw_iinc (v := (x1 + 1)) (L' := [some (.ref (zr Z 0)), some (.int (x1 + 1))]) X dX12_thinks_20 rfl rfl (by decide) rfl ?_
    refine aw_goto (tgt := 2) X dX12_thinks_23 (by decide) ?_
    cases h
    refine aw_msk [true, true] ?_
    exact hi _ rfl
set_option maxRecDepth 100000 in
set_option maxHeartbeats 4000000 in
theorem w_X12_thinks {fr : Nat} (hfr : 0 ≤ fr) (Z : AZ) (X : AX Z cX12_thinks 2 RX12 none 1 fr) (s : Mem) (r : Mem) (hz : zres Z = (none, r)) (h : f_X12_thinks s = some r) : AW Z s 0 [some (.ref (zr Z 0)), none] [] := by
  unfold f_X12_thinks at h
  refine aw_iconst (v := 0) X dX12_thinks_0 (by decide) ?_
  refine aw_istore_n (L' := [some (.ref (zr Z 0)), some (.int 0)]) X dX12_thinks_1 (by decide) rfl ?_
  obtain ⟨r4, er4, h⟩ := bnd h
  refine aw_msk [true, true] ?_
  refine it_ok (P := fun y : Int32 × Mem => AW Z y.2 2 [some (.ref (zr Z 0)), some (.int y.1)] []) (Q := fun b : Mem => AW Z b 26 [some (.ref (zr Z 0)), none] []) (fun y q hq hi he => so_X12_thinks_2 hfr Z X y.1 y.2 q hq hi he) FUEL _ _ er4 ?_
  refine aw_aload_n X dX12_thinks_26 rfl ?_
  refine aw_iconst (v := 1) X dX12_thinks_27 (by decide) ?_
  refine aw_put X dX12_thinks_28 fp_RX12_128 iu_RX12 gu_RX12_5 rfl rfl ?_
  cases h
  exact aw_vret X dX12_thinks_31 rfl hz.symm
set_option maxRecDepth 100000 in
set_option maxHeartbeats 4000000 in
theorem ok_X12_thinks {s : Mem} {r : Mem} (h : f_X12_thinks s = some r) (l : Launch) (D : va_G) (ρ : Nat → Nat) (cA : ClassId × ClassId × ClassId) (τ : AT) : AM l D ρ cA 1 τ yX12_thinks cX12_thinks 2 none 0 [.ref (ρ 0)] none s r := by
  refine AM_of (L := [some (.ref (ρ 0)), none]) (by decide) (by simp [Value.category]) (Nat.le_of_ble_eq_true rfl) (fun j v q => ?_) (fun Z X hρ hz hτ => ?_)
  · exact aL_ok (n := 1) [.ref (ρ 0)] j v q
  · subst hρ
    subst hτ
    exact w_X12_thinks (Nat.le_refl _) Z X s r hz h

theorem dX12_endsThought_0 : decode cX12_endsThought 0 = .ok (.iconst 0, 1) := by decide +kernel
theorem dX12_endsThought_1 : decode cX12_endsThought 1 = .ok (.istore_n 1, 1) := by decide +kernel
theorem dX12_endsThought_2 : decode cX12_endsThought 2 = .ok (.iload_n 1, 1) := by decide +kernel
theorem dX12_endsThought_3 : decode cX12_endsThought 3 = .ok (.bipush 102, 2) := by decide +kernel
theorem dX12_endsThought_5 : decode cX12_endsThought 5 = .ok (.if_icmp .ge 21, 3) := by decide +kernel
theorem dX12_endsThought_8 : decode cX12_endsThought 8 = .ok (.aload_n 0, 1) := by decide +kernel
theorem dX12_endsThought_9 : decode cX12_endsThought 9 = .ok (.getfield 7, 3) := by decide +kernel
theorem dX12_endsThought_12 : decode cX12_endsThought 12 = .ok (.iload_n 1, 1) := by decide +kernel
theorem dX12_endsThought_13 : decode cX12_endsThought 13 = .ok (.aload_n 0, 1) := by decide +kernel
theorem dX12_endsThought_14 : decode cX12_endsThought 14 = .ok (.getfield 16, 3) := by decide +kernel
theorem dX12_endsThought_17 : decode cX12_endsThought 17 = .ok (.iload_n 1, 1) := by decide +kernel
theorem dX12_endsThought_18 : decode cX12_endsThought 18 = .ok (.iaload, 1) := by decide +kernel
theorem dX12_endsThought_19 : decode cX12_endsThought 19 = .ok (.iastore, 1) := by decide +kernel
theorem dX12_endsThought_20 : decode cX12_endsThought 20 = .ok (.iinc 1 1, 3) := by decide +kernel
theorem dX12_endsThought_23 : decode cX12_endsThought 23 = .ok (.goto (-21), 3) := by decide +kernel
theorem dX12_endsThought_26 : decode cX12_endsThought 26 = .ok (.aload_n 0, 1) := by decide +kernel
theorem dX12_endsThought_27 : decode cX12_endsThought 27 = .ok (.iconst 0, 1) := by decide +kernel
theorem dX12_endsThought_28 : decode cX12_endsThought 28 = .ok (.putfield 128, 3) := by decide +kernel
theorem dX12_endsThought_31 : decode cX12_endsThought 31 = .ok (.return_, 1) := by decide +kernel
set_option maxRecDepth 100000 in
set_option maxHeartbeats 4000000 in
theorem so_X12_endsThought_2 {fr : Nat} (hfr : 0 ≤ fr) (Z : AZ) (X : AX Z cX12_endsThought 2 RX12 none 1 fr) (x1 : Int32) (s : Mem) (q : (Int32 × Mem) ⊕ (Mem)) (h : st_X12_endsThought_2 x1 s = some q) (hi : ∀ y : Int32 × Mem, q = .inl y → AW Z y.2 2 [some (.ref (zr Z 0)), some (.int y.1)] []) (he : ∀ b : Mem, q = .inr b → AW Z b 26 [some (.ref (zr Z 0)), none] []) : AW Z s 2 [some (.ref (zr Z 0)), some (.int x1)] [] := by
  unfold st_X12_endsThought_2 at h
  refine aw_iload_n X dX12_endsThought_2 rfl ?_
  refine aw_bipush (v := 102) X dX12_endsThought_3 (by decide) ?_
  refine aw_icmp_ge (tgt := 26) X dX12_endsThought_5 (by decide) (fun c1 => ?_) (fun c1 => ?_)
  · rw [if_pos c1] at h
    cases h
    refine aw_msk [true, false] ?_
    exact he _ rfl
  · rw [if_neg c1] at h
    refine aw_aload_n X dX12_endsThought_8 rfl ?_
    refine aw_getr X dX12_endsThought_9 fl_RX12_7 iu_RX12 gu_RX12_1 ?_
    refine aw_iload_n X dX12_endsThought_12 rfl ?_
    refine aw_aload_n X dX12_endsThought_13 rfl ?_
    refine aw_getr X dX12_endsThought_14 fl_RX12_16 iu_RX12 gu_RX12_4 ?_
    refine aw_iload_n X dX12_endsThought_17 rfl ?_
    obtain ⟨v2, ev2, h⟩ := bnd h
    refine aw_iald X dX12_endsThought_18 iu_RX12_4 ev2 ?_
    obtain ⟨s3, es3, h⟩ := bnd h
    refine aw_iast X dX12_endsThought_19 iu_RX12_1 es3 ?_
    refine aw_iinc (v := (x1 + 1)) (L' := [some (.ref (zr Z 0)), some (.int (x1 + 1))]) X dX12_endsThought_20 rfl rfl (by decide) rfl ?_
    refine aw_goto (tgt := 2) X dX12_endsThought_23 (by decide) ?_
    cases h
    refine aw_msk [true, true] ?_
    exact hi _ rfl
set_option maxRecDepth 100000 in
set_option maxHeartbeats 4000000 in
theorem w_X12_endsThought {fr : Nat} (hfr : 0 ≤ fr) (Z : AZ) (X : AX Z cX12_endsThought 2 RX12 none 1 fr) (s : Mem) (r : Mem) (hz : zres Z = (none, r)) (h : f_X12_endsThought s = some r) : AW Z s 0 [some (.ref (zr Z 0)), none] [] := by
  unfold f_X12_endsThought at h
  refine aw_iconst (v := 0) X dX12_endsThought_0 (by decide) ?_
  refine aw_istore_n (L' := [some (.ref (zr Z 0)), some (.int 0)]) X dX12_endsThought_1 (by decide) rfl ?_
  obtain ⟨r4, er4, h⟩ := bnd h
  refine aw_msk [true, true] ?_
  refine it_ok (P := fun y : Int32 × Mem => AW Z y.2 2 [some (.ref (zr Z 0)), some (.int y.1)] []) (Q := fun b : Mem => AW Z b 26 [some (.ref (zr Z 0)), none] []) (fun y q hq hi he => so_X12_endsThought_2 hfr Z X y.1 y.2 q hq hi he) FUEL _ _ er4 ?_
  refine aw_aload_n X dX12_endsThought_26 rfl ?_
  refine aw_iconst (v := 0) X dX12_endsThought_27 (by decide) ?_
  refine aw_put X dX12_endsThought_28 fp_RX12_128 iu_RX12 gu_RX12_5 rfl rfl ?_
  cases h
  exact aw_vret X dX12_endsThought_31 rfl hz.symm
set_option maxRecDepth 100000 in
set_option maxHeartbeats 4000000 in
theorem ok_X12_endsThought {s : Mem} {r : Mem} (h : f_X12_endsThought s = some r) (l : Launch) (D : va_G) (ρ : Nat → Nat) (cA : ClassId × ClassId × ClassId) (τ : AT) : AM l D ρ cA 1 τ yX12_endsThought cX12_endsThought 2 none 0 [.ref (ρ 0)] none s r := by
  refine AM_of (L := [some (.ref (ρ 0)), none]) (by decide) (by simp [Value.category]) (Nat.le_of_ble_eq_true rfl) (fun j v q => ?_) (fun Z X hρ hz hτ => ?_)
  · exact aL_ok (n := 1) [.ref (ρ 0)] j v q
  · subst hρ
    subst hτ
    exact w_X12_endsThought (Nat.le_refl _) Z X s r hz h

theorem dX12_state_0 : decode cX12_state 0 = .ok (.aload_n 0, 1) := by decide +kernel
theorem dX12_state_1 : decode cX12_state 1 = .ok (.iconst 0, 1) := by decide +kernel
theorem dX12_state_2 : decode cX12_state 2 = .ok (.putfield 122, 3) := by decide +kernel
theorem dX12_state_5 : decode cX12_state 5 = .ok (.aload_n 0, 1) := by decide +kernel
theorem dX12_state_6 : decode cX12_state 6 = .ok (.getfield 7, 3) := by decide +kernel
theorem dX12_state_9 : decode cX12_state 9 = .ok (.iconst 1, 1) := by decide +kernel
theorem dX12_state_10 : decode cX12_state 10 = .ok (.iaload, 1) := by decide +kernel
theorem dX12_state_11 : decode cX12_state 11 = .ok (.istore_n 2, 1) := by decide +kernel
theorem dX12_state_12 : decode cX12_state 12 = .ok (.aload_n 0, 1) := by decide +kernel
theorem dX12_state_13 : decode cX12_state 13 = .ok (.getfield 7, 3) := by decide +kernel
theorem dX12_state_16 : decode cX12_state 16 = .ok (.iconst 1, 1) := by decide +kernel
theorem dX12_state_17 : decode cX12_state 17 = .ok (.iload_n 1, 1) := by decide +kernel
theorem dX12_state_18 : decode cX12_state 18 = .ok (.iastore, 1) := by decide +kernel
theorem dX12_state_19 : decode cX12_state 19 = .ok (.aload_n 0, 1) := by decide +kernel
theorem dX12_state_20 : decode cX12_state 20 = .ok (.iconst 0, 1) := by decide +kernel
theorem dX12_state_21 : decode cX12_state 21 = .ok (.putfield 125, 3) := by decide +kernel
theorem dX12_state_24 : decode cX12_state 24 = .ok (.iload_n 2, 1) := by decide +kernel
theorem dX12_state_25 : decode cX12_state 25 = .ok (.ireturn, 1) := by decide +kernel
set_option maxRecDepth 100000 in
set_option maxHeartbeats 4000000 in
theorem w_X12_state {fr : Nat} (hfr : 0 ≤ fr) (Z : AZ) (X : AX Z cX12_state 3 RX12 (some .int) 1 fr) (x1 : Int32) (s : Mem) (r : Int32 × Mem) (hz : zres Z = (some (.int r.1), r.2)) (h : f_X12_state x1 s = some r) : AW Z s 0 [some (.ref (zr Z 0)), some (.int x1), none] [] := by
  unfold f_X12_state at h
  refine aw_aload_n X dX12_state_0 rfl ?_
  refine aw_iconst (v := 0) X dX12_state_1 (by decide) ?_
  refine aw_put X dX12_state_2 fp_RX12_122 iu_RX12 gu_RX12_0 rfl rfl ?_
  refine aw_aload_n X dX12_state_5 rfl ?_
  refine aw_getr X dX12_state_6 fl_RX12_7 iu_RX12 gu_RX12_1 ?_
  refine aw_iconst (v := 1) X dX12_state_9 (by decide) ?_
  obtain ⟨v1, ev1, h⟩ := bnd h
  refine aw_iald X dX12_state_10 iu_RX12_1 ev1 ?_
  refine aw_istore_n (L' := [some (.ref (zr Z 0)), some (.int x1), some (.int v1)]) X dX12_state_11 (by decide) rfl ?_
  refine aw_aload_n X dX12_state_12 rfl ?_
  refine aw_getr X dX12_state_13 fl_RX12_7 iu_RX12 gu_RX12_1 ?_
  refine aw_iconst (v := 1) X dX12_state_16 (by decide) ?_
  refine aw_iload_n X dX12_state_17 rfl ?_
  obtain ⟨s2, es2, h⟩ := bnd h
  refine aw_iast X dX12_state_18 iu_RX12_1 es2 ?_
  refine aw_aload_n X dX12_state_19 rfl ?_
  refine aw_iconst (v := 0) X dX12_state_20 (by decide) ?_
  refine aw_put X dX12_state_21 fp_RX12_125 iu_RX12 gu_RX12_3 rfl rfl ?_
  refine aw_iload_n X dX12_state_24 rfl ?_
  cases h
  exact aw_iret X dX12_state_25 rfl hz.symm
set_option maxRecDepth 100000 in
set_option maxHeartbeats 4000000 in
theorem ok_X12_state {x1 : Int32} {s : Mem} {r : Int32 × Mem} (h : f_X12_state x1 s = some r) (l : Launch) (D : va_G) (ρ : Nat → Nat) (cA : ClassId × ClassId × ClassId) (τ : AT) : AM l D ρ cA 1 τ yX12_state cX12_state 3 (some .int) 0 [.ref (ρ 0), .int x1] (some (.int r.1)) s r.2 := by
  refine AM_of (L := [some (.ref (ρ 0)), some (.int x1), none]) (by decide) (by simp [Value.category]) (Nat.le_of_ble_eq_true rfl) (fun j v q => ?_) (fun Z X hρ hz hτ => ?_)
  · exact aL_ok (n := 1) [.ref (ρ 0), .int x1] j v q
  · subst hρ
    subst hτ
    exact w_X12_state (Nat.le_refl _) Z X x1 s r hz h

theorem dX12_draw_0 : decode cX12_draw 0 = .ok (.aload_n 0, 1) := by decide +kernel
theorem dX12_draw_1 : decode cX12_draw 1 = .ok (.getfield 7, 3) := by decide +kernel
theorem dX12_draw_4 : decode cX12_draw 4 = .ok (.iconst 1, 1) := by decide +kernel
theorem dX12_draw_5 : decode cX12_draw 5 = .ok (.ldc 132, 2) := by decide +kernel
theorem dX12_draw_7 : decode cX12_draw 7 = .ok (.aload_n 0, 1) := by decide +kernel
theorem dX12_draw_8 : decode cX12_draw 8 = .ok (.getfield 7, 3) := by decide +kernel
theorem dX12_draw_11 : decode cX12_draw 11 = .ok (.iconst 1, 1) := by decide +kernel
theorem dX12_draw_12 : decode cX12_draw 12 = .ok (.iaload, 1) := by decide +kernel
theorem dX12_draw_13 : decode cX12_draw 13 = .ok (.imul, 1) := by decide +kernel
theorem dX12_draw_14 : decode cX12_draw 14 = .ok (.ldc 133, 2) := by decide +kernel
theorem dX12_draw_16 : decode cX12_draw 16 = .ok (.iadd, 1) := by decide +kernel
theorem dX12_draw_17 : decode cX12_draw 17 = .ok (.iastore, 1) := by decide +kernel
theorem dX12_draw_18 : decode cX12_draw 18 = .ok (.aload_n 0, 1) := by decide +kernel
theorem dX12_draw_19 : decode cX12_draw 19 = .ok (.getfield 7, 3) := by decide +kernel
theorem dX12_draw_22 : decode cX12_draw 22 = .ok (.iconst 1, 1) := by decide +kernel
theorem dX12_draw_23 : decode cX12_draw 23 = .ok (.iaload, 1) := by decide +kernel
theorem dX12_draw_24 : decode cX12_draw 24 = .ok (.bipush 8, 2) := by decide +kernel
theorem dX12_draw_26 : decode cX12_draw 26 = .ok (.iushr, 1) := by decide +kernel
theorem dX12_draw_27 : decode cX12_draw 27 = .ok (.iload_n 1, 1) := by decide +kernel
theorem dX12_draw_28 : decode cX12_draw 28 = .ok (.irem, 1) := by decide +kernel
theorem dX12_draw_29 : decode cX12_draw 29 = .ok (.ireturn, 1) := by decide +kernel
set_option maxRecDepth 100000 in
set_option maxHeartbeats 4000000 in
theorem w_X12_draw {fr : Nat} (hfr : 0 ≤ fr) (Z : AZ) (X : AX Z cX12_draw 2 RX12 (some .int) 1 fr) (x1 : Int32) (s : Mem) (r : Int32 × Mem) (hz : zres Z = (some (.int r.1), r.2)) (h : f_X12_draw x1 s = some r) : AW Z s 0 [some (.ref (zr Z 0)), some (.int x1)] [] := by
  unfold f_X12_draw at h
  refine aw_aload_n X dX12_draw_0 rfl ?_
  refine aw_getr X dX12_draw_1 fl_RX12_7 iu_RX12 gu_RX12_1 ?_
  refine aw_iconst (v := 1) X dX12_draw_4 (by decide) ?_
  refine aw_ldc X dX12_draw_5 kc_RX12_132 ?_
  refine aw_aload_n X dX12_draw_7 rfl ?_
  refine aw_getr X dX12_draw_8 fl_RX12_7 iu_RX12 gu_RX12_1 ?_
  refine aw_iconst (v := 1) X dX12_draw_11 (by decide) ?_
  obtain ⟨v1, ev1, h⟩ := bnd h
  refine aw_iald X dX12_draw_12 iu_RX12_1 ev1 ?_
  refine aw_imul X dX12_draw_13 ?_
  refine aw_ldc X dX12_draw_14 kc_RX12_133 ?_
  refine aw_iadd X dX12_draw_16 ?_
  obtain ⟨s2, es2, h⟩ := bnd h
  refine aw_iast X dX12_draw_17 iu_RX12_1 es2 ?_
  refine aw_aload_n X dX12_draw_18 rfl ?_
  refine aw_getr X dX12_draw_19 fl_RX12_7 iu_RX12 gu_RX12_1 ?_
  refine aw_iconst (v := 1) X dX12_draw_22 (by decide) ?_
  obtain ⟨v3, ev3, h⟩ := bnd h
  refine aw_iald X dX12_draw_23 iu_RX12_1 ev3 ?_
  refine aw_bipush (v := 8) X dX12_draw_24 (by decide) ?_
  refine aw_iushr X dX12_draw_26 ?_
  refine aw_iload_n X dX12_draw_27 rfl ?_
  by_cases c4 : x1 = 0
  · rw [if_pos c4] at h
    cases h
  rw [if_neg c4] at h
  refine aw_irem X dX12_draw_28 c4 ?_
  cases h
  exact aw_iret X dX12_draw_29 rfl hz.symm
set_option maxRecDepth 100000 in
set_option maxHeartbeats 4000000 in
theorem ok_X12_draw {x1 : Int32} {s : Mem} {r : Int32 × Mem} (h : f_X12_draw x1 s = some r) (l : Launch) (D : va_G) (ρ : Nat → Nat) (cA : ClassId × ClassId × ClassId) (τ : AT) : AM l D ρ cA 1 τ yX12_draw cX12_draw 2 (some .int) 0 [.ref (ρ 0), .int x1] (some (.int r.1)) s r.2 := by
  refine AM_of (L := [some (.ref (ρ 0)), some (.int x1)]) (by decide) (by simp [Value.category]) (Nat.le_of_ble_eq_true rfl) (fun j v q => ?_) (fun Z X hρ hz hτ => ?_)
  · exact aL_ok (n := 0) [.ref (ρ 0), .int x1] j v q
  · subst hρ
    subst hτ
    exact w_X12_draw (Nat.le_refl _) Z X x1 s r hz h

theorem dX12_isPerson_0 : decode cX12_isPerson 0 = .ok (.iload_n 1, 1) := by decide +kernel
theorem dX12_isPerson_1 : decode cX12_isPerson 1 = .ok (.ifCond .lt 15, 3) := by decide +kernel
theorem dX12_isPerson_4 : decode cX12_isPerson 4 = .ok (.iload_n 1, 1) := by decide +kernel
theorem dX12_isPerson_5 : decode cX12_isPerson 5 = .ok (.aload_n 0, 1) := by decide +kernel
theorem dX12_isPerson_6 : decode cX12_isPerson 6 = .ok (.getfield 134, 3) := by decide +kernel
theorem dX12_isPerson_9 : decode cX12_isPerson 9 = .ok (.if_icmp .ge 7, 3) := by decide +kernel
theorem dX12_isPerson_12 : decode cX12_isPerson 12 = .ok (.iconst 1, 1) := by decide +kernel
theorem dX12_isPerson_13 : decode cX12_isPerson 13 = .ok (.goto 4, 3) := by decide +kernel
theorem dX12_isPerson_16 : decode cX12_isPerson 16 = .ok (.iconst 0, 1) := by decide +kernel
theorem dX12_isPerson_17 : decode cX12_isPerson 17 = .ok (.ireturn, 1) := by decide +kernel
set_option maxRecDepth 100000 in
set_option maxHeartbeats 4000000 in
theorem w_X12_isPerson {fr : Nat} (hfr : 0 ≤ fr) (Z : AZ) (X : AX Z cX12_isPerson 2 RX12 (some .boolean) 1 fr) (x1 : Int32) (s : Mem) (r : Int32 × Mem) (hz : zres Z = (some (.int r.1), r.2)) (h : f_X12_isPerson x1 s = some r) : AW Z s 0 [some (.ref (zr Z 0)), some (.int x1)] [] := by
  unfold f_X12_isPerson at h
  refine aw_iload_n X dX12_isPerson_0 rfl ?_
  refine aw_if_lt (tgt := 16) X dX12_isPerson_1 (by decide) (fun c1 => ?_) (fun c1 => ?_)
  · rw [if_pos c1] at h
    refine aw_iconst (v := 0) X dX12_isPerson_16 (by decide) ?_
    cases h
    exact aw_zret X dX12_isPerson_17 rfl rfl hz.symm
  · rw [if_neg c1] at h
    refine aw_iload_n X dX12_isPerson_4 rfl ?_
    refine aw_aload_n X dX12_isPerson_5 rfl ?_
    refine aw_geti X dX12_isPerson_6 fl_RX12_134 iu_RX12 gu_RX12_6 ?_
    refine aw_icmp_ge (tgt := 16) X dX12_isPerson_9 (by decide) (fun c2 => ?_) (fun c2 => ?_)
    · rw [if_pos c2] at h
      refine aw_iconst (v := 0) X dX12_isPerson_16 (by decide) ?_
      cases h
      exact aw_zret X dX12_isPerson_17 rfl rfl hz.symm
    · rw [if_neg c2] at h
      refine aw_iconst (v := 1) X dX12_isPerson_12 (by decide) ?_
      refine aw_goto (tgt := 17) X dX12_isPerson_13 (by decide) ?_
      cases h
      exact aw_zret X dX12_isPerson_17 rfl rfl hz.symm
set_option maxRecDepth 100000 in
set_option maxHeartbeats 4000000 in
theorem ok_X12_isPerson {x1 : Int32} {s : Mem} {r : Int32 × Mem} (h : f_X12_isPerson x1 s = some r) (l : Launch) (D : va_G) (ρ : Nat → Nat) (cA : ClassId × ClassId × ClassId) (τ : AT) : AM l D ρ cA 1 τ yX12_isPerson cX12_isPerson 2 (some .boolean) 0 [.ref (ρ 0), .int x1] (some (.int r.1)) s r.2 := by
  refine AM_of (L := [some (.ref (ρ 0)), some (.int x1)]) (by decide) (by simp [Value.category]) (Nat.le_of_ble_eq_true rfl) (fun j v q => ?_) (fun Z X hρ hz hτ => ?_)
  · exact aL_ok (n := 0) [.ref (ρ 0), .int x1] j v q
  · subst hρ
    subst hτ
    exact w_X12_isPerson (Nat.le_refl _) Z X x1 s r hz h

theorem dX12_hasAny_0 : decode cX12_hasAny 0 = .ok (.aload_n 0, 1) := by decide +kernel
theorem dX12_hasAny_1 : decode cX12_hasAny 1 = .ok (.getfield 7, 3) := by decide +kernel
theorem dX12_hasAny_4 : decode cX12_hasAny 4 = .ok (.bipush 18, 2) := by decide +kernel
theorem dX12_hasAny_6 : decode cX12_hasAny 6 = .ok (.iload_n 1, 1) := by decide +kernel
theorem dX12_hasAny_7 : decode cX12_hasAny 7 = .ok (.iadd, 1) := by decide +kernel
theorem dX12_hasAny_8 : decode cX12_hasAny 8 = .ok (.iaload, 1) := by decide +kernel
theorem dX12_hasAny_9 : decode cX12_hasAny 9 = .ok (.ifCond .le 7, 3) := by decide +kernel
theorem dX12_hasAny_12 : decode cX12_hasAny 12 = .ok (.iconst 1, 1) := by decide +kernel
theorem dX12_hasAny_13 : decode cX12_hasAny 13 = .ok (.goto 4, 3) := by decide +kernel
theorem dX12_hasAny_16 : decode cX12_hasAny 16 = .ok (.iconst 0, 1) := by decide +kernel
theorem dX12_hasAny_17 : decode cX12_hasAny 17 = .ok (.ireturn, 1) := by decide +kernel
set_option maxRecDepth 100000 in
set_option maxHeartbeats 4000000 in
theorem w_X12_hasAny {fr : Nat} (hfr : 0 ≤ fr) (Z : AZ) (X : AX Z cX12_hasAny 2 RX12 (some .boolean) 1 fr) (x1 : Int32) (s : Mem) (r : Int32 × Mem) (hz : zres Z = (some (.int r.1), r.2)) (h : f_X12_hasAny x1 s = some r) : AW Z s 0 [some (.ref (zr Z 0)), some (.int x1)] [] := by
  unfold f_X12_hasAny at h
  refine aw_aload_n X dX12_hasAny_0 rfl ?_
  refine aw_getr X dX12_hasAny_1 fl_RX12_7 iu_RX12 gu_RX12_1 ?_
  refine aw_bipush (v := 18) X dX12_hasAny_4 (by decide) ?_
  refine aw_iload_n X dX12_hasAny_6 rfl ?_
  refine aw_iadd X dX12_hasAny_7 ?_
  obtain ⟨v1, ev1, h⟩ := bnd h
  refine aw_iald X dX12_hasAny_8 iu_RX12_1 ev1 ?_
  refine aw_if_le (tgt := 16) X dX12_hasAny_9 (by decide) (fun c2 => ?_) (fun c2 => ?_)
  · rw [if_pos c2] at h
    refine aw_iconst (v := 0) X dX12_hasAny_16 (by decide) ?_
    cases h
    exact aw_zret X dX12_hasAny_17 rfl rfl hz.symm
  · rw [if_neg c2] at h
    refine aw_iconst (v := 1) X dX12_hasAny_12 (by decide) ?_
    refine aw_goto (tgt := 17) X dX12_hasAny_13 (by decide) ?_
    cases h
    exact aw_zret X dX12_hasAny_17 rfl rfl hz.symm
set_option maxRecDepth 100000 in
set_option maxHeartbeats 4000000 in
theorem ok_X12_hasAny {x1 : Int32} {s : Mem} {r : Int32 × Mem} (h : f_X12_hasAny x1 s = some r) (l : Launch) (D : va_G) (ρ : Nat → Nat) (cA : ClassId × ClassId × ClassId) (τ : AT) : AM l D ρ cA 1 τ yX12_hasAny cX12_hasAny 2 (some .boolean) 0 [.ref (ρ 0), .int x1] (some (.int r.1)) s r.2 := by
  refine AM_of (L := [some (.ref (ρ 0)), some (.int x1)]) (by decide) (by simp [Value.category]) (Nat.le_of_ble_eq_true rfl) (fun j v q => ?_) (fun Z X hρ hz hτ => ?_)
  · exact aL_ok (n := 0) [.ref (ρ 0), .int x1] j v q
  · subst hρ
    subst hτ
    exact w_X12_hasAny (Nat.le_refl _) Z X x1 s r hz h

theorem dX12_byOf_0 : decode cX12_byOf 0 = .ok (.aload_n 0, 1) := by decide +kernel
theorem dX12_byOf_1 : decode cX12_byOf 1 = .ok (.getfield 7, 3) := by decide +kernel
theorem dX12_byOf_4 : decode cX12_byOf 4 = .ok (.bipush 32, 2) := by decide +kernel
theorem dX12_byOf_6 : decode cX12_byOf 6 = .ok (.iload_n 1, 1) := by decide +kernel
theorem dX12_byOf_7 : decode cX12_byOf 7 = .ok (.iadd, 1) := by decide +kernel
theorem dX12_byOf_8 : decode cX12_byOf 8 = .ok (.iaload, 1) := by decide +kernel
theorem dX12_byOf_9 : decode cX12_byOf 9 = .ok (.iconst 1, 1) := by decide +kernel
theorem dX12_byOf_10 : decode cX12_byOf 10 = .ok (.isub, 1) := by decide +kernel
theorem dX12_byOf_11 : decode cX12_byOf 11 = .ok (.ireturn, 1) := by decide +kernel
set_option maxRecDepth 100000 in
set_option maxHeartbeats 4000000 in
theorem w_X12_byOf {fr : Nat} (hfr : 0 ≤ fr) (Z : AZ) (X : AX Z cX12_byOf 2 RX12 (some .int) 1 fr) (x1 : Int32) (s : Mem) (r : Int32 × Mem) (hz : zres Z = (some (.int r.1), r.2)) (h : f_X12_byOf x1 s = some r) : AW Z s 0 [some (.ref (zr Z 0)), some (.int x1)] [] := by
  unfold f_X12_byOf at h
  refine aw_aload_n X dX12_byOf_0 rfl ?_
  refine aw_getr X dX12_byOf_1 fl_RX12_7 iu_RX12 gu_RX12_1 ?_
  refine aw_bipush (v := 32) X dX12_byOf_4 (by decide) ?_
  refine aw_iload_n X dX12_byOf_6 rfl ?_
  refine aw_iadd X dX12_byOf_7 ?_
  obtain ⟨v1, ev1, h⟩ := bnd h
  refine aw_iald X dX12_byOf_8 iu_RX12_1 ev1 ?_
  refine aw_iconst (v := 1) X dX12_byOf_9 (by decide) ?_
  refine aw_isub X dX12_byOf_10 ?_
  cases h
  exact aw_iret X dX12_byOf_11 rfl hz.symm
set_option maxRecDepth 100000 in
set_option maxHeartbeats 4000000 in
theorem ok_X12_byOf {x1 : Int32} {s : Mem} {r : Int32 × Mem} (h : f_X12_byOf x1 s = some r) (l : Launch) (D : va_G) (ρ : Nat → Nat) (cA : ClassId × ClassId × ClassId) (τ : AT) : AM l D ρ cA 1 τ yX12_byOf cX12_byOf 2 (some .int) 0 [.ref (ρ 0), .int x1] (some (.int r.1)) s r.2 := by
  refine AM_of (L := [some (.ref (ρ 0)), some (.int x1)]) (by decide) (by simp [Value.category]) (Nat.le_of_ble_eq_true rfl) (fun j v q => ?_) (fun Z X hρ hz hτ => ?_)
  · exact aL_ok (n := 0) [.ref (ρ 0), .int x1] j v q
  · subst hρ
    subst hτ
    exact w_X12_byOf (Nat.le_refl _) Z X x1 s r hz h

theorem dX12_person_0 : decode cX12_person 0 = .ok (.aload_n 0, 1) := by decide +kernel
theorem dX12_person_1 : decode cX12_person 1 = .ok (.iconst 0, 1) := by decide +kernel
theorem dX12_person_2 : decode cX12_person 2 = .ok (.putfield 122, 3) := by decide +kernel
theorem dX12_person_5 : decode cX12_person 5 = .ok (.aload_n 0, 1) := by decide +kernel
theorem dX12_person_6 : decode cX12_person 6 = .ok (.iload_n 1, 1) := by decide +kernel
theorem dX12_person_7 : decode cX12_person 7 = .ok (.iconst 0, 1) := by decide +kernel
theorem dX12_person_8 : decode cX12_person 8 = .ok (.bipush 9, 2) := by decide +kernel
theorem dX12_person_10 : decode cX12_person 10 = .ok (.invokevirtual 137, 3) := by decide +kernel
theorem dX12_person_13 : decode cX12_person 13 = .ok (.ifCond .eq 12, 3) := by decide +kernel
theorem dX12_person_16 : decode cX12_person 16 = .ok (.aload_n 0, 1) := by decide +kernel
theorem dX12_person_17 : decode cX12_person 17 = .ok (.getfield 134, 3) := by decide +kernel
theorem dX12_person_20 : decode cX12_person 20 = .ok (.bipush 14, 2) := by decide +kernel
theorem dX12_person_22 : decode cX12_person 22 = .ok (.if_icmp .ne 5, 3) := by decide +kernel
theorem dX12_person_25 : decode cX12_person 25 = .ok (.iconst (-1), 1) := by decide +kernel
theorem dX12_person_26 : decode cX12_person 26 = .ok (.ireturn, 1) := by decide +kernel
theorem dX12_person_27 : decode cX12_person 27 = .ok (.iconst 4, 1) := by decide +kernel
theorem dX12_person_28 : decode cX12_person 28 = .ok (.istore_n 2, 1) := by decide +kernel
theorem dX12_person_29 : decode cX12_person 29 = .ok (.iload_n 2, 1) := by decide +kernel
theorem dX12_person_30 : decode cX12_person 30 = .ok (.bipush 102, 2) := by decide +kernel
theorem dX12_person_32 : decode cX12_person 32 = .ok (.if_icmp .ge 23, 3) := by decide +kernel
theorem dX12_person_35 : decode cX12_person 35 = .ok (.aload_n 0, 1) := by decide +kernel
theorem dX12_person_36 : decode cX12_person 36 = .ok (.getfield 7, 3) := by decide +kernel
theorem dX12_person_39 : decode cX12_person 39 = .ok (.iload_n 2, 1) := by decide +kernel
theorem dX12_person_40 : decode cX12_person 40 = .ok (.aload_n 0, 1) := by decide +kernel
theorem dX12_person_41 : decode cX12_person 41 = .ok (.getfield 134, 3) := by decide +kernel
theorem dX12_person_44 : decode cX12_person 44 = .ok (.iadd, 1) := by decide +kernel
theorem dX12_person_45 : decode cX12_person 45 = .ok (.iconst 0, 1) := by decide +kernel
theorem dX12_person_46 : decode cX12_person 46 = .ok (.iastore, 1) := by decide +kernel
theorem dX12_person_47 : decode cX12_person 47 = .ok (.iload_n 2, 1) := by decide +kernel
theorem dX12_person_48 : decode cX12_person 48 = .ok (.bipush 14, 2) := by decide +kernel
theorem dX12_person_50 : decode cX12_person 50 = .ok (.iadd, 1) := by decide +kernel
theorem dX12_person_51 : decode cX12_person 51 = .ok (.istore_n 2, 1) := by decide +kernel
theorem dX12_person_52 : decode cX12_person 52 = .ok (.goto (-23), 3) := by decide +kernel
theorem dX12_person_55 : decode cX12_person 55 = .ok (.aload_n 0, 1) := by decide +kernel
theorem dX12_person_56 : decode cX12_person 56 = .ok (.getfield 7, 3) := by decide +kernel
theorem dX12_person_59 : decode cX12_person 59 = .ok (.iconst 4, 1) := by decide +kernel
theorem dX12_person_60 : decode cX12_person 60 = .ok (.aload_n 0, 1) := by decide +kernel
theorem dX12_person_61 : decode cX12_person 61 = .ok (.getfield 134, 3) := by decide +kernel
theorem dX12_person_64 : decode cX12_person 64 = .ok (.iadd, 1) := by decide +kernel
theorem dX12_person_65 : decode cX12_person 65 = .ok (.iload_n 1, 1) := by decide +kernel
theorem dX12_person_66 : decode cX12_person 66 = .ok (.iastore, 1) := by decide +kernel
theorem dX12_person_67 : decode cX12_person 67 = .ok (.aload_n 0, 1) := by decide +kernel
theorem dX12_person_68 : decode cX12_person 68 = .ok (.aload_n 0, 1) := by decide +kernel
theorem dX12_person_69 : decode cX12_person 69 = .ok (.getfield 134, 3) := by decide +kernel
theorem dX12_person_72 : decode cX12_person 72 = .ok (.iconst 1, 1) := by decide +kernel
theorem dX12_person_73 : decode cX12_person 73 = .ok (.iadd, 1) := by decide +kernel
theorem dX12_person_74 : decode cX12_person 74 = .ok (.putfield 134, 3) := by decide +kernel
theorem dX12_person_77 : decode cX12_person 77 = .ok (.aload_n 0, 1) := by decide +kernel
theorem dX12_person_78 : decode cX12_person 78 = .ok (.iconst 0, 1) := by decide +kernel
theorem dX12_person_79 : decode cX12_person 79 = .ok (.putfield 125, 3) := by decide +kernel
theorem dX12_person_82 : decode cX12_person 82 = .ok (.aload_n 0, 1) := by decide +kernel
theorem dX12_person_83 : decode cX12_person 83 = .ok (.getfield 134, 3) := by decide +kernel
theorem dX12_person_86 : decode cX12_person 86 = .ok (.iconst 1, 1) := by decide +kernel
theorem dX12_person_87 : decode cX12_person 87 = .ok (.isub, 1) := by decide +kernel
theorem dX12_person_88 : decode cX12_person 88 = .ok (.ireturn, 1) := by decide +kernel
set_option maxRecDepth 100000 in
set_option maxHeartbeats 4000000 in
theorem so_X12_person_29 {fr : Nat} (hfr : 1 ≤ fr) (Z : AZ) (X : AX Z cX12_person 3 RX12 (some .int) 1 fr) (x1 : Int32) (x2 : Int32) (s : Mem) (q : (Int32 × Mem) ⊕ (Mem)) (h : st_X12_person_29 x1 x2 s = some q) (hi : ∀ y : Int32 × Mem, q = .inl y → AW Z y.2 29 [some (.ref (zr Z 0)), some (.int x1), some (.int y.1)] []) (he : ∀ b : Mem, q = .inr b → AW Z b 55 [some (.ref (zr Z 0)), some (.int x1), none] []) : AW Z s 29 [some (.ref (zr Z 0)), some (.int x1), some (.int x2)] [] := by
  unfold st_X12_person_29 at h
  refine aw_iload_n X dX12_person_29 rfl ?_
  refine aw_bipush (v := 102) X dX12_person_30 (by decide) ?_
  refine aw_icmp_ge (tgt := 55) X dX12_person_32 (by decide) (fun c4 => ?_) (fun c4 => ?_)
  · rw [if_pos c4] at h
    cases h
    refine aw_msk [true, true, false] ?_
    exact he _ rfl
  · rw [if_neg c4] at h
    refine aw_aload_n X dX12_person_35 rfl ?_
    refine aw_getr X dX12_person_36 fl_RX12_7 iu_RX12 gu_RX12_1 ?_
    refine aw_iload_n X dX12_person_39 rfl ?_
    refine aw_aload_n X dX12_person_40 rfl ?_
    refine aw_geti X dX12_person_41 fl_RX12_134 iu_RX12 gu_RX12_6 ?_
    refine aw_iadd X dX12_person_44 ?_
    refine aw_iconst (v := 0) X dX12_person_45 (by decide) ?_
    obtain ⟨s5, es5, h⟩ := bnd h
    refine aw_iast X dX12_person_46 iu_RX12_1 es5 ?_
    refine aw_iload_n X dX12_person_47 rfl ?_
    refine aw_bipush (v := 14) X dX12_person_48 (by decide) ?_
    refine aw_iadd X dX12_person_50 ?_
    refine aw_istore_n (L' := [some (.ref (zr Z 0)), some (.int x1), some (.int (x2 + 14))]) X dX12_person_51 (by decide) rfl ?_
    refine aw_goto (tgt := 29) X dX12_person_52 (by decide) ?_
    cases h
    refine aw_msk [true, true, true] ?_
    exact hi _ rfl
set_option maxRecDepth 100000 in
set_option maxHeartbeats 4000000 in
theorem w_X12_person {fr : Nat} (hfr : 1 ≤ fr) (Z : AZ) (X : AX Z cX12_person 3 RX12 (some .int) 1 fr) (x1 : Int32) (s : Mem) (r : Int32 × Mem) (hz : zres Z = (some (.int r.1), r.2)) (h : f_X12_person x1 s = some r) : AW Z s 0 [some (.ref (zr Z 0)), some (.int x1), none] [] := by
  unfold f_X12_person at h
  refine aw_aload_n X dX12_person_0 rfl ?_
  refine aw_iconst (v := 0) X dX12_person_1 (by decide) ?_
  refine aw_put X dX12_person_2 fp_RX12_122 iu_RX12 gu_RX12_0 rfl rfl ?_
  refine aw_aload_n X dX12_person_5 rfl ?_
  refine aw_iload_n X dX12_person_6 rfl ?_
  refine aw_iconst (v := 0) X dX12_person_7 (by decide) ?_
  refine aw_bipush (v := 9) X dX12_person_8 (by decide) ?_
  obtain ⟨r1, er1, h⟩ := bnd h
  refine aw_callV X dX12_person_10 cv_RX12_137 (ok_X12_isIn er1 _ _ _ _ _) iu_RX12 rfl (Nat.le_trans (by decide) hfr) (by decide) rfl rfl (Nat.le_of_ble_eq_true rfl) ?_
  refine aw_if_eq (tgt := 25) X dX12_person_13 (by decide) (fun c2 => ?_) (fun c2 => ?_)
  · rw [if_pos c2] at h
    refine aw_iconst (v := (-1)) X dX12_person_25 (by decide) ?_
    cases h
    exact aw_iret X dX12_person_26 rfl hz.symm
  · rw [if_neg c2] at h
    refine aw_aload_n X dX12_person_16 rfl ?_
    refine aw_geti X dX12_person_17 fl_RX12_134 iu_RX12 gu_RX12_6 ?_
    refine aw_bipush (v := 14) X dX12_person_20 (by decide) ?_
    refine aw_icmp_ne (tgt := 27) X dX12_person_22 (by decide) (fun c3 => ?_) (fun c3 => ?_)
    · rw [if_neg c3] at h
      refine aw_iconst (v := 4) X dX12_person_27 (by decide) ?_
      refine aw_istore_n (L' := [some (.ref (zr Z 0)), some (.int x1), some (.int 4)]) X dX12_person_28 (by decide) rfl ?_
      obtain ⟨r6, er6, h⟩ := bnd h
      refine aw_msk [true, true, true] ?_
      refine it_ok (P := fun y : Int32 × Mem => AW Z y.2 29 [some (.ref (zr Z 0)), some (.int x1), some (.int y.1)] []) (Q := fun b : Mem => AW Z b 55 [some (.ref (zr Z 0)), some (.int x1), none] []) (fun y q hq hi he => so_X12_person_29 hfr Z X x1 y.1 y.2 q hq hi he) FUEL _ _ er6 ?_
      refine aw_aload_n X dX12_person_55 rfl ?_
      refine aw_getr X dX12_person_56 fl_RX12_7 iu_RX12 gu_RX12_1 ?_
      refine aw_iconst (v := 4) X dX12_person_59 (by decide) ?_
      refine aw_aload_n X dX12_person_60 rfl ?_
      refine aw_geti X dX12_person_61 fl_RX12_134 iu_RX12 gu_RX12_6 ?_
      refine aw_iadd X dX12_person_64 ?_
      refine aw_iload_n X dX12_person_65 rfl ?_
      obtain ⟨s7, es7, h⟩ := bnd h
      refine aw_iast X dX12_person_66 iu_RX12_1 es7 ?_
      refine aw_aload_n X dX12_person_67 rfl ?_
      refine aw_aload_n X dX12_person_68 rfl ?_
      refine aw_geti X dX12_person_69 fl_RX12_134 iu_RX12 gu_RX12_6 ?_
      refine aw_iconst (v := 1) X dX12_person_72 (by decide) ?_
      refine aw_iadd X dX12_person_73 ?_
      refine aw_put X dX12_person_74 fp_RX12_134 iu_RX12 gu_RX12_6 rfl rfl ?_
      refine aw_aload_n X dX12_person_77 rfl ?_
      refine aw_iconst (v := 0) X dX12_person_78 (by decide) ?_
      refine aw_put X dX12_person_79 fp_RX12_125 iu_RX12 gu_RX12_3 rfl rfl ?_
      refine aw_aload_n X dX12_person_82 rfl ?_
      refine aw_geti X dX12_person_83 fl_RX12_134 iu_RX12 gu_RX12_6 ?_
      refine aw_iconst (v := 1) X dX12_person_86 (by decide) ?_
      refine aw_isub X dX12_person_87 ?_
      cases h
      exact aw_iret X dX12_person_88 rfl hz.symm
    · rw [if_pos c3] at h
      refine aw_iconst (v := (-1)) X dX12_person_25 (by decide) ?_
      cases h
      exact aw_iret X dX12_person_26 rfl hz.symm
set_option maxRecDepth 100000 in
set_option maxHeartbeats 4000000 in
theorem ok_X12_person {x1 : Int32} {s : Mem} {r : Int32 × Mem} (h : f_X12_person x1 s = some r) (l : Launch) (D : va_G) (ρ : Nat → Nat) (cA : ClassId × ClassId × ClassId) (τ : AT) : AM l D ρ cA 1 τ yX12_person cX12_person 3 (some .int) 1 [.ref (ρ 0), .int x1] (some (.int r.1)) s r.2 := by
  refine AM_of (L := [some (.ref (ρ 0)), some (.int x1), none]) (by decide) (by simp [Value.category]) (Nat.le_of_ble_eq_true rfl) (fun j v q => ?_) (fun Z X hρ hz hτ => ?_)
  · exact aL_ok (n := 1) [.ref (ρ 0), .int x1] j v q
  · subst hρ
    subst hτ
    exact w_X12_person (Nat.le_refl _) Z X x1 s r hz h

theorem dX12_hasThen_0 : decode cX12_hasThen 0 = .ok (.aload_n 0, 1) := by decide +kernel
theorem dX12_hasThen_1 : decode cX12_hasThen 1 = .ok (.getfield 7, 3) := by decide +kernel
theorem dX12_hasThen_4 : decode cX12_hasThen 4 = .ok (.bipush 18, 2) := by decide +kernel
theorem dX12_hasThen_6 : decode cX12_hasThen 6 = .ok (.iload_n 1, 1) := by decide +kernel
theorem dX12_hasThen_7 : decode cX12_hasThen 7 = .ok (.iadd, 1) := by decide +kernel
theorem dX12_hasThen_8 : decode cX12_hasThen 8 = .ok (.iload_n 2, 1) := by decide +kernel
theorem dX12_hasThen_9 : decode cX12_hasThen 9 = .ok (.iastore, 1) := by decide +kernel
theorem dX12_hasThen_10 : decode cX12_hasThen 10 = .ok (.iload_n 2, 1) := by decide +kernel
theorem dX12_hasThen_11 : decode cX12_hasThen 11 = .ok (.ifCond .le 4, 3) := by decide +kernel
theorem dX12_hasThen_14 : decode cX12_hasThen 14 = .ok (.return_, 1) := by decide +kernel
theorem dX12_hasThen_15 : decode cX12_hasThen 15 = .ok (.aload_n 0, 1) := by decide +kernel
theorem dX12_hasThen_16 : decode cX12_hasThen 16 = .ok (.getfield 7, 3) := by decide +kernel
theorem dX12_hasThen_19 : decode cX12_hasThen 19 = .ok (.bipush 32, 2) := by decide +kernel
theorem dX12_hasThen_21 : decode cX12_hasThen 21 = .ok (.iload_n 1, 1) := by decide +kernel
theorem dX12_hasThen_22 : decode cX12_hasThen 22 = .ok (.iadd, 1) := by decide +kernel
theorem dX12_hasThen_23 : decode cX12_hasThen 23 = .ok (.iconst 0, 1) := by decide +kernel
theorem dX12_hasThen_24 : decode cX12_hasThen 24 = .ok (.iastore, 1) := by decide +kernel
theorem dX12_hasThen_25 : decode cX12_hasThen 25 = .ok (.aload_n 0, 1) := by decide +kernel
theorem dX12_hasThen_26 : decode cX12_hasThen 26 = .ok (.getfield 7, 3) := by decide +kernel
theorem dX12_hasThen_29 : decode cX12_hasThen 29 = .ok (.bipush 46, 2) := by decide +kernel
theorem dX12_hasThen_31 : decode cX12_hasThen 31 = .ok (.iload_n 1, 1) := by decide +kernel
theorem dX12_hasThen_32 : decode cX12_hasThen 32 = .ok (.iadd, 1) := by decide +kernel
theorem dX12_hasThen_33 : decode cX12_hasThen 33 = .ok (.iconst 0, 1) := by decide +kernel
theorem dX12_hasThen_34 : decode cX12_hasThen 34 = .ok (.iastore, 1) := by decide +kernel
theorem dX12_hasThen_35 : decode cX12_hasThen 35 = .ok (.return_, 1) := by decide +kernel
set_option maxRecDepth 100000 in
set_option maxHeartbeats 4000000 in
theorem w_X12_hasThen {fr : Nat} (hfr : 0 ≤ fr) (Z : AZ) (X : AX Z cX12_hasThen 3 RX12 none 1 fr) (x1 : Int32) (x2 : Int32) (s : Mem) (r : Mem) (hz : zres Z = (none, r)) (h : f_X12_hasThen x1 x2 s = some r) : AW Z s 0 [some (.ref (zr Z 0)), some (.int x1), some (.int x2)] [] := by
  unfold f_X12_hasThen at h
  refine aw_aload_n X dX12_hasThen_0 rfl ?_
  refine aw_getr X dX12_hasThen_1 fl_RX12_7 iu_RX12 gu_RX12_1 ?_
  refine aw_bipush (v := 18) X dX12_hasThen_4 (by decide) ?_
  refine aw_iload_n X dX12_hasThen_6 rfl ?_
  refine aw_iadd X dX12_hasThen_7 ?_
  refine aw_iload_n X dX12_hasThen_8 rfl ?_
  obtain ⟨s1, es1, h⟩ := bnd h
  refine aw_iast X dX12_hasThen_9 iu_RX12_1 es1 ?_
  refine aw_iload_n X dX12_hasThen_10 rfl ?_
  refine aw_if_le (tgt := 15) X dX12_hasThen_11 (by decide) (fun c2 => ?_) (fun c2 => ?_)
  · rw [if_pos c2] at h
    refine aw_aload_n X dX12_hasThen_15 rfl ?_
    refine aw_getr X dX12_hasThen_16 fl_RX12_7 iu_RX12 gu_RX12_1 ?_
    refine aw_bipush (v := 32) X dX12_hasThen_19 (by decide) ?_
    refine aw_iload_n X dX12_hasThen_21 rfl ?_
    refine aw_iadd X dX12_hasThen_22 ?_
    refine aw_iconst (v := 0) X dX12_hasThen_23 (by decide) ?_
    obtain ⟨s3, es3, h⟩ := bnd h
    refine aw_iast X dX12_hasThen_24 iu_RX12_1 es3 ?_
    refine aw_aload_n X dX12_hasThen_25 rfl ?_
    refine aw_getr X dX12_hasThen_26 fl_RX12_7 iu_RX12 gu_RX12_1 ?_
    refine aw_bipush (v := 46) X dX12_hasThen_29 (by decide) ?_
    refine aw_iload_n X dX12_hasThen_31 rfl ?_
    refine aw_iadd X dX12_hasThen_32 ?_
    refine aw_iconst (v := 0) X dX12_hasThen_33 (by decide) ?_
    obtain ⟨s4, es4, h⟩ := bnd h
    refine aw_iast X dX12_hasThen_34 iu_RX12_1 es4 ?_
    cases h
    exact aw_vret X dX12_hasThen_35 rfl hz.symm
  · rw [if_neg c2] at h
    cases h
    exact aw_vret X dX12_hasThen_14 rfl hz.symm
set_option maxRecDepth 100000 in
set_option maxHeartbeats 4000000 in
theorem ok_X12_hasThen {x1 x2 : Int32} {s : Mem} {r : Mem} (h : f_X12_hasThen x1 x2 s = some r) (l : Launch) (D : va_G) (ρ : Nat → Nat) (cA : ClassId × ClassId × ClassId) (τ : AT) : AM l D ρ cA 1 τ yX12_hasThen cX12_hasThen 3 none 0 [.ref (ρ 0), .int x1, .int x2] none s r := by
  refine AM_of (L := [some (.ref (ρ 0)), some (.int x1), some (.int x2)]) (by decide) (by simp [Value.category]) (Nat.le_of_ble_eq_true rfl) (fun j v q => ?_) (fun Z X hρ hz hτ => ?_)
  · exact aL_ok (n := 0) [.ref (ρ 0), .int x1, .int x2] j v q
  · subst hρ
    subst hτ
    exact w_X12_hasThen (Nat.le_refl _) Z X x1 x2 s r hz h

theorem dX12_set_0 : decode cX12_set 0 = .ok (.aload_n 0, 1) := by decide +kernel
theorem dX12_set_1 : decode cX12_set 1 = .ok (.iconst 0, 1) := by decide +kernel
theorem dX12_set_2 : decode cX12_set 2 = .ok (.putfield 122, 3) := by decide +kernel
theorem dX12_set_5 : decode cX12_set 5 = .ok (.aload_n 0, 1) := by decide +kernel
theorem dX12_set_6 : decode cX12_set 6 = .ok (.iload_n 1, 1) := by decide +kernel
theorem dX12_set_7 : decode cX12_set 7 = .ok (.iconst 0, 1) := by decide +kernel
theorem dX12_set_8 : decode cX12_set 8 = .ok (.iconst 1, 1) := by decide +kernel
theorem dX12_set_9 : decode cX12_set 9 = .ok (.invokevirtual 137, 3) := by decide +kernel
theorem dX12_set_12 : decode cX12_set 12 = .ok (.ifCond .eq 31, 3) := by decide +kernel
theorem dX12_set_15 : decode cX12_set 15 = .ok (.aload_n 0, 1) := by decide +kernel
theorem dX12_set_16 : decode cX12_set 16 = .ok (.iload_n 2, 1) := by decide +kernel
theorem dX12_set_17 : decode cX12_set 17 = .ok (.invokevirtual 141, 3) := by decide +kernel
theorem dX12_set_20 : decode cX12_set 20 = .ok (.ifCond .eq 23, 3) := by decide +kernel
theorem dX12_set_23 : decode cX12_set 23 = .ok (.aload_n 0, 1) := by decide +kernel
theorem dX12_set_24 : decode cX12_set 24 = .ok (.iload_n 3, 1) := by decide +kernel
theorem dX12_set_25 : decode cX12_set 25 = .ok (.iconst 0, 1) := by decide +kernel
theorem dX12_set_26 : decode cX12_set 26 = .ok (.iload_n 1, 1) := by decide +kernel
theorem dX12_set_27 : decode cX12_set 27 = .ok (.ifCond .ne 8, 3) := by decide +kernel
theorem dX12_set_30 : decode cX12_set 30 = .ok (.bipush 9, 2) := by decide +kernel
theorem dX12_set_32 : decode cX12_set 32 = .ok (.goto 5, 3) := by decide +kernel
theorem dX12_set_35 : decode cX12_set 35 = .ok (.bipush 99, 2) := by decide +kernel
theorem dX12_set_37 : decode cX12_set 37 = .ok (.invokevirtual 137, 3) := by decide +kernel
theorem dX12_set_40 : decode cX12_set 40 = .ok (.ifCond .ne 5, 3) := by decide +kernel
theorem dX12_set_43 : decode cX12_set 43 = .ok (.iconst 0, 1) := by decide +kernel
theorem dX12_set_44 : decode cX12_set 44 = .ok (.ireturn, 1) := by decide +kernel
theorem dX12_set_45 : decode cX12_set 45 = .ok (.iload_n 1, 1) := by decide +kernel
theorem dX12_set_46 : decode cX12_set 46 = .ok (.ifCond .ne 15, 3) := by decide +kernel
theorem dX12_set_49 : decode cX12_set 49 = .ok (.aload_n 0, 1) := by decide +kernel
theorem dX12_set_50 : decode cX12_set 50 = .ok (.getfield 7, 3) := by decide +kernel
theorem dX12_set_53 : decode cX12_set 53 = .ok (.iconst 4, 1) := by decide +kernel
theorem dX12_set_54 : decode cX12_set 54 = .ok (.iload_n 2, 1) := by decide +kernel
theorem dX12_set_55 : decode cX12_set 55 = .ok (.iadd, 1) := by decide +kernel
theorem dX12_set_56 : decode cX12_set 56 = .ok (.iload_n 3, 1) := by decide +kernel
theorem dX12_set_57 : decode cX12_set 57 = .ok (.iastore, 1) := by decide +kernel
theorem dX12_set_58 : decode cX12_set 58 = .ok (.goto 9, 3) := by decide +kernel
theorem dX12_set_61 : decode cX12_set 61 = .ok (.aload_n 0, 1) := by decide +kernel
theorem dX12_set_62 : decode cX12_set 62 = .ok (.iload_n 2, 1) := by decide +kernel
theorem dX12_set_63 : decode cX12_set 63 = .ok (.iload_n 3, 1) := by decide +kernel
theorem dX12_set_64 : decode cX12_set 64 = .ok (.invokevirtual 145, 3) := by decide +kernel
theorem dX12_set_67 : decode cX12_set 67 = .ok (.aload_n 0, 1) := by decide +kernel
theorem dX12_set_68 : decode cX12_set 68 = .ok (.iconst 0, 1) := by decide +kernel
theorem dX12_set_69 : decode cX12_set 69 = .ok (.putfield 125, 3) := by decide +kernel
theorem dX12_set_72 : decode cX12_set 72 = .ok (.iconst 1, 1) := by decide +kernel
theorem dX12_set_73 : decode cX12_set 73 = .ok (.ireturn, 1) := by decide +kernel
set_option maxRecDepth 100000 in
set_option maxHeartbeats 4000000 in
theorem jo_X12_set_37 {fr : Nat} (hfr : 1 ≤ fr) (Z : AZ) (X : AX Z cX12_set 4 RX12 (some .boolean) 1 fr) (x1 : Int32) (x2 : Int32) (x3 : Int32) (t1 : Int32) (t2 : Int32) (t3 : Int32) (s : Mem) (r : Int32 × Mem) (hz : zres Z = (some (.int r.1), r.2)) (h : jn_X12_set_37 x1 x2 x3 t1 t2 t3 s = some r) : AW Z s 37 [some (.ref (zr Z 0)), some (.int x1), some (.int x2), some (.int x3)] [.int t3, .int t2, .int t1, .ref (zr Z 0)] := by
  unfold jn_X12_set_37 at h
  obtain ⟨r6, er6, h⟩ := bnd h
  refine aw_callV X dX12_set_37 cv_RX12_137 (ok_X12_isIn er6 _ _ _ _ _) iu_RX12 rfl (Nat.le_trans (by decide) hfr) (by decide) rfl rfl (Nat.le_of_ble_eq_true rfl) ?_
  refine aw_if_ne (tgt := 45) X dX12_set_40 (by decide) (fun c7 => ?_) (fun c7 => ?_)
  · rw [if_neg c7] at h
    refine aw_iload_n X dX12_set_45 rfl ?_
    refine aw_if_ne (tgt := 61) X dX12_set_46 (by decide) (fun c8 => ?_) (fun c8 => ?_)
    · rw [if_neg c8] at h
      refine aw_aload_n X dX12_set_61 rfl ?_
      refine aw_iload_n X dX12_set_62 rfl ?_
      refine aw_iload_n X dX12_set_63 rfl ?_
      obtain ⟨r9, er9, h⟩ := bnd h
      refine aw_callV X dX12_set_64 cv_RX12_145 (ok_X12_hasThen er9 _ _ _ _ _) iu_RX12 rfl (Nat.le_trans (by decide) hfr) (by decide) rfl rfl (Nat.le_of_ble_eq_true rfl) ?_
      refine aw_aload_n X dX12_set_67 rfl ?_
      refine aw_iconst (v := 0) X dX12_set_68 (by decide) ?_
      refine aw_put X dX12_set_69 fp_RX12_125 iu_RX12 gu_RX12_3 rfl rfl ?_
      refine aw_iconst (v := 1) X dX12_set_72 (by decide) ?_
      cases h
      exact aw_zret X dX12_set_73 rfl rfl hz.symm
    · rw [if_pos c8] at h
      refine aw_aload_n X dX12_set_49 rfl ?_
      refine aw_getr X dX12_set_50 fl_RX12_7 iu_RX12 gu_RX12_1 ?_
      refine aw_iconst (v := 4) X dX12_set_53 (by decide) ?_
      refine aw_iload_n X dX12_set_54 rfl ?_
      refine aw_iadd X dX12_set_55 ?_
      refine aw_iload_n X dX12_set_56 rfl ?_
      obtain ⟨s10, es10, h⟩ := bnd h
      refine aw_iast X dX12_set_57 iu_RX12_1 es10 ?_
      refine aw_goto (tgt := 67) X dX12_set_58 (by decide) ?_
      refine aw_aload_n X dX12_set_67 rfl ?_
      refine aw_iconst (v := 0) X dX12_set_68 (by decide) ?_
      refine aw_put X dX12_set_69 fp_RX12_125 iu_RX12 gu_RX12_3 rfl rfl ?_
      refine aw_iconst (v := 1) X dX12_set_72 (by decide) ?_
      cases h
      exact aw_zret X dX12_set_73 rfl rfl hz.symm
  · rw [if_pos c7] at h
    refine aw_iconst (v := 0) X dX12_set_43 (by decide) ?_
    cases h
    exact aw_zret X dX12_set_44 rfl rfl hz.symm
set_option maxRecDepth 100000 in
set_option maxHeartbeats 4000000 in
theorem w_X12_set {fr : Nat} (hfr : 1 ≤ fr) (Z : AZ) (X : AX Z cX12_set 4 RX12 (some .boolean) 1 fr) (x1 : Int32) (x2 : Int32) (x3 : Int32) (s : Mem) (r : Int32 × Mem) (hz : zres Z = (some (.int r.1), r.2)) (h : f_X12_set x1 x2 x3 s = some r) : AW Z s 0 [some (.ref (zr Z 0)), some (.int x1), some (.int x2), some (.int x3)] [] := by
  unfold f_X12_set at h
  refine aw_aload_n X dX12_set_0 rfl ?_
  refine aw_iconst (v := 0) X dX12_set_1 (by decide) ?_
  refine aw_put X dX12_set_2 fp_RX12_122 iu_RX12 gu_RX12_0 rfl rfl ?_
  refine aw_aload_n X dX12_set_5 rfl ?_
  refine aw_iload_n X dX12_set_6 rfl ?_
  refine aw_iconst (v := 0) X dX12_set_7 (by decide) ?_
  refine aw_iconst (v := 1) X dX12_set_8 (by decide) ?_
  obtain ⟨r1, er1, h⟩ := bnd h
  refine aw_callV X dX12_set_9 cv_RX12_137 (ok_X12_isIn er1 _ _ _ _ _) iu_RX12 rfl (Nat.le_trans (by decide) hfr) (by decide) rfl rfl (Nat.le_of_ble_eq_true rfl) ?_
  refine aw_if_eq (tgt := 43) X dX12_set_12 (by decide) (fun c2 => ?_) (fun c2 => ?_)
  · rw [if_pos c2] at h
    refine aw_iconst (v := 0) X dX12_set_43 (by decide) ?_
    cases h
    exact aw_zret X dX12_set_44 rfl rfl hz.symm
  · rw [if_neg c2] at h
    refine aw_aload_n X dX12_set_15 rfl ?_
    refine aw_iload_n X dX12_set_16 rfl ?_
    obtain ⟨r3, er3, h⟩ := bnd h
    refine aw_callV X dX12_set_17 cv_RX12_141 (ok_X12_isPerson er3 _ _ _ _ _) iu_RX12 rfl (Nat.le_trans (by decide) hfr) (by decide) rfl rfl (Nat.le_of_ble_eq_true rfl) ?_
    refine aw_if_eq (tgt := 43) X dX12_set_20 (by decide) (fun c4 => ?_) (fun c4 => ?_)
    · rw [if_pos c4] at h
      refine aw_iconst (v := 0) X dX12_set_43 (by decide) ?_
      cases h
      exact aw_zret X dX12_set_44 rfl rfl hz.symm
    · rw [if_neg c4] at h
      refine aw_aload_n X dX12_set_23 rfl ?_
      refine aw_iload_n X dX12_set_24 rfl ?_
      refine aw_iconst (v := 0) X dX12_set_25 (by decide) ?_
      refine aw_iload_n X dX12_set_26 rfl ?_
      refine aw_if_ne (tgt := 35) X dX12_set_27 (by decide) (fun c5 => ?_) (fun c5 => ?_)
      · rw [if_neg c5] at h
        refine aw_bipush (v := 99) X dX12_set_35 (by decide) ?_
        refine aw_msk [true, true, true, true] ?_
        exact jo_X12_set_37 hfr Z X _ _ _ _ _ _ _ _ hz h
      · rw [if_pos c5] at h
        refine aw_bipush (v := 9) X dX12_set_30 (by decide) ?_
        refine aw_goto (tgt := 37) X dX12_set_32 (by decide) ?_
        refine aw_msk [true, true, true, true] ?_
        exact jo_X12_set_37 hfr Z X _ _ _ _ _ _ _ _ hz h
set_option maxRecDepth 100000 in
set_option maxHeartbeats 4000000 in
theorem ok_X12_set {x1 x2 x3 : Int32} {s : Mem} {r : Int32 × Mem} (h : f_X12_set x1 x2 x3 s = some r) (l : Launch) (D : va_G) (ρ : Nat → Nat) (cA : ClassId × ClassId × ClassId) (τ : AT) : AM l D ρ cA 1 τ yX12_set cX12_set 4 (some .boolean) 1 [.ref (ρ 0), .int x1, .int x2, .int x3] (some (.int r.1)) s r.2 := by
  refine AM_of (L := [some (.ref (ρ 0)), some (.int x1), some (.int x2), some (.int x3)]) (by decide) (by simp [Value.category]) (Nat.le_of_ble_eq_true rfl) (fun j v q => ?_) (fun Z X hρ hz hτ => ?_)
  · exact aL_ok (n := 0) [.ref (ρ 0), .int x1, .int x2, .int x3] j v q
  · subst hρ
    subst hτ
    exact w_X12_set (Nat.le_refl _) Z X x1 x2 x3 s r hz h

theorem dX12_types_0 : decode cX12_types 0 = .ok (.bipush 24, 2) := by decide +kernel
theorem dX12_types_2 : decode cX12_types 2 = .ok (.istore_n 2, 1) := by decide +kernel
theorem dX12_types_3 : decode cX12_types 3 = .ok (.iload_n 2, 1) := by decide +kernel
theorem dX12_types_4 : decode cX12_types 4 = .ok (.ifCond .lt 35, 3) := by decide +kernel
theorem dX12_types_7 : decode cX12_types 7 = .ok (.aload_n 0, 1) := by decide +kernel
theorem dX12_types_8 : decode cX12_types 8 = .ok (.getfield 22, 3) := by decide +kernel
theorem dX12_types_11 : decode cX12_types 11 = .ok (.aload_n 0, 1) := by decide +kernel
theorem dX12_types_12 : decode cX12_types 12 = .ok (.getfield 149, 3) := by decide +kernel
theorem dX12_types_15 : decode cX12_types 15 = .ok (.iload_n 1, 1) := by decide +kernel
theorem dX12_types_16 : decode cX12_types 16 = .ok (.iload_n 2, 1) := by decide +kernel
theorem dX12_types_17 : decode cX12_types 17 = .ok (.ishr, 1) := by decide +kernel
theorem dX12_types_18 : decode cX12_types 18 = .ok (.sipush 255, 3) := by decide +kernel
theorem dX12_types_21 : decode cX12_types 21 = .ok (.iand, 1) := by decide +kernel
theorem dX12_types_22 : decode cX12_types 22 = .ok (.iastore, 1) := by decide +kernel
theorem dX12_types_23 : decode cX12_types 23 = .ok (.aload_n 0, 1) := by decide +kernel
theorem dX12_types_24 : decode cX12_types 24 = .ok (.aload_n 0, 1) := by decide +kernel
theorem dX12_types_25 : decode cX12_types 25 = .ok (.getfield 149, 3) := by decide +kernel
theorem dX12_types_28 : decode cX12_types 28 = .ok (.iconst 1, 1) := by decide +kernel
theorem dX12_types_29 : decode cX12_types 29 = .ok (.iadd, 1) := by decide +kernel
theorem dX12_types_30 : decode cX12_types 30 = .ok (.putfield 149, 3) := by decide +kernel
theorem dX12_types_33 : decode cX12_types 33 = .ok (.iinc 2 (-8), 3) := by decide +kernel
theorem dX12_types_36 : decode cX12_types 36 = .ok (.goto (-33), 3) := by decide +kernel
theorem dX12_types_39 : decode cX12_types 39 = .ok (.return_, 1) := by decide +kernel
set_option maxRecDepth 100000 in
set_option maxHeartbeats 4000000 in
theorem so_X12_types_3 {fr : Nat} (hfr : 0 ≤ fr) (Z : AZ) (X : AX Z cX12_types 3 RX12 none 1 fr) (x1 : Int32) (x2 : Int32) (s : Mem) (q : (Int32 × Mem) ⊕ (Mem)) (h : st_X12_types_3 x1 x2 s = some q) (hi : ∀ y : Int32 × Mem, q = .inl y → AW Z y.2 3 [some (.ref (zr Z 0)), some (.int x1), some (.int y.1)] []) (he : ∀ b : Mem, q = .inr b → AW Z b 39 [none, none, none] []) : AW Z s 3 [some (.ref (zr Z 0)), some (.int x1), some (.int x2)] [] := by
  unfold st_X12_types_3 at h
  refine aw_iload_n X dX12_types_3 rfl ?_
  refine aw_if_lt (tgt := 39) X dX12_types_4 (by decide) (fun c1 => ?_) (fun c1 => ?_)
  · rw [if_pos c1] at h
    cases h
    refine aw_msk [false, false, false] ?_
    exact he _ rfl
  · rw [if_neg c1] at h
    refine aw_aload_n X dX12_types_7 rfl ?_
    refine aw_getr X dX12_types_8 fl_RX12_22 iu_RX12 gu_RX12_8 ?_
    refine aw_aload_n X dX12_types_11 rfl ?_
    refine aw_geti X dX12_types_12 fl_RX12_149 iu_RX12 gu_RX12_9 ?_
    refine aw_iload_n X dX12_types_15 rfl ?_
    refine aw_iload_n X dX12_types_16 rfl ?_
    refine aw_ishr X dX12_types_17 ?_
    refine aw_sipush (v := 255) X dX12_types_18 (by decide) ?_
    refine aw_iand X dX12_types_21 ?_
    obtain ⟨s2, es2, h⟩ := bnd h
    refine aw_iast X dX12_types_22 iu_RX12_8 es2 ?_
    refine aw_aload_n X dX12_types_23 rfl ?_
    refine aw_aload_n X dX12_types_24 rfl ?_
    refine aw_geti X dX12_types_25 fl_RX12_149 iu_RX12 gu_RX12_9 ?_
    refine aw_iconst (v := 1) X dX12_types_28 (by decide) ?_
    refine aw_iadd X dX12_types_29 ?_
    refine aw_put X dX12_types_30 fp_RX12_149 iu_RX12 gu_RX12_9 rfl rfl ?_
    refine aw_iinc (v := (x2 + (-8))) (L' := [some (.ref (zr Z 0)), some (.int x1), some (.int (x2 + (-8)))]) X dX12_types_33 rfl rfl (by decide) rfl ?_
    refine aw_goto (tgt := 3) X dX12_types_36 (by decide) ?_
    cases h
    refine aw_msk [true, true, true] ?_
    exact hi _ rfl
set_option maxRecDepth 100000 in
set_option maxHeartbeats 4000000 in
theorem w_X12_types {fr : Nat} (hfr : 0 ≤ fr) (Z : AZ) (X : AX Z cX12_types 3 RX12 none 1 fr) (x1 : Int32) (s : Mem) (r : Mem) (hz : zres Z = (none, r)) (h : f_X12_types x1 s = some r) : AW Z s 0 [some (.ref (zr Z 0)), some (.int x1), none] [] := by
  unfold f_X12_types at h
  refine aw_bipush (v := 24) X dX12_types_0 (by decide) ?_
  refine aw_istore_n (L' := [some (.ref (zr Z 0)), some (.int x1), some (.int 24)]) X dX12_types_2 (by decide) rfl ?_
  obtain ⟨r3, er3, h⟩ := bnd h
  refine aw_msk [true, true, true] ?_
  refine it_ok (P := fun y : Int32 × Mem => AW Z y.2 3 [some (.ref (zr Z 0)), some (.int x1), some (.int y.1)] []) (Q := fun b : Mem => AW Z b 39 [none, none, none] []) (fun y q hq hi he => so_X12_types_3 hfr Z X x1 y.1 y.2 q hq hi he) FUEL _ _ er3 ?_
  cases h
  exact aw_vret X dX12_types_39 rfl hz.symm
set_option maxRecDepth 100000 in
set_option maxHeartbeats 4000000 in
theorem ok_X12_types {x1 : Int32} {s : Mem} {r : Mem} (h : f_X12_types x1 s = some r) (l : Launch) (D : va_G) (ρ : Nat → Nat) (cA : ClassId × ClassId × ClassId) (τ : AT) : AM l D ρ cA 1 τ yX12_types cX12_types 3 none 0 [.ref (ρ 0), .int x1] none s r := by
  refine AM_of (L := [some (.ref (ρ 0)), some (.int x1), none]) (by decide) (by simp [Value.category]) (Nat.le_of_ble_eq_true rfl) (fun j v q => ?_) (fun Z X hρ hz hτ => ?_)
  · exact aL_ok (n := 1) [.ref (ρ 0), .int x1] j v q
  · subst hρ
    subst hτ
    exact w_X12_types (Nat.le_refl _) Z X x1 s r hz h

theorem dX12_feed_0 : decode cX12_feed 0 = .ok (.aload_n 0, 1) := by decide +kernel
theorem dX12_feed_1 : decode cX12_feed 1 = .ok (.iconst 0, 1) := by decide +kernel
theorem dX12_feed_2 : decode cX12_feed 2 = .ok (.putfield 122, 3) := by decide +kernel
theorem dX12_feed_5 : decode cX12_feed 5 = .ok (.aload_n 0, 1) := by decide +kernel
theorem dX12_feed_6 : decode cX12_feed 6 = .ok (.getfield 149, 3) := by decide +kernel
theorem dX12_feed_9 : decode cX12_feed 9 = .ok (.sipush 380, 3) := by decide +kernel
theorem dX12_feed_12 : decode cX12_feed 12 = .ok (.if_icmp .le 5, 3) := by decide +kernel
theorem dX12_feed_15 : decode cX12_feed 15 = .ok (.iconst (-1), 1) := by decide +kernel
theorem dX12_feed_16 : decode cX12_feed 16 = .ok (.ireturn, 1) := by decide +kernel
theorem dX12_feed_17 : decode cX12_feed 17 = .ok (.aload_n 0, 1) := by decide +kernel
theorem dX12_feed_18 : decode cX12_feed 18 = .ok (.iload_n 1, 1) := by decide +kernel
theorem dX12_feed_19 : decode cX12_feed 19 = .ok (.invokevirtual 152, 3) := by decide +kernel
theorem dX12_feed_22 : decode cX12_feed 22 = .ok (.aload_n 0, 1) := by decide +kernel
theorem dX12_feed_23 : decode cX12_feed 23 = .ok (.iload_n 2, 1) := by decide +kernel
theorem dX12_feed_24 : decode cX12_feed 24 = .ok (.invokevirtual 152, 3) := by decide +kernel
theorem dX12_feed_27 : decode cX12_feed 27 = .ok (.aload_n 0, 1) := by decide +kernel
theorem dX12_feed_28 : decode cX12_feed 28 = .ok (.iload_n 3, 1) := by decide +kernel
theorem dX12_feed_29 : decode cX12_feed 29 = .ok (.invokevirtual 152, 3) := by decide +kernel
theorem dX12_feed_32 : decode cX12_feed 32 = .ok (.aload_n 0, 1) := by decide +kernel
theorem dX12_feed_33 : decode cX12_feed 33 = .ok (.iload 4, 2) := by decide +kernel
theorem dX12_feed_35 : decode cX12_feed 35 = .ok (.invokevirtual 152, 3) := by decide +kernel
theorem dX12_feed_38 : decode cX12_feed 38 = .ok (.aload_n 0, 1) := by decide +kernel
theorem dX12_feed_39 : decode cX12_feed 39 = .ok (.iload 5, 2) := by decide +kernel
theorem dX12_feed_41 : decode cX12_feed 41 = .ok (.invokevirtual 152, 3) := by decide +kernel
theorem dX12_feed_44 : decode cX12_feed 44 = .ok (.aload_n 0, 1) := by decide +kernel
theorem dX12_feed_45 : decode cX12_feed 45 = .ok (.getfield 149, 3) := by decide +kernel
theorem dX12_feed_48 : decode cX12_feed 48 = .ok (.ireturn, 1) := by decide +kernel
set_option maxRecDepth 100000 in
set_option maxHeartbeats 4000000 in
theorem w_X12_feed {fr : Nat} (hfr : 1 ≤ fr) (Z : AZ) (X : AX Z cX12_feed 6 RX12 (some .int) 1 fr) (x1 : Int32) (x2 : Int32) (x3 : Int32) (x4 : Int32) (x5 : Int32) (s : Mem) (r : Int32 × Mem) (hz : zres Z = (some (.int r.1), r.2)) (h : f_X12_feed x1 x2 x3 x4 x5 s = some r) : AW Z s 0 [some (.ref (zr Z 0)), some (.int x1), some (.int x2), some (.int x3), some (.int x4), some (.int x5)] [] := by
  unfold f_X12_feed at h
  refine aw_aload_n X dX12_feed_0 rfl ?_
  refine aw_iconst (v := 0) X dX12_feed_1 (by decide) ?_
  refine aw_put X dX12_feed_2 fp_RX12_122 iu_RX12 gu_RX12_0 rfl rfl ?_
  refine aw_aload_n X dX12_feed_5 rfl ?_
  refine aw_geti X dX12_feed_6 fl_RX12_149 iu_RX12 gu_RX12_9 ?_
  refine aw_sipush (v := 380) X dX12_feed_9 (by decide) ?_
  refine aw_icmp_le (tgt := 17) X dX12_feed_12 (by decide) (fun c1 => ?_) (fun c1 => ?_)
  · rw [if_pos c1] at h
    refine aw_aload_n X dX12_feed_17 rfl ?_
    refine aw_iload_n X dX12_feed_18 rfl ?_
    obtain ⟨r2, er2, h⟩ := bnd h
    refine aw_callV X dX12_feed_19 cv_RX12_152 (ok_X12_types er2 _ _ _ _ _) iu_RX12 rfl (Nat.le_trans (by decide) hfr) (by decide) rfl rfl (Nat.le_of_ble_eq_true rfl) ?_
    refine aw_aload_n X dX12_feed_22 rfl ?_
    refine aw_iload_n X dX12_feed_23 rfl ?_
    obtain ⟨r3, er3, h⟩ := bnd h
    refine aw_callV X dX12_feed_24 cv_RX12_152 (ok_X12_types er3 _ _ _ _ _) iu_RX12 rfl (Nat.le_trans (by decide) hfr) (by decide) rfl rfl (Nat.le_of_ble_eq_true rfl) ?_
    refine aw_aload_n X dX12_feed_27 rfl ?_
    refine aw_iload_n X dX12_feed_28 rfl ?_
    obtain ⟨r4, er4, h⟩ := bnd h
    refine aw_callV X dX12_feed_29 cv_RX12_152 (ok_X12_types er4 _ _ _ _ _) iu_RX12 rfl (Nat.le_trans (by decide) hfr) (by decide) rfl rfl (Nat.le_of_ble_eq_true rfl) ?_
    refine aw_aload_n X dX12_feed_32 rfl ?_
    refine aw_iload X dX12_feed_33 rfl ?_
    obtain ⟨r5, er5, h⟩ := bnd h
    refine aw_callV X dX12_feed_35 cv_RX12_152 (ok_X12_types er5 _ _ _ _ _) iu_RX12 rfl (Nat.le_trans (by decide) hfr) (by decide) rfl rfl (Nat.le_of_ble_eq_true rfl) ?_
    refine aw_aload_n X dX12_feed_38 rfl ?_
    refine aw_iload X dX12_feed_39 rfl ?_
    obtain ⟨r6, er6, h⟩ := bnd h
    refine aw_callV X dX12_feed_41 cv_RX12_152 (ok_X12_types er6 _ _ _ _ _) iu_RX12 rfl (Nat.le_trans (by decide) hfr) (by decide) rfl rfl (Nat.le_of_ble_eq_true rfl) ?_
    refine aw_aload_n X dX12_feed_44 rfl ?_
    refine aw_geti X dX12_feed_45 fl_RX12_149 iu_RX12 gu_RX12_9 ?_
    cases h
    exact aw_iret X dX12_feed_48 rfl hz.symm
  · rw [if_neg c1] at h
    refine aw_iconst (v := (-1)) X dX12_feed_15 (by decide) ?_
    cases h
    exact aw_iret X dX12_feed_16 rfl hz.symm
set_option maxRecDepth 100000 in
set_option maxHeartbeats 4000000 in
theorem ok_X12_feed {x1 x2 x3 x4 x5 : Int32} {s : Mem} {r : Int32 × Mem} (h : f_X12_feed x1 x2 x3 x4 x5 s = some r) (l : Launch) (D : va_G) (ρ : Nat → Nat) (cA : ClassId × ClassId × ClassId) (τ : AT) : AM l D ρ cA 1 τ yX12_feed cX12_feed 6 (some .int) 1 [.ref (ρ 0), .int x1, .int x2, .int x3, .int x4, .int x5] (some (.int r.1)) s r.2 := by
  refine AM_of (L := [some (.ref (ρ 0)), some (.int x1), some (.int x2), some (.int x3), some (.int x4), some (.int x5)]) (by decide) (by simp [Value.category]) (Nat.le_of_ble_eq_true rfl) (fun j v q => ?_) (fun Z X hρ hz hτ => ?_)
  · exact aL_ok (n := 0) [.ref (ρ 0), .int x1, .int x2, .int x3, .int x4, .int x5] j v q
  · subst hρ
    subst hτ
    exact w_X12_feed (Nat.le_refl _) Z X x1 x2 x3 x4 x5 s r hz h

theorem dX12_end_0 : decode cX12_end 0 = .ok (.aload_n 0, 1) := by decide +kernel
theorem dX12_end_1 : decode cX12_end 1 = .ok (.iconst 0, 1) := by decide +kernel
theorem dX12_end_2 : decode cX12_end 2 = .ok (.putfield 122, 3) := by decide +kernel
theorem dX12_end_5 : decode cX12_end 5 = .ok (.aload_n 0, 1) := by decide +kernel
theorem dX12_end_6 : decode cX12_end 6 = .ok (.iload_n 1, 1) := by decide +kernel
theorem dX12_end_7 : decode cX12_end 7 = .ok (.iconst 0, 1) := by decide +kernel
theorem dX12_end_8 : decode cX12_end 8 = .ok (.aload_n 0, 1) := by decide +kernel
theorem dX12_end_9 : decode cX12_end 9 = .ok (.getfield 149, 3) := by decide +kernel
theorem dX12_end_12 : decode cX12_end 12 = .ok (.invokevirtual 137, 3) := by decide +kernel
theorem dX12_end_15 : decode cX12_end 15 = .ok (.ifCond .ne 5, 3) := by decide +kernel
theorem dX12_end_18 : decode cX12_end 18 = .ok (.iconst 0, 1) := by decide +kernel
theorem dX12_end_19 : decode cX12_end 19 = .ok (.ireturn, 1) := by decide +kernel
theorem dX12_end_20 : decode cX12_end 20 = .ok (.aload_n 0, 1) := by decide +kernel
theorem dX12_end_21 : decode cX12_end 21 = .ok (.iload_n 1, 1) := by decide +kernel
theorem dX12_end_22 : decode cX12_end 22 = .ok (.putfield 149, 3) := by decide +kernel
theorem dX12_end_25 : decode cX12_end 25 = .ok (.iconst 1, 1) := by decide +kernel
theorem dX12_end_26 : decode cX12_end 26 = .ok (.ireturn, 1) := by decide +kernel
set_option maxRecDepth 100000 in
set_option maxHeartbeats 4000000 in
theorem w_X12_end {fr : Nat} (hfr : 1 ≤ fr) (Z : AZ) (X : AX Z cX12_end 2 RX12 (some .boolean) 1 fr) (x1 : Int32) (s : Mem) (r : Int32 × Mem) (hz : zres Z = (some (.int r.1), r.2)) (h : f_X12_end x1 s = some r) : AW Z s 0 [some (.ref (zr Z 0)), some (.int x1)] [] := by
  unfold f_X12_end at h
  refine aw_aload_n X dX12_end_0 rfl ?_
  refine aw_iconst (v := 0) X dX12_end_1 (by decide) ?_
  refine aw_put X dX12_end_2 fp_RX12_122 iu_RX12 gu_RX12_0 rfl rfl ?_
  refine aw_aload_n X dX12_end_5 rfl ?_
  refine aw_iload_n X dX12_end_6 rfl ?_
  refine aw_iconst (v := 0) X dX12_end_7 (by decide) ?_
  refine aw_aload_n X dX12_end_8 rfl ?_
  refine aw_geti X dX12_end_9 fl_RX12_149 iu_RX12 gu_RX12_9 ?_
  obtain ⟨r1, er1, h⟩ := bnd h
  refine aw_callV X dX12_end_12 cv_RX12_137 (ok_X12_isIn er1 _ _ _ _ _) iu_RX12 rfl (Nat.le_trans (by decide) hfr) (by decide) rfl rfl (Nat.le_of_ble_eq_true rfl) ?_
  refine aw_if_ne (tgt := 20) X dX12_end_15 (by decide) (fun c2 => ?_) (fun c2 => ?_)
  · rw [if_neg c2] at h
    refine aw_aload_n X dX12_end_20 rfl ?_
    refine aw_iload_n X dX12_end_21 rfl ?_
    refine aw_put X dX12_end_22 fp_RX12_149 iu_RX12 gu_RX12_9 rfl rfl ?_
    refine aw_iconst (v := 1) X dX12_end_25 (by decide) ?_
    cases h
    exact aw_zret X dX12_end_26 rfl rfl hz.symm
  · rw [if_pos c2] at h
    refine aw_iconst (v := 0) X dX12_end_18 (by decide) ?_
    cases h
    exact aw_zret X dX12_end_19 rfl rfl hz.symm
set_option maxRecDepth 100000 in
set_option maxHeartbeats 4000000 in
theorem ok_X12_end {x1 : Int32} {s : Mem} {r : Int32 × Mem} (h : f_X12_end x1 s = some r) (l : Launch) (D : va_G) (ρ : Nat → Nat) (cA : ClassId × ClassId × ClassId) (τ : AT) : AM l D ρ cA 1 τ yX12_end cX12_end 2 (some .boolean) 1 [.ref (ρ 0), .int x1] (some (.int r.1)) s r.2 := by
  refine AM_of (L := [some (.ref (ρ 0)), some (.int x1)]) (by decide) (by simp [Value.category]) (Nat.le_of_ble_eq_true rfl) (fun j v q => ?_) (fun Z X hρ hz hτ => ?_)
  · exact aL_ok (n := 0) [.ref (ρ 0), .int x1] j v q
  · subst hρ
    subst hτ
    exact w_X12_end (Nat.le_refl _) Z X x1 s r hz h

theorem dX12_raw_0 : decode cX12_raw 0 = .ok (.iload_n 1, 1) := by decide +kernel
theorem dX12_raw_1 : decode cX12_raw 1 = .ok (.aload_n 0, 1) := by decide +kernel
theorem dX12_raw_2 : decode cX12_raw 2 = .ok (.getfield 149, 3) := by decide +kernel
theorem dX12_raw_5 : decode cX12_raw 5 = .ok (.if_icmp .ge 12, 3) := by decide +kernel
theorem dX12_raw_8 : decode cX12_raw 8 = .ok (.aload_n 0, 1) := by decide +kernel
theorem dX12_raw_9 : decode cX12_raw 9 = .ok (.getfield 22, 3) := by decide +kernel
theorem dX12_raw_12 : decode cX12_raw 12 = .ok (.iload_n 1, 1) := by decide +kernel
theorem dX12_raw_13 : decode cX12_raw 13 = .ok (.iaload, 1) := by decide +kernel
theorem dX12_raw_14 : decode cX12_raw 14 = .ok (.goto 4, 3) := by decide +kernel
theorem dX12_raw_17 : decode cX12_raw 17 = .ok (.iconst (-1), 1) := by decide +kernel
theorem dX12_raw_18 : decode cX12_raw 18 = .ok (.ireturn, 1) := by decide +kernel
set_option maxRecDepth 100000 in
set_option maxHeartbeats 4000000 in
theorem w_X12_raw {fr : Nat} (hfr : 0 ≤ fr) (Z : AZ) (X : AX Z cX12_raw 2 RX12 (some .int) 1 fr) (x1 : Int32) (s : Mem) (r : Int32 × Mem) (hz : zres Z = (some (.int r.1), r.2)) (h : f_X12_raw x1 s = some r) : AW Z s 0 [some (.ref (zr Z 0)), some (.int x1)] [] := by
  unfold f_X12_raw at h
  refine aw_iload_n X dX12_raw_0 rfl ?_
  refine aw_aload_n X dX12_raw_1 rfl ?_
  refine aw_geti X dX12_raw_2 fl_RX12_149 iu_RX12 gu_RX12_9 ?_
  refine aw_icmp_ge (tgt := 17) X dX12_raw_5 (by decide) (fun c1 => ?_) (fun c1 => ?_)
  · rw [if_pos c1] at h
    refine aw_iconst (v := (-1)) X dX12_raw_17 (by decide) ?_
    cases h
    exact aw_iret X dX12_raw_18 rfl hz.symm
  · rw [if_neg c1] at h
    refine aw_aload_n X dX12_raw_8 rfl ?_
    refine aw_getr X dX12_raw_9 fl_RX12_22 iu_RX12 gu_RX12_8 ?_
    refine aw_iload_n X dX12_raw_12 rfl ?_
    obtain ⟨v2, ev2, h⟩ := bnd h
    refine aw_iald X dX12_raw_13 iu_RX12_8 ev2 ?_
    refine aw_goto (tgt := 18) X dX12_raw_14 (by decide) ?_
    cases h
    exact aw_iret X dX12_raw_18 rfl hz.symm
set_option maxRecDepth 100000 in
set_option maxHeartbeats 4000000 in
theorem ok_X12_raw {x1 : Int32} {s : Mem} {r : Int32 × Mem} (h : f_X12_raw x1 s = some r) (l : Launch) (D : va_G) (ρ : Nat → Nat) (cA : ClassId × ClassId × ClassId) (τ : AT) : AM l D ρ cA 1 τ yX12_raw cX12_raw 2 (some .int) 0 [.ref (ρ 0), .int x1] (some (.int r.1)) s r.2 := by
  refine AM_of (L := [some (.ref (ρ 0)), some (.int x1)]) (by decide) (by simp [Value.category]) (Nat.le_of_ble_eq_true rfl) (fun j v q => ?_) (fun Z X hρ hz hτ => ?_)
  · exact aL_ok (n := 0) [.ref (ρ 0), .int x1] j v q
  · subst hρ
    subst hτ
    exact w_X12_raw (Nat.le_refl _) Z X x1 s r hz h

theorem dX12_isLetter_0 : decode cX12_isLetter 0 = .ok (.aload_n 0, 1) := by decide +kernel
theorem dX12_isLetter_1 : decode cX12_isLetter 1 = .ok (.iload_n 1, 1) := by decide +kernel
theorem dX12_isLetter_2 : decode cX12_isLetter 2 = .ok (.bipush 97, 2) := by decide +kernel
theorem dX12_isLetter_4 : decode cX12_isLetter 4 = .ok (.bipush 122, 2) := by decide +kernel
theorem dX12_isLetter_6 : decode cX12_isLetter 6 = .ok (.invokevirtual 137, 3) := by decide +kernel
theorem dX12_isLetter_9 : decode cX12_isLetter 9 = .ok (.ifCond .ne 15, 3) := by decide +kernel
theorem dX12_isLetter_12 : decode cX12_isLetter 12 = .ok (.aload_n 0, 1) := by decide +kernel
theorem dX12_isLetter_13 : decode cX12_isLetter 13 = .ok (.iload_n 1, 1) := by decide +kernel
theorem dX12_isLetter_14 : decode cX12_isLetter 14 = .ok (.bipush 65, 2) := by decide +kernel
theorem dX12_isLetter_16 : decode cX12_isLetter 16 = .ok (.bipush 90, 2) := by decide +kernel
theorem dX12_isLetter_18 : decode cX12_isLetter 18 = .ok (.invokevirtual 137, 3) := by decide +kernel
theorem dX12_isLetter_21 : decode cX12_isLetter 21 = .ok (.ifCond .eq 7, 3) := by decide +kernel
theorem dX12_isLetter_24 : decode cX12_isLetter 24 = .ok (.iconst 1, 1) := by decide +kernel
theorem dX12_isLetter_25 : decode cX12_isLetter 25 = .ok (.goto 4, 3) := by decide +kernel
theorem dX12_isLetter_28 : decode cX12_isLetter 28 = .ok (.iconst 0, 1) := by decide +kernel
theorem dX12_isLetter_29 : decode cX12_isLetter 29 = .ok (.ireturn, 1) := by decide +kernel
set_option maxRecDepth 100000 in
set_option maxHeartbeats 4000000 in
theorem jo_X12_isLetter_24 {fr : Nat} (hfr : 1 ≤ fr) (Z : AZ) (X : AX Z cX12_isLetter 2 RX12 (some .boolean) 1 fr) (s : Mem) (r : Int32 × Mem) (hz : zres Z = (some (.int r.1), r.2)) (h : jn_X12_isLetter_24 s = some r) : AW Z s 24 [none, none] [] := by
  unfold jn_X12_isLetter_24 at h
  refine aw_iconst (v := 1) X dX12_isLetter_24 (by decide) ?_
  refine aw_goto (tgt := 29) X dX12_isLetter_25 (by decide) ?_
  cases h
  exact aw_zret X dX12_isLetter_29 rfl rfl hz.symm
set_option maxRecDepth 100000 in
set_option maxHeartbeats 4000000 in
theorem w_X12_isLetter {fr : Nat} (hfr : 1 ≤ fr) (Z : AZ) (X : AX Z cX12_isLetter 2 RX12 (some .boolean) 1 fr) (x1 : Int32) (s : Mem) (r : Int32 × Mem) (hz : zres Z = (some (.int r.1), r.2)) (h : f_X12_isLetter x1 s = some r) : AW Z s 0 [some (.ref (zr Z 0)), some (.int x1)] [] := by
  unfold f_X12_isLetter at h
  refine aw_aload_n X dX12_isLetter_0 rfl ?_
  refine aw_iload_n X dX12_isLetter_1 rfl ?_
  refine aw_bipush (v := 97) X dX12_isLetter_2 (by decide) ?_
  refine aw_bipush (v := 122) X dX12_isLetter_4 (by decide) ?_
  obtain ⟨r1, er1, h⟩ := bnd h
  refine aw_callV X dX12_isLetter_6 cv_RX12_137 (ok_X12_isIn er1 _ _ _ _ _) iu_RX12 rfl (Nat.le_trans (by decide) hfr) (by decide) rfl rfl (Nat.le_of_ble_eq_true rfl) ?_
  refine aw_if_ne (tgt := 24) X dX12_isLetter_9 (by decide) (fun c2 => ?_) (fun c2 => ?_)
  · rw [if_neg c2] at h
    refine aw_msk [false, false] ?_
    exact jo_X12_isLetter_24 hfr Z X _ _ hz h
  · rw [if_pos c2] at h
    refine aw_aload_n X dX12_isLetter_12 rfl ?_
    refine aw_iload_n X dX12_isLetter_13 rfl ?_
    refine aw_bipush (v := 65) X dX12_isLetter_14 (by decide) ?_
    refine aw_bipush (v := 90) X dX12_isLetter_16 (by decide) ?_
    obtain ⟨r3, er3, h⟩ := bnd h
    refine aw_callV X dX12_isLetter_18 cv_RX12_137 (ok_X12_isIn er3 _ _ _ _ _) iu_RX12 rfl (Nat.le_trans (by decide) hfr) (by decide) rfl rfl (Nat.le_of_ble_eq_true rfl) ?_
    refine aw_if_eq (tgt := 28) X dX12_isLetter_21 (by decide) (fun c4 => ?_) (fun c4 => ?_)
    · rw [if_pos c4] at h
      refine aw_iconst (v := 0) X dX12_isLetter_28 (by decide) ?_
      cases h
      exact aw_zret X dX12_isLetter_29 rfl rfl hz.symm
    · rw [if_neg c4] at h
      refine aw_msk [false, false] ?_
      exact jo_X12_isLetter_24 hfr Z X _ _ hz h
set_option maxRecDepth 100000 in
set_option maxHeartbeats 4000000 in
theorem ok_X12_isLetter {x1 : Int32} {s : Mem} {r : Int32 × Mem} (h : f_X12_isLetter x1 s = some r) (l : Launch) (D : va_G) (ρ : Nat → Nat) (cA : ClassId × ClassId × ClassId) (τ : AT) : AM l D ρ cA 1 τ yX12_isLetter cX12_isLetter 2 (some .boolean) 1 [.ref (ρ 0), .int x1] (some (.int r.1)) s r.2 := by
  refine AM_of (L := [some (.ref (ρ 0)), some (.int x1)]) (by decide) (by simp [Value.category]) (Nat.le_of_ble_eq_true rfl) (fun j v q => ?_) (fun Z X hρ hz hτ => ?_)
  · exact aL_ok (n := 0) [.ref (ρ 0), .int x1] j v q
  · subst hρ
    subst hτ
    exact w_X12_isLetter (Nat.le_refl _) Z X x1 s r hz h

theorem dX12_isDigit_0 : decode cX12_isDigit 0 = .ok (.aload_n 0, 1) := by decide +kernel
theorem dX12_isDigit_1 : decode cX12_isDigit 1 = .ok (.iload_n 1, 1) := by decide +kernel
theorem dX12_isDigit_2 : decode cX12_isDigit 2 = .ok (.bipush 48, 2) := by decide +kernel
theorem dX12_isDigit_4 : decode cX12_isDigit 4 = .ok (.bipush 57, 2) := by decide +kernel
theorem dX12_isDigit_6 : decode cX12_isDigit 6 = .ok (.invokevirtual 137, 3) := by decide +kernel
theorem dX12_isDigit_9 : decode cX12_isDigit 9 = .ok (.ireturn, 1) := by decide +kernel
set_option maxRecDepth 100000 in
set_option maxHeartbeats 4000000 in
theorem w_X12_isDigit {fr : Nat} (hfr : 1 ≤ fr) (Z : AZ) (X : AX Z cX12_isDigit 2 RX12 (some .boolean) 1 fr) (x1 : Int32) (s : Mem) (r : Int32 × Mem) (hz : zres Z = (some (.int r.1), r.2)) (h : f_X12_isDigit x1 s = some r) : AW Z s 0 [some (.ref (zr Z 0)), some (.int x1)] [] := by
  unfold f_X12_isDigit at h
  refine aw_aload_n X dX12_isDigit_0 rfl ?_
  refine aw_iload_n X dX12_isDigit_1 rfl ?_
  refine aw_bipush (v := 48) X dX12_isDigit_2 (by decide) ?_
  refine aw_bipush (v := 57) X dX12_isDigit_4 (by decide) ?_
  obtain ⟨r1, er1, h⟩ := bnd h
  refine aw_callV X dX12_isDigit_6 cv_RX12_137 (ok_X12_isIn er1 _ _ _ _ _) iu_RX12 rfl (Nat.le_trans (by decide) hfr) (by decide) rfl rfl (Nat.le_of_ble_eq_true rfl) ?_
  by_cases c2 : ¬ (r1.1 = 0 ∨ r1.1 = 1)
  · rw [if_pos c2] at h
    cases h
  rw [if_neg c2] at h
  cases h
  exact aw_zret X dX12_isDigit_9 rfl (bz_n (Decidable.of_not_not c2)) hz.symm
set_option maxRecDepth 100000 in
set_option maxHeartbeats 4000000 in
theorem ok_X12_isDigit {x1 : Int32} {s : Mem} {r : Int32 × Mem} (h : f_X12_isDigit x1 s = some r) (l : Launch) (D : va_G) (ρ : Nat → Nat) (cA : ClassId × ClassId × ClassId) (τ : AT) : AM l D ρ cA 1 τ yX12_isDigit cX12_isDigit 2 (some .boolean) 1 [.ref (ρ 0), .int x1] (some (.int r.1)) s r.2 := by
  refine AM_of (L := [some (.ref (ρ 0)), some (.int x1)]) (by decide) (by simp [Value.category]) (Nat.le_of_ble_eq_true rfl) (fun j v q => ?_) (fun Z X hρ hz hτ => ?_)
  · exact aL_ok (n := 0) [.ref (ρ 0), .int x1] j v q
  · subst hρ
    subst hτ
    exact w_X12_isDigit (Nat.le_refl _) Z X x1 s r hz h

theorem dX12_isMarkSign_0 : decode cX12_isMarkSign 0 = .ok (.iload_n 1, 1) := by decide +kernel
theorem dX12_isMarkSign_1 : decode cX12_isMarkSign 1 = .ok (.bipush 59, 2) := by decide +kernel
theorem dX12_isMarkSign_3 : decode cX12_isMarkSign 3 = .ok (.if_icmp .eq 57, 3) := by decide +kernel
theorem dX12_isMarkSign_6 : decode cX12_isMarkSign 6 = .ok (.iload_n 1, 1) := by decide +kernel
theorem dX12_isMarkSign_7 : decode cX12_isMarkSign 7 = .ok (.bipush 43, 2) := by decide +kernel
theorem dX12_isMarkSign_9 : decode cX12_isMarkSign 9 = .ok (.if_icmp .eq 51, 3) := by decide +kernel
theorem dX12_isMarkSign_12 : decode cX12_isMarkSign 12 = .ok (.iload_n 1, 1) := by decide +kernel
theorem dX12_isMarkSign_13 : decode cX12_isMarkSign 13 = .ok (.bipush 45, 2) := by decide +kernel
theorem dX12_isMarkSign_15 : decode cX12_isMarkSign 15 = .ok (.if_icmp .eq 45, 3) := by decide +kernel
theorem dX12_isMarkSign_18 : decode cX12_isMarkSign 18 = .ok (.iload_n 1, 1) := by decide +kernel
theorem dX12_isMarkSign_19 : decode cX12_isMarkSign 19 = .ok (.bipush 42, 2) := by decide +kernel
theorem dX12_isMarkSign_21 : decode cX12_isMarkSign 21 = .ok (.if_icmp .eq 39, 3) := by decide +kernel
theorem dX12_isMarkSign_24 : decode cX12_isMarkSign 24 = .ok (.iload_n 1, 1) := by decide +kernel
theorem dX12_isMarkSign_25 : decode cX12_isMarkSign 25 = .ok (.bipush 47, 2) := by decide +kernel
theorem dX12_isMarkSign_27 : decode cX12_isMarkSign 27 = .ok (.if_icmp .eq 33, 3) := by decide +kernel
theorem dX12_isMarkSign_30 : decode cX12_isMarkSign 30 = .ok (.iload_n 1, 1) := by decide +kernel
theorem dX12_isMarkSign_31 : decode cX12_isMarkSign 31 = .ok (.bipush 40, 2) := by decide +kernel
theorem dX12_isMarkSign_33 : decode cX12_isMarkSign 33 = .ok (.if_icmp .eq 27, 3) := by decide +kernel
theorem dX12_isMarkSign_36 : decode cX12_isMarkSign 36 = .ok (.iload_n 1, 1) := by decide +kernel
theorem dX12_isMarkSign_37 : decode cX12_isMarkSign 37 = .ok (.bipush 41, 2) := by decide +kernel
theorem dX12_isMarkSign_39 : decode cX12_isMarkSign 39 = .ok (.if_icmp .eq 21, 3) := by decide +kernel
theorem dX12_isMarkSign_42 : decode cX12_isMarkSign 42 = .ok (.iload_n 1, 1) := by decide +kernel
theorem dX12_isMarkSign_43 : decode cX12_isMarkSign 43 = .ok (.bipush 60, 2) := by decide +kernel
theorem dX12_isMarkSign_45 : decode cX12_isMarkSign 45 = .ok (.if_icmp .eq 15, 3) := by decide +kernel
theorem dX12_isMarkSign_48 : decode cX12_isMarkSign 48 = .ok (.iload_n 1, 1) := by decide +kernel
theorem dX12_isMarkSign_49 : decode cX12_isMarkSign 49 = .ok (.bipush 61, 2) := by decide +kernel
theorem dX12_isMarkSign_51 : decode cX12_isMarkSign 51 = .ok (.if_icmp .eq 9, 3) := by decide +kernel
theorem dX12_isMarkSign_54 : decode cX12_isMarkSign 54 = .ok (.iload_n 1, 1) := by decide +kernel
theorem dX12_isMarkSign_55 : decode cX12_isMarkSign 55 = .ok (.bipush 62, 2) := by decide +kernel
theorem dX12_isMarkSign_57 : decode cX12_isMarkSign 57 = .ok (.if_icmp .ne 7, 3) := by decide +kernel
theorem dX12_isMarkSign_60 : decode cX12_isMarkSign 60 = .ok (.iconst 1, 1) := by decide +kernel
theorem dX12_isMarkSign_61 : decode cX12_isMarkSign 61 = .ok (.goto 4, 3) := by decide +kernel
theorem dX12_isMarkSign_64 : decode cX12_isMarkSign 64 = .ok (.iconst 0, 1) := by decide +kernel
theorem dX12_isMarkSign_65 : decode cX12_isMarkSign 65 = .ok (.ireturn, 1) := by decide +kernel
set_option maxRecDepth 100000 in
set_option maxHeartbeats 4000000 in
theorem jo_X12_isMarkSign_60 {fr : Nat} (hfr : 0 ≤ fr) (Z : AZ) (X : AX Z cX12_isMarkSign 2 RX12 (some .boolean) 1 fr) (s : Mem) (r : Int32 × Mem) (hz : zres Z = (some (.int r.1), r.2)) (h : jn_X12_isMarkSign_60 s = some r) : AW Z s 60 [none, none] [] := by
  unfold jn_X12_isMarkSign_60 at h
  refine aw_iconst (v := 1) X dX12_isMarkSign_60 (by decide) ?_
  refine aw_goto (tgt := 65) X dX12_isMarkSign_61 (by decide) ?_
  cases h
  exact aw_zret X dX12_isMarkSign_65 rfl rfl hz.symm
set_option maxRecDepth 100000 in
set_option maxHeartbeats 4000000 in
theorem w_X12_isMarkSign {fr : Nat} (hfr : 0 ≤ fr) (Z : AZ) (X : AX Z cX12_isMarkSign 2 RX12 (some .boolean) 1 fr) (x1 : Int32) (s : Mem) (r : Int32 × Mem) (hz : zres Z = (some (.int r.1), r.2)) (h : f_X12_isMarkSign x1 s = some r) : AW Z s 0 [some (.ref (zr Z 0)), some (.int x1)] [] := by
  unfold f_X12_isMarkSign at h
  refine aw_iload_n X dX12_isMarkSign_0 rfl ?_
  refine aw_bipush (v := 59) X dX12_isMarkSign_1 (by decide) ?_
  refine aw_icmp_eq (tgt := 60) X dX12_isMarkSign_3 (by decide) (fun c1 => ?_) (fun c1 => ?_)
  · rw [if_pos c1] at h
    refine aw_msk [false, false] ?_
    exact jo_X12_isMarkSign_60 hfr Z X _ _ hz h
  · rw [if_neg c1] at h
    refine aw_iload_n X dX12_isMarkSign_6 rfl ?_
    refine aw_bipush (v := 43) X dX12_isMarkSign_7 (by decide) ?_
    refine aw_icmp_eq (tgt := 60) X dX12_isMarkSign_9 (by decide) (fun c2 => ?_) (fun c2 => ?_)
    · rw [if_pos c2] at h
      refine aw_msk [false, false] ?_
      exact jo_X12_isMarkSign_60 hfr Z X _ _ hz h
    · rw [if_neg c2] at h
      refine aw_iload_n X dX12_isMarkSign_12 rfl ?_
      refine aw_bipush (v := 45) X dX12_isMarkSign_13 (by decide) ?_
      refine aw_icmp_eq (tgt := 60) X dX12_isMarkSign_15 (by decide) (fun c3 => ?_) (fun c3 => ?_)
      · rw [if_pos c3] at h
        refine aw_msk [false, false] ?_
        exact jo_X12_isMarkSign_60 hfr Z X _ _ hz h
      · rw [if_neg c3] at h
        refine aw_iload_n X dX12_isMarkSign_18 rfl ?_
        refine aw_bipush (v := 42) X dX12_isMarkSign_19 (by decide) ?_
        refine aw_icmp_eq (tgt := 60) X dX12_isMarkSign_21 (by decide) (fun c4 => ?_) (fun c4 => ?_)
        · rw [if_pos c4] at h
          refine aw_msk [false, false] ?_
          exact jo_X12_isMarkSign_60 hfr Z X _ _ hz h
        · rw [if_neg c4] at h
          refine aw_iload_n X dX12_isMarkSign_24 rfl ?_
          refine aw_bipush (v := 47) X dX12_isMarkSign_25 (by decide) ?_
          refine aw_icmp_eq (tgt := 60) X dX12_isMarkSign_27 (by decide) (fun c5 => ?_) (fun c5 => ?_)
          · rw [if_pos c5] at h
            refine aw_msk [false, false] ?_
            exact jo_X12_isMarkSign_60 hfr Z X _ _ hz h
          · rw [if_neg c5] at h
            refine aw_iload_n X dX12_isMarkSign_30 rfl ?_
            refine aw_bipush (v := 40) X dX12_isMarkSign_31 (by decide) ?_
            refine aw_icmp_eq (tgt := 60) X dX12_isMarkSign_33 (by decide) (fun c6 => ?_) (fun c6 => ?_)
            · rw [if_pos c6] at h
              refine aw_msk [false, false] ?_
              exact jo_X12_isMarkSign_60 hfr Z X _ _ hz h
            · rw [if_neg c6] at h
              refine aw_iload_n X dX12_isMarkSign_36 rfl ?_
              refine aw_bipush (v := 41) X dX12_isMarkSign_37 (by decide) ?_
              refine aw_icmp_eq (tgt := 60) X dX12_isMarkSign_39 (by decide) (fun c7 => ?_) (fun c7 => ?_)
              · rw [if_pos c7] at h
                refine aw_msk [false, false] ?_
                exact jo_X12_isMarkSign_60 hfr Z X _ _ hz h
              · rw [if_neg c7] at h
                refine aw_iload_n X dX12_isMarkSign_42 rfl ?_
                refine aw_bipush (v := 60) X dX12_isMarkSign_43 (by decide) ?_
                refine aw_icmp_eq (tgt := 60) X dX12_isMarkSign_45 (by decide) (fun c8 => ?_) (fun c8 => ?_)
                · rw [if_pos c8] at h
                  refine aw_msk [false, false] ?_
                  exact jo_X12_isMarkSign_60 hfr Z X _ _ hz h
                · rw [if_neg c8] at h
                  refine aw_iload_n X dX12_isMarkSign_48 rfl ?_
                  refine aw_bipush (v := 61) X dX12_isMarkSign_49 (by decide) ?_
                  refine aw_icmp_eq (tgt := 60) X dX12_isMarkSign_51 (by decide) (fun c9 => ?_) (fun c9 => ?_)
                  · rw [if_pos c9] at h
                    refine aw_msk [false, false] ?_
                    exact jo_X12_isMarkSign_60 hfr Z X _ _ hz h
                  · rw [if_neg c9] at h
                    refine aw_iload_n X dX12_isMarkSign_54 rfl ?_
                    refine aw_bipush (v := 62) X dX12_isMarkSign_55 (by decide) ?_
                    refine aw_icmp_ne (tgt := 64) X dX12_isMarkSign_57 (by decide) (fun c10 => ?_) (fun c10 => ?_)
                    · rw [if_neg c10] at h
                      refine aw_iconst (v := 0) X dX12_isMarkSign_64 (by decide) ?_
                      cases h
                      exact aw_zret X dX12_isMarkSign_65 rfl rfl hz.symm
                    · rw [if_pos c10] at h
                      refine aw_msk [false, false] ?_
                      exact jo_X12_isMarkSign_60 hfr Z X _ _ hz h
set_option maxRecDepth 100000 in
set_option maxHeartbeats 4000000 in
theorem ok_X12_isMarkSign {x1 : Int32} {s : Mem} {r : Int32 × Mem} (h : f_X12_isMarkSign x1 s = some r) (l : Launch) (D : va_G) (ρ : Nat → Nat) (cA : ClassId × ClassId × ClassId) (τ : AT) : AM l D ρ cA 1 τ yX12_isMarkSign cX12_isMarkSign 2 (some .boolean) 0 [.ref (ρ 0), .int x1] (some (.int r.1)) s r.2 := by
  refine AM_of (L := [some (.ref (ρ 0)), some (.int x1)]) (by decide) (by simp [Value.category]) (Nat.le_of_ble_eq_true rfl) (fun j v q => ?_) (fun Z X hρ hz hτ => ?_)
  · exact aL_ok (n := 0) [.ref (ρ 0), .int x1] j v q
  · subst hρ
    subst hτ
    exact w_X12_isMarkSign (Nat.le_refl _) Z X x1 s r hz h

theorem dX12_wordAt_0 : decode cX12_wordAt 0 = .ok (.iconst (-1), 1) := by decide +kernel
theorem dX12_wordAt_1 : decode cX12_wordAt 1 = .ok (.istore_n 3, 1) := by decide +kernel
theorem dX12_wordAt_2 : decode cX12_wordAt 2 = .ok (.iconst 0, 1) := by decide +kernel
theorem dX12_wordAt_3 : decode cX12_wordAt 3 = .ok (.istore 4, 2) := by decide +kernel
theorem dX12_wordAt_5 : decode cX12_wordAt 5 = .ok (.iload 4, 2) := by decide +kernel
theorem dX12_wordAt_7 : decode cX12_wordAt 7 = .ok (.sipush 132, 3) := by decide +kernel
theorem dX12_wordAt_10 : decode cX12_wordAt 10 = .ok (.if_icmp .ge 108, 3) := by decide +kernel
theorem dX12_wordAt_13 : decode cX12_wordAt 13 = .ok (.iconst 0, 1) := by decide +kernel
theorem dX12_wordAt_14 : decode cX12_wordAt 14 = .ok (.istore 5, 2) := by decide +kernel
theorem dX12_wordAt_16 : decode cX12_wordAt 16 = .ok (.iload_n 3, 1) := by decide +kernel
theorem dX12_wordAt_17 : decode cX12_wordAt 17 = .ok (.iconst 1, 1) := by decide +kernel
theorem dX12_wordAt_18 : decode cX12_wordAt 18 = .ok (.iadd, 1) := by decide +kernel
theorem dX12_wordAt_19 : decode cX12_wordAt 19 = .ok (.istore_n 3, 1) := by decide +kernel
theorem dX12_wordAt_20 : decode cX12_wordAt 20 = .ok (.iload_n 1, 1) := by decide +kernel
theorem dX12_wordAt_21 : decode cX12_wordAt 21 = .ok (.iload 5, 2) := by decide +kernel
theorem dX12_wordAt_23 : decode cX12_wordAt 23 = .ok (.iadd, 1) := by decide +kernel
theorem dX12_wordAt_24 : decode cX12_wordAt 24 = .ok (.iload_n 2, 1) := by decide +kernel
theorem dX12_wordAt_25 : decode cX12_wordAt 25 = .ok (.if_icmp .ge 36, 3) := by decide +kernel
theorem dX12_wordAt_28 : decode cX12_wordAt 28 = .ok (.aload_n 0, 1) := by decide +kernel
theorem dX12_wordAt_29 : decode cX12_wordAt 29 = .ok (.getfield 25, 3) := by decide +kernel
theorem dX12_wordAt_32 : decode cX12_wordAt 32 = .ok (.iload 4, 2) := by decide +kernel
theorem dX12_wordAt_34 : decode cX12_wordAt 34 = .ok (.iconst 1, 1) := by decide +kernel
theorem dX12_wordAt_35 : decode cX12_wordAt 35 = .ok (.iadd, 1) := by decide +kernel
theorem dX12_wordAt_36 : decode cX12_wordAt 36 = .ok (.iload 5, 2) := by decide +kernel
theorem dX12_wordAt_38 : decode cX12_wordAt 38 = .ok (.iadd, 1) := by decide +kernel
theorem dX12_wordAt_39 : decode cX12_wordAt 39 = .ok (.iaload, 1) := by decide +kernel
theorem dX12_wordAt_40 : decode cX12_wordAt 40 = .ok (.aload_n 0, 1) := by decide +kernel
theorem dX12_wordAt_41 : decode cX12_wordAt 41 = .ok (.getfield 22, 3) := by decide +kernel
theorem dX12_wordAt_44 : decode cX12_wordAt 44 = .ok (.iload_n 1, 1) := by decide +kernel
theorem dX12_wordAt_45 : decode cX12_wordAt 45 = .ok (.iload 5, 2) := by decide +kernel
theorem dX12_wordAt_47 : decode cX12_wordAt 47 = .ok (.iadd, 1) := by decide +kernel
theorem dX12_wordAt_48 : decode cX12_wordAt 48 = .ok (.iaload, 1) := by decide +kernel
theorem dX12_wordAt_49 : decode cX12_wordAt 49 = .ok (.if_icmp .ne 12, 3) := by decide +kernel
theorem dX12_wordAt_52 : decode cX12_wordAt 52 = .ok (.iload 5, 2) := by decide +kernel
theorem dX12_wordAt_54 : decode cX12_wordAt 54 = .ok (.iconst 1, 1) := by decide +kernel
theorem dX12_wordAt_55 : decode cX12_wordAt 55 = .ok (.iadd, 1) := by decide +kernel
theorem dX12_wordAt_56 : decode cX12_wordAt 56 = .ok (.istore 5, 2) := by decide +kernel
theorem dX12_wordAt_58 : decode cX12_wordAt 58 = .ok (.goto (-38), 3) := by decide +kernel
theorem dX12_wordAt_61 : decode cX12_wordAt 61 = .ok (.iload_n 1, 1) := by decide +kernel
theorem dX12_wordAt_62 : decode cX12_wordAt 62 = .ok (.iload 5, 2) := by decide +kernel
theorem dX12_wordAt_64 : decode cX12_wordAt 64 = .ok (.iadd, 1) := by decide +kernel
theorem dX12_wordAt_65 : decode cX12_wordAt 65 = .ok (.iload_n 2, 1) := by decide +kernel
theorem dX12_wordAt_66 : decode cX12_wordAt 66 = .ok (.if_icmp .ne 22, 3) := by decide +kernel
theorem dX12_wordAt_69 : decode cX12_wordAt 69 = .ok (.aload_n 0, 1) := by decide +kernel
theorem dX12_wordAt_70 : decode cX12_wordAt 70 = .ok (.getfield 25, 3) := by decide +kernel
theorem dX12_wordAt_73 : decode cX12_wordAt 73 = .ok (.iload 4, 2) := by decide +kernel
theorem dX12_wordAt_75 : decode cX12_wordAt 75 = .ok (.iconst 1, 1) := by decide +kernel
theorem dX12_wordAt_76 : decode cX12_wordAt 76 = .ok (.iadd, 1) := by decide +kernel
theorem dX12_wordAt_77 : decode cX12_wordAt 77 = .ok (.iload 5, 2) := by decide +kernel
theorem dX12_wordAt_79 : decode cX12_wordAt 79 = .ok (.iadd, 1) := by decide +kernel
theorem dX12_wordAt_80 : decode cX12_wordAt 80 = .ok (.iaload, 1) := by decide +kernel
theorem dX12_wordAt_81 : decode cX12_wordAt 81 = .ok (.bipush 32, 2) := by decide +kernel
theorem dX12_wordAt_83 : decode cX12_wordAt 83 = .ok (.if_icmp .ne 5, 3) := by decide +kernel
theorem dX12_wordAt_86 : decode cX12_wordAt 86 = .ok (.iload_n 3, 1) := by decide +kernel
theorem dX12_wordAt_87 : decode cX12_wordAt 87 = .ok (.ireturn, 1) := by decide +kernel
theorem dX12_wordAt_88 : decode cX12_wordAt 88 = .ok (.iload 4, 2) := by decide +kernel
theorem dX12_wordAt_90 : decode cX12_wordAt 90 = .ok (.iconst 1, 1) := by decide +kernel
theorem dX12_wordAt_91 : decode cX12_wordAt 91 = .ok (.iadd, 1) := by decide +kernel
theorem dX12_wordAt_92 : decode cX12_wordAt 92 = .ok (.istore 4, 2) := by decide +kernel
theorem dX12_wordAt_94 : decode cX12_wordAt 94 = .ok (.aload_n 0, 1) := by decide +kernel
theorem dX12_wordAt_95 : decode cX12_wordAt 95 = .ok (.getfield 25, 3) := by decide +kernel
theorem dX12_wordAt_98 : decode cX12_wordAt 98 = .ok (.iload 4, 2) := by decide +kernel
theorem dX12_wordAt_100 : decode cX12_wordAt 100 = .ok (.iaload, 1) := by decide +kernel
theorem dX12_wordAt_101 : decode cX12_wordAt 101 = .ok (.bipush 32, 2) := by decide +kernel
theorem dX12_wordAt_103 : decode cX12_wordAt 103 = .ok (.if_icmp .eq 12, 3) := by decide +kernel
theorem dX12_wordAt_106 : decode cX12_wordAt 106 = .ok (.iload 4, 2) := by decide +kernel
theorem dX12_wordAt_108 : decode cX12_wordAt 108 = .ok (.iconst 1, 1) := by decide +kernel
theorem dX12_wordAt_109 : decode cX12_wordAt 109 = .ok (.iadd, 1) := by decide +kernel
theorem dX12_wordAt_110 : decode cX12_wordAt 110 = .ok (.istore 4, 2) := by decide +kernel
theorem dX12_wordAt_112 : decode cX12_wordAt 112 = .ok (.goto (-18), 3) := by decide +kernel
theorem dX12_wordAt_115 : decode cX12_wordAt 115 = .ok (.goto (-110), 3) := by decide +kernel
theorem dX12_wordAt_118 : decode cX12_wordAt 118 = .ok (.iconst (-1), 1) := by decide +kernel
theorem dX12_wordAt_119 : decode cX12_wordAt 119 = .ok (.ireturn, 1) := by decide +kernel
set_option maxRecDepth 100000 in
set_option maxHeartbeats 4000000 in
theorem so_X12_wordAt_20 {fr : Nat} (hfr : 0 ≤ fr) (Z : AZ) (X : AX Z cX12_wordAt 6 RX12 (some .int) 1 fr) (x1 : Int32) (x2 : Int32) (x3 : Int32) (x4 : Int32) (x5 : Int32) (s : Mem) (q : (Int32 × Mem) ⊕ (Int32 × Mem)) (h : st_X12_wordAt_20 x1 x2 x3 x4 x5 s = some q) (hi : ∀ y : Int32 × Mem, q = .inl y → AW Z y.2 20 [some (.ref (zr Z 0)), some (.int x1), some (.int x2), some (.int x3), some (.int x4), some (.int y.1)] []) (he : ∀ b : Int32 × Mem, q = .inr b → AW Z b.2 61 [some (.ref (zr Z 0)), some (.int x1), some (.int x2), some (.int x3), some (.int x4), some (.int b.1)] []) : AW Z s 20 [some (.ref (zr Z 0)), some (.int x1), some (.int x2), some (.int x3), some (.int x4), some (.int x5)] [] := by
  unfold st_X12_wordAt_20 at h
  refine aw_iload_n X dX12_wordAt_20 rfl ?_
  refine aw_iload X dX12_wordAt_21 rfl ?_
  refine aw_iadd X dX12_wordAt_23 ?_
  refine aw_iload_n X dX12_wordAt_24 rfl ?_
  refine aw_icmp_ge (tgt := 61) X dX12_wordAt_25 (by decide) (fun c2 => ?_) (fun c2 => ?_)
  · rw [if_pos c2] at h
    cases h
    refine aw_msk [true, true, true, true, true, true] ?_
    exact he _ rfl
  · rw [if_neg c2] at h
    refine aw_aload_n X dX12_wordAt_28 rfl ?_
    refine aw_getr X dX12_wordAt_29 fl_RX12_25 iu_RX12 gu_RX12_14 ?_
    refine aw_iload X dX12_wordAt_32 rfl ?_
    refine aw_iconst (v := 1) X dX12_wordAt_34 (by decide) ?_
    refine aw_iadd X dX12_wordAt_35 ?_
    refine aw_iload X dX12_wordAt_36 rfl ?_
    refine aw_iadd X dX12_wordAt_38 ?_
    obtain ⟨v3, ev3, h⟩ := bnd h
    refine aw_iald X dX12_wordAt_39 iu_RX12_14 ev3 ?_
    refine aw_aload_n X dX12_wordAt_40 rfl ?_
    refine aw_getr X dX12_wordAt_41 fl_RX12_22 iu_RX12 gu_RX12_8 ?_
    refine aw_iload_n X dX12_wordAt_44 rfl ?_
    refine aw_iload X dX12_wordAt_45 rfl ?_
    refine aw_iadd X dX12_wordAt_47 ?_
    obtain ⟨v4, ev4, h⟩ := bnd h
    refine aw_iald X dX12_wordAt_48 iu_RX12_8 ev4 ?_
    refine aw_icmp_ne (tgt := 61) X dX12_wordAt_49 (by decide) (fun c5 => ?_) (fun c5 => ?_)
    · rw [if_neg c5] at h
      cases h
      refine aw_msk [true, true, true, true, true, true] ?_
      exact he _ rfl
    · rw [if_pos c5] at h
      refine aw_iload X dX12_wordAt_52 rfl ?_
      refine aw_iconst (v := 1) X dX12_wordAt_54 (by decide) ?_
      refine aw_iadd X dX12_wordAt_55 ?_
      refine aw_istore (L' := [some (.ref (zr Z 0)), some (.int x1), some (.int x2), some (.int x3), some (.int x4), some (.int (x5 + 1))]) X dX12_wordAt_56 (by decide) rfl ?_
      refine aw_goto (tgt := 20) X dX12_wordAt_58 (by decide) ?_
      cases h
      refine aw_msk [true, true, true, true, true, true] ?_
      exact hi _ rfl
set_option maxRecDepth 100000 in
set_option maxHeartbeats 4000000 in
theorem so_X12_wordAt_94 {fr : Nat} (hfr : 0 ≤ fr) (Z : AZ) (X : AX Z cX12_wordAt 6 RX12 (some .int) 1 fr) (x1 : Int32) (x2 : Int32) (x3 : Int32) (x4 : Int32) (s : Mem) (q : (Int32 × Mem) ⊕ (Int32 × Mem)) (h : st_X12_wordAt_94 x1 x2 x3 x4 s = some q) (hi : ∀ y : Int32 × Mem, q = .inl y → AW Z y.2 94 [some (.ref (zr Z 0)), some (.int x1), some (.int x2), some (.int x3), some (.int y.1), none] []) (he : ∀ b : Int32 × Mem, q = .inr b → AW Z b.2 115 [some (.ref (zr Z 0)), some (.int x1), some (.int x2), some (.int x3), some (.int b.1), none] []) : AW Z s 94 [some (.ref (zr Z 0)), some (.int x1), some (.int x2), some (.int x3), some (.int x4), none] [] := by
  unfold st_X12_wordAt_94 at h
  refine aw_aload_n X dX12_wordAt_94 rfl ?_
  refine aw_getr X dX12_wordAt_95 fl_RX12_25 iu_RX12 gu_RX12_14 ?_
  refine aw_iload X dX12_wordAt_98 rfl ?_
  obtain ⟨v8, ev8, h⟩ := bnd h
  refine aw_iald X dX12_wordAt_100 iu_RX12_14 ev8 ?_
  refine aw_bipush (v := 32) X dX12_wordAt_101 (by decide) ?_
  refine aw_icmp_eq (tgt := 115) X dX12_wordAt_103 (by decide) (fun c9 => ?_) (fun c9 => ?_)
  · rw [if_pos c9] at h
    cases h
    refine aw_msk [true, true, true, true, true, false] ?_
    exact he _ rfl
  · rw [if_neg c9] at h
    refine aw_iload X dX12_wordAt_106 rfl ?_
    refine aw_iconst (v := 1) X dX12_wordAt_108 (by decide) ?_
    refine aw_iadd X dX12_wordAt_109 ?_
    refine aw_istore (L' := [some (.ref (zr Z 0)), some (.int x1), some (.int x2), some (.int x3), some (.int (x4 + 1)), none]) X dX12_wordAt_110 (by decide) rfl ?_
    refine aw_goto (tgt := 94) X dX12_wordAt_112 (by decide) ?_
    cases h
    refine aw_msk [true, true, true, true, true, false] ?_
    exact hi _ rfl
set_option maxRecDepth 100000 in
set_option maxHeartbeats 4000000 in
theorem jo_X12_wordAt_88 {fr : Nat} (hfr : 0 ≤ fr) (Z : AZ) (X : AX Z cX12_wordAt 6 RX12 (some .int) 1 fr) (x1 : Int32) (x2 : Int32) (x3 : Int32) (x4 : Int32) (s : Mem) (q : (Int32 × Int32 × Mem) ⊕ (Nat × Int32 × Mem)) (h : jn_X12_wordAt_88 x1 x2 x3 x4 s = some q) (hi : ∀ y : Int32 × Int32 × Mem, q = .inl y → AW Z y.2.2 5 [some (.ref (zr Z 0)), some (.int x1), some (.int x2), some (.int y.1), some (.int y.2.1), none] []) (he : ∀ b : Nat × Int32 × Mem, q = .inr b → (b.1 = 0 → AW Z b.2.2 86 [none, none, none, some (.int b.2.1), none, none] []) ∧ (b.1 = 1 → AW Z b.2.2 118 [none, none, none, none, none, none] [])) : AW Z s 88 [some (.ref (zr Z 0)), some (.int x1), some (.int x2), some (.int x3), some (.int x4), none] [] := by
  unfold jn_X12_wordAt_88 at h
  refine aw_iload X dX12_wordAt_88 rfl ?_
  refine aw_iconst (v := 1) X dX12_wordAt_90 (by decide) ?_
  refine aw_iadd X dX12_wordAt_91 ?_
  refine aw_istore (L' := [some (.ref (zr Z 0)), some (.int x1), some (.int x2), some (.int x3), some (.int (x4 + 1)), none]) X dX12_wordAt_92 (by decide) rfl ?_
  obtain ⟨r10, er10, h⟩ := bnd h
  refine aw_msk [true, true, true, true, true, false] ?_
  refine it_ok (P := fun y : Int32 × Mem => AW Z y.2 94 [some (.ref (zr Z 0)), some (.int x1), some (.int x2), some (.int x3), some (.int y.1), none] []) (Q := fun b : Int32 × Mem => AW Z b.2 115 [some (.ref (zr Z 0)), some (.int x1), some (.int x2), some (.int x3), some (.int b.1), none] []) (fun y q hq hi he => so_X12_wordAt_94 hfr Z X x1 x2 x3 y.1 y.2 q hq hi he) FUEL _ _ er10 ?_
  refine aw_goto (tgt := 5) X dX12_wordAt_115 (by decide) ?_
  cases h
  refine aw_msk [true, true, true, true, true, false] ?_
  exact hi _ rfl
set_option maxRecDepth 100000 in
set_option maxHeartbeats 4000000 in
theorem jo_X12_wordAt_61 {fr : Nat} (hfr : 0 ≤ fr) (Z : AZ) (X : AX Z cX12_wordAt 6 RX12 (some .int) 1 fr) (x1 : Int32) (x2 : Int32) (x3 : Int32) (x4 : Int32) (x5 : Int32) (s : Mem) (q : (Int32 × Int32 × Mem) ⊕ (Nat × Int32 × Mem)) (h : jn_X12_wordAt_61 x1 x2 x3 x4 x5 s = some q) (hi : ∀ y : Int32 × Int32 × Mem, q = .inl y → AW Z y.2.2 5 [some (.ref (zr Z 0)), some (.int x1), some (.int x2), some (.int y.1), some (.int y.2.1), none] []) (he : ∀ b : Nat × Int32 × Mem, q = .inr b → (b.1 = 0 → AW Z b.2.2 86 [none, none, none, some (.int b.2.1), none, none] []) ∧ (b.1 = 1 → AW Z b.2.2 118 [none, none, none, none, none, none] [])) : AW Z s 61 [some (.ref (zr Z 0)), some (.int x1), some (.int x2), some (.int x3), some (.int x4), some (.int x5)] [] := by
  unfold jn_X12_wordAt_61 at h
  refine aw_iload_n X dX12_wordAt_61 rfl ?_
  refine aw_iload X dX12_wordAt_62 rfl ?_
  refine aw_iadd X dX12_wordAt_64 ?_
  refine aw_iload_n X dX12_wordAt_65 rfl ?_
  refine aw_icmp_ne (tgt := 88) X dX12_wordAt_66 (by decide) (fun c7 => ?_) (fun c7 => ?_)
  · rw [if_neg c7] at h
    refine aw_msk [true, true, true, true, true, false] ?_
    exact jo_X12_wordAt_88 hfr Z X _ _ _ _ _ _ h hi he
  · rw [if_pos c7] at h
    refine aw_aload_n X dX12_wordAt_69 rfl ?_
    refine aw_getr X dX12_wordAt_70 fl_RX12_25 iu_RX12 gu_RX12_14 ?_
    refine aw_iload X dX12_wordAt_73 rfl ?_
    refine aw_iconst (v := 1) X dX12_wordAt_75 (by decide) ?_
    refine aw_iadd X dX12_wordAt_76 ?_
    refine aw_iload X dX12_wordAt_77 rfl ?_
    refine aw_iadd X dX12_wordAt_79 ?_
    obtain ⟨v11, ev11, h⟩ := bnd h
    refine aw_iald X dX12_wordAt_80 iu_RX12_14 ev11 ?_
    refine aw_bipush (v := 32) X dX12_wordAt_81 (by decide) ?_
    refine aw_icmp_ne (tgt := 88) X dX12_wordAt_83 (by decide) (fun c12 => ?_) (fun c12 => ?_)
    · rw [if_neg c12] at h
      refine aw_msk [true, true, true, true, true, false] ?_
      exact jo_X12_wordAt_88 hfr Z X _ _ _ _ _ _ h hi he
    · rw [if_pos c12] at h
      cases h
      refine aw_msk [false, false, false, true, false, false] ?_
      exact (he _ rfl).1 rfl
set_option maxRecDepth 100000 in
set_option maxHeartbeats 4000000 in
theorem so_X12_wordAt_5 {fr : Nat} (hfr : 0 ≤ fr) (Z : AZ) (X : AX Z cX12_wordAt 6 RX12 (some .int) 1 fr) (x1 : Int32) (x2 : Int32) (x3 : Int32) (x4 : Int32) (s : Mem) (q : (Int32 × Int32 × Mem) ⊕ (Nat × Int32 × Mem)) (h : st_X12_wordAt_5 x1 x2 x3 x4 s = some q) (hi : ∀ y : Int32 × Int32 × Mem, q = .inl y → AW Z y.2.2 5 [some (.ref (zr Z 0)), some (.int x1), some (.int x2), some (.int y.1), some (.int y.2.1), none] []) (he : ∀ b : Nat × Int32 × Mem, q = .inr b → (b.1 = 0 → AW Z b.2.2 86 [none, none, none, some (.int b.2.1), none, none] []) ∧ (b.1 = 1 → AW Z b.2.2 118 [none, none, none, none, none, none] [])) : AW Z s 5 [some (.ref (zr Z 0)), some (.int x1), some (.int x2), some (.int x3), some (.int x4), none] [] := by
  unfold st_X12_wordAt_5 at h
  refine aw_iload X dX12_wordAt_5 rfl ?_
  refine aw_sipush (v := 132) X dX12_wordAt_7 (by decide) ?_
  refine aw_icmp_ge (tgt := 118) X dX12_wordAt_10 (by decide) (fun c1 => ?_) (fun c1 => ?_)
  · rw [if_pos c1] at h
    cases h
    refine aw_msk [false, false, false, false, false, false] ?_
    exact (he _ rfl).2 rfl
  · rw [if_neg c1] at h
    refine aw_iconst (v := 0) X dX12_wordAt_13 (by decide) ?_
    refine aw_istore (L' := [some (.ref (zr Z 0)), some (.int x1), some (.int x2), some (.int x3), some (.int x4), some (.int 0)]) X dX12_wordAt_14 (by decide) rfl ?_
    refine aw_iload_n X dX12_wordAt_16 rfl ?_
    refine aw_iconst (v := 1) X dX12_wordAt_17 (by decide) ?_
    refine aw_iadd X dX12_wordAt_18 ?_
    refine aw_istore_n (L' := [some (.ref (zr Z 0)), some (.int x1), some (.int x2), some (.int (x3 + 1)), some (.int x4), some (.int 0)]) X dX12_wordAt_19 (by decide) rfl ?_
    obtain ⟨r6, er6, h⟩ := bnd h
    refine aw_msk [true, true, true, true, true, true] ?_
    refine it_ok (P := fun y : Int32 × Mem => AW Z y.2 20 [some (.ref (zr Z 0)), some (.int x1), some (.int x2), some (.int (x3 + 1)), some (.int x4), some (.int y.1)] []) (Q := fun b : Int32 × Mem => AW Z b.2 61 [some (.ref (zr Z 0)), some (.int x1), some (.int x2), some (.int (x3 + 1)), some (.int x4), some (.int b.1)] []) (fun y q hq hi he => so_X12_wordAt_20 hfr Z X x1 x2 (x3 + 1) x4 y.1 y.2 q hq hi he) FUEL _ _ er6 ?_
    refine aw_msk [true, true, true, true, true, true] ?_
    exact jo_X12_wordAt_61 hfr Z X _ _ _ _ _ _ _ h hi he
set_option maxRecDepth 100000 in
set_option maxHeartbeats 4000000 in
theorem w_X12_wordAt {fr : Nat} (hfr : 0 ≤ fr) (Z : AZ) (X : AX Z cX12_wordAt 6 RX12 (some .int) 1 fr) (x1 : Int32) (x2 : Int32) (s : Mem) (r : Int32 × Mem) (hz : zres Z = (some (.int r.1), r.2)) (h : f_X12_wordAt x1 x2 s = some r) : AW Z s 0 [some (.ref (zr Z 0)), some (.int x1), some (.int x2), none, none, none] [] := by
  unfold f_X12_wordAt at h
  refine aw_iconst (v := (-1)) X dX12_wordAt_0 (by decide) ?_
  refine aw_istore_n (L' := [some (.ref (zr Z 0)), some (.int x1), some (.int x2), some (.int (-1)), none, none]) X dX12_wordAt_1 (by decide) rfl ?_
  refine aw_iconst (v := 0) X dX12_wordAt_2 (by decide) ?_
  refine aw_istore (L' := [some (.ref (zr Z 0)), some (.int x1), some (.int x2), some (.int (-1)), some (.int 0), none]) X dX12_wordAt_3 (by decide) rfl ?_
  obtain ⟨r13, er13, h⟩ := bnd h
  refine aw_msk [true, true, true, true, true, false] ?_
  refine it_ok (P := fun y : Int32 × Int32 × Mem => AW Z y.2.2 5 [some (.ref (zr Z 0)), some (.int x1), some (.int x2), some (.int y.1), some (.int y.2.1), none] []) (Q := fun b : Nat × Int32 × Mem => (b.1 = 0 → AW Z b.2.2 86 [none, none, none, some (.int b.2.1), none, none] []) ∧ (b.1 = 1 → AW Z b.2.2 118 [none, none, none, none, none, none] [])) (fun y q hq hi he => so_X12_wordAt_5 hfr Z X x1 x2 y.1 y.2.1 y.2.2 q hq hi he) FUEL _ _ er13 ?_
  refine ⟨fun c0 => ?_, fun c1 => ?_⟩
  · rw [if_pos c0] at h
    refine aw_iload_n X dX12_wordAt_86 rfl ?_
    cases h
    exact aw_iret X dX12_wordAt_87 rfl hz.symm
  · rw [if_neg (by rw [c1]; decide)] at h
    refine aw_iconst (v := (-1)) X dX12_wordAt_118 (by decide) ?_
    cases h
    exact aw_iret X dX12_wordAt_119 rfl hz.symm
set_option maxRecDepth 100000 in
set_option maxHeartbeats 4000000 in
theorem ok_X12_wordAt {x1 x2 : Int32} {s : Mem} {r : Int32 × Mem} (h : f_X12_wordAt x1 x2 s = some r) (l : Launch) (D : va_G) (ρ : Nat → Nat) (cA : ClassId × ClassId × ClassId) (τ : AT) : AM l D ρ cA 1 τ yX12_wordAt cX12_wordAt 6 (some .int) 0 [.ref (ρ 0), .int x1, .int x2] (some (.int r.1)) s r.2 := by
  refine AM_of (L := [some (.ref (ρ 0)), some (.int x1), some (.int x2), none, none, none]) (by decide) (by simp [Value.category]) (Nat.le_of_ble_eq_true rfl) (fun j v q => ?_) (fun Z X hρ hz hτ => ?_)
  · exact aL_ok (n := 3) [.ref (ρ 0), .int x1, .int x2] j v q
  · subst hρ
    subst hτ
    exact w_X12_wordAt (Nat.le_refl _) Z X x1 x2 s r hz h
