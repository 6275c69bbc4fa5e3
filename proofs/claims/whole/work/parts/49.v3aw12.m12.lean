/-! ===== walks: X12_isBad .. X12_look ===== -/
theorem dX12_isBad_0 : decode cX12_isBad 0 = .ok (.iconst 0, 1) := by decide +kernel
theorem dX12_isBad_1 : decode cX12_isBad 1 = .ok (.istore_n 2, 1) := by decide +kernel
theorem dX12_isBad_2 : decode cX12_isBad 2 = .ok (.iload_n 2, 1) := by decide +kernel
theorem dX12_isBad_3 : decode cX12_isBad 3 = .ok (.aload_n 0, 1) := by decide +kernel
theorem dX12_isBad_4 : decode cX12_isBad 4 = .ok (.getfield 465, 3) := by decide +kernel
theorem dX12_isBad_7 : decode cX12_isBad 7 = .ok (.if_icmp .ge 21, 3) := by decide +kernel
theorem dX12_isBad_10 : decode cX12_isBad 10 = .ok (.aload_n 0, 1) := by decide +kernel
theorem dX12_isBad_11 : decode cX12_isBad 11 = .ok (.getfield 107, 3) := by decide +kernel
theorem dX12_isBad_14 : decode cX12_isBad 14 = .ok (.iload_n 2, 1) := by decide +kernel
theorem dX12_isBad_15 : decode cX12_isBad 15 = .ok (.iaload, 1) := by decide +kernel
theorem dX12_isBad_16 : decode cX12_isBad 16 = .ok (.iload_n 1, 1) := by decide +kernel
theorem dX12_isBad_17 : decode cX12_isBad 17 = .ok (.if_icmp .ne 5, 3) := by decide +kernel
theorem dX12_isBad_20 : decode cX12_isBad 20 = .ok (.iconst 1, 1) := by decide +kernel
theorem dX12_isBad_21 : decode cX12_isBad 21 = .ok (.ireturn, 1) := by decide +kernel
theorem dX12_isBad_22 : decode cX12_isBad 22 = .ok (.iinc 2 1, 3) := by decide +kernel
theorem dX12_isBad_25 : decode cX12_isBad 25 = .ok (.goto (-23), 3) := by decide +kernel
theorem dX12_isBad_28 : decode cX12_isBad 28 = .ok (.iconst 0, 1) := by decide +kernel
theorem dX12_isBad_29 : decode cX12_isBad 29 = .ok (.ireturn, 1) := by decide +kernel
set_option maxRecDepth 100000 in
set_option maxHeartbeats 4000000 in
theorem so_X12_isBad_2 {fr : Nat} (hfr : 0 ≤ fr) (Z : AZ) (X : AX Z cX12_isBad 3 RX12 (some .boolean) 1 fr) (x1 : Int32) (x2 : Int32) (s : Mem) (q : (Int32 × Mem) ⊕ (Nat × Mem)) (h : st_X12_isBad_2 x1 x2 s = some q) (hi : ∀ y : Int32 × Mem, q = .inl y → AW Z y.2 2 [some (.ref (zr Z 0)), some (.int x1), some (.int y.1)] []) (he : ∀ b : Nat × Mem, q = .inr b → (b.1 = 0 → AW Z b.2 20 [none, none, none] []) ∧ (b.1 = 1 → AW Z b.2 28 [none, none, none] [])) : AW Z s 2 [some (.ref (zr Z 0)), some (.int x1), some (.int x2)] [] := by
  unfold st_X12_isBad_2 at h
  refine aw_iload_n X dX12_isBad_2 rfl ?_
  refine aw_aload_n X dX12_isBad_3 rfl ?_
  refine aw_geti X dX12_isBad_4 fl_RX12_465 iu_RX12 gu_RX12_55 ?_
  refine aw_icmp_ge (tgt := 28) X dX12_isBad_7 (by decide) (fun c1 => ?_) (fun c1 => ?_)
  · rw [if_pos c1] at h
    cases h
    refine aw_msk [false, false, false] ?_
    exact (he _ rfl).2 rfl
  · rw [if_neg c1] at h
    refine aw_aload_n X dX12_isBad_10 rfl ?_
    refine aw_getr X dX12_isBad_11 fl_RX12_107 iu_RX12 gu_RX12_56 ?_
    refine aw_iload_n X dX12_isBad_14 rfl ?_
    obtain ⟨v2, ev2, h⟩ := bnd h
    refine aw_iald X dX12_isBad_15 iu_RX12_56 ev2 ?_
    refine aw_iload_n X dX12_isBad_16 rfl ?_
    refine aw_icmp_ne (tgt := 22) X dX12_isBad_17 (by decide) (fun c3 => ?_) (fun c3 => ?_)
    · rw [if_neg c3] at h
      refine aw_iinc (v := (x2 + 1)) (L' := [some (.ref (zr Z 0)), some (.int x1), some (.int (x2 + 1))]) X dX12_isBad_22 rfl rfl (by decide) rfl ?_
      refine aw_goto (tgt := 2) X dX12_isBad_25 (by decide) ?_
      cases h
      refine aw_msk [true, true, true] ?_
      exact hi _ rfl
    · rw [if_pos c3] at h
      cases h
      refine aw_msk [false, false, false] ?_
      exact (he _ rfl).1 rfl
set_option maxRecDepth 100000 in
set_option maxHeartbeats 4000000 in
theorem w_X12_isBad {fr : Nat} (hfr : 0 ≤ fr) (Z : AZ) (X : AX Z cX12_isBad 3 RX12 (some .boolean) 1 fr) (x1 : Int32) (s : Mem) (r : Int32 × Mem) (hz : zres Z = (some (.int r.1), r.2)) (h : f_X12_isBad x1 s = some r) : AW Z s 0 [some (.ref (zr Z 0)), some (.int x1), none] [] := by
  unfold f_X12_isBad at h
  refine aw_iconst (v := 0) X dX12_isBad_0 (by decide) ?_
  refine aw_istore_n (L' := [some (.ref (zr Z 0)), some (.int x1), some (.int 0)]) X dX12_isBad_1 (by decide) rfl ?_
  obtain ⟨r4, er4, h⟩ := bnd h
  refine aw_msk [true, true, true] ?_
  refine it_ok (P := fun y : Int32 × Mem => AW Z y.2 2 [some (.ref (zr Z 0)), some (.int x1), some (.int y.1)] []) (Q := fun b : Nat × Mem => (b.1 = 0 → AW Z b.2 20 [none, none, none] []) ∧ (b.1 = 1 → AW Z b.2 28 [none, none, none] [])) (fun y q hq hi he => so_X12_isBad_2 hfr Z X x1 y.1 y.2 q hq hi he) FUEL _ _ er4 ?_
  refine ⟨fun c0 => ?_, fun c1 => ?_⟩
  · rw [if_pos c0] at h
    refine aw_iconst (v := 1) X dX12_isBad_20 (by decide) ?_
    cases h
    exact aw_zret X dX12_isBad_21 rfl rfl hz.symm
  · rw [if_neg (by rw [c1]; decide)] at h
    refine aw_iconst (v := 0) X dX12_isBad_28 (by decide) ?_
    cases h
    exact aw_zret X dX12_isBad_29 rfl rfl hz.symm
set_option maxRecDepth 100000 in
set_option maxHeartbeats 4000000 in
theorem ok_X12_isBad {x1 : Int32} {s : Mem} {r : Int32 × Mem} (h : f_X12_isBad x1 s = some r) (l : Launch) (D : va_G) (ρ : Nat → Nat) (cA : ClassId × ClassId × ClassId) (τ : AT) : AM l D ρ cA 1 τ yX12_isBad cX12_isBad 3 (some .boolean) 0 [.ref (ρ 0), .int x1] (some (.int r.1)) s r.2 := by
  refine AM_of (L := [some (.ref (ρ 0)), some (.int x1), none]) (by decide) (by simp [Value.category]) (Nat.le_of_ble_eq_true rfl) (fun j v q => ?_) (fun Z X hρ hz hτ => ?_)
  · exact aL_ok (n := 1) [.ref (ρ 0), .int x1] j v q
  · subst hρ
    subst hτ
    exact w_X12_isBad (Nat.le_refl _) Z X x1 s r hz h

theorem dX12_stair_0 : decode cX12_stair 0 = .ok (.aload_n 0, 1) := by decide +kernel
theorem dX12_stair_1 : decode cX12_stair 1 = .ok (.iconst 0, 1) := by decide +kernel
theorem dX12_stair_2 : decode cX12_stair 2 = .ok (.putfield 122, 3) := by decide +kernel
theorem dX12_stair_5 : decode cX12_stair 5 = .ok (.aload_n 0, 1) := by decide +kernel
theorem dX12_stair_6 : decode cX12_stair 6 = .ok (.iload_n 1, 1) := by decide +kernel
theorem dX12_stair_7 : decode cX12_stair 7 = .ok (.iconst 0, 1) := by decide +kernel
theorem dX12_stair_8 : decode cX12_stair 8 = .ok (.bipush 40, 2) := by decide +kernel
theorem dX12_stair_10 : decode cX12_stair 10 = .ok (.invokevirtual 137, 3) := by decide +kernel
theorem dX12_stair_13 : decode cX12_stair 13 = .ok (.ifCond .eq 24, 3) := by decide +kernel
theorem dX12_stair_16 : decode cX12_stair 16 = .ok (.aload_n 0, 1) := by decide +kernel
theorem dX12_stair_17 : decode cX12_stair 17 = .ok (.iload_n 2, 1) := by decide +kernel
theorem dX12_stair_18 : decode cX12_stair 18 = .ok (.iconst 1, 1) := by decide +kernel
theorem dX12_stair_19 : decode cX12_stair 19 = .ok (.bipush 6, 2) := by decide +kernel
theorem dX12_stair_21 : decode cX12_stair 21 = .ok (.invokevirtual 137, 3) := by decide +kernel
theorem dX12_stair_24 : decode cX12_stair 24 = .ok (.ifCond .eq 13, 3) := by decide +kernel
theorem dX12_stair_27 : decode cX12_stair 27 = .ok (.aload_n 0, 1) := by decide +kernel
theorem dX12_stair_28 : decode cX12_stair 28 = .ok (.iload_n 3, 1) := by decide +kernel
theorem dX12_stair_29 : decode cX12_stair 29 = .ok (.iconst 0, 1) := by decide +kernel
theorem dX12_stair_30 : decode cX12_stair 30 = .ok (.iconst 1, 1) := by decide +kernel
theorem dX12_stair_31 : decode cX12_stair 31 = .ok (.invokevirtual 137, 3) := by decide +kernel
theorem dX12_stair_34 : decode cX12_stair 34 = .ok (.ifCond .ne 5, 3) := by decide +kernel
theorem dX12_stair_37 : decode cX12_stair 37 = .ok (.iconst (-1), 1) := by decide +kernel
theorem dX12_stair_38 : decode cX12_stair 38 = .ok (.ireturn, 1) := by decide +kernel
theorem dX12_stair_39 : decode cX12_stair 39 = .ok (.iconst 0, 1) := by decide +kernel
theorem dX12_stair_40 : decode cX12_stair 40 = .ok (.istore 4, 2) := by decide +kernel
theorem dX12_stair_42 : decode cX12_stair 42 = .ok (.iload 4, 2) := by decide +kernel
theorem dX12_stair_44 : decode cX12_stair 44 = .ok (.iload_n 1, 1) := by decide +kernel
theorem dX12_stair_45 : decode cX12_stair 45 = .ok (.if_icmp .gt 135, 3) := by decide +kernel
theorem dX12_stair_48 : decode cX12_stair 48 = .ok (.aload_n 0, 1) := by decide +kernel
theorem dX12_stair_49 : decode cX12_stair 49 = .ok (.getfield 110, 3) := by decide +kernel
theorem dX12_stair_52 : decode cX12_stair 52 = .ok (.iload 4, 2) := by decide +kernel
theorem dX12_stair_54 : decode cX12_stair 54 = .ok (.iload 4, 2) := by decide +kernel
theorem dX12_stair_56 : decode cX12_stair 56 = .ok (.ifCond .ne 7, 3) := by decide +kernel
theorem dX12_stair_59 : decode cX12_stair 59 = .ok (.iconst 1, 1) := by decide +kernel
theorem dX12_stair_60 : decode cX12_stair 60 = .ok (.goto 4, 3) := by decide +kernel
theorem dX12_stair_63 : decode cX12_stair 63 = .ok (.iconst 0, 1) := by decide +kernel
theorem dX12_stair_64 : decode cX12_stair 64 = .ok (.iastore, 1) := by decide +kernel
theorem dX12_stair_65 : decode cX12_stair 65 = .ok (.aload_n 0, 1) := by decide +kernel
theorem dX12_stair_66 : decode cX12_stair 66 = .ok (.getfield 113, 3) := by decide +kernel
theorem dX12_stair_69 : decode cX12_stair 69 = .ok (.iload 4, 2) := by decide +kernel
theorem dX12_stair_71 : decode cX12_stair 71 = .ok (.iload 4, 2) := by decide +kernel
theorem dX12_stair_73 : decode cX12_stair 73 = .ok (.ifCond .ne 7, 3) := by decide +kernel
theorem dX12_stair_76 : decode cX12_stair 76 = .ok (.iconst 0, 1) := by decide +kernel
theorem dX12_stair_77 : decode cX12_stair 77 = .ok (.goto 6, 3) := by decide +kernel
theorem dX12_stair_80 : decode cX12_stair 80 = .ok (.ldc_w 439, 3) := by decide +kernel
theorem dX12_stair_83 : decode cX12_stair 83 = .ok (.iastore, 1) := by decide +kernel
theorem dX12_stair_84 : decode cX12_stair 84 = .ok (.iconst 1, 1) := by decide +kernel
theorem dX12_stair_85 : decode cX12_stair 85 = .ok (.istore 5, 2) := by decide +kernel
theorem dX12_stair_87 : decode cX12_stair 87 = .ok (.iload 5, 2) := by decide +kernel
theorem dX12_stair_89 : decode cX12_stair 89 = .ok (.iload_n 2, 1) := by decide +kernel
theorem dX12_stair_90 : decode cX12_stair 90 = .ok (.if_icmp .gt 84, 3) := by decide +kernel
theorem dX12_stair_93 : decode cX12_stair 93 = .ok (.iload 5, 2) := by decide +kernel
theorem dX12_stair_95 : decode cX12_stair 95 = .ok (.iload 4, 2) := by decide +kernel
theorem dX12_stair_97 : decode cX12_stair 97 = .ok (.if_icmp .gt 77, 3) := by decide +kernel
theorem dX12_stair_100 : decode cX12_stair 100 = .ok (.aload_n 0, 1) := by decide +kernel
theorem dX12_stair_101 : decode cX12_stair 101 = .ok (.iload 4, 2) := by decide +kernel
theorem dX12_stair_103 : decode cX12_stair 103 = .ok (.invokevirtual 468, 3) := by decide +kernel
theorem dX12_stair_106 : decode cX12_stair 106 = .ok (.ifCond .ne 68, 3) := by decide +kernel
theorem dX12_stair_109 : decode cX12_stair 109 = .ok (.aload_n 0, 1) := by decide +kernel
theorem dX12_stair_110 : decode cX12_stair 110 = .ok (.getfield 110, 3) := by decide +kernel
theorem dX12_stair_113 : decode cX12_stair 113 = .ok (.iload 4, 2) := by decide +kernel
theorem dX12_stair_115 : decode cX12_stair 115 = .ok (.aload_n 0, 1) := by decide +kernel
theorem dX12_stair_116 : decode cX12_stair 116 = .ok (.getfield 110, 3) := by decide +kernel
theorem dX12_stair_119 : decode cX12_stair 119 = .ok (.iload 4, 2) := by decide +kernel
theorem dX12_stair_121 : decode cX12_stair 121 = .ok (.iaload, 1) := by decide +kernel
theorem dX12_stair_122 : decode cX12_stair 122 = .ok (.aload_n 0, 1) := by decide +kernel
theorem dX12_stair_123 : decode cX12_stair 123 = .ok (.getfield 110, 3) := by decide +kernel
theorem dX12_stair_126 : decode cX12_stair 126 = .ok (.iload 4, 2) := by decide +kernel
theorem dX12_stair_128 : decode cX12_stair 128 = .ok (.iload 5, 2) := by decide +kernel
theorem dX12_stair_130 : decode cX12_stair 130 = .ok (.isub, 1) := by decide +kernel
theorem dX12_stair_131 : decode cX12_stair 131 = .ok (.iaload, 1) := by decide +kernel
theorem dX12_stair_132 : decode cX12_stair 132 = .ok (.iadd, 1) := by decide +kernel
theorem dX12_stair_133 : decode cX12_stair 133 = .ok (.ldc_w 471, 3) := by decide +kernel
theorem dX12_stair_136 : decode cX12_stair 136 = .ok (.irem, 1) := by decide +kernel
theorem dX12_stair_137 : decode cX12_stair 137 = .ok (.iastore, 1) := by decide +kernel
theorem dX12_stair_138 : decode cX12_stair 138 = .ok (.aload_n 0, 1) := by decide +kernel
theorem dX12_stair_139 : decode cX12_stair 139 = .ok (.getfield 113, 3) := by decide +kernel
theorem dX12_stair_142 : decode cX12_stair 142 = .ok (.iload 4, 2) := by decide +kernel
theorem dX12_stair_144 : decode cX12_stair 144 = .ok (.aload_n 0, 1) := by decide +kernel
theorem dX12_stair_145 : decode cX12_stair 145 = .ok (.aload_n 0, 1) := by decide +kernel
theorem dX12_stair_146 : decode cX12_stair 146 = .ok (.getfield 113, 3) := by decide +kernel
theorem dX12_stair_149 : decode cX12_stair 149 = .ok (.iload 4, 2) := by decide +kernel
theorem dX12_stair_151 : decode cX12_stair 151 = .ok (.iaload, 1) := by decide +kernel
theorem dX12_stair_152 : decode cX12_stair 152 = .ok (.aload_n 0, 1) := by decide +kernel
theorem dX12_stair_153 : decode cX12_stair 153 = .ok (.getfield 113, 3) := by decide +kernel
theorem dX12_stair_156 : decode cX12_stair 156 = .ok (.iload 4, 2) := by decide +kernel
theorem dX12_stair_158 : decode cX12_stair 158 = .ok (.iload 5, 2) := by decide +kernel
theorem dX12_stair_160 : decode cX12_stair 160 = .ok (.isub, 1) := by decide +kernel
theorem dX12_stair_161 : decode cX12_stair 161 = .ok (.iaload, 1) := by decide +kernel
theorem dX12_stair_162 : decode cX12_stair 162 = .ok (.iconst 1, 1) := by decide +kernel
theorem dX12_stair_163 : decode cX12_stair 163 = .ok (.iadd, 1) := by decide +kernel
theorem dX12_stair_164 : decode cX12_stair 164 = .ok (.invokevirtual 346, 3) := by decide +kernel
theorem dX12_stair_167 : decode cX12_stair 167 = .ok (.iastore, 1) := by decide +kernel
theorem dX12_stair_168 : decode cX12_stair 168 = .ok (.iinc 5 1, 3) := by decide +kernel
theorem dX12_stair_171 : decode cX12_stair 171 = .ok (.goto (-84), 3) := by decide +kernel
theorem dX12_stair_174 : decode cX12_stair 174 = .ok (.iinc 4 1, 3) := by decide +kernel
theorem dX12_stair_177 : decode cX12_stair 177 = .ok (.goto (-135), 3) := by decide +kernel
theorem dX12_stair_180 : decode cX12_stair 180 = .ok (.iload_n 3, 1) := by decide +kernel
theorem dX12_stair_181 : decode cX12_stair 181 = .ok (.ifCond .ne 12, 3) := by decide +kernel
theorem dX12_stair_184 : decode cX12_stair 184 = .ok (.aload_n 0, 1) := by decide +kernel
theorem dX12_stair_185 : decode cX12_stair 185 = .ok (.getfield 110, 3) := by decide +kernel
theorem dX12_stair_188 : decode cX12_stair 188 = .ok (.iload_n 1, 1) := by decide +kernel
theorem dX12_stair_189 : decode cX12_stair 189 = .ok (.iaload, 1) := by decide +kernel
theorem dX12_stair_190 : decode cX12_stair 190 = .ok (.goto 25, 3) := by decide +kernel
theorem dX12_stair_193 : decode cX12_stair 193 = .ok (.aload_n 0, 1) := by decide +kernel
theorem dX12_stair_194 : decode cX12_stair 194 = .ok (.getfield 113, 3) := by decide +kernel
theorem dX12_stair_197 : decode cX12_stair 197 = .ok (.iload_n 1, 1) := by decide +kernel
theorem dX12_stair_198 : decode cX12_stair 198 = .ok (.iaload, 1) := by decide +kernel
theorem dX12_stair_199 : decode cX12_stair 199 = .ok (.ldc_w 439, 3) := by decide +kernel
theorem dX12_stair_202 : decode cX12_stair 202 = .ok (.if_icmp .lt 7, 3) := by decide +kernel
theorem dX12_stair_205 : decode cX12_stair 205 = .ok (.iconst (-1), 1) := by decide +kernel
theorem dX12_stair_206 : decode cX12_stair 206 = .ok (.goto 9, 3) := by decide +kernel
theorem dX12_stair_209 : decode cX12_stair 209 = .ok (.aload_n 0, 1) := by decide +kernel
theorem dX12_stair_210 : decode cX12_stair 210 = .ok (.getfield 113, 3) := by decide +kernel
theorem dX12_stair_213 : decode cX12_stair 213 = .ok (.iload_n 1, 1) := by decide +kernel
theorem dX12_stair_214 : decode cX12_stair 214 = .ok (.iaload, 1) := by decide +kernel
theorem dX12_stair_215 : decode cX12_stair 215 = .ok (.ireturn, 1) := by decide +kernel
set_option maxRecDepth 100000 in
set_option maxHeartbeats 4000000 in
theorem so_X12_stair_87 {fr : Nat} (hfr : 1 ≤ fr) (Z : AZ) (X : AX Z cX12_stair 6 RX12 (some .int) 1 fr) (x1 : Int32) (x2 : Int32) (x3 : Int32) (x4 : Int32) (x5 : Int32) (s : Mem) (q : (Int32 × Mem) ⊕ (Mem)) (h : st_X12_stair_87 x1 x2 x3 x4 x5 s = some q) (hi : ∀ y : Int32 × Mem, q = .inl y → AW Z y.2 87 [some (.ref (zr Z 0)), some (.int x1), some (.int x2), some (.int x3), some (.int x4), some (.int y.1)] []) (he : ∀ b : Mem, q = .inr b → AW Z b 174 [some (.ref (zr Z 0)), some (.int x1), some (.int x2), some (.int x3), some (.int x4), none] []) : AW Z s 87 [some (.ref (zr Z 0)), some (.int x1), some (.int x2), some (.int x3), some (.int x4), some (.int x5)] [] := by
  unfold st_X12_stair_87 at h
  refine aw_iload X dX12_stair_87 rfl ?_
  refine aw_iload_n X dX12_stair_89 rfl ?_
  refine aw_icmp_gt (tgt := 174) X dX12_stair_90 (by decide) (fun c12 => ?_) (fun c12 => ?_)
  · rw [if_pos c12] at h
    cases h
    refine aw_msk [true, true, true, true, true, false] ?_
    exact he _ rfl
  · rw [if_neg c12] at h
    refine aw_iload X dX12_stair_93 rfl ?_
    refine aw_iload X dX12_stair_95 rfl ?_
    refine aw_icmp_gt (tgt := 174) X dX12_stair_97 (by decide) (fun c13 => ?_) (fun c13 => ?_)
    · rw [if_pos c13] at h
      cases h
      refine aw_msk [true, true, true, true, true, false] ?_
      exact he _ rfl
    · rw [if_neg c13] at h
      refine aw_aload_n X dX12_stair_100 rfl ?_
      refine aw_iload X dX12_stair_101 rfl ?_
      obtain ⟨r14, er14, h⟩ := bnd h
      refine aw_callV X dX12_stair_103 cv_RX12_468 (ok_X12_isBad er14 _ _ _ _ _) iu_RX12 rfl (Nat.le_trans (by decide) hfr) (by decide) rfl rfl (Nat.le_of_ble_eq_true rfl) ?_
      refine aw_if_ne (tgt := 174) X dX12_stair_106 (by decide) (fun c15 => ?_) (fun c15 => ?_)
      · rw [if_neg c15] at h
        cases h
        refine aw_msk [true, true, true, true, true, false] ?_
        exact he _ rfl
      · rw [if_pos c15] at h
        refine aw_aload_n X dX12_stair_109 rfl ?_
        refine aw_getr X dX12_stair_110 fl_RX12_110 iu_RX12 gu_RX12_57 ?_
        refine aw_iload X dX12_stair_113 rfl ?_
        refine aw_aload_n X dX12_stair_115 rfl ?_
        refine aw_getr X dX12_stair_116 fl_RX12_110 iu_RX12 gu_RX12_57 ?_
        refine aw_iload X dX12_stair_119 rfl ?_
        obtain ⟨v16, ev16, h⟩ := bnd h
        refine aw_iald X dX12_stair_121 iu_RX12_57 ev16 ?_
        refine aw_aload_n X dX12_stair_122 rfl ?_
        refine aw_getr X dX12_stair_123 fl_RX12_110 iu_RX12 gu_RX12_57 ?_
        refine aw_iload X dX12_stair_126 rfl ?_
        refine aw_iload X dX12_stair_128 rfl ?_
        refine aw_isub X dX12_stair_130 ?_
        obtain ⟨v17, ev17, h⟩ := bnd h
        refine aw_iald X dX12_stair_131 iu_RX12_57 ev17 ?_
        refine aw_iadd X dX12_stair_132 ?_
        refine aw_ldcw X dX12_stair_133 kc_RX12_471 ?_
        refine aw_irem X dX12_stair_136 (by decide) ?_
        obtain ⟨s18, es18, h⟩ := bnd h
        refine aw_iast X dX12_stair_137 iu_RX12_57 es18 ?_
        refine aw_aload_n X dX12_stair_138 rfl ?_
        refine aw_getr X dX12_stair_139 fl_RX12_113 iu_RX12 gu_RX12_58 ?_
        refine aw_iload X dX12_stair_142 rfl ?_
        refine aw_aload_n X dX12_stair_144 rfl ?_
        refine aw_aload_n X dX12_stair_145 rfl ?_
        refine aw_getr X dX12_stair_146 fl_RX12_113 iu_RX12 gu_RX12_58 ?_
        refine aw_iload X dX12_stair_149 rfl ?_
        obtain ⟨v19, ev19, h⟩ := bnd h
        refine aw_iald X dX12_stair_151 iu_RX12_58 ev19 ?_
        refine aw_aload_n X dX12_stair_152 rfl ?_
        refine aw_getr X dX12_stair_153 fl_RX12_113 iu_RX12 gu_RX12_58 ?_
        refine aw_iload X dX12_stair_156 rfl ?_
        refine aw_iload X dX12_stair_158 rfl ?_
        refine aw_isub X dX12_stair_160 ?_
        obtain ⟨v20, ev20, h⟩ := bnd h
        refine aw_iald X dX12_stair_161 iu_RX12_58 ev20 ?_
        refine aw_iconst (v := 1) X dX12_stair_162 (by decide) ?_
        refine aw_iadd X dX12_stair_163 ?_
        obtain ⟨r21, er21, h⟩ := bnd h
        refine aw_callV X dX12_stair_164 cv_RX12_346 (ok_X12_lesser er21 _ _ _ _ _) iu_RX12 rfl (Nat.le_trans (by decide) hfr) (by decide) rfl rfl (Nat.le_of_ble_eq_true rfl) ?_
        obtain ⟨s22, es22, h⟩ := bnd h
        refine aw_iast X dX12_stair_167 iu_RX12_58 es22 ?_
        refine aw_iinc (v := (x5 + 1)) (L' := [some (.ref (zr Z 0)), some (.int x1), some (.int x2), some (.int x3), some (.int x4), some (.int (x5 + 1))]) X dX12_stair_168 rfl rfl (by decide) rfl ?_
        refine aw_goto (tgt := 87) X dX12_stair_171 (by decide) ?_
        cases h
        refine aw_msk [true, true, true, true, true, true] ?_
        exact hi _ rfl
set_option maxRecDepth 100000 in
set_option maxHeartbeats 4000000 in
theorem jo_X12_stair_83 {fr : Nat} (hfr : 1 ≤ fr) (Z : AZ) (X : AX Z cX12_stair 6 RX12 (some .int) 1 fr) (x1 : Int32) (x2 : Int32) (x3 : Int32) (x4 : Int32) (t1 : Int32) (t2 : Int32) (s : Mem) (q : (Int32 × Mem) ⊕ (Mem)) (h : jn_X12_stair_83 x1 x2 x3 x4 t1 t2 s = some q) (hi : ∀ y : Int32 × Mem, q = .inl y → AW Z y.2 42 [some (.ref (zr Z 0)), some (.int x1), some (.int x2), some (.int x3), some (.int y.1), none] []) (he : ∀ b : Mem, q = .inr b → AW Z b 180 [some (.ref (zr Z 0)), some (.int x1), none, some (.int x3), none, none] []) : AW Z s 83 [some (.ref (zr Z 0)), some (.int x1), some (.int x2), some (.int x3), some (.int x4), none] [.int t2, .int t1, .ref (zr Z 34)] := by
  unfold jn_X12_stair_83 at h
  obtain ⟨s11, es11, h⟩ := bnd h
  refine aw_iast X dX12_stair_83 iu_RX12_58 es11 ?_
  refine aw_iconst (v := 1) X dX12_stair_84 (by decide) ?_
  refine aw_istore (L' := [some (.ref (zr Z 0)), some (.int x1), some (.int x2), some (.int x3), some (.int x4), some (.int 1)]) X dX12_stair_85 (by decide) rfl ?_
  obtain ⟨r23, er23, h⟩ := bnd h
  refine aw_msk [true, true, true, true, true, true] ?_
  refine it_ok (P := fun y : Int32 × Mem => AW Z y.2 87 [some (.ref (zr Z 0)), some (.int x1), some (.int x2), some (.int x3), some (.int x4), some (.int y.1)] []) (Q := fun b : Mem => AW Z b 174 [some (.ref (zr Z 0)), some (.int x1), some (.int x2), some (.int x3), some (.int x4), none] []) (fun y q hq hi he => so_X12_stair_87 hfr Z X x1 x2 x3 x4 y.1 y.2 q hq hi he) FUEL _ _ er23 ?_
  refine aw_iinc (v := (x4 + 1)) (L' := [some (.ref (zr Z 0)), some (.int x1), some (.int x2), some (.int x3), some (.int (x4 + 1)), none]) X dX12_stair_174 rfl rfl (by decide) rfl ?_
  refine aw_goto (tgt := 42) X dX12_stair_177 (by decide) ?_
  cases h
  refine aw_msk [true, true, true, true, true, false] ?_
  exact hi _ rfl
set_option maxRecDepth 100000 in
set_option maxHeartbeats 4000000 in
theorem jo_X12_stair_64 {fr : Nat} (hfr : 1 ≤ fr) (Z : AZ) (X : AX Z cX12_stair 6 RX12 (some .int) 1 fr) (x1 : Int32) (x2 : Int32) (x3 : Int32) (x4 : Int32) (t1 : Int32) (t2 : Int32) (s : Mem) (q : (Int32 × Mem) ⊕ (Mem)) (h : jn_X12_stair_64 x1 x2 x3 x4 t1 t2 s = some q) (hi : ∀ y : Int32 × Mem, q = .inl y → AW Z y.2 42 [some (.ref (zr Z 0)), some (.int x1), some (.int x2), some (.int x3), some (.int y.1), none] []) (he : ∀ b : Mem, q = .inr b → AW Z b 180 [some (.ref (zr Z 0)), some (.int x1), none, some (.int x3), none, none] []) : AW Z s 64 [some (.ref (zr Z 0)), some (.int x1), some (.int x2), some (.int x3), some (.int x4), none] [.int t2, .int t1, .ref (zr Z 33)] := by
  unfold jn_X12_stair_64 at h
  obtain ⟨s9, es9, h⟩ := bnd h
  refine aw_iast X dX12_stair_64 iu_RX12_57 es9 ?_
  refine aw_aload_n X dX12_stair_65 rfl ?_
  refine aw_getr X dX12_stair_66 fl_RX12_113 iu_RX12 gu_RX12_58 ?_
  refine aw_iload X dX12_stair_69 rfl ?_
  refine aw_iload X dX12_stair_71 rfl ?_
  refine aw_if_ne (tgt := 80) X dX12_stair_73 (by decide) (fun c10 => ?_) (fun c10 => ?_)
  · rw [if_neg c10] at h
    refine aw_ldcw X dX12_stair_80 kc_RX12_439 ?_
    refine aw_msk [true, true, true, true, true, false] ?_
    exact jo_X12_stair_83 hfr Z X _ _ _ _ _ _ _ _ h hi he
  · rw [if_pos c10] at h
    refine aw_iconst (v := 0) X dX12_stair_76 (by decide) ?_
    refine aw_goto (tgt := 83) X dX12_stair_77 (by decide) ?_
    refine aw_msk [true, true, true, true, true, false] ?_
    exact jo_X12_stair_83 hfr Z X _ _ _ _ _ _ _ _ h hi he
set_option maxRecDepth 100000 in
set_option maxHeartbeats 4000000 in
theorem so_X12_stair_42 {fr : Nat} (hfr : 1 ≤ fr) (Z : AZ) (X : AX Z cX12_stair 6 RX12 (some .int) 1 fr) (x1 : Int32) (x2 : Int32) (x3 : Int32) (x4 : Int32) (s : Mem) (q : (Int32 × Mem) ⊕ (Mem)) (h : st_X12_stair_42 x1 x2 x3 x4 s = some q) (hi : ∀ y : Int32 × Mem, q = .inl y → AW Z y.2 42 [some (.ref (zr Z 0)), some (.int x1), some (.int x2), some (.int x3), some (.int y.1), none] []) (he : ∀ b : Mem, q = .inr b → AW Z b 180 [some (.ref (zr Z 0)), some (.int x1), none, some (.int x3), none, none] []) : AW Z s 42 [some (.ref (zr Z 0)), some (.int x1), some (.int x2), some (.int x3), some (.int x4), none] [] := by
  unfold st_X12_stair_42 at h
  refine aw_iload X dX12_stair_42 rfl ?_
  refine aw_iload_n X dX12_stair_44 rfl ?_
  refine aw_icmp_gt (tgt := 180) X dX12_stair_45 (by decide) (fun c7 => ?_) (fun c7 => ?_)
  · rw [if_pos c7] at h
    cases h
    refine aw_msk [true, true, false, true, false, false] ?_
    exact he _ rfl
  · rw [if_neg c7] at h
    refine aw_aload_n X dX12_stair_48 rfl ?_
    refine aw_getr X dX12_stair_49 fl_RX12_110 iu_RX12 gu_RX12_57 ?_
    refine aw_iload X dX12_stair_52 rfl ?_
    refine aw_iload X dX12_stair_54 rfl ?_
    refine aw_if_ne (tgt := 63) X dX12_stair_56 (by decide) (fun c8 => ?_) (fun c8 => ?_)
    · rw [if_neg c8] at h
      refine aw_iconst (v := 0) X dX12_stair_63 (by decide) ?_
      refine aw_msk [true, true, true, true, true, false] ?_
      exact jo_X12_stair_64 hfr Z X _ _ _ _ _ _ _ _ h hi he
    · rw [if_pos c8] at h
      refine aw_iconst (v := 1) X dX12_stair_59 (by decide) ?_
      refine aw_goto (tgt := 64) X dX12_stair_60 (by decide) ?_
      refine aw_msk [true, true, true, true, true, false] ?_
      exact jo_X12_stair_64 hfr Z X _ _ _ _ _ _ _ _ h hi he
set_option maxRecDepth 100000 in
set_option maxHeartbeats 4000000 in
theorem w_X12_stair {fr : Nat} (hfr : 1 ≤ fr) (Z : AZ) (X : AX Z cX12_stair 6 RX12 (some .int) 1 fr) (x1 : Int32) (x2 : Int32) (x3 : Int32) (s : Mem) (r : Int32 × Mem) (hz : zres Z = (some (.int r.1), r.2)) (h : f_X12_stair x1 x2 x3 s = some r) : AW Z s 0 [some (.ref (zr Z 0)), some (.int x1), some (.int x2), some (.int x3), none, none] [] := by
  unfold f_X12_stair at h
  refine aw_aload_n X dX12_stair_0 rfl ?_
  refine aw_iconst (v := 0) X dX12_stair_1 (by decide) ?_
  refine aw_put X dX12_stair_2 fp_RX12_122 iu_RX12 gu_RX12_0 rfl rfl ?_
  refine aw_aload_n X dX12_stair_5 rfl ?_
  refine aw_iload_n X dX12_stair_6 rfl ?_
  refine aw_iconst (v := 0) X dX12_stair_7 (by decide) ?_
  refine aw_bipush (v := 40) X dX12_stair_8 (by decide) ?_
  obtain ⟨r1, er1, h⟩ := bnd h
  refine aw_callV X dX12_stair_10 cv_RX12_137 (ok_X12_isIn er1 _ _ _ _ _) iu_RX12 rfl (Nat.le_trans (by decide) hfr) (by decide) rfl rfl (Nat.le_of_ble_eq_true rfl) ?_
  refine aw_if_eq (tgt := 37) X dX12_stair_13 (by decide) (fun c2 => ?_) (fun c2 => ?_)
  · rw [if_pos c2] at h
    refine aw_iconst (v := (-1)) X dX12_stair_37 (by decide) ?_
    cases h
    exact aw_iret X dX12_stair_38 rfl hz.symm
  · rw [if_neg c2] at h
    refine aw_aload_n X dX12_stair_16 rfl ?_
    refine aw_iload_n X dX12_stair_17 rfl ?_
    refine aw_iconst (v := 1) X dX12_stair_18 (by decide) ?_
    refine aw_bipush (v := 6) X dX12_stair_19 (by decide) ?_
    obtain ⟨r3, er3, h⟩ := bnd h
    refine aw_callV X dX12_stair_21 cv_RX12_137 (ok_X12_isIn er3 _ _ _ _ _) iu_RX12 rfl (Nat.le_trans (by decide) hfr) (by decide) rfl rfl (Nat.le_of_ble_eq_true rfl) ?_
    refine aw_if_eq (tgt := 37) X dX12_stair_24 (by decide) (fun c4 => ?_) (fun c4 => ?_)
    · rw [if_pos c4] at h
      refine aw_iconst (v := (-1)) X dX12_stair_37 (by decide) ?_
      cases h
      exact aw_iret X dX12_stair_38 rfl hz.symm
    · rw [if_neg c4] at h
      refine aw_aload_n X dX12_stair_27 rfl ?_
      refine aw_iload_n X dX12_stair_28 rfl ?_
      refine aw_iconst (v := 0) X dX12_stair_29 (by decide) ?_
      refine aw_iconst (v := 1) X dX12_stair_30 (by decide) ?_
      obtain ⟨r5, er5, h⟩ := bnd h
      refine aw_callV X dX12_stair_31 cv_RX12_137 (ok_X12_isIn er5 _ _ _ _ _) iu_RX12 rfl (Nat.le_trans (by decide) hfr) (by decide) rfl rfl (Nat.le_of_ble_eq_true rfl) ?_
      refine aw_if_ne (tgt := 39) X dX12_stair_34 (by decide) (fun c6 => ?_) (fun c6 => ?_)
      · rw [if_neg c6] at h
        refine aw_iconst (v := 0) X dX12_stair_39 (by decide) ?_
        refine aw_istore (L' := [some (.ref (zr Z 0)), some (.int x1), some (.int x2), some (.int x3), some (.int 0), none]) X dX12_stair_40 (by decide) rfl ?_
        obtain ⟨r24, er24, h⟩ := bnd h
        refine aw_msk [true, true, true, true, true, false] ?_
        refine it_ok (P := fun y : Int32 × Mem => AW Z y.2 42 [some (.ref (zr Z 0)), some (.int x1), some (.int x2), some (.int x3), some (.int y.1), none] []) (Q := fun b : Mem => AW Z b 180 [some (.ref (zr Z 0)), some (.int x1), none, some (.int x3), none, none] []) (fun y q hq hi he => so_X12_stair_42 hfr Z X x1 x2 x3 y.1 y.2 q hq hi he) FUEL _ _ er24 ?_
        refine aw_iload_n X dX12_stair_180 rfl ?_
        refine aw_if_ne (tgt := 193) X dX12_stair_181 (by decide) (fun c25 => ?_) (fun c25 => ?_)
        · rw [if_neg c25] at h
          refine aw_aload_n X dX12_stair_193 rfl ?_
          refine aw_getr X dX12_stair_194 fl_RX12_113 iu_RX12 gu_RX12_58 ?_
          refine aw_iload_n X dX12_stair_197 rfl ?_
          obtain ⟨v26, ev26, h⟩ := bnd h
          refine aw_iald X dX12_stair_198 iu_RX12_58 ev26 ?_
          refine aw_ldcw X dX12_stair_199 kc_RX12_439 ?_
          refine aw_icmp_lt (tgt := 209) X dX12_stair_202 (by decide) (fun c27 => ?_) (fun c27 => ?_)
          · rw [if_pos c27] at h
            refine aw_aload_n X dX12_stair_209 rfl ?_
            refine aw_getr X dX12_stair_210 fl_RX12_113 iu_RX12 gu_RX12_58 ?_
            refine aw_iload_n X dX12_stair_213 rfl ?_
            obtain ⟨v28, ev28, h⟩ := bnd h
            refine aw_iald X dX12_stair_214 iu_RX12_58 ev28 ?_
            cases h
            exact aw_iret X dX12_stair_215 rfl hz.symm
          · rw [if_neg c27] at h
            refine aw_iconst (v := (-1)) X dX12_stair_205 (by decide) ?_
            refine aw_goto (tgt := 215) X dX12_stair_206 (by decide) ?_
            cases h
            exact aw_iret X dX12_stair_215 rfl hz.symm
        · rw [if_pos c25] at h
          refine aw_aload_n X dX12_stair_184 rfl ?_
          refine aw_getr X dX12_stair_185 fl_RX12_110 iu_RX12 gu_RX12_57 ?_
          refine aw_iload_n X dX12_stair_188 rfl ?_
          obtain ⟨v29, ev29, h⟩ := bnd h
          refine aw_iald X dX12_stair_189 iu_RX12_57 ev29 ?_
          refine aw_goto (tgt := 215) X dX12_stair_190 (by decide) ?_
          cases h
          exact aw_iret X dX12_stair_215 rfl hz.symm
      · rw [if_pos c6] at h
        refine aw_iconst (v := (-1)) X dX12_stair_37 (by decide) ?_
        cases h
        exact aw_iret X dX12_stair_38 rfl hz.symm
set_option maxRecDepth 100000 in
set_option maxHeartbeats 4000000 in
theorem ok_X12_stair {x1 x2 x3 : Int32} {s : Mem} {r : Int32 × Mem} (h : f_X12_stair x1 x2 x3 s = some r) (l : Launch) (D : va_G) (ρ : Nat → Nat) (cA : ClassId × ClassId × ClassId) (τ : AT) : AM l D ρ cA 1 τ yX12_stair cX12_stair 6 (some .int) 1 [.ref (ρ 0), .int x1, .int x2, .int x3] (some (.int r.1)) s r.2 := by
  refine AM_of (L := [some (.ref (ρ 0)), some (.int x1), some (.int x2), some (.int x3), none, none]) (by decide) (by simp [Value.category]) (Nat.le_of_ble_eq_true rfl) (fun j v q => ?_) (fun Z X hρ hz hτ => ?_)
  · exact aL_ok (n := 2) [.ref (ρ 0), .int x1, .int x2, .int x3] j v q
  · subst hρ
    subst hτ
    exact w_X12_stair (Nat.le_refl _) Z X x1 x2 x3 s r hz h

theorem dX12_heap_0 : decode cX12_heap 0 = .ok (.aload_n 0, 1) := by decide +kernel
theorem dX12_heap_1 : decode cX12_heap 1 = .ok (.iconst 0, 1) := by decide +kernel
theorem dX12_heap_2 : decode cX12_heap 2 = .ok (.putfield 122, 3) := by decide +kernel
theorem dX12_heap_5 : decode cX12_heap 5 = .ok (.iload_n 1, 1) := by decide +kernel
theorem dX12_heap_6 : decode cX12_heap 6 = .ok (.iconst (-1), 1) := by decide +kernel
theorem dX12_heap_7 : decode cX12_heap 7 = .ok (.if_icmp .ne 10, 3) := by decide +kernel
theorem dX12_heap_10 : decode cX12_heap 10 = .ok (.aload_n 0, 1) := by decide +kernel
theorem dX12_heap_11 : decode cX12_heap 11 = .ok (.iconst 0, 1) := by decide +kernel
theorem dX12_heap_12 : decode cX12_heap 12 = .ok (.putfield 472, 3) := by decide +kernel
theorem dX12_heap_15 : decode cX12_heap 15 = .ok (.iconst 0, 1) := by decide +kernel
theorem dX12_heap_16 : decode cX12_heap 16 = .ok (.ireturn, 1) := by decide +kernel
theorem dX12_heap_17 : decode cX12_heap 17 = .ok (.aload_n 0, 1) := by decide +kernel
theorem dX12_heap_18 : decode cX12_heap 18 = .ok (.iload_n 1, 1) := by decide +kernel
theorem dX12_heap_19 : decode cX12_heap 19 = .ok (.iconst 0, 1) := by decide +kernel
theorem dX12_heap_20 : decode cX12_heap 20 = .ok (.bipush 15, 2) := by decide +kernel
theorem dX12_heap_22 : decode cX12_heap 22 = .ok (.invokevirtual 137, 3) := by decide +kernel
theorem dX12_heap_25 : decode cX12_heap 25 = .ok (.ifCond .eq 11, 3) := by decide +kernel
theorem dX12_heap_28 : decode cX12_heap 28 = .ok (.aload_n 0, 1) := by decide +kernel
theorem dX12_heap_29 : decode cX12_heap 29 = .ok (.getfield 472, 3) := by decide +kernel
theorem dX12_heap_32 : decode cX12_heap 32 = .ok (.iconst 4, 1) := by decide +kernel
theorem dX12_heap_33 : decode cX12_heap 33 = .ok (.if_icmp .ne 5, 3) := by decide +kernel
theorem dX12_heap_36 : decode cX12_heap 36 = .ok (.iconst (-1), 1) := by decide +kernel
theorem dX12_heap_37 : decode cX12_heap 37 = .ok (.ireturn, 1) := by decide +kernel
theorem dX12_heap_38 : decode cX12_heap 38 = .ok (.aload_n 0, 1) := by decide +kernel
theorem dX12_heap_39 : decode cX12_heap 39 = .ok (.getfield 116, 3) := by decide +kernel
theorem dX12_heap_42 : decode cX12_heap 42 = .ok (.aload_n 0, 1) := by decide +kernel
theorem dX12_heap_43 : decode cX12_heap 43 = .ok (.getfield 472, 3) := by decide +kernel
theorem dX12_heap_46 : decode cX12_heap 46 = .ok (.iload_n 1, 1) := by decide +kernel
theorem dX12_heap_47 : decode cX12_heap 47 = .ok (.iastore, 1) := by decide +kernel
theorem dX12_heap_48 : decode cX12_heap 48 = .ok (.aload_n 0, 1) := by decide +kernel
theorem dX12_heap_49 : decode cX12_heap 49 = .ok (.aload_n 0, 1) := by decide +kernel
theorem dX12_heap_50 : decode cX12_heap 50 = .ok (.getfield 472, 3) := by decide +kernel
theorem dX12_heap_53 : decode cX12_heap 53 = .ok (.iconst 1, 1) := by decide +kernel
theorem dX12_heap_54 : decode cX12_heap 54 = .ok (.iadd, 1) := by decide +kernel
theorem dX12_heap_55 : decode cX12_heap 55 = .ok (.putfield 472, 3) := by decide +kernel
theorem dX12_heap_58 : decode cX12_heap 58 = .ok (.aload_n 0, 1) := by decide +kernel
theorem dX12_heap_59 : decode cX12_heap 59 = .ok (.getfield 472, 3) := by decide +kernel
theorem dX12_heap_62 : decode cX12_heap 62 = .ok (.ireturn, 1) := by decide +kernel
set_option maxRecDepth 100000 in
set_option maxHeartbeats 4000000 in
theorem w_X12_heap {fr : Nat} (hfr : 1 ≤ fr) (Z : AZ) (X : AX Z cX12_heap 2 RX12 (some .int) 1 fr) (x1 : Int32) (s : Mem) (r : Int32 × Mem) (hz : zres Z = (some (.int r.1), r.2)) (h : f_X12_heap x1 s = some r) : AW Z s 0 [some (.ref (zr Z 0)), some (.int x1)] [] := by
  unfold f_X12_heap at h
  refine aw_aload_n X dX12_heap_0 rfl ?_
  refine aw_iconst (v := 0) X dX12_heap_1 (by decide) ?_
  refine aw_put X dX12_heap_2 fp_RX12_122 iu_RX12 gu_RX12_0 rfl rfl ?_
  refine aw_iload_n X dX12_heap_5 rfl ?_
  refine aw_iconst (v := (-1)) X dX12_heap_6 (by decide) ?_
  refine aw_icmp_ne (tgt := 17) X dX12_heap_7 (by decide) (fun c1 => ?_) (fun c1 => ?_)
  · rw [if_neg c1] at h
    refine aw_aload_n X dX12_heap_17 rfl ?_
    refine aw_iload_n X dX12_heap_18 rfl ?_
    refine aw_iconst (v := 0) X dX12_heap_19 (by decide) ?_
    refine aw_bipush (v := 15) X dX12_heap_20 (by decide) ?_
    obtain ⟨r2, er2, h⟩ := bnd h
    refine aw_callV X dX12_heap_22 cv_RX12_137 (ok_X12_isIn er2 _ _ _ _ _) iu_RX12 rfl (Nat.le_trans (by decide) hfr) (by decide) rfl rfl (Nat.le_of_ble_eq_true rfl) ?_
    refine aw_if_eq (tgt := 36) X dX12_heap_25 (by decide) (fun c3 => ?_) (fun c3 => ?_)
    · rw [if_pos c3] at h
      refine aw_iconst (v := (-1)) X dX12_heap_36 (by decide) ?_
      cases h
      exact aw_iret X dX12_heap_37 rfl hz.symm
    · rw [if_neg c3] at h
      refine aw_aload_n X dX12_heap_28 rfl ?_
      refine aw_geti X dX12_heap_29 fl_RX12_472 iu_RX12 gu_RX12_59 ?_
      refine aw_iconst (v := 4) X dX12_heap_32 (by decide) ?_
      refine aw_icmp_ne (tgt := 38) X dX12_heap_33 (by decide) (fun c4 => ?_) (fun c4 => ?_)
      · rw [if_neg c4] at h
        refine aw_aload_n X dX12_heap_38 rfl ?_
        refine aw_getr X dX12_heap_39 fl_RX12_116 iu_RX12 gu_RX12_60 ?_
        refine aw_aload_n X dX12_heap_42 rfl ?_
        refine aw_geti X dX12_heap_43 fl_RX12_472 iu_RX12 gu_RX12_59 ?_
        refine aw_iload_n X dX12_heap_46 rfl ?_
        obtain ⟨s5, es5, h⟩ := bnd h
        refine aw_iast X dX12_heap_47 iu_RX12_60 es5 ?_
        refine aw_aload_n X dX12_heap_48 rfl ?_
        refine aw_aload_n X dX12_heap_49 rfl ?_
        refine aw_geti X dX12_heap_50 fl_RX12_472 iu_RX12 gu_RX12_59 ?_
        refine aw_iconst (v := 1) X dX12_heap_53 (by decide) ?_
        refine aw_iadd X dX12_heap_54 ?_
        refine aw_put X dX12_heap_55 fp_RX12_472 iu_RX12 gu_RX12_59 rfl rfl ?_
        refine aw_aload_n X dX12_heap_58 rfl ?_
        refine aw_geti X dX12_heap_59 fl_RX12_472 iu_RX12 gu_RX12_59 ?_
        cases h
        exact aw_iret X dX12_heap_62 rfl hz.symm
      · rw [if_pos c4] at h
        refine aw_iconst (v := (-1)) X dX12_heap_36 (by decide) ?_
        cases h
        exact aw_iret X dX12_heap_37 rfl hz.symm
  · rw [if_pos c1] at h
    refine aw_aload_n X dX12_heap_10 rfl ?_
    refine aw_iconst (v := 0) X dX12_heap_11 (by decide) ?_
    refine aw_put X dX12_heap_12 fp_RX12_472 iu_RX12 gu_RX12_59 rfl rfl ?_
    refine aw_iconst (v := 0) X dX12_heap_15 (by decide) ?_
    cases h
    exact aw_iret X dX12_heap_16 rfl hz.symm
set_option maxRecDepth 100000 in
set_option maxHeartbeats 4000000 in
theorem ok_X12_heap {x1 : Int32} {s : Mem} {r : Int32 × Mem} (h : f_X12_heap x1 s = some r) (l : Launch) (D : va_G) (ρ : Nat → Nat) (cA : ClassId × ClassId × ClassId) (τ : AT) : AM l D ρ cA 1 τ yX12_heap cX12_heap 2 (some .int) 1 [.ref (ρ 0), .int x1] (some (.int r.1)) s r.2 := by
  refine AM_of (L := [some (.ref (ρ 0)), some (.int x1)]) (by decide) (by simp [Value.category]) (Nat.le_of_ble_eq_true rfl) (fun j v q => ?_) (fun Z X hρ hz hτ => ?_)
  · exact aL_ok (n := 0) [.ref (ρ 0), .int x1] j v q
  · subst hρ
    subst hτ
    exact w_X12_heap (Nat.le_refl _) Z X x1 s r hz h

theorem dX12_isWonWith_0 : decode cX12_isWonWith 0 = .ok (.iconst 0, 1) := by decide +kernel
theorem dX12_isWonWith_1 : decode cX12_isWonWith 1 = .ok (.istore_n 3, 1) := by decide +kernel
theorem dX12_isWonWith_2 : decode cX12_isWonWith 2 = .ok (.iconst 0, 1) := by decide +kernel
theorem dX12_isWonWith_3 : decode cX12_isWonWith 3 = .ok (.istore 4, 2) := by decide +kernel
theorem dX12_isWonWith_5 : decode cX12_isWonWith 5 = .ok (.iconst 0, 1) := by decide +kernel
theorem dX12_isWonWith_6 : decode cX12_isWonWith 6 = .ok (.istore 5, 2) := by decide +kernel
theorem dX12_isWonWith_8 : decode cX12_isWonWith 8 = .ok (.iload 5, 2) := by decide +kernel
theorem dX12_isWonWith_10 : decode cX12_isWonWith 10 = .ok (.aload_n 0, 1) := by decide +kernel
theorem dX12_isWonWith_11 : decode cX12_isWonWith 11 = .ok (.getfield 472, 3) := by decide +kernel
theorem dX12_isWonWith_14 : decode cX12_isWonWith 14 = .ok (.if_icmp .ge 43, 3) := by decide +kernel
theorem dX12_isWonWith_17 : decode cX12_isWonWith 17 = .ok (.iload 5, 2) := by decide +kernel
theorem dX12_isWonWith_19 : decode cX12_isWonWith 19 = .ok (.iload_n 1, 1) := by decide +kernel
theorem dX12_isWonWith_20 : decode cX12_isWonWith 20 = .ok (.if_icmp .ne 7, 3) := by decide +kernel
theorem dX12_isWonWith_23 : decode cX12_isWonWith 23 = .ok (.iload_n 2, 1) := by decide +kernel
theorem dX12_isWonWith_24 : decode cX12_isWonWith 24 = .ok (.goto 10, 3) := by decide +kernel
theorem dX12_isWonWith_27 : decode cX12_isWonWith 27 = .ok (.aload_n 0, 1) := by decide +kernel
theorem dX12_isWonWith_28 : decode cX12_isWonWith 28 = .ok (.getfield 116, 3) := by decide +kernel
theorem dX12_isWonWith_31 : decode cX12_isWonWith 31 = .ok (.iload 5, 2) := by decide +kernel
theorem dX12_isWonWith_33 : decode cX12_isWonWith 33 = .ok (.iaload, 1) := by decide +kernel
theorem dX12_isWonWith_34 : decode cX12_isWonWith 34 = .ok (.istore 6, 2) := by decide +kernel
theorem dX12_isWonWith_36 : decode cX12_isWonWith 36 = .ok (.iload_n 3, 1) := by decide +kernel
theorem dX12_isWonWith_37 : decode cX12_isWonWith 37 = .ok (.iload 6, 2) := by decide +kernel
theorem dX12_isWonWith_39 : decode cX12_isWonWith 39 = .ok (.ixor, 1) := by decide +kernel
theorem dX12_isWonWith_40 : decode cX12_isWonWith 40 = .ok (.istore_n 3, 1) := by decide +kernel
theorem dX12_isWonWith_41 : decode cX12_isWonWith 41 = .ok (.aload_n 0, 1) := by decide +kernel
theorem dX12_isWonWith_42 : decode cX12_isWonWith 42 = .ok (.iload 4, 2) := by decide +kernel
theorem dX12_isWonWith_44 : decode cX12_isWonWith 44 = .ok (.iload 6, 2) := by decide +kernel
theorem dX12_isWonWith_46 : decode cX12_isWonWith 46 = .ok (.invokevirtual 386, 3) := by decide +kernel
theorem dX12_isWonWith_49 : decode cX12_isWonWith 49 = .ok (.istore 4, 2) := by decide +kernel
theorem dX12_isWonWith_51 : decode cX12_isWonWith 51 = .ok (.iinc 5 1, 3) := by decide +kernel
theorem dX12_isWonWith_54 : decode cX12_isWonWith 54 = .ok (.goto (-46), 3) := by decide +kernel
theorem dX12_isWonWith_57 : decode cX12_isWonWith 57 = .ok (.iload 4, 2) := by decide +kernel
theorem dX12_isWonWith_59 : decode cX12_isWonWith 59 = .ok (.iconst 1, 1) := by decide +kernel
theorem dX12_isWonWith_60 : decode cX12_isWonWith 60 = .ok (.if_icmp .le 15, 3) := by decide +kernel
theorem dX12_isWonWith_63 : decode cX12_isWonWith 63 = .ok (.iload_n 3, 1) := by decide +kernel
theorem dX12_isWonWith_64 : decode cX12_isWonWith 64 = .ok (.ifCond .eq 7, 3) := by decide +kernel
theorem dX12_isWonWith_67 : decode cX12_isWonWith 67 = .ok (.iconst 1, 1) := by decide +kernel
theorem dX12_isWonWith_68 : decode cX12_isWonWith 68 = .ok (.goto 16, 3) := by decide +kernel
theorem dX12_isWonWith_71 : decode cX12_isWonWith 71 = .ok (.iconst 0, 1) := by decide +kernel
theorem dX12_isWonWith_72 : decode cX12_isWonWith 72 = .ok (.goto 12, 3) := by decide +kernel
theorem dX12_isWonWith_75 : decode cX12_isWonWith 75 = .ok (.iload_n 3, 1) := by decide +kernel
theorem dX12_isWonWith_76 : decode cX12_isWonWith 76 = .ok (.ifCond .ne 7, 3) := by decide +kernel
theorem dX12_isWonWith_79 : decode cX12_isWonWith 79 = .ok (.iconst 1, 1) := by decide +kernel
theorem dX12_isWonWith_80 : decode cX12_isWonWith 80 = .ok (.goto 4, 3) := by decide +kernel
theorem dX12_isWonWith_83 : decode cX12_isWonWith 83 = .ok (.iconst 0, 1) := by decide +kernel
theorem dX12_isWonWith_84 : decode cX12_isWonWith 84 = .ok (.ireturn, 1) := by decide +kernel
set_option maxRecDepth 100000 in
set_option maxHeartbeats 4000000 in
theorem jo_X12_isWonWith_34 {fr : Nat} (hfr : 1 ≤ fr) (Z : AZ) (X : AX Z cX12_isWonWith 7 RX12 (some .boolean) 1 fr) (x1 : Int32) (x2 : Int32) (x3 : Int32) (x4 : Int32) (x5 : Int32) (t0 : Int32) (s : Mem) (q : (Int32 × Int32 × Int32 × Mem) ⊕ (Int32 × Int32 × Mem)) (h : jn_X12_isWonWith_34 x1 x2 x3 x4 x5 t0 s = some q) (hi : ∀ y : Int32 × Int32 × Int32 × Mem, q = .inl y → AW Z y.2.2.2 8 [some (.ref (zr Z 0)), some (.int x1), some (.int x2), some (.int y.1), some (.int y.2.1), some (.int y.2.2.1), none] []) (he : ∀ b : Int32 × Int32 × Mem, q = .inr b → AW Z b.2.2 57 [none, none, none, some (.int b.1), some (.int b.2.1), none, none] []) : AW Z s 34 [some (.ref (zr Z 0)), some (.int x1), some (.int x2), some (.int x3), some (.int x4), some (.int x5), none] [.int t0] := by
  unfold jn_X12_isWonWith_34 at h
  refine aw_istore (L' := [some (.ref (zr Z 0)), some (.int x1), some (.int x2), some (.int x3), some (.int x4), some (.int x5), some (.int t0)]) X dX12_isWonWith_34 (by decide) rfl ?_
  refine aw_iload_n X dX12_isWonWith_36 rfl ?_
  refine aw_iload X dX12_isWonWith_37 rfl ?_
  refine aw_ixor X dX12_isWonWith_39 ?_
  refine aw_istore_n (L' := [some (.ref (zr Z 0)), some (.int x1), some (.int x2), some (.int (x3 ^^^ t0)), some (.int x4), some (.int x5), some (.int t0)]) X dX12_isWonWith_40 (by decide) rfl ?_
  refine aw_aload_n X dX12_isWonWith_41 rfl ?_
  refine aw_iload X dX12_isWonWith_42 rfl ?_
  refine aw_iload X dX12_isWonWith_44 rfl ?_
  obtain ⟨r4, er4, h⟩ := bnd h
  refine aw_callV X dX12_isWonWith_46 cv_RX12_386 (ok_X12_greater er4 _ _ _ _ _) iu_RX12 rfl (Nat.le_trans (by decide) hfr) (by decide) rfl rfl (Nat.le_of_ble_eq_true rfl) ?_
  refine aw_istore (L' := [some (.ref (zr Z 0)), some (.int x1), some (.int x2), some (.int (x3 ^^^ t0)), some (.int r4.1), some (.int x5), some (.int t0)]) X dX12_isWonWith_49 (by decide) rfl ?_
  refine aw_iinc (v := (x5 + 1)) (L' := [some (.ref (zr Z 0)), some (.int x1), some (.int x2), some (.int (x3 ^^^ t0)), some (.int r4.1), some (.int (x5 + 1)), some (.int t0)]) X dX12_isWonWith_51 rfl rfl (by decide) rfl ?_
  refine aw_goto (tgt := 8) X dX12_isWonWith_54 (by decide) ?_
  cases h
  refine aw_msk [true, true, true, true, true, true, false] ?_
  exact hi _ rfl
set_option maxRecDepth 100000 in
set_option maxHeartbeats 4000000 in
theorem so_X12_isWonWith_8 {fr : Nat} (hfr : 1 ≤ fr) (Z : AZ) (X : AX Z cX12_isWonWith 7 RX12 (some .boolean) 1 fr) (x1 : Int32) (x2 : Int32) (x3 : Int32) (x4 : Int32) (x5 : Int32) (s : Mem) (q : (Int32 × Int32 × Int32 × Mem) ⊕ (Int32 × Int32 × Mem)) (h : st_X12_isWonWith_8 x1 x2 x3 x4 x5 s = some q) (hi : ∀ y : Int32 × Int32 × Int32 × Mem, q = .inl y → AW Z y.2.2.2 8 [some (.ref (zr Z 0)), some (.int x1), some (.int x2), some (.int y.1), some (.int y.2.1), some (.int y.2.2.1), none] []) (he : ∀ b : Int32 × Int32 × Mem, q = .inr b → AW Z b.2.2 57 [none, none, none, some (.int b.1), some (.int b.2.1), none, none] []) : AW Z s 8 [some (.ref (zr Z 0)), some (.int x1), some (.int x2), some (.int x3), some (.int x4), some (.int x5), none] [] := by
  unfold st_X12_isWonWith_8 at h
  refine aw_iload X dX12_isWonWith_8 rfl ?_
  refine aw_aload_n X dX12_isWonWith_10 rfl ?_
  refine aw_geti X dX12_isWonWith_11 fl_RX12_472 iu_RX12 gu_RX12_59 ?_
  refine aw_icmp_ge (tgt := 57) X dX12_isWonWith_14 (by decide) (fun c1 => ?_) (fun c1 => ?_)
  · rw [if_pos c1] at h
    cases h
    refine aw_msk [false, false, false, true, true, false, false] ?_
    exact he _ rfl
  · rw [if_neg c1] at h
    refine aw_iload X dX12_isWonWith_17 rfl ?_
    refine aw_iload_n X dX12_isWonWith_19 rfl ?_
    refine aw_icmp_ne (tgt := 27) X dX12_isWonWith_20 (by decide) (fun c2 => ?_) (fun c2 => ?_)
    · rw [if_neg c2] at h
      refine aw_aload_n X dX12_isWonWith_27 rfl ?_
      refine aw_getr X dX12_isWonWith_28 fl_RX12_116 iu_RX12 gu_RX12_60 ?_
      refine aw_iload X dX12_isWonWith_31 rfl ?_
      obtain ⟨v3, ev3, h⟩ := bnd h
      refine aw_iald X dX12_isWonWith_33 iu_RX12_60 ev3 ?_
      refine aw_msk [true, true, true, true, true, true, false] ?_
      exact jo_X12_isWonWith_34 hfr Z X _ _ _ _ _ _ _ _ h hi he
    · rw [if_pos c2] at h
      refine aw_iload_n X dX12_isWonWith_23 rfl ?_
      refine aw_goto (tgt := 34) X dX12_isWonWith_24 (by decide) ?_
      refine aw_msk [true, true, true, true, true, true, false] ?_
      exact jo_X12_isWonWith_34 hfr Z X _ _ _ _ _ _ _ _ h hi he
set_option maxRecDepth 100000 in
set_option maxHeartbeats 4000000 in
theorem w_X12_isWonWith {fr : Nat} (hfr : 1 ≤ fr) (Z : AZ) (X : AX Z cX12_isWonWith 7 RX12 (some .boolean) 1 fr) (x1 : Int32) (x2 : Int32) (s : Mem) (r : Int32 × Mem) (hz : zres Z = (some (.int r.1), r.2)) (h : f_X12_isWonWith x1 x2 s = some r) : AW Z s 0 [some (.ref (zr Z 0)), some (.int x1), some (.int x2), none, none, none, none] [] := by
  unfold f_X12_isWonWith at h
  refine aw_iconst (v := 0) X dX12_isWonWith_0 (by decide) ?_
  refine aw_istore_n (L' := [some (.ref (zr Z 0)), some (.int x1), some (.int x2), some (.int 0), none, none, none]) X dX12_isWonWith_1 (by decide) rfl ?_
  refine aw_iconst (v := 0) X dX12_isWonWith_2 (by decide) ?_
  refine aw_istore (L' := [some (.ref (zr Z 0)), some (.int x1), some (.int x2), some (.int 0), some (.int 0), none, none]) X dX12_isWonWith_3 (by decide) rfl ?_
  refine aw_iconst (v := 0) X dX12_isWonWith_5 (by decide) ?_
  refine aw_istore (L' := [some (.ref (zr Z 0)), some (.int x1), some (.int x2), some (.int 0), some (.int 0), some (.int 0), none]) X dX12_isWonWith_6 (by decide) rfl ?_
  obtain ⟨r5, er5, h⟩ := bnd h
  refine aw_msk [true, true, true, true, true, true, false] ?_
  refine it_ok (P := fun y : Int32 × Int32 × Int32 × Mem => AW Z y.2.2.2 8 [some (.ref (zr Z 0)), some (.int x1), some (.int x2), some (.int y.1), some (.int y.2.1), some (.int y.2.2.1), none] []) (Q := fun b : Int32 × Int32 × Mem => AW Z b.2.2 57 [none, none, none, some (.int b.1), some (.int b.2.1), none, none] []) (fun y q hq hi he => so_X12_isWonWith_8 hfr Z X x1 x2 y.1 y.2.1 y.2.2.1 y.2.2.2 q hq hi he) FUEL _ _ er5 ?_
  refine aw_iload X dX12_isWonWith_57 rfl ?_
  refine aw_iconst (v := 1) X dX12_isWonWith_59 (by decide) ?_
  refine aw_icmp_le (tgt := 75) X dX12_isWonWith_60 (by decide) (fun c6 => ?_) (fun c6 => ?_)
  · rw [if_pos c6] at h
    refine aw_iload_n X dX12_isWonWith_75 rfl ?_
    refine aw_if_ne (tgt := 83) X dX12_isWonWith_76 (by decide) (fun c7 => ?_) (fun c7 => ?_)
    · rw [if_neg c7] at h
      refine aw_iconst (v := 0) X dX12_isWonWith_83 (by decide) ?_
      cases h
      exact aw_zret X dX12_isWonWith_84 rfl rfl hz.symm
    · rw [if_pos c7] at h
      refine aw_iconst (v := 1) X dX12_isWonWith_79 (by decide) ?_
      refine aw_goto (tgt := 84) X dX12_isWonWith_80 (by decide) ?_
      cases h
      exact aw_zret X dX12_isWonWith_84 rfl rfl hz.symm
  · rw [if_neg c6] at h
    refine aw_iload_n X dX12_isWonWith_63 rfl ?_
    refine aw_if_eq (tgt := 71) X dX12_isWonWith_64 (by decide) (fun c8 => ?_) (fun c8 => ?_)
    · rw [if_pos c8] at h
      refine aw_iconst (v := 0) X dX12_isWonWith_71 (by decide) ?_
      refine aw_goto (tgt := 84) X dX12_isWonWith_72 (by decide) ?_
      cases h
      exact aw_zret X dX12_isWonWith_84 rfl rfl hz.symm
    · rw [if_neg c8] at h
      refine aw_iconst (v := 1) X dX12_isWonWith_67 (by decide) ?_
      refine aw_goto (tgt := 84) X dX12_isWonWith_68 (by decide) ?_
      cases h
      exact aw_zret X dX12_isWonWith_84 rfl rfl hz.symm
set_option maxRecDepth 100000 in
set_option maxHeartbeats 4000000 in
theorem ok_X12_isWonWith {x1 x2 : Int32} {s : Mem} {r : Int32 × Mem} (h : f_X12_isWonWith x1 x2 s = some r) (l : Launch) (D : va_G) (ρ : Nat → Nat) (cA : ClassId × ClassId × ClassId) (τ : AT) : AM l D ρ cA 1 τ yX12_isWonWith cX12_isWonWith 7 (some .boolean) 1 [.ref (ρ 0), .int x1, .int x2] (some (.int r.1)) s r.2 := by
  refine AM_of (L := [some (.ref (ρ 0)), some (.int x1), some (.int x2), none, none, none, none]) (by decide) (by simp [Value.category]) (Nat.le_of_ble_eq_true rfl) (fun j v q => ?_) (fun Z X hρ hz hτ => ?_)
  · exact aL_ok (n := 4) [.ref (ρ 0), .int x1, .int x2] j v q
  · subst hρ
    subst hτ
    exact w_X12_isWonWith (Nat.le_refl _) Z X x1 x2 s r hz h

theorem dX12_game_0 : decode cX12_game 0 = .ok (.aload_n 0, 1) := by decide +kernel
theorem dX12_game_1 : decode cX12_game 1 = .ok (.iconst 0, 1) := by decide +kernel
theorem dX12_game_2 : decode cX12_game 2 = .ok (.putfield 122, 3) := by decide +kernel
theorem dX12_game_5 : decode cX12_game 5 = .ok (.iconst 0, 1) := by decide +kernel
theorem dX12_game_6 : decode cX12_game 6 = .ok (.istore_n 1, 1) := by decide +kernel
theorem dX12_game_7 : decode cX12_game 7 = .ok (.iload_n 1, 1) := by decide +kernel
theorem dX12_game_8 : decode cX12_game 8 = .ok (.aload_n 0, 1) := by decide +kernel
theorem dX12_game_9 : decode cX12_game 9 = .ok (.getfield 472, 3) := by decide +kernel
theorem dX12_game_12 : decode cX12_game 12 = .ok (.if_icmp .ge 50, 3) := by decide +kernel
theorem dX12_game_15 : decode cX12_game 15 = .ok (.iconst 1, 1) := by decide +kernel
theorem dX12_game_16 : decode cX12_game 16 = .ok (.istore_n 2, 1) := by decide +kernel
theorem dX12_game_17 : decode cX12_game 17 = .ok (.iload_n 2, 1) := by decide +kernel
theorem dX12_game_18 : decode cX12_game 18 = .ok (.aload_n 0, 1) := by decide +kernel
theorem dX12_game_19 : decode cX12_game 19 = .ok (.getfield 116, 3) := by decide +kernel
theorem dX12_game_22 : decode cX12_game 22 = .ok (.iload_n 1, 1) := by decide +kernel
theorem dX12_game_23 : decode cX12_game 23 = .ok (.iaload, 1) := by decide +kernel
theorem dX12_game_24 : decode cX12_game 24 = .ok (.if_icmp .gt 32, 3) := by decide +kernel
theorem dX12_game_27 : decode cX12_game 27 = .ok (.aload_n 0, 1) := by decide +kernel
theorem dX12_game_28 : decode cX12_game 28 = .ok (.iload_n 1, 1) := by decide +kernel
theorem dX12_game_29 : decode cX12_game 29 = .ok (.aload_n 0, 1) := by decide +kernel
theorem dX12_game_30 : decode cX12_game 30 = .ok (.getfield 116, 3) := by decide +kernel
theorem dX12_game_33 : decode cX12_game 33 = .ok (.iload_n 1, 1) := by decide +kernel
theorem dX12_game_34 : decode cX12_game 34 = .ok (.iaload, 1) := by decide +kernel
theorem dX12_game_35 : decode cX12_game 35 = .ok (.iload_n 2, 1) := by decide +kernel
theorem dX12_game_36 : decode cX12_game 36 = .ok (.isub, 1) := by decide +kernel
theorem dX12_game_37 : decode cX12_game 37 = .ok (.invokevirtual 475, 3) := by decide +kernel
theorem dX12_game_40 : decode cX12_game 40 = .ok (.ifCond .ne 10, 3) := by decide +kernel
theorem dX12_game_43 : decode cX12_game 43 = .ok (.bipush 100, 2) := by decide +kernel
theorem dX12_game_45 : decode cX12_game 45 = .ok (.iload_n 1, 1) := by decide +kernel
theorem dX12_game_46 : decode cX12_game 46 = .ok (.imul, 1) := by decide +kernel
theorem dX12_game_47 : decode cX12_game 47 = .ok (.iload_n 2, 1) := by decide +kernel
theorem dX12_game_48 : decode cX12_game 48 = .ok (.iadd, 1) := by decide +kernel
theorem dX12_game_49 : decode cX12_game 49 = .ok (.ireturn, 1) := by decide +kernel
theorem dX12_game_50 : decode cX12_game 50 = .ok (.iinc 2 1, 3) := by decide +kernel
theorem dX12_game_53 : decode cX12_game 53 = .ok (.goto (-36), 3) := by decide +kernel
theorem dX12_game_56 : decode cX12_game 56 = .ok (.iinc 1 1, 3) := by decide +kernel
theorem dX12_game_59 : decode cX12_game 59 = .ok (.goto (-52), 3) := by decide +kernel
theorem dX12_game_62 : decode cX12_game 62 = .ok (.iconst (-1), 1) := by decide +kernel
theorem dX12_game_63 : decode cX12_game 63 = .ok (.ireturn, 1) := by decide +kernel
set_option maxRecDepth 100000 in
set_option maxHeartbeats 4000000 in
theorem so_X12_game_17 {fr : Nat} (hfr : 2 ≤ fr) (Z : AZ) (X : AX Z cX12_game 3 RX12 (some .int) 1 fr) (x1 : Int32) (x2 : Int32) (s : Mem) (q : (Int32 × Mem) ⊕ (Nat × Int32 × Mem)) (h : st_X12_game_17 x1 x2 s = some q) (hi : ∀ y : Int32 × Mem, q = .inl y → AW Z y.2 17 [some (.ref (zr Z 0)), some (.int x1), some (.int y.1)] []) (he : ∀ b : Nat × Int32 × Mem, q = .inr b → (b.1 = 0 → AW Z b.2.2 43 [none, some (.int x1), some (.int b.2.1)] []) ∧ (b.1 = 1 → AW Z b.2.2 56 [some (.ref (zr Z 0)), some (.int x1), none] [])) : AW Z s 17 [some (.ref (zr Z 0)), some (.int x1), some (.int x2)] [] := by
  unfold st_X12_game_17 at h
  refine aw_iload_n X dX12_game_17 rfl ?_
  refine aw_aload_n X dX12_game_18 rfl ?_
  refine aw_getr X dX12_game_19 fl_RX12_116 iu_RX12 gu_RX12_60 ?_
  refine aw_iload_n X dX12_game_22 rfl ?_
  obtain ⟨v2, ev2, h⟩ := bnd h
  refine aw_iald X dX12_game_23 iu_RX12_60 ev2 ?_
  refine aw_icmp_gt (tgt := 56) X dX12_game_24 (by decide) (fun c3 => ?_) (fun c3 => ?_)
  · rw [if_pos c3] at h
    cases h
    refine aw_msk [true, true, false] ?_
    exact (he _ rfl).2 rfl
  · rw [if_neg c3] at h
    refine aw_aload_n X dX12_game_27 rfl ?_
    refine aw_iload_n X dX12_game_28 rfl ?_
    refine aw_aload_n X dX12_game_29 rfl ?_
    refine aw_getr X dX12_game_30 fl_RX12_116 iu_RX12 gu_RX12_60 ?_
    refine aw_iload_n X dX12_game_33 rfl ?_
    obtain ⟨v4, ev4, h⟩ := bnd h
    refine aw_iald X dX12_game_34 iu_RX12_60 ev4 ?_
    refine aw_iload_n X dX12_game_35 rfl ?_
    refine aw_isub X dX12_game_36 ?_
    obtain ⟨r5, er5, h⟩ := bnd h
    refine aw_callV X dX12_game_37 cv_RX12_475 (ok_X12_isWonWith er5 _ _ _ _ _) iu_RX12 rfl (Nat.le_trans (by decide) hfr) (by decide) rfl rfl (Nat.le_of_ble_eq_true rfl) ?_
    refine aw_if_ne (tgt := 50) X dX12_game_40 (by decide) (fun c6 => ?_) (fun c6 => ?_)
    · rw [if_neg c6] at h
      refine aw_iinc (v := (x2 + 1)) (L' := [some (.ref (zr Z 0)), some (.int x1), some (.int (x2 + 1))]) X dX12_game_50 rfl rfl (by decide) rfl ?_
      refine aw_goto (tgt := 17) X dX12_game_53 (by decide) ?_
      cases h
      refine aw_msk [true, true, true] ?_
      exact hi _ rfl
    · rw [if_pos c6] at h
      cases h
      refine aw_msk [false, true, true] ?_
      exact (he _ rfl).1 rfl
set_option maxRecDepth 100000 in
set_option maxHeartbeats 4000000 in
theorem so_X12_game_7 {fr : Nat} (hfr : 2 ≤ fr) (Z : AZ) (X : AX Z cX12_game 3 RX12 (some .int) 1 fr) (x1 : Int32) (s : Mem) (q : (Int32 × Mem) ⊕ (Nat × Int32 × Int32 × Mem)) (h : st_X12_game_7 x1 s = some q) (hi : ∀ y : Int32 × Mem, q = .inl y → AW Z y.2 7 [some (.ref (zr Z 0)), some (.int y.1), none] []) (he : ∀ b : Nat × Int32 × Int32 × Mem, q = .inr b → (b.1 = 0 → AW Z b.2.2.2 43 [none, some (.int b.2.1), some (.int b.2.2.1)] []) ∧ (b.1 = 1 → AW Z b.2.2.2 62 [none, none, none] [])) : AW Z s 7 [some (.ref (zr Z 0)), some (.int x1), none] [] := by
  unfold st_X12_game_7 at h
  refine aw_iload_n X dX12_game_7 rfl ?_
  refine aw_aload_n X dX12_game_8 rfl ?_
  refine aw_geti X dX12_game_9 fl_RX12_472 iu_RX12 gu_RX12_59 ?_
  refine aw_icmp_ge (tgt := 62) X dX12_game_12 (by decide) (fun c1 => ?_) (fun c1 => ?_)
  · rw [if_pos c1] at h
    cases h
    refine aw_msk [false, false, false] ?_
    exact (he _ rfl).2 rfl
  · rw [if_neg c1] at h
    refine aw_iconst (v := 1) X dX12_game_15 (by decide) ?_
    refine aw_istore_n (L' := [some (.ref (zr Z 0)), some (.int x1), some (.int 1)]) X dX12_game_16 (by decide) rfl ?_
    obtain ⟨r7, er7, h⟩ := bnd h
    refine aw_msk [true, true, true] ?_
    refine it_ok (P := fun y : Int32 × Mem => AW Z y.2 17 [some (.ref (zr Z 0)), some (.int x1), some (.int y.1)] []) (Q := fun b : Nat × Int32 × Mem => (b.1 = 0 → AW Z b.2.2 43 [none, some (.int x1), some (.int b.2.1)] []) ∧ (b.1 = 1 → AW Z b.2.2 56 [some (.ref (zr Z 0)), some (.int x1), none] [])) (fun y q hq hi he => so_X12_game_17 hfr Z X x1 y.1 y.2 q hq hi he) FUEL _ _ er7 ?_
    refine ⟨fun c0 => ?_, fun c1 => ?_⟩
    · rw [if_pos c0] at h
      cases h
      refine aw_msk [false, true, true] ?_
      exact (he _ rfl).1 rfl
    · rw [if_neg (by rw [c1]; decide)] at h
      refine aw_iinc (v := (x1 + 1)) (L' := [some (.ref (zr Z 0)), some (.int (x1 + 1)), none]) X dX12_game_56 rfl rfl (by decide) rfl ?_
      refine aw_goto (tgt := 7) X dX12_game_59 (by decide) ?_
      cases h
      refine aw_msk [true, true, false] ?_
      exact hi _ rfl
set_option maxRecDepth 100000 in
set_option maxHeartbeats 4000000 in
theorem w_X12_game {fr : Nat} (hfr : 2 ≤ fr) (Z : AZ) (X : AX Z cX12_game 3 RX12 (some .int) 1 fr) (s : Mem) (r : Int32 × Mem) (hz : zres Z = (some (.int r.1), r.2)) (h : f_X12_game s = some r) : AW Z s 0 [some (.ref (zr Z 0)), none, none] [] := by
  unfold f_X12_game at h
  refine aw_aload_n X dX12_game_0 rfl ?_
  refine aw_iconst (v := 0) X dX12_game_1 (by decide) ?_
  refine aw_put X dX12_game_2 fp_RX12_122 iu_RX12 gu_RX12_0 rfl rfl ?_
  refine aw_iconst (v := 0) X dX12_game_5 (by decide) ?_
  refine aw_istore_n (L' := [some (.ref (zr Z 0)), some (.int 0), none]) X dX12_game_6 (by decide) rfl ?_
  obtain ⟨r8, er8, h⟩ := bnd h
  refine aw_msk [true, true, false] ?_
  refine it_ok (P := fun y : Int32 × Mem => AW Z y.2 7 [some (.ref (zr Z 0)), some (.int y.1), none] []) (Q := fun b : Nat × Int32 × Int32 × Mem => (b.1 = 0 → AW Z b.2.2.2 43 [none, some (.int b.2.1), some (.int b.2.2.1)] []) ∧ (b.1 = 1 → AW Z b.2.2.2 62 [none, none, none] [])) (fun y q hq hi he => so_X12_game_7 hfr Z X y.1 y.2 q hq hi he) FUEL _ _ er8 ?_
  refine ⟨fun c0 => ?_, fun c1 => ?_⟩
  · rw [if_pos c0] at h
    refine aw_bipush (v := 100) X dX12_game_43 (by decide) ?_
    refine aw_iload_n X dX12_game_45 rfl ?_
    refine aw_imul X dX12_game_46 ?_
    refine aw_iload_n X dX12_game_47 rfl ?_
    refine aw_iadd X dX12_game_48 ?_
    cases h
    exact aw_iret X dX12_game_49 rfl hz.symm
  · rw [if_neg (by rw [c1]; decide)] at h
    refine aw_iconst (v := (-1)) X dX12_game_62 (by decide) ?_
    cases h
    exact aw_iret X dX12_game_63 rfl hz.symm
set_option maxRecDepth 100000 in
set_option maxHeartbeats 4000000 in
theorem ok_X12_game {s : Mem} {r : Int32 × Mem} (h : f_X12_game s = some r) (l : Launch) (D : va_G) (ρ : Nat → Nat) (cA : ClassId × ClassId × ClassId) (τ : AT) : AM l D ρ cA 1 τ yX12_game cX12_game 3 (some .int) 2 [.ref (ρ 0)] (some (.int r.1)) s r.2 := by
  refine AM_of (L := [some (.ref (ρ 0)), none, none]) (by decide) (by simp [Value.category]) (Nat.le_of_ble_eq_true rfl) (fun j v q => ?_) (fun Z X hρ hz hτ => ?_)
  · exact aL_ok (n := 2) [.ref (ρ 0)] j v q
  · subst hρ
    subst hτ
    exact w_X12_game (Nat.le_refl _) Z X s r hz h

theorem dX12_keeps_0 : decode cX12_keeps 0 = .ok (.aload_n 0, 1) := by decide +kernel
theorem dX12_keeps_1 : decode cX12_keeps 1 = .ok (.aload_n 0, 1) := by decide +kernel
theorem dX12_keeps_2 : decode cX12_keeps 2 = .ok (.getfield 478, 3) := by decide +kernel
theorem dX12_keeps_5 : decode cX12_keeps 5 = .ok (.iconst 1, 1) := by decide +kernel
theorem dX12_keeps_6 : decode cX12_keeps 6 = .ok (.iadd, 1) := by decide +kernel
theorem dX12_keeps_7 : decode cX12_keeps 7 = .ok (.putfield 478, 3) := by decide +kernel
theorem dX12_keeps_10 : decode cX12_keeps 10 = .ok (.aload_n 0, 1) := by decide +kernel
theorem dX12_keeps_11 : decode cX12_keeps 11 = .ok (.getfield 481, 3) := by decide +kernel
theorem dX12_keeps_14 : decode cX12_keeps 14 = .ok (.ifCond .ne 15, 3) := by decide +kernel
theorem dX12_keeps_17 : decode cX12_keeps 17 = .ok (.aload_n 0, 1) := by decide +kernel
theorem dX12_keeps_18 : decode cX12_keeps 18 = .ok (.getfield 119, 3) := by decide +kernel
theorem dX12_keeps_21 : decode cX12_keeps 21 = .ok (.aload_n 0, 1) := by decide +kernel
theorem dX12_keeps_22 : decode cX12_keeps 22 = .ok (.getfield 478, 3) := by decide +kernel
theorem dX12_keeps_25 : decode cX12_keeps 25 = .ok (.iconst 1, 1) := by decide +kernel
theorem dX12_keeps_26 : decode cX12_keeps 26 = .ok (.isub, 1) := by decide +kernel
theorem dX12_keeps_27 : decode cX12_keeps 27 = .ok (.iaload, 1) := by decide +kernel
theorem dX12_keeps_28 : decode cX12_keeps 28 = .ok (.ireturn, 1) := by decide +kernel
theorem dX12_keeps_29 : decode cX12_keeps 29 = .ok (.aload_n 0, 1) := by decide +kernel
theorem dX12_keeps_30 : decode cX12_keeps 30 = .ok (.getfield 119, 3) := by decide +kernel
theorem dX12_keeps_33 : decode cX12_keeps 33 = .ok (.aload_n 0, 1) := by decide +kernel
theorem dX12_keeps_34 : decode cX12_keeps 34 = .ok (.getfield 478, 3) := by decide +kernel
theorem dX12_keeps_37 : decode cX12_keeps 37 = .ok (.iconst 1, 1) := by decide +kernel
theorem dX12_keeps_38 : decode cX12_keeps 38 = .ok (.isub, 1) := by decide +kernel
theorem dX12_keeps_39 : decode cX12_keeps 39 = .ok (.iload_n 1, 1) := by decide +kernel
theorem dX12_keeps_40 : decode cX12_keeps 40 = .ok (.iastore, 1) := by decide +kernel
theorem dX12_keeps_41 : decode cX12_keeps 41 = .ok (.iload_n 1, 1) := by decide +kernel
theorem dX12_keeps_42 : decode cX12_keeps 42 = .ok (.ireturn, 1) := by decide +kernel
set_option maxRecDepth 100000 in
set_option maxHeartbeats 4000000 in
theorem w_X12_keeps {fr : Nat} (hfr : 0 ≤ fr) (Z : AZ) (X : AX Z cX12_keeps 2 RX12 (some .int) 1 fr) (x1 : Int32) (s : Mem) (r : Int32 × Mem) (hz : zres Z = (some (.int r.1), r.2)) (h : f_X12_keeps x1 s = some r) : AW Z s 0 [some (.ref (zr Z 0)), some (.int x1)] [] := by
  unfold f_X12_keeps at h
  refine aw_aload_n X dX12_keeps_0 rfl ?_
  refine aw_aload_n X dX12_keeps_1 rfl ?_
  refine aw_geti X dX12_keeps_2 fl_RX12_478 iu_RX12 gu_RX12_63 ?_
  refine aw_iconst (v := 1) X dX12_keeps_5 (by decide) ?_
  refine aw_iadd X dX12_keeps_6 ?_
  refine aw_put X dX12_keeps_7 fp_RX12_478 iu_RX12 gu_RX12_63 rfl rfl ?_
  refine aw_aload_n X dX12_keeps_10 rfl ?_
  refine aw_geti X dX12_keeps_11 fl_RX12_481 iu_RX12 gu_RX12_61 ?_
  refine aw_if_ne (tgt := 29) X dX12_keeps_14 (by decide) (fun c1 => ?_) (fun c1 => ?_)
  · rw [if_neg c1] at h
    refine aw_aload_n X dX12_keeps_29 rfl ?_
    refine aw_getr X dX12_keeps_30 fl_RX12_119 iu_RX12 gu_RX12_64 ?_
    refine aw_aload_n X dX12_keeps_33 rfl ?_
    refine aw_geti X dX12_keeps_34 fl_RX12_478 iu_RX12 gu_RX12_63 ?_
    refine aw_iconst (v := 1) X dX12_keeps_37 (by decide) ?_
    refine aw_isub X dX12_keeps_38 ?_
    refine aw_iload_n X dX12_keeps_39 rfl ?_
    obtain ⟨s2, es2, h⟩ := bnd h
    refine aw_iast X dX12_keeps_40 iu_RX12_64 es2 ?_
    refine aw_iload_n X dX12_keeps_41 rfl ?_
    cases h
    exact aw_iret X dX12_keeps_42 rfl hz.symm
  · rw [if_pos c1] at h
    refine aw_aload_n X dX12_keeps_17 rfl ?_
    refine aw_getr X dX12_keeps_18 fl_RX12_119 iu_RX12 gu_RX12_64 ?_
    refine aw_aload_n X dX12_keeps_21 rfl ?_
    refine aw_geti X dX12_keeps_22 fl_RX12_478 iu_RX12 gu_RX12_63 ?_
    refine aw_iconst (v := 1) X dX12_keeps_25 (by decide) ?_
    refine aw_isub X dX12_keeps_26 ?_
    obtain ⟨v3, ev3, h⟩ := bnd h
    refine aw_iald X dX12_keeps_27 iu_RX12_64 ev3 ?_
    cases h
    exact aw_iret X dX12_keeps_28 rfl hz.symm
set_option maxRecDepth 100000 in
set_option maxHeartbeats 4000000 in
theorem ok_X12_keeps {x1 : Int32} {s : Mem} {r : Int32 × Mem} (h : f_X12_keeps x1 s = some r) (l : Launch) (D : va_G) (ρ : Nat → Nat) (cA : ClassId × ClassId × ClassId) (τ : AT) : AM l D ρ cA 1 τ yX12_keeps cX12_keeps 2 (some .int) 0 [.ref (ρ 0), .int x1] (some (.int r.1)) s r.2 := by
  refine AM_of (L := [some (.ref (ρ 0)), some (.int x1)]) (by decide) (by simp [Value.category]) (Nat.le_of_ble_eq_true rfl) (fun j v q => ?_) (fun Z X hρ hz hτ => ?_)
  · exact aL_ok (n := 0) [.ref (ρ 0), .int x1] j v q
  · subst hρ
    subst hτ
    exact w_X12_keeps (Nat.le_refl _) Z X x1 s r hz h

theorem dX12_keepsLaw_0 : decode cX12_keepsLaw 0 = .ok (.aload_n 0, 1) := by decide +kernel
theorem dX12_keepsLaw_1 : decode cX12_keepsLaw 1 = .ok (.getfield 28, 3) := by decide +kernel
theorem dX12_keepsLaw_4 : decode cX12_keepsLaw 4 = .ok (.iconst 0, 1) := by decide +kernel
theorem dX12_keepsLaw_5 : decode cX12_keepsLaw 5 = .ok (.aload_n 0, 1) := by decide +kernel
theorem dX12_keepsLaw_6 : decode cX12_keepsLaw 6 = .ok (.aload_n 0, 1) := by decide +kernel
theorem dX12_keepsLaw_7 : decode cX12_keepsLaw 7 = .ok (.getfield 28, 3) := by decide +kernel
theorem dX12_keepsLaw_10 : decode cX12_keepsLaw 10 = .ok (.iconst 0, 1) := by decide +kernel
theorem dX12_keepsLaw_11 : decode cX12_keepsLaw 11 = .ok (.iaload, 1) := by decide +kernel
theorem dX12_keepsLaw_12 : decode cX12_keepsLaw 12 = .ok (.invokevirtual 484, 3) := by decide +kernel
theorem dX12_keepsLaw_15 : decode cX12_keepsLaw 15 = .ok (.iastore, 1) := by decide +kernel
theorem dX12_keepsLaw_16 : decode cX12_keepsLaw 16 = .ok (.iconst 0, 1) := by decide +kernel
theorem dX12_keepsLaw_17 : decode cX12_keepsLaw 17 = .ok (.istore_n 1, 1) := by decide +kernel
theorem dX12_keepsLaw_18 : decode cX12_keepsLaw 18 = .ok (.iload_n 1, 1) := by decide +kernel
theorem dX12_keepsLaw_19 : decode cX12_keepsLaw 19 = .ok (.bipush 16, 2) := by decide +kernel
theorem dX12_keepsLaw_21 : decode cX12_keepsLaw 21 = .ok (.if_icmp .ge 73, 3) := by decide +kernel
theorem dX12_keepsLaw_24 : decode cX12_keepsLaw 24 = .ok (.aload_n 0, 1) := by decide +kernel
theorem dX12_keepsLaw_25 : decode cX12_keepsLaw 25 = .ok (.getfield 31, 3) := by decide +kernel
theorem dX12_keepsLaw_28 : decode cX12_keepsLaw 28 = .ok (.iload_n 1, 1) := by decide +kernel
theorem dX12_keepsLaw_29 : decode cX12_keepsLaw 29 = .ok (.aload_n 0, 1) := by decide +kernel
theorem dX12_keepsLaw_30 : decode cX12_keepsLaw 30 = .ok (.aload_n 0, 1) := by decide +kernel
theorem dX12_keepsLaw_31 : decode cX12_keepsLaw 31 = .ok (.getfield 31, 3) := by decide +kernel
theorem dX12_keepsLaw_34 : decode cX12_keepsLaw 34 = .ok (.iload_n 1, 1) := by decide +kernel
theorem dX12_keepsLaw_35 : decode cX12_keepsLaw 35 = .ok (.iaload, 1) := by decide +kernel
theorem dX12_keepsLaw_36 : decode cX12_keepsLaw 36 = .ok (.invokevirtual 484, 3) := by decide +kernel
theorem dX12_keepsLaw_39 : decode cX12_keepsLaw 39 = .ok (.iastore, 1) := by decide +kernel
theorem dX12_keepsLaw_40 : decode cX12_keepsLaw 40 = .ok (.aload_n 0, 1) := by decide +kernel
theorem dX12_keepsLaw_41 : decode cX12_keepsLaw 41 = .ok (.getfield 34, 3) := by decide +kernel
theorem dX12_keepsLaw_44 : decode cX12_keepsLaw 44 = .ok (.iload_n 1, 1) := by decide +kernel
theorem dX12_keepsLaw_45 : decode cX12_keepsLaw 45 = .ok (.aload_n 0, 1) := by decide +kernel
theorem dX12_keepsLaw_46 : decode cX12_keepsLaw 46 = .ok (.aload_n 0, 1) := by decide +kernel
theorem dX12_keepsLaw_47 : decode cX12_keepsLaw 47 = .ok (.getfield 34, 3) := by decide +kernel
theorem dX12_keepsLaw_50 : decode cX12_keepsLaw 50 = .ok (.iload_n 1, 1) := by decide +kernel
theorem dX12_keepsLaw_51 : decode cX12_keepsLaw 51 = .ok (.iaload, 1) := by decide +kernel
theorem dX12_keepsLaw_52 : decode cX12_keepsLaw 52 = .ok (.invokevirtual 484, 3) := by decide +kernel
theorem dX12_keepsLaw_55 : decode cX12_keepsLaw 55 = .ok (.iastore, 1) := by decide +kernel
theorem dX12_keepsLaw_56 : decode cX12_keepsLaw 56 = .ok (.aload_n 0, 1) := by decide +kernel
theorem dX12_keepsLaw_57 : decode cX12_keepsLaw 57 = .ok (.getfield 37, 3) := by decide +kernel
theorem dX12_keepsLaw_60 : decode cX12_keepsLaw 60 = .ok (.iload_n 1, 1) := by decide +kernel
theorem dX12_keepsLaw_61 : decode cX12_keepsLaw 61 = .ok (.aload_n 0, 1) := by decide +kernel
theorem dX12_keepsLaw_62 : decode cX12_keepsLaw 62 = .ok (.aload_n 0, 1) := by decide +kernel
theorem dX12_keepsLaw_63 : decode cX12_keepsLaw 63 = .ok (.getfield 37, 3) := by decide +kernel
theorem dX12_keepsLaw_66 : decode cX12_keepsLaw 66 = .ok (.iload_n 1, 1) := by decide +kernel
theorem dX12_keepsLaw_67 : decode cX12_keepsLaw 67 = .ok (.iaload, 1) := by decide +kernel
theorem dX12_keepsLaw_68 : decode cX12_keepsLaw 68 = .ok (.invokevirtual 484, 3) := by decide +kernel
theorem dX12_keepsLaw_71 : decode cX12_keepsLaw 71 = .ok (.iastore, 1) := by decide +kernel
theorem dX12_keepsLaw_72 : decode cX12_keepsLaw 72 = .ok (.aload_n 0, 1) := by decide +kernel
theorem dX12_keepsLaw_73 : decode cX12_keepsLaw 73 = .ok (.getfield 40, 3) := by decide +kernel
theorem dX12_keepsLaw_76 : decode cX12_keepsLaw 76 = .ok (.iload_n 1, 1) := by decide +kernel
theorem dX12_keepsLaw_77 : decode cX12_keepsLaw 77 = .ok (.aload_n 0, 1) := by decide +kernel
theorem dX12_keepsLaw_78 : decode cX12_keepsLaw 78 = .ok (.aload_n 0, 1) := by decide +kernel
theorem dX12_keepsLaw_79 : decode cX12_keepsLaw 79 = .ok (.getfield 40, 3) := by decide +kernel
theorem dX12_keepsLaw_82 : decode cX12_keepsLaw 82 = .ok (.iload_n 1, 1) := by decide +kernel
theorem dX12_keepsLaw_83 : decode cX12_keepsLaw 83 = .ok (.iaload, 1) := by decide +kernel
theorem dX12_keepsLaw_84 : decode cX12_keepsLaw 84 = .ok (.invokevirtual 484, 3) := by decide +kernel
theorem dX12_keepsLaw_87 : decode cX12_keepsLaw 87 = .ok (.iastore, 1) := by decide +kernel
theorem dX12_keepsLaw_88 : decode cX12_keepsLaw 88 = .ok (.iinc 1 1, 3) := by decide +kernel
theorem dX12_keepsLaw_91 : decode cX12_keepsLaw 91 = .ok (.goto (-73), 3) := by decide +kernel
theorem dX12_keepsLaw_94 : decode cX12_keepsLaw 94 = .ok (.iconst 0, 1) := by decide +kernel
theorem dX12_keepsLaw_95 : decode cX12_keepsLaw 95 = .ok (.istore_n 1, 1) := by decide +kernel
theorem dX12_keepsLaw_96 : decode cX12_keepsLaw 96 = .ok (.iload_n 1, 1) := by decide +kernel
theorem dX12_keepsLaw_97 : decode cX12_keepsLaw 97 = .ok (.sipush 400, 3) := by decide +kernel
theorem dX12_keepsLaw_100 : decode cX12_keepsLaw 100 = .ok (.if_icmp .ge 41, 3) := by decide +kernel
theorem dX12_keepsLaw_103 : decode cX12_keepsLaw 103 = .ok (.aload_n 0, 1) := by decide +kernel
theorem dX12_keepsLaw_104 : decode cX12_keepsLaw 104 = .ok (.getfield 43, 3) := by decide +kernel
theorem dX12_keepsLaw_107 : decode cX12_keepsLaw 107 = .ok (.iload_n 1, 1) := by decide +kernel
theorem dX12_keepsLaw_108 : decode cX12_keepsLaw 108 = .ok (.aload_n 0, 1) := by decide +kernel
theorem dX12_keepsLaw_109 : decode cX12_keepsLaw 109 = .ok (.aload_n 0, 1) := by decide +kernel
theorem dX12_keepsLaw_110 : decode cX12_keepsLaw 110 = .ok (.getfield 43, 3) := by decide +kernel
theorem dX12_keepsLaw_113 : decode cX12_keepsLaw 113 = .ok (.iload_n 1, 1) := by decide +kernel
theorem dX12_keepsLaw_114 : decode cX12_keepsLaw 114 = .ok (.iaload, 1) := by decide +kernel
theorem dX12_keepsLaw_115 : decode cX12_keepsLaw 115 = .ok (.invokevirtual 484, 3) := by decide +kernel
theorem dX12_keepsLaw_118 : decode cX12_keepsLaw 118 = .ok (.iastore, 1) := by decide +kernel
theorem dX12_keepsLaw_119 : decode cX12_keepsLaw 119 = .ok (.aload_n 0, 1) := by decide +kernel
theorem dX12_keepsLaw_120 : decode cX12_keepsLaw 120 = .ok (.getfield 46, 3) := by decide +kernel
theorem dX12_keepsLaw_123 : decode cX12_keepsLaw 123 = .ok (.iload_n 1, 1) := by decide +kernel
theorem dX12_keepsLaw_124 : decode cX12_keepsLaw 124 = .ok (.aload_n 0, 1) := by decide +kernel
theorem dX12_keepsLaw_125 : decode cX12_keepsLaw 125 = .ok (.aload_n 0, 1) := by decide +kernel
theorem dX12_keepsLaw_126 : decode cX12_keepsLaw 126 = .ok (.getfield 46, 3) := by decide +kernel
theorem dX12_keepsLaw_129 : decode cX12_keepsLaw 129 = .ok (.iload_n 1, 1) := by decide +kernel
theorem dX12_keepsLaw_130 : decode cX12_keepsLaw 130 = .ok (.iaload, 1) := by decide +kernel
theorem dX12_keepsLaw_131 : decode cX12_keepsLaw 131 = .ok (.invokevirtual 484, 3) := by decide +kernel
theorem dX12_keepsLaw_134 : decode cX12_keepsLaw 134 = .ok (.iastore, 1) := by decide +kernel
theorem dX12_keepsLaw_135 : decode cX12_keepsLaw 135 = .ok (.iinc 1 1, 3) := by decide +kernel
theorem dX12_keepsLaw_138 : decode cX12_keepsLaw 138 = .ok (.goto (-42), 3) := by decide +kernel
theorem dX12_keepsLaw_141 : decode cX12_keepsLaw 141 = .ok (.return_, 1) := by decide +kernel
set_option maxRecDepth 100000 in
set_option maxHeartbeats 4000000 in
theorem so_X12_keepsLaw_18 {fr : Nat} (hfr : 1 ≤ fr) (Z : AZ) (X : AX Z cX12_keepsLaw 2 RX12 none 1 fr) (x1 : Int32) (s : Mem) (q : (Int32 × Mem) ⊕ (Mem)) (h : st_X12_keepsLaw_18 x1 s = some q) (hi : ∀ y : Int32 × Mem, q = .inl y → AW Z y.2 18 [some (.ref (zr Z 0)), some (.int y.1)] []) (he : ∀ b : Mem, q = .inr b → AW Z b 94 [some (.ref (zr Z 0)), none] []) : AW Z s 18 [some (.ref (zr Z 0)), some (.int x1)] [] := by
  unfold st_X12_keepsLaw_18 at h
  refine aw_iload_n X dX12_keepsLaw_18 rfl ?_
  refine aw_bipush (v := 16) X dX12_keepsLaw_19 (by decide) ?_
  refine aw_icmp_ge (tgt := 94) X dX12_keepsLaw_21 (by decide) (fun c4 => ?_) (fun c4 => ?_)
  · rw [if_pos c4] at h
    cases h
    refine aw_msk [true, false] ?_
    exact he _ rfl
  · rw [if_neg c4] at h
    refine aw_aload_n X dX12_keepsLaw_24 rfl ?_
    refine aw_getr X dX12_keepsLaw_25 fl_RX12_31 iu_RX12 gu_RX12_16 ?_
    refine aw_iload_n X dX12_keepsLaw_28 rfl ?_
    refine aw_aload_n X dX12_keepsLaw_29 rfl ?_
    refine aw_aload_n X dX12_keepsLaw_30 rfl ?_
    refine aw_getr X dX12_keepsLaw_31 fl_RX12_31 iu_RX12 gu_RX12_16 ?_
    refine aw_iload_n X dX12_keepsLaw_34 rfl ?_
    obtain ⟨v5, ev5, h⟩ := bnd h
    refine aw_iald X dX12_keepsLaw_35 iu_RX12_16 ev5 ?_
    obtain ⟨r6, er6, h⟩ := bnd h
    refine aw_callV X dX12_keepsLaw_36 cv_RX12_484 (ok_X12_keeps er6 _ _ _ _ _) iu_RX12 rfl (Nat.le_trans (by decide) hfr) (by decide) rfl rfl (Nat.le_of_ble_eq_true rfl) ?_
    obtain ⟨s7, es7, h⟩ := bnd h
    refine aw_iast X dX12_keepsLaw_39 iu_RX12_16 es7 ?_
    refine aw_aload_n X dX12_keepsLaw_40 rfl ?_
    refine aw_getr X dX12_keepsLaw_41 fl_RX12_34 iu_RX12 gu_RX12_17 ?_
    refine aw_iload_n X dX12_keepsLaw_44 rfl ?_
    refine aw_aload_n X dX12_keepsLaw_45 rfl ?_
    refine aw_aload_n X dX12_keepsLaw_46 rfl ?_
    refine aw_getr X dX12_keepsLaw_47 fl_RX12_34 iu_RX12 gu_RX12_17 ?_
    refine aw_iload_n X dX12_keepsLaw_50 rfl ?_
    obtain ⟨v8, ev8, h⟩ := bnd h
    refine aw_iald X dX12_keepsLaw_51 iu_RX12_17 ev8 ?_
    obtain ⟨r9, er9, h⟩ := bnd h
    refine aw_callV X dX12_keepsLaw_52 cv_RX12_484 (ok_X12_keeps er9 _ _ _ _ _) iu_RX12 rfl (Nat.le_trans (by decide) hfr) (by decide) rfl rfl (Nat.le_of_ble_eq_true rfl) ?_
    obtain ⟨s10, es10, h⟩ := bnd h
    refine aw_iast X dX12_keepsLaw_55 iu_RX12_17 es10 ?_
    refine aw_aload_n X dX12_keepsLaw_56 rfl ?_
    refine aw_getr X dX12_keepsLaw_57 fl_RX12_37 iu_RX12 gu_RX12_18 ?_
    refine aw_iload_n X dX12_keepsLaw_60 rfl ?_
    refine aw_aload_n X dX12_keepsLaw_61 rfl ?_
    refine aw_aload_n X dX12_keepsLaw_62 rfl ?_
    refine aw_getr X dX12_keepsLaw_63 fl_RX12_37 iu_RX12 gu_RX12_18 ?_
    refine aw_iload_n X dX12_keepsLaw_66 rfl ?_
    obtain ⟨v11, ev11, h⟩ := bnd h
    refine aw_iald X dX12_keepsLaw_67 iu_RX12_18 ev11 ?_
    obtain ⟨r12, er12, h⟩ := bnd h
    refine aw_callV X dX12_keepsLaw_68 cv_RX12_484 (ok_X12_keeps er12 _ _ _ _ _) iu_RX12 rfl (Nat.le_trans (by decide) hfr) (by decide) rfl rfl (Nat.le_of_ble_eq_true rfl) ?_
    obtain ⟨s13, es13, h⟩ := bnd h
    refine aw_iast X dX12_keepsLaw_71 iu_RX12_18 es13 ?_
    refine aw_aload_n X dX12_keepsLaw_72 rfl ?_
    refine aw_getr X dX12_keepsLaw_73 fl_RX12_40 iu_RX12 gu_RX12_19 ?_
    refine aw_iload_n X dX12_keepsLaw_76 rfl ?_
    refine aw_aload_n X dX12_keepsLaw_77 rfl ?_
    refine aw_aload_n X dX12_keepsLaw_78 rfl ?_
    refine aw_getr X dX12_keepsLaw_79 fl_RX12_40 iu_RX12 gu_RX12_19 ?_
    refine aw_iload_n X dX12_keepsLaw_82 rfl ?_
    obtain ⟨v14, ev14, h⟩ := bnd h
    refine aw_iald X dX12_keepsLaw_83 iu_RX12_19 ev14 ?_
    obtain ⟨r15, er15, h⟩ := bnd h
    refine aw_callV X dX12_keepsLaw_84 cv_RX12_484 (ok_X12_keeps er15 _ _ _ _ _) iu_RX12 rfl (Nat.le_trans (by decide) hfr) (by decide) rfl rfl (Nat.le_of_ble_eq_true rfl) ?_
    obtain ⟨s16, es16, h⟩ := bnd h
    refine aw_iast X dX12_keepsLaw_87 iu_RX12_19 es16 ?_
    refine aw_iinc (v := (x1 + 1)) (L' := [some (.ref (zr Z 0)), some (.int (x1 + 1))]) X dX12_keepsLaw_88 rfl rfl (by decide) rfl ?_
    refine aw_goto (tgt := 18) X dX12_keepsLaw_91 (by decide) ?_
    cases h
    refine aw_msk [true, true] ?_
    exact hi _ rfl
set_option maxRecDepth 100000 in
set_option maxHeartbeats 4000000 in
theorem so_X12_keepsLaw_96 {fr : Nat} (hfr : 1 ≤ fr) (Z : AZ) (X : AX Z cX12_keepsLaw 2 RX12 none 1 fr) (x1 : Int32) (s : Mem) (q : (Int32 × Mem) ⊕ (Mem)) (h : st_X12_keepsLaw_96 x1 s = some q) (hi : ∀ y : Int32 × Mem, q = .inl y → AW Z y.2 96 [some (.ref (zr Z 0)), some (.int y.1)] []) (he : ∀ b : Mem, q = .inr b → AW Z b 141 [none, none] []) : AW Z s 96 [some (.ref (zr Z 0)), some (.int x1)] [] := by
  unfold st_X12_keepsLaw_96 at h
  refine aw_iload_n X dX12_keepsLaw_96 rfl ?_
  refine aw_sipush (v := 400) X dX12_keepsLaw_97 (by decide) ?_
  refine aw_icmp_ge (tgt := 141) X dX12_keepsLaw_100 (by decide) (fun c18 => ?_) (fun c18 => ?_)
  · rw [if_pos c18] at h
    cases h
    refine aw_msk [false, false] ?_
    exact he _ rfl
  · rw [if_neg c18] at h
    refine aw_aload_n X dX12_keepsLaw_103 rfl ?_
    refine aw_getr X dX12_keepsLaw_104 fl_RX12_43 iu_RX12 gu_RX12_20 ?_
    refine aw_iload_n X dX12_keepsLaw_107 rfl ?_
    refine aw_aload_n X dX12_keepsLaw_108 rfl ?_
    refine aw_aload_n X dX12_keepsLaw_109 rfl ?_
    refine aw_getr X dX12_keepsLaw_110 fl_RX12_43 iu_RX12 gu_RX12_20 ?_
    refine aw_iload_n X dX12_keepsLaw_113 rfl ?_
    obtain ⟨v19, ev19, h⟩ := bnd h
    refine aw_iald X dX12_keepsLaw_114 iu_RX12_20 ev19 ?_
    obtain ⟨r20, er20, h⟩ := bnd h
    refine aw_callV X dX12_keepsLaw_115 cv_RX12_484 (ok_X12_keeps er20 _ _ _ _ _) iu_RX12 rfl (Nat.le_trans (by decide) hfr) (by decide) rfl rfl (Nat.le_of_ble_eq_true rfl) ?_
    obtain ⟨s21, es21, h⟩ := bnd h
    refine aw_iast X dX12_keepsLaw_118 iu_RX12_20 es21 ?_
    refine aw_aload_n X dX12_keepsLaw_119 rfl ?_
    refine aw_getr X dX12_keepsLaw_120 fl_RX12_46 iu_RX12 gu_RX12_21 ?_
    refine aw_iload_n X dX12_keepsLaw_123 rfl ?_
    refine aw_aload_n X dX12_keepsLaw_124 rfl ?_
    refine aw_aload_n X dX12_keepsLaw_125 rfl ?_
    refine aw_getr X dX12_keepsLaw_126 fl_RX12_46 iu_RX12 gu_RX12_21 ?_
    refine aw_iload_n X dX12_keepsLaw_129 rfl ?_
    obtain ⟨v22, ev22, h⟩ := bnd h
    refine aw_iald X dX12_keepsLaw_130 iu_RX12_21 ev22 ?_
    obtain ⟨r23, er23, h⟩ := bnd h
    refine aw_callV X dX12_keepsLaw_131 cv_RX12_484 (ok_X12_keeps er23 _ _ _ _ _) iu_RX12 rfl (Nat.le_trans (by decide) hfr) (by decide) rfl rfl (Nat.le_of_ble_eq_true rfl) ?_
    obtain ⟨s24, es24, h⟩ := bnd h
    refine aw_iast X dX12_keepsLaw_134 iu_RX12_21 es24 ?_
    refine aw_iinc (v := (x1 + 1)) (L' := [some (.ref (zr Z 0)), some (.int (x1 + 1))]) X dX12_keepsLaw_135 rfl rfl (by decide) rfl ?_
    refine aw_goto (tgt := 96) X dX12_keepsLaw_138 (by decide) ?_
    cases h
    refine aw_msk [true, true] ?_
    exact hi _ rfl
set_option maxRecDepth 100000 in
set_option maxHeartbeats 4000000 in
theorem w_X12_keepsLaw {fr : Nat} (hfr : 1 ≤ fr) (Z : AZ) (X : AX Z cX12_keepsLaw 2 RX12 none 1 fr) (s : Mem) (r : Mem) (hz : zres Z = (none, r)) (h : f_X12_keepsLaw s = some r) : AW Z s 0 [some (.ref (zr Z 0)), none] [] := by
  unfold f_X12_keepsLaw at h
  refine aw_aload_n X dX12_keepsLaw_0 rfl ?_
  refine aw_getr X dX12_keepsLaw_1 fl_RX12_28 iu_RX12 gu_RX12_15 ?_
  refine aw_iconst (v := 0) X dX12_keepsLaw_4 (by decide) ?_
  refine aw_aload_n X dX12_keepsLaw_5 rfl ?_
  refine aw_aload_n X dX12_keepsLaw_6 rfl ?_
  refine aw_getr X dX12_keepsLaw_7 fl_RX12_28 iu_RX12 gu_RX12_15 ?_
  refine aw_iconst (v := 0) X dX12_keepsLaw_10 (by decide) ?_
  obtain ⟨v1, ev1, h⟩ := bnd h
  refine aw_iald X dX12_keepsLaw_11 iu_RX12_15 ev1 ?_
  obtain ⟨r2, er2, h⟩ := bnd h
  refine aw_callV X dX12_keepsLaw_12 cv_RX12_484 (ok_X12_keeps er2 _ _ _ _ _) iu_RX12 rfl (Nat.le_trans (by decide) hfr) (by decide) rfl rfl (Nat.le_of_ble_eq_true rfl) ?_
  obtain ⟨s3, es3, h⟩ := bnd h
  refine aw_iast X dX12_keepsLaw_15 iu_RX12_15 es3 ?_
  refine aw_iconst (v := 0) X dX12_keepsLaw_16 (by decide) ?_
  refine aw_istore_n (L' := [some (.ref (zr Z 0)), some (.int 0)]) X dX12_keepsLaw_17 (by decide) rfl ?_
  obtain ⟨r17, er17, h⟩ := bnd h
  refine aw_msk [true, true] ?_
  refine it_ok (P := fun y : Int32 × Mem => AW Z y.2 18 [some (.ref (zr Z 0)), some (.int y.1)] []) (Q := fun b : Mem => AW Z b 94 [some (.ref (zr Z 0)), none] []) (fun y q hq hi he => so_X12_keepsLaw_18 hfr Z X y.1 y.2 q hq hi he) FUEL _ _ er17 ?_
  refine aw_iconst (v := 0) X dX12_keepsLaw_94 (by decide) ?_
  refine aw_istore_n (L' := [some (.ref (zr Z 0)), some (.int 0)]) X dX12_keepsLaw_95 (by decide) rfl ?_
  obtain ⟨r25, er25, h⟩ := bnd h
  refine aw_msk [true, true] ?_
  refine it_ok (P := fun y : Int32 × Mem => AW Z y.2 96 [some (.ref (zr Z 0)), some (.int y.1)] []) (Q := fun b : Mem => AW Z b 141 [none, none] []) (fun y q hq hi he => so_X12_keepsLaw_96 hfr Z X y.1 y.2 q hq hi he) FUEL _ _ er25 ?_
  cases h
  exact aw_vret X dX12_keepsLaw_141 rfl hz.symm
set_option maxRecDepth 100000 in
set_option maxHeartbeats 4000000 in
theorem ok_X12_keepsLaw {s : Mem} {r : Mem} (h : f_X12_keepsLaw s = some r) (l : Launch) (D : va_G) (ρ : Nat → Nat) (cA : ClassId × ClassId × ClassId) (τ : AT) : AM l D ρ cA 1 τ yX12_keepsLaw cX12_keepsLaw 2 none 1 [.ref (ρ 0)] none s r := by
  refine AM_of (L := [some (.ref (ρ 0)), none]) (by decide) (by simp [Value.category]) (Nat.le_of_ble_eq_true rfl) (fun j v q => ?_) (fun Z X hρ hz hτ => ?_)
  · exact aL_ok (n := 1) [.ref (ρ 0)] j v q
  · subst hρ
    subst hτ
    exact w_X12_keepsLaw (Nat.le_refl _) Z X s r hz h

theorem dX12_keepsMany_0 : decode cX12_keepsMany 0 = .ok (.aload_n 0, 1) := by decide +kernel
theorem dX12_keepsMany_1 : decode cX12_keepsMany 1 = .ok (.aload_n 0, 1) := by decide +kernel
theorem dX12_keepsMany_2 : decode cX12_keepsMany 2 = .ok (.aload_n 0, 1) := by decide +kernel
theorem dX12_keepsMany_3 : decode cX12_keepsMany 3 = .ok (.getfield 134, 3) := by decide +kernel
theorem dX12_keepsMany_6 : decode cX12_keepsMany 6 = .ok (.invokevirtual 484, 3) := by decide +kernel
theorem dX12_keepsMany_9 : decode cX12_keepsMany 9 = .ok (.putfield 134, 3) := by decide +kernel
theorem dX12_keepsMany_12 : decode cX12_keepsMany 12 = .ok (.aload_n 0, 1) := by decide +kernel
theorem dX12_keepsMany_13 : decode cX12_keepsMany 13 = .ok (.aload_n 0, 1) := by decide +kernel
theorem dX12_keepsMany_14 : decode cX12_keepsMany 14 = .ok (.aload_n 0, 1) := by decide +kernel
theorem dX12_keepsMany_15 : decode cX12_keepsMany 15 = .ok (.getfield 284, 3) := by decide +kernel
theorem dX12_keepsMany_18 : decode cX12_keepsMany 18 = .ok (.invokevirtual 484, 3) := by decide +kernel
theorem dX12_keepsMany_21 : decode cX12_keepsMany 21 = .ok (.putfield 284, 3) := by decide +kernel
theorem dX12_keepsMany_24 : decode cX12_keepsMany 24 = .ok (.aload_n 0, 1) := by decide +kernel
theorem dX12_keepsMany_25 : decode cX12_keepsMany 25 = .ok (.aload_n 0, 1) := by decide +kernel
theorem dX12_keepsMany_26 : decode cX12_keepsMany 26 = .ok (.aload_n 0, 1) := by decide +kernel
theorem dX12_keepsMany_27 : decode cX12_keepsMany 27 = .ok (.getfield 287, 3) := by decide +kernel
theorem dX12_keepsMany_30 : decode cX12_keepsMany 30 = .ok (.invokevirtual 484, 3) := by decide +kernel
theorem dX12_keepsMany_33 : decode cX12_keepsMany 33 = .ok (.putfield 287, 3) := by decide +kernel
theorem dX12_keepsMany_36 : decode cX12_keepsMany 36 = .ok (.aload_n 0, 1) := by decide +kernel
theorem dX12_keepsMany_37 : decode cX12_keepsMany 37 = .ok (.aload_n 0, 1) := by decide +kernel
theorem dX12_keepsMany_38 : decode cX12_keepsMany 38 = .ok (.aload_n 0, 1) := by decide +kernel
theorem dX12_keepsMany_39 : decode cX12_keepsMany 39 = .ok (.getfield 281, 3) := by decide +kernel
theorem dX12_keepsMany_42 : decode cX12_keepsMany 42 = .ok (.invokevirtual 484, 3) := by decide +kernel
theorem dX12_keepsMany_45 : decode cX12_keepsMany 45 = .ok (.putfield 281, 3) := by decide +kernel
theorem dX12_keepsMany_48 : decode cX12_keepsMany 48 = .ok (.aload_n 0, 1) := by decide +kernel
theorem dX12_keepsMany_49 : decode cX12_keepsMany 49 = .ok (.aload_n 0, 1) := by decide +kernel
theorem dX12_keepsMany_50 : decode cX12_keepsMany 50 = .ok (.aload_n 0, 1) := by decide +kernel
theorem dX12_keepsMany_51 : decode cX12_keepsMany 51 = .ok (.getfield 416, 3) := by decide +kernel
theorem dX12_keepsMany_54 : decode cX12_keepsMany 54 = .ok (.invokevirtual 484, 3) := by decide +kernel
theorem dX12_keepsMany_57 : decode cX12_keepsMany 57 = .ok (.putfield 416, 3) := by decide +kernel
theorem dX12_keepsMany_60 : decode cX12_keepsMany 60 = .ok (.aload_n 0, 1) := by decide +kernel
theorem dX12_keepsMany_61 : decode cX12_keepsMany 61 = .ok (.aload_n 0, 1) := by decide +kernel
theorem dX12_keepsMany_62 : decode cX12_keepsMany 62 = .ok (.aload_n 0, 1) := by decide +kernel
theorem dX12_keepsMany_63 : decode cX12_keepsMany 63 = .ok (.getfield 427, 3) := by decide +kernel
theorem dX12_keepsMany_66 : decode cX12_keepsMany 66 = .ok (.invokevirtual 484, 3) := by decide +kernel
theorem dX12_keepsMany_69 : decode cX12_keepsMany 69 = .ok (.putfield 427, 3) := by decide +kernel
theorem dX12_keepsMany_72 : decode cX12_keepsMany 72 = .ok (.aload_n 0, 1) := by decide +kernel
theorem dX12_keepsMany_73 : decode cX12_keepsMany 73 = .ok (.aload_n 0, 1) := by decide +kernel
theorem dX12_keepsMany_74 : decode cX12_keepsMany 74 = .ok (.aload_n 0, 1) := by decide +kernel
theorem dX12_keepsMany_75 : decode cX12_keepsMany 75 = .ok (.getfield 436, 3) := by decide +kernel
theorem dX12_keepsMany_78 : decode cX12_keepsMany 78 = .ok (.invokevirtual 484, 3) := by decide +kernel
theorem dX12_keepsMany_81 : decode cX12_keepsMany 81 = .ok (.putfield 436, 3) := by decide +kernel
theorem dX12_keepsMany_84 : decode cX12_keepsMany 84 = .ok (.aload_n 0, 1) := by decide +kernel
theorem dX12_keepsMany_85 : decode cX12_keepsMany 85 = .ok (.getfield 95, 3) := by decide +kernel
theorem dX12_keepsMany_88 : decode cX12_keepsMany 88 = .ok (.iconst 0, 1) := by decide +kernel
theorem dX12_keepsMany_89 : decode cX12_keepsMany 89 = .ok (.aload_n 0, 1) := by decide +kernel
theorem dX12_keepsMany_90 : decode cX12_keepsMany 90 = .ok (.aload_n 0, 1) := by decide +kernel
theorem dX12_keepsMany_91 : decode cX12_keepsMany 91 = .ok (.getfield 95, 3) := by decide +kernel
theorem dX12_keepsMany_94 : decode cX12_keepsMany 94 = .ok (.iconst 0, 1) := by decide +kernel
theorem dX12_keepsMany_95 : decode cX12_keepsMany 95 = .ok (.iaload, 1) := by decide +kernel
theorem dX12_keepsMany_96 : decode cX12_keepsMany 96 = .ok (.invokevirtual 484, 3) := by decide +kernel
theorem dX12_keepsMany_99 : decode cX12_keepsMany 99 = .ok (.iastore, 1) := by decide +kernel
theorem dX12_keepsMany_100 : decode cX12_keepsMany 100 = .ok (.aload_n 0, 1) := by decide +kernel
theorem dX12_keepsMany_101 : decode cX12_keepsMany 101 = .ok (.getfield 95, 3) := by decide +kernel
theorem dX12_keepsMany_104 : decode cX12_keepsMany 104 = .ok (.iconst 1, 1) := by decide +kernel
theorem dX12_keepsMany_105 : decode cX12_keepsMany 105 = .ok (.aload_n 0, 1) := by decide +kernel
theorem dX12_keepsMany_106 : decode cX12_keepsMany 106 = .ok (.aload_n 0, 1) := by decide +kernel
theorem dX12_keepsMany_107 : decode cX12_keepsMany 107 = .ok (.getfield 95, 3) := by decide +kernel
theorem dX12_keepsMany_110 : decode cX12_keepsMany 110 = .ok (.iconst 1, 1) := by decide +kernel
theorem dX12_keepsMany_111 : decode cX12_keepsMany 111 = .ok (.iaload, 1) := by decide +kernel
theorem dX12_keepsMany_112 : decode cX12_keepsMany 112 = .ok (.invokevirtual 484, 3) := by decide +kernel
theorem dX12_keepsMany_115 : decode cX12_keepsMany 115 = .ok (.iastore, 1) := by decide +kernel
theorem dX12_keepsMany_116 : decode cX12_keepsMany 116 = .ok (.aload_n 0, 1) := by decide +kernel
theorem dX12_keepsMany_117 : decode cX12_keepsMany 117 = .ok (.aload_n 0, 1) := by decide +kernel
theorem dX12_keepsMany_118 : decode cX12_keepsMany 118 = .ok (.aload_n 0, 1) := by decide +kernel
theorem dX12_keepsMany_119 : decode cX12_keepsMany 119 = .ok (.getfield 453, 3) := by decide +kernel
theorem dX12_keepsMany_122 : decode cX12_keepsMany 122 = .ok (.invokevirtual 484, 3) := by decide +kernel
theorem dX12_keepsMany_125 : decode cX12_keepsMany 125 = .ok (.putfield 453, 3) := by decide +kernel
theorem dX12_keepsMany_128 : decode cX12_keepsMany 128 = .ok (.aload_n 0, 1) := by decide +kernel
theorem dX12_keepsMany_129 : decode cX12_keepsMany 129 = .ok (.aload_n 0, 1) := by decide +kernel
theorem dX12_keepsMany_130 : decode cX12_keepsMany 130 = .ok (.aload_n 0, 1) := by decide +kernel
theorem dX12_keepsMany_131 : decode cX12_keepsMany 131 = .ok (.getfield 465, 3) := by decide +kernel
theorem dX12_keepsMany_134 : decode cX12_keepsMany 134 = .ok (.invokevirtual 484, 3) := by decide +kernel
theorem dX12_keepsMany_137 : decode cX12_keepsMany 137 = .ok (.putfield 465, 3) := by decide +kernel
theorem dX12_keepsMany_140 : decode cX12_keepsMany 140 = .ok (.aload_n 0, 1) := by decide +kernel
theorem dX12_keepsMany_141 : decode cX12_keepsMany 141 = .ok (.aload_n 0, 1) := by decide +kernel
theorem dX12_keepsMany_142 : decode cX12_keepsMany 142 = .ok (.aload_n 0, 1) := by decide +kernel
theorem dX12_keepsMany_143 : decode cX12_keepsMany 143 = .ok (.getfield 472, 3) := by decide +kernel
theorem dX12_keepsMany_146 : decode cX12_keepsMany 146 = .ok (.invokevirtual 484, 3) := by decide +kernel
theorem dX12_keepsMany_149 : decode cX12_keepsMany 149 = .ok (.putfield 472, 3) := by decide +kernel
theorem dX12_keepsMany_152 : decode cX12_keepsMany 152 = .ok (.return_, 1) := by decide +kernel
set_option maxRecDepth 100000 in
set_option maxHeartbeats 4000000 in
theorem w_X12_keepsMany {fr : Nat} (hfr : 1 ≤ fr) (Z : AZ) (X : AX Z cX12_keepsMany 1 RX12 none 1 fr) (s : Mem) (r : Mem) (hz : zres Z = (none, r)) (h : f_X12_keepsMany s = some r) : AW Z s 0 [some (.ref (zr Z 0))] [] := by
  unfold f_X12_keepsMany at h
  refine aw_aload_n X dX12_keepsMany_0 rfl ?_
  refine aw_aload_n X dX12_keepsMany_1 rfl ?_
  refine aw_aload_n X dX12_keepsMany_2 rfl ?_
  refine aw_geti X dX12_keepsMany_3 fl_RX12_134 iu_RX12 gu_RX12_6 ?_
  obtain ⟨r1, er1, h⟩ := bnd h
  refine aw_callV X dX12_keepsMany_6 cv_RX12_484 (ok_X12_keeps er1 _ _ _ _ _) iu_RX12 rfl (Nat.le_trans (by decide) hfr) (by decide) rfl rfl (Nat.le_of_ble_eq_true rfl) ?_
  refine aw_put X dX12_keepsMany_9 fp_RX12_134 iu_RX12 gu_RX12_6 rfl rfl ?_
  refine aw_aload_n X dX12_keepsMany_12 rfl ?_
  refine aw_aload_n X dX12_keepsMany_13 rfl ?_
  refine aw_aload_n X dX12_keepsMany_14 rfl ?_
  refine aw_geti X dX12_keepsMany_15 fl_RX12_284 iu_RX12 gu_RX12_31 ?_
  obtain ⟨r2, er2, h⟩ := bnd h
  refine aw_callV X dX12_keepsMany_18 cv_RX12_484 (ok_X12_keeps er2 _ _ _ _ _) iu_RX12 rfl (Nat.le_trans (by decide) hfr) (by decide) rfl rfl (Nat.le_of_ble_eq_true rfl) ?_
  refine aw_put X dX12_keepsMany_21 fp_RX12_284 iu_RX12 gu_RX12_31 rfl rfl ?_
  refine aw_aload_n X dX12_keepsMany_24 rfl ?_
  refine aw_aload_n X dX12_keepsMany_25 rfl ?_
  refine aw_aload_n X dX12_keepsMany_26 rfl ?_
  refine aw_geti X dX12_keepsMany_27 fl_RX12_287 iu_RX12 gu_RX12_33 ?_
  obtain ⟨r3, er3, h⟩ := bnd h
  refine aw_callV X dX12_keepsMany_30 cv_RX12_484 (ok_X12_keeps er3 _ _ _ _ _) iu_RX12 rfl (Nat.le_trans (by decide) hfr) (by decide) rfl rfl (Nat.le_of_ble_eq_true rfl) ?_
  refine aw_put X dX12_keepsMany_33 fp_RX12_287 iu_RX12 gu_RX12_33 rfl rfl ?_
  refine aw_aload_n X dX12_keepsMany_36 rfl ?_
  refine aw_aload_n X dX12_keepsMany_37 rfl ?_
  refine aw_aload_n X dX12_keepsMany_38 rfl ?_
  refine aw_geti X dX12_keepsMany_39 fl_RX12_281 iu_RX12 gu_RX12_35 ?_
  obtain ⟨r4, er4, h⟩ := bnd h
  refine aw_callV X dX12_keepsMany_42 cv_RX12_484 (ok_X12_keeps er4 _ _ _ _ _) iu_RX12 rfl (Nat.le_trans (by decide) hfr) (by decide) rfl rfl (Nat.le_of_ble_eq_true rfl) ?_
  refine aw_put X dX12_keepsMany_45 fp_RX12_281 iu_RX12 gu_RX12_35 rfl rfl ?_
  refine aw_aload_n X dX12_keepsMany_48 rfl ?_
  refine aw_aload_n X dX12_keepsMany_49 rfl ?_
  refine aw_aload_n X dX12_keepsMany_50 rfl ?_
  refine aw_geti X dX12_keepsMany_51 fl_RX12_416 iu_RX12 gu_RX12_40 ?_
  obtain ⟨r5, er5, h⟩ := bnd h
  refine aw_callV X dX12_keepsMany_54 cv_RX12_484 (ok_X12_keeps er5 _ _ _ _ _) iu_RX12 rfl (Nat.le_trans (by decide) hfr) (by decide) rfl rfl (Nat.le_of_ble_eq_true rfl) ?_
  refine aw_put X dX12_keepsMany_57 fp_RX12_416 iu_RX12 gu_RX12_40 rfl rfl ?_
  refine aw_aload_n X dX12_keepsMany_60 rfl ?_
  refine aw_aload_n X dX12_keepsMany_61 rfl ?_
  refine aw_aload_n X dX12_keepsMany_62 rfl ?_
  refine aw_geti X dX12_keepsMany_63 fl_RX12_427 iu_RX12 gu_RX12_42 ?_
  obtain ⟨r6, er6, h⟩ := bnd h
  refine aw_callV X dX12_keepsMany_66 cv_RX12_484 (ok_X12_keeps er6 _ _ _ _ _) iu_RX12 rfl (Nat.le_trans (by decide) hfr) (by decide) rfl rfl (Nat.le_of_ble_eq_true rfl) ?_
  refine aw_put X dX12_keepsMany_69 fp_RX12_427 iu_RX12 gu_RX12_42 rfl rfl ?_
  refine aw_aload_n X dX12_keepsMany_72 rfl ?_
  refine aw_aload_n X dX12_keepsMany_73 rfl ?_
  refine aw_aload_n X dX12_keepsMany_74 rfl ?_
  refine aw_geti X dX12_keepsMany_75 fl_RX12_436 iu_RX12 gu_RX12_46 ?_
  obtain ⟨r7, er7, h⟩ := bnd h
  refine aw_callV X dX12_keepsMany_78 cv_RX12_484 (ok_X12_keeps er7 _ _ _ _ _) iu_RX12 rfl (Nat.le_trans (by decide) hfr) (by decide) rfl rfl (Nat.le_of_ble_eq_true rfl) ?_
  refine aw_put X dX12_keepsMany_81 fp_RX12_436 iu_RX12 gu_RX12_46 rfl rfl ?_
  refine aw_aload_n X dX12_keepsMany_84 rfl ?_
  refine aw_getr X dX12_keepsMany_85 fl_RX12_95 iu_RX12 gu_RX12_50 ?_
  refine aw_iconst (v := 0) X dX12_keepsMany_88 (by decide) ?_
  refine aw_aload_n X dX12_keepsMany_89 rfl ?_
  refine aw_aload_n X dX12_keepsMany_90 rfl ?_
  refine aw_getr X dX12_keepsMany_91 fl_RX12_95 iu_RX12 gu_RX12_50 ?_
  refine aw_iconst (v := 0) X dX12_keepsMany_94 (by decide) ?_
  obtain ⟨v8, ev8, h⟩ := bnd h
  refine aw_iald X dX12_keepsMany_95 iu_RX12_50 ev8 ?_
  obtain ⟨r9, er9, h⟩ := bnd h
  refine aw_callV X dX12_keepsMany_96 cv_RX12_484 (ok_X12_keeps er9 _ _ _ _ _) iu_RX12 rfl (Nat.le_trans (by decide) hfr) (by decide) rfl rfl (Nat.le_of_ble_eq_true rfl) ?_
  obtain ⟨s10, es10, h⟩ := bnd h
  refine aw_iast X dX12_keepsMany_99 iu_RX12_50 es10 ?_
  refine aw_aload_n X dX12_keepsMany_100 rfl ?_
  refine aw_getr X dX12_keepsMany_101 fl_RX12_95 iu_RX12 gu_RX12_50 ?_
  refine aw_iconst (v := 1) X dX12_keepsMany_104 (by decide) ?_
  refine aw_aload_n X dX12_keepsMany_105 rfl ?_
  refine aw_aload_n X dX12_keepsMany_106 rfl ?_
  refine aw_getr X dX12_keepsMany_107 fl_RX12_95 iu_RX12 gu_RX12_50 ?_
  refine aw_iconst (v := 1) X dX12_keepsMany_110 (by decide) ?_
  obtain ⟨v11, ev11, h⟩ := bnd h
  refine aw_iald X dX12_keepsMany_111 iu_RX12_50 ev11 ?_
  obtain ⟨r12, er12, h⟩ := bnd h
  refine aw_callV X dX12_keepsMany_112 cv_RX12_484 (ok_X12_keeps er12 _ _ _ _ _) iu_RX12 rfl (Nat.le_trans (by decide) hfr) (by decide) rfl rfl (Nat.le_of_ble_eq_true rfl) ?_
  obtain ⟨s13, es13, h⟩ := bnd h
  refine aw_iast X dX12_keepsMany_115 iu_RX12_50 es13 ?_
  refine aw_aload_n X dX12_keepsMany_116 rfl ?_
  refine aw_aload_n X dX12_keepsMany_117 rfl ?_
  refine aw_aload_n X dX12_keepsMany_118 rfl ?_
  refine aw_geti X dX12_keepsMany_119 fl_RX12_453 iu_RX12 gu_RX12_52 ?_
  obtain ⟨r14, er14, h⟩ := bnd h
  refine aw_callV X dX12_keepsMany_122 cv_RX12_484 (ok_X12_keeps er14 _ _ _ _ _) iu_RX12 rfl (Nat.le_trans (by decide) hfr) (by decide) rfl rfl (Nat.le_of_ble_eq_true rfl) ?_
  refine aw_put X dX12_keepsMany_125 fp_RX12_453 iu_RX12 gu_RX12_52 rfl rfl ?_
  refine aw_aload_n X dX12_keepsMany_128 rfl ?_
  refine aw_aload_n X dX12_keepsMany_129 rfl ?_
  refine aw_aload_n X dX12_keepsMany_130 rfl ?_
  refine aw_geti X dX12_keepsMany_131 fl_RX12_465 iu_RX12 gu_RX12_55 ?_
  obtain ⟨r15, er15, h⟩ := bnd h
  refine aw_callV X dX12_keepsMany_134 cv_RX12_484 (ok_X12_keeps er15 _ _ _ _ _) iu_RX12 rfl (Nat.le_trans (by decide) hfr) (by decide) rfl rfl (Nat.le_of_ble_eq_true rfl) ?_
  refine aw_put X dX12_keepsMany_137 fp_RX12_465 iu_RX12 gu_RX12_55 rfl rfl ?_
  refine aw_aload_n X dX12_keepsMany_140 rfl ?_
  refine aw_aload_n X dX12_keepsMany_141 rfl ?_
  refine aw_aload_n X dX12_keepsMany_142 rfl ?_
  refine aw_geti X dX12_keepsMany_143 fl_RX12_472 iu_RX12 gu_RX12_59 ?_
  obtain ⟨r16, er16, h⟩ := bnd h
  refine aw_callV X dX12_keepsMany_146 cv_RX12_484 (ok_X12_keeps er16 _ _ _ _ _) iu_RX12 rfl (Nat.le_trans (by decide) hfr) (by decide) rfl rfl (Nat.le_of_ble_eq_true rfl) ?_
  refine aw_put X dX12_keepsMany_149 fp_RX12_472 iu_RX12 gu_RX12_59 rfl rfl ?_
  cases h
  exact aw_vret X dX12_keepsMany_152 rfl hz.symm
set_option maxRecDepth 100000 in
set_option maxHeartbeats 4000000 in
theorem ok_X12_keepsMany {s : Mem} {r : Mem} (h : f_X12_keepsMany s = some r) (l : Launch) (D : va_G) (ρ : Nat → Nat) (cA : ClassId × ClassId × ClassId) (τ : AT) : AM l D ρ cA 1 τ yX12_keepsMany cX12_keepsMany 1 none 1 [.ref (ρ 0)] none s r := by
  refine AM_of (L := [some (.ref (ρ 0))]) (by decide) (by simp [Value.category]) (Nat.le_of_ble_eq_true rfl) (fun j v q => ?_) (fun Z X hρ hz hτ => ?_)
  · exact aL_ok (n := 0) [.ref (ρ 0)] j v q
  · subst hρ
    subst hτ
    exact w_X12_keepsMany (Nat.le_refl _) Z X s r hz h

theorem dX12_keepsTold_0 : decode cX12_keepsTold 0 = .ok (.iconst 0, 1) := by decide +kernel
theorem dX12_keepsTold_1 : decode cX12_keepsTold 1 = .ok (.istore_n 1, 1) := by decide +kernel
theorem dX12_keepsTold_2 : decode cX12_keepsTold 2 = .ok (.iload_n 1, 1) := by decide +kernel
theorem dX12_keepsTold_3 : decode cX12_keepsTold 3 = .ok (.bipush 48, 2) := by decide +kernel
theorem dX12_keepsTold_5 : decode cX12_keepsTold 5 = .ok (.if_icmp .ge 25, 3) := by decide +kernel
theorem dX12_keepsTold_8 : decode cX12_keepsTold 8 = .ok (.aload_n 0, 1) := by decide +kernel
theorem dX12_keepsTold_9 : decode cX12_keepsTold 9 = .ok (.getfield 56, 3) := by decide +kernel
theorem dX12_keepsTold_12 : decode cX12_keepsTold 12 = .ok (.iload_n 1, 1) := by decide +kernel
theorem dX12_keepsTold_13 : decode cX12_keepsTold 13 = .ok (.aload_n 0, 1) := by decide +kernel
theorem dX12_keepsTold_14 : decode cX12_keepsTold 14 = .ok (.aload_n 0, 1) := by decide +kernel
theorem dX12_keepsTold_15 : decode cX12_keepsTold 15 = .ok (.getfield 56, 3) := by decide +kernel
theorem dX12_keepsTold_18 : decode cX12_keepsTold 18 = .ok (.iload_n 1, 1) := by decide +kernel
theorem dX12_keepsTold_19 : decode cX12_keepsTold 19 = .ok (.iaload, 1) := by decide +kernel
theorem dX12_keepsTold_20 : decode cX12_keepsTold 20 = .ok (.invokevirtual 484, 3) := by decide +kernel
theorem dX12_keepsTold_23 : decode cX12_keepsTold 23 = .ok (.iastore, 1) := by decide +kernel
theorem dX12_keepsTold_24 : decode cX12_keepsTold 24 = .ok (.iinc 1 1, 3) := by decide +kernel
theorem dX12_keepsTold_27 : decode cX12_keepsTold 27 = .ok (.goto (-25), 3) := by decide +kernel
theorem dX12_keepsTold_30 : decode cX12_keepsTold 30 = .ok (.iconst 0, 1) := by decide +kernel
theorem dX12_keepsTold_31 : decode cX12_keepsTold 31 = .ok (.istore_n 1, 1) := by decide +kernel
theorem dX12_keepsTold_32 : decode cX12_keepsTold 32 = .ok (.iload_n 1, 1) := by decide +kernel
theorem dX12_keepsTold_33 : decode cX12_keepsTold 33 = .ok (.bipush 64, 2) := by decide +kernel
theorem dX12_keepsTold_35 : decode cX12_keepsTold 35 = .ok (.if_icmp .ge 25, 3) := by decide +kernel
theorem dX12_keepsTold_38 : decode cX12_keepsTold 38 = .ok (.aload_n 0, 1) := by decide +kernel
theorem dX12_keepsTold_39 : decode cX12_keepsTold 39 = .ok (.getfield 59, 3) := by decide +kernel
theorem dX12_keepsTold_42 : decode cX12_keepsTold 42 = .ok (.iload_n 1, 1) := by decide +kernel
theorem dX12_keepsTold_43 : decode cX12_keepsTold 43 = .ok (.aload_n 0, 1) := by decide +kernel
theorem dX12_keepsTold_44 : decode cX12_keepsTold 44 = .ok (.aload_n 0, 1) := by decide +kernel
theorem dX12_keepsTold_45 : decode cX12_keepsTold 45 = .ok (.getfield 59, 3) := by decide +kernel
theorem dX12_keepsTold_48 : decode cX12_keepsTold 48 = .ok (.iload_n 1, 1) := by decide +kernel
theorem dX12_keepsTold_49 : decode cX12_keepsTold 49 = .ok (.iaload, 1) := by decide +kernel
theorem dX12_keepsTold_50 : decode cX12_keepsTold 50 = .ok (.invokevirtual 484, 3) := by decide +kernel
theorem dX12_keepsTold_53 : decode cX12_keepsTold 53 = .ok (.iastore, 1) := by decide +kernel
theorem dX12_keepsTold_54 : decode cX12_keepsTold 54 = .ok (.iinc 1 1, 3) := by decide +kernel
theorem dX12_keepsTold_57 : decode cX12_keepsTold 57 = .ok (.goto (-25), 3) := by decide +kernel
theorem dX12_keepsTold_60 : decode cX12_keepsTold 60 = .ok (.iconst 0, 1) := by decide +kernel
theorem dX12_keepsTold_61 : decode cX12_keepsTold 61 = .ok (.istore_n 1, 1) := by decide +kernel
theorem dX12_keepsTold_62 : decode cX12_keepsTold 62 = .ok (.iload_n 1, 1) := by decide +kernel
theorem dX12_keepsTold_63 : decode cX12_keepsTold 63 = .ok (.bipush 14, 2) := by decide +kernel
theorem dX12_keepsTold_65 : decode cX12_keepsTold 65 = .ok (.if_icmp .ge 73, 3) := by decide +kernel
theorem dX12_keepsTold_68 : decode cX12_keepsTold 68 = .ok (.aload_n 0, 1) := by decide +kernel
theorem dX12_keepsTold_69 : decode cX12_keepsTold 69 = .ok (.getfield 62, 3) := by decide +kernel
theorem dX12_keepsTold_72 : decode cX12_keepsTold 72 = .ok (.iload_n 1, 1) := by decide +kernel
theorem dX12_keepsTold_73 : decode cX12_keepsTold 73 = .ok (.aload_n 0, 1) := by decide +kernel
theorem dX12_keepsTold_74 : decode cX12_keepsTold 74 = .ok (.aload_n 0, 1) := by decide +kernel
theorem dX12_keepsTold_75 : decode cX12_keepsTold 75 = .ok (.getfield 62, 3) := by decide +kernel
theorem dX12_keepsTold_78 : decode cX12_keepsTold 78 = .ok (.iload_n 1, 1) := by decide +kernel
theorem dX12_keepsTold_79 : decode cX12_keepsTold 79 = .ok (.iaload, 1) := by decide +kernel
theorem dX12_keepsTold_80 : decode cX12_keepsTold 80 = .ok (.invokevirtual 484, 3) := by decide +kernel
theorem dX12_keepsTold_83 : decode cX12_keepsTold 83 = .ok (.iastore, 1) := by decide +kernel
theorem dX12_keepsTold_84 : decode cX12_keepsTold 84 = .ok (.aload_n 0, 1) := by decide +kernel
theorem dX12_keepsTold_85 : decode cX12_keepsTold 85 = .ok (.getfield 86, 3) := by decide +kernel
theorem dX12_keepsTold_88 : decode cX12_keepsTold 88 = .ok (.iload_n 1, 1) := by decide +kernel
theorem dX12_keepsTold_89 : decode cX12_keepsTold 89 = .ok (.aload_n 0, 1) := by decide +kernel
theorem dX12_keepsTold_90 : decode cX12_keepsTold 90 = .ok (.aload_n 0, 1) := by decide +kernel
theorem dX12_keepsTold_91 : decode cX12_keepsTold 91 = .ok (.getfield 86, 3) := by decide +kernel
theorem dX12_keepsTold_94 : decode cX12_keepsTold 94 = .ok (.iload_n 1, 1) := by decide +kernel
theorem dX12_keepsTold_95 : decode cX12_keepsTold 95 = .ok (.iaload, 1) := by decide +kernel
theorem dX12_keepsTold_96 : decode cX12_keepsTold 96 = .ok (.invokevirtual 484, 3) := by decide +kernel
theorem dX12_keepsTold_99 : decode cX12_keepsTold 99 = .ok (.iastore, 1) := by decide +kernel
theorem dX12_keepsTold_100 : decode cX12_keepsTold 100 = .ok (.aload_n 0, 1) := by decide +kernel
theorem dX12_keepsTold_101 : decode cX12_keepsTold 101 = .ok (.getfield 89, 3) := by decide +kernel
theorem dX12_keepsTold_104 : decode cX12_keepsTold 104 = .ok (.iload_n 1, 1) := by decide +kernel
theorem dX12_keepsTold_105 : decode cX12_keepsTold 105 = .ok (.aload_n 0, 1) := by decide +kernel
theorem dX12_keepsTold_106 : decode cX12_keepsTold 106 = .ok (.aload_n 0, 1) := by decide +kernel
theorem dX12_keepsTold_107 : decode cX12_keepsTold 107 = .ok (.getfield 89, 3) := by decide +kernel
theorem dX12_keepsTold_110 : decode cX12_keepsTold 110 = .ok (.iload_n 1, 1) := by decide +kernel
theorem dX12_keepsTold_111 : decode cX12_keepsTold 111 = .ok (.iaload, 1) := by decide +kernel
theorem dX12_keepsTold_112 : decode cX12_keepsTold 112 = .ok (.invokevirtual 484, 3) := by decide +kernel
theorem dX12_keepsTold_115 : decode cX12_keepsTold 115 = .ok (.iastore, 1) := by decide +kernel
theorem dX12_keepsTold_116 : decode cX12_keepsTold 116 = .ok (.aload_n 0, 1) := by decide +kernel
theorem dX12_keepsTold_117 : decode cX12_keepsTold 117 = .ok (.getfield 92, 3) := by decide +kernel
theorem dX12_keepsTold_120 : decode cX12_keepsTold 120 = .ok (.iload_n 1, 1) := by decide +kernel
theorem dX12_keepsTold_121 : decode cX12_keepsTold 121 = .ok (.aload_n 0, 1) := by decide +kernel
theorem dX12_keepsTold_122 : decode cX12_keepsTold 122 = .ok (.aload_n 0, 1) := by decide +kernel
theorem dX12_keepsTold_123 : decode cX12_keepsTold 123 = .ok (.getfield 92, 3) := by decide +kernel
theorem dX12_keepsTold_126 : decode cX12_keepsTold 126 = .ok (.iload_n 1, 1) := by decide +kernel
theorem dX12_keepsTold_127 : decode cX12_keepsTold 127 = .ok (.iaload, 1) := by decide +kernel
theorem dX12_keepsTold_128 : decode cX12_keepsTold 128 = .ok (.invokevirtual 484, 3) := by decide +kernel
theorem dX12_keepsTold_131 : decode cX12_keepsTold 131 = .ok (.iastore, 1) := by decide +kernel
theorem dX12_keepsTold_132 : decode cX12_keepsTold 132 = .ok (.iinc 1 1, 3) := by decide +kernel
theorem dX12_keepsTold_135 : decode cX12_keepsTold 135 = .ok (.goto (-73), 3) := by decide +kernel
theorem dX12_keepsTold_138 : decode cX12_keepsTold 138 = .ok (.iconst 0, 1) := by decide +kernel
theorem dX12_keepsTold_139 : decode cX12_keepsTold 139 = .ok (.istore_n 1, 1) := by decide +kernel
theorem dX12_keepsTold_140 : decode cX12_keepsTold 140 = .ok (.iload_n 1, 1) := by decide +kernel
theorem dX12_keepsTold_141 : decode cX12_keepsTold 141 = .ok (.bipush 84, 2) := by decide +kernel
theorem dX12_keepsTold_143 : decode cX12_keepsTold 143 = .ok (.if_icmp .ge 25, 3) := by decide +kernel
theorem dX12_keepsTold_146 : decode cX12_keepsTold 146 = .ok (.aload_n 0, 1) := by decide +kernel
theorem dX12_keepsTold_147 : decode cX12_keepsTold 147 = .ok (.getfield 65, 3) := by decide +kernel
theorem dX12_keepsTold_150 : decode cX12_keepsTold 150 = .ok (.iload_n 1, 1) := by decide +kernel
theorem dX12_keepsTold_151 : decode cX12_keepsTold 151 = .ok (.aload_n 0, 1) := by decide +kernel
theorem dX12_keepsTold_152 : decode cX12_keepsTold 152 = .ok (.aload_n 0, 1) := by decide +kernel
theorem dX12_keepsTold_153 : decode cX12_keepsTold 153 = .ok (.getfield 65, 3) := by decide +kernel
theorem dX12_keepsTold_156 : decode cX12_keepsTold 156 = .ok (.iload_n 1, 1) := by decide +kernel
theorem dX12_keepsTold_157 : decode cX12_keepsTold 157 = .ok (.iaload, 1) := by decide +kernel
theorem dX12_keepsTold_158 : decode cX12_keepsTold 158 = .ok (.invokevirtual 484, 3) := by decide +kernel
theorem dX12_keepsTold_161 : decode cX12_keepsTold 161 = .ok (.iastore, 1) := by decide +kernel
theorem dX12_keepsTold_162 : decode cX12_keepsTold 162 = .ok (.iinc 1 1, 3) := by decide +kernel
theorem dX12_keepsTold_165 : decode cX12_keepsTold 165 = .ok (.goto (-25), 3) := by decide +kernel
theorem dX12_keepsTold_168 : decode cX12_keepsTold 168 = .ok (.iconst 0, 1) := by decide +kernel
theorem dX12_keepsTold_169 : decode cX12_keepsTold 169 = .ok (.istore_n 1, 1) := by decide +kernel
theorem dX12_keepsTold_170 : decode cX12_keepsTold 170 = .ok (.iload_n 1, 1) := by decide +kernel
theorem dX12_keepsTold_171 : decode cX12_keepsTold 171 = .ok (.bipush 16, 2) := by decide +kernel
theorem dX12_keepsTold_173 : decode cX12_keepsTold 173 = .ok (.if_icmp .ge 25, 3) := by decide +kernel
theorem dX12_keepsTold_176 : decode cX12_keepsTold 176 = .ok (.aload_n 0, 1) := by decide +kernel
theorem dX12_keepsTold_177 : decode cX12_keepsTold 177 = .ok (.getfield 74, 3) := by decide +kernel
theorem dX12_keepsTold_180 : decode cX12_keepsTold 180 = .ok (.iload_n 1, 1) := by decide +kernel
theorem dX12_keepsTold_181 : decode cX12_keepsTold 181 = .ok (.aload_n 0, 1) := by decide +kernel
theorem dX12_keepsTold_182 : decode cX12_keepsTold 182 = .ok (.aload_n 0, 1) := by decide +kernel
theorem dX12_keepsTold_183 : decode cX12_keepsTold 183 = .ok (.getfield 74, 3) := by decide +kernel
theorem dX12_keepsTold_186 : decode cX12_keepsTold 186 = .ok (.iload_n 1, 1) := by decide +kernel
theorem dX12_keepsTold_187 : decode cX12_keepsTold 187 = .ok (.iaload, 1) := by decide +kernel
theorem dX12_keepsTold_188 : decode cX12_keepsTold 188 = .ok (.invokevirtual 484, 3) := by decide +kernel
theorem dX12_keepsTold_191 : decode cX12_keepsTold 191 = .ok (.iastore, 1) := by decide +kernel
theorem dX12_keepsTold_192 : decode cX12_keepsTold 192 = .ok (.iinc 1 1, 3) := by decide +kernel
theorem dX12_keepsTold_195 : decode cX12_keepsTold 195 = .ok (.goto (-25), 3) := by decide +kernel
theorem dX12_keepsTold_198 : decode cX12_keepsTold 198 = .ok (.iconst 0, 1) := by decide +kernel
theorem dX12_keepsTold_199 : decode cX12_keepsTold 199 = .ok (.istore_n 1, 1) := by decide +kernel
theorem dX12_keepsTold_200 : decode cX12_keepsTold 200 = .ok (.iload_n 1, 1) := by decide +kernel
theorem dX12_keepsTold_201 : decode cX12_keepsTold 201 = .ok (.bipush 10, 2) := by decide +kernel
theorem dX12_keepsTold_203 : decode cX12_keepsTold 203 = .ok (.if_icmp .ge 57, 3) := by decide +kernel
theorem dX12_keepsTold_206 : decode cX12_keepsTold 206 = .ok (.aload_n 0, 1) := by decide +kernel
theorem dX12_keepsTold_207 : decode cX12_keepsTold 207 = .ok (.getfield 77, 3) := by decide +kernel
theorem dX12_keepsTold_210 : decode cX12_keepsTold 210 = .ok (.iload_n 1, 1) := by decide +kernel
theorem dX12_keepsTold_211 : decode cX12_keepsTold 211 = .ok (.aload_n 0, 1) := by decide +kernel
theorem dX12_keepsTold_212 : decode cX12_keepsTold 212 = .ok (.aload_n 0, 1) := by decide +kernel
theorem dX12_keepsTold_213 : decode cX12_keepsTold 213 = .ok (.getfield 77, 3) := by decide +kernel
theorem dX12_keepsTold_216 : decode cX12_keepsTold 216 = .ok (.iload_n 1, 1) := by decide +kernel
theorem dX12_keepsTold_217 : decode cX12_keepsTold 217 = .ok (.iaload, 1) := by decide +kernel
theorem dX12_keepsTold_218 : decode cX12_keepsTold 218 = .ok (.invokevirtual 484, 3) := by decide +kernel
theorem dX12_keepsTold_221 : decode cX12_keepsTold 221 = .ok (.iastore, 1) := by decide +kernel
theorem dX12_keepsTold_222 : decode cX12_keepsTold 222 = .ok (.aload_n 0, 1) := by decide +kernel
theorem dX12_keepsTold_223 : decode cX12_keepsTold 223 = .ok (.getfield 80, 3) := by decide +kernel
theorem dX12_keepsTold_226 : decode cX12_keepsTold 226 = .ok (.iload_n 1, 1) := by decide +kernel
theorem dX12_keepsTold_227 : decode cX12_keepsTold 227 = .ok (.aload_n 0, 1) := by decide +kernel
theorem dX12_keepsTold_228 : decode cX12_keepsTold 228 = .ok (.aload_n 0, 1) := by decide +kernel
theorem dX12_keepsTold_229 : decode cX12_keepsTold 229 = .ok (.getfield 80, 3) := by decide +kernel
theorem dX12_keepsTold_232 : decode cX12_keepsTold 232 = .ok (.iload_n 1, 1) := by decide +kernel
theorem dX12_keepsTold_233 : decode cX12_keepsTold 233 = .ok (.iaload, 1) := by decide +kernel
theorem dX12_keepsTold_234 : decode cX12_keepsTold 234 = .ok (.invokevirtual 484, 3) := by decide +kernel
theorem dX12_keepsTold_237 : decode cX12_keepsTold 237 = .ok (.iastore, 1) := by decide +kernel
theorem dX12_keepsTold_238 : decode cX12_keepsTold 238 = .ok (.aload_n 0, 1) := by decide +kernel
theorem dX12_keepsTold_239 : decode cX12_keepsTold 239 = .ok (.getfield 83, 3) := by decide +kernel
theorem dX12_keepsTold_242 : decode cX12_keepsTold 242 = .ok (.iload_n 1, 1) := by decide +kernel
theorem dX12_keepsTold_243 : decode cX12_keepsTold 243 = .ok (.aload_n 0, 1) := by decide +kernel
theorem dX12_keepsTold_244 : decode cX12_keepsTold 244 = .ok (.aload_n 0, 1) := by decide +kernel
theorem dX12_keepsTold_245 : decode cX12_keepsTold 245 = .ok (.getfield 83, 3) := by decide +kernel
theorem dX12_keepsTold_248 : decode cX12_keepsTold 248 = .ok (.iload_n 1, 1) := by decide +kernel
theorem dX12_keepsTold_249 : decode cX12_keepsTold 249 = .ok (.iaload, 1) := by decide +kernel
theorem dX12_keepsTold_250 : decode cX12_keepsTold 250 = .ok (.invokevirtual 484, 3) := by decide +kernel
theorem dX12_keepsTold_253 : decode cX12_keepsTold 253 = .ok (.iastore, 1) := by decide +kernel
theorem dX12_keepsTold_254 : decode cX12_keepsTold 254 = .ok (.iinc 1 1, 3) := by decide +kernel
theorem dX12_keepsTold_257 : decode cX12_keepsTold 257 = .ok (.goto (-57), 3) := by decide +kernel
theorem dX12_keepsTold_260 : decode cX12_keepsTold 260 = .ok (.iconst 0, 1) := by decide +kernel
theorem dX12_keepsTold_261 : decode cX12_keepsTold 261 = .ok (.istore_n 1, 1) := by decide +kernel
theorem dX12_keepsTold_262 : decode cX12_keepsTold 262 = .ok (.iload_n 1, 1) := by decide +kernel
theorem dX12_keepsTold_263 : decode cX12_keepsTold 263 = .ok (.bipush 12, 2) := by decide +kernel
theorem dX12_keepsTold_265 : decode cX12_keepsTold 265 = .ok (.if_icmp .ge 25, 3) := by decide +kernel
theorem dX12_keepsTold_268 : decode cX12_keepsTold 268 = .ok (.aload_n 0, 1) := by decide +kernel
theorem dX12_keepsTold_269 : decode cX12_keepsTold 269 = .ok (.getfield 98, 3) := by decide +kernel
theorem dX12_keepsTold_272 : decode cX12_keepsTold 272 = .ok (.iload_n 1, 1) := by decide +kernel
theorem dX12_keepsTold_273 : decode cX12_keepsTold 273 = .ok (.aload_n 0, 1) := by decide +kernel
theorem dX12_keepsTold_274 : decode cX12_keepsTold 274 = .ok (.aload_n 0, 1) := by decide +kernel
theorem dX12_keepsTold_275 : decode cX12_keepsTold 275 = .ok (.getfield 98, 3) := by decide +kernel
theorem dX12_keepsTold_278 : decode cX12_keepsTold 278 = .ok (.iload_n 1, 1) := by decide +kernel
theorem dX12_keepsTold_279 : decode cX12_keepsTold 279 = .ok (.iaload, 1) := by decide +kernel
theorem dX12_keepsTold_280 : decode cX12_keepsTold 280 = .ok (.invokevirtual 484, 3) := by decide +kernel
theorem dX12_keepsTold_283 : decode cX12_keepsTold 283 = .ok (.iastore, 1) := by decide +kernel
theorem dX12_keepsTold_284 : decode cX12_keepsTold 284 = .ok (.iinc 1 1, 3) := by decide +kernel
theorem dX12_keepsTold_287 : decode cX12_keepsTold 287 = .ok (.goto (-25), 3) := by decide +kernel
theorem dX12_keepsTold_290 : decode cX12_keepsTold 290 = .ok (.iconst 0, 1) := by decide +kernel
theorem dX12_keepsTold_291 : decode cX12_keepsTold 291 = .ok (.istore_n 1, 1) := by decide +kernel
theorem dX12_keepsTold_292 : decode cX12_keepsTold 292 = .ok (.iload_n 1, 1) := by decide +kernel
theorem dX12_keepsTold_293 : decode cX12_keepsTold 293 = .ok (.bipush 6, 2) := by decide +kernel
theorem dX12_keepsTold_295 : decode cX12_keepsTold 295 = .ok (.if_icmp .ge 25, 3) := by decide +kernel
theorem dX12_keepsTold_298 : decode cX12_keepsTold 298 = .ok (.aload_n 0, 1) := by decide +kernel
theorem dX12_keepsTold_299 : decode cX12_keepsTold 299 = .ok (.getfield 101, 3) := by decide +kernel
theorem dX12_keepsTold_302 : decode cX12_keepsTold 302 = .ok (.iload_n 1, 1) := by decide +kernel
theorem dX12_keepsTold_303 : decode cX12_keepsTold 303 = .ok (.aload_n 0, 1) := by decide +kernel
theorem dX12_keepsTold_304 : decode cX12_keepsTold 304 = .ok (.aload_n 0, 1) := by decide +kernel
theorem dX12_keepsTold_305 : decode cX12_keepsTold 305 = .ok (.getfield 101, 3) := by decide +kernel
theorem dX12_keepsTold_308 : decode cX12_keepsTold 308 = .ok (.iload_n 1, 1) := by decide +kernel
theorem dX12_keepsTold_309 : decode cX12_keepsTold 309 = .ok (.iaload, 1) := by decide +kernel
theorem dX12_keepsTold_310 : decode cX12_keepsTold 310 = .ok (.invokevirtual 484, 3) := by decide +kernel
theorem dX12_keepsTold_313 : decode cX12_keepsTold 313 = .ok (.iastore, 1) := by decide +kernel
theorem dX12_keepsTold_314 : decode cX12_keepsTold 314 = .ok (.iinc 1 1, 3) := by decide +kernel
theorem dX12_keepsTold_317 : decode cX12_keepsTold 317 = .ok (.goto (-25), 3) := by decide +kernel
theorem dX12_keepsTold_320 : decode cX12_keepsTold 320 = .ok (.iconst 0, 1) := by decide +kernel
theorem dX12_keepsTold_321 : decode cX12_keepsTold 321 = .ok (.istore_n 1, 1) := by decide +kernel
theorem dX12_keepsTold_322 : decode cX12_keepsTold 322 = .ok (.iload_n 1, 1) := by decide +kernel
theorem dX12_keepsTold_323 : decode cX12_keepsTold 323 = .ok (.bipush 8, 2) := by decide +kernel
theorem dX12_keepsTold_325 : decode cX12_keepsTold 325 = .ok (.if_icmp .ge 25, 3) := by decide +kernel
theorem dX12_keepsTold_328 : decode cX12_keepsTold 328 = .ok (.aload_n 0, 1) := by decide +kernel
theorem dX12_keepsTold_329 : decode cX12_keepsTold 329 = .ok (.getfield 107, 3) := by decide +kernel
theorem dX12_keepsTold_332 : decode cX12_keepsTold 332 = .ok (.iload_n 1, 1) := by decide +kernel
theorem dX12_keepsTold_333 : decode cX12_keepsTold 333 = .ok (.aload_n 0, 1) := by decide +kernel
theorem dX12_keepsTold_334 : decode cX12_keepsTold 334 = .ok (.aload_n 0, 1) := by decide +kernel
theorem dX12_keepsTold_335 : decode cX12_keepsTold 335 = .ok (.getfield 107, 3) := by decide +kernel
theorem dX12_keepsTold_338 : decode cX12_keepsTold 338 = .ok (.iload_n 1, 1) := by decide +kernel
theorem dX12_keepsTold_339 : decode cX12_keepsTold 339 = .ok (.iaload, 1) := by decide +kernel
theorem dX12_keepsTold_340 : decode cX12_keepsTold 340 = .ok (.invokevirtual 484, 3) := by decide +kernel
theorem dX12_keepsTold_343 : decode cX12_keepsTold 343 = .ok (.iastore, 1) := by decide +kernel
theorem dX12_keepsTold_344 : decode cX12_keepsTold 344 = .ok (.iinc 1 1, 3) := by decide +kernel
theorem dX12_keepsTold_347 : decode cX12_keepsTold 347 = .ok (.goto (-25), 3) := by decide +kernel
theorem dX12_keepsTold_350 : decode cX12_keepsTold 350 = .ok (.iconst 0, 1) := by decide +kernel
theorem dX12_keepsTold_351 : decode cX12_keepsTold 351 = .ok (.istore_n 1, 1) := by decide +kernel
theorem dX12_keepsTold_352 : decode cX12_keepsTold 352 = .ok (.iload_n 1, 1) := by decide +kernel
theorem dX12_keepsTold_353 : decode cX12_keepsTold 353 = .ok (.iconst 4, 1) := by decide +kernel
theorem dX12_keepsTold_354 : decode cX12_keepsTold 354 = .ok (.if_icmp .ge 25, 3) := by decide +kernel
theorem dX12_keepsTold_357 : decode cX12_keepsTold 357 = .ok (.aload_n 0, 1) := by decide +kernel
theorem dX12_keepsTold_358 : decode cX12_keepsTold 358 = .ok (.getfield 116, 3) := by decide +kernel
theorem dX12_keepsTold_361 : decode cX12_keepsTold 361 = .ok (.iload_n 1, 1) := by decide +kernel
theorem dX12_keepsTold_362 : decode cX12_keepsTold 362 = .ok (.aload_n 0, 1) := by decide +kernel
theorem dX12_keepsTold_363 : decode cX12_keepsTold 363 = .ok (.aload_n 0, 1) := by decide +kernel
theorem dX12_keepsTold_364 : decode cX12_keepsTold 364 = .ok (.getfield 116, 3) := by decide +kernel
theorem dX12_keepsTold_367 : decode cX12_keepsTold 367 = .ok (.iload_n 1, 1) := by decide +kernel
theorem dX12_keepsTold_368 : decode cX12_keepsTold 368 = .ok (.iaload, 1) := by decide +kernel
theorem dX12_keepsTold_369 : decode cX12_keepsTold 369 = .ok (.invokevirtual 484, 3) := by decide +kernel
theorem dX12_keepsTold_372 : decode cX12_keepsTold 372 = .ok (.iastore, 1) := by decide +kernel
theorem dX12_keepsTold_373 : decode cX12_keepsTold 373 = .ok (.iinc 1 1, 3) := by decide +kernel
theorem dX12_keepsTold_376 : decode cX12_keepsTold 376 = .ok (.goto (-24), 3) := by decide +kernel
theorem dX12_keepsTold_379 : decode cX12_keepsTold 379 = .ok (.return_, 1) := by decide +kernel
set_option maxRecDepth 100000 in
set_option maxHeartbeats 4000000 in
theorem so_X12_keepsTold_2 {fr : Nat} (hfr : 1 ≤ fr) (Z : AZ) (X : AX Z cX12_keepsTold 2 RX12 none 1 fr) (x1 : Int32) (s : Mem) (q : (Int32 × Mem) ⊕ (Mem)) (h : st_X12_keepsTold_2 x1 s = some q) (hi : ∀ y : Int32 × Mem, q = .inl y → AW Z y.2 2 [some (.ref (zr Z 0)), some (.int y.1)] []) (he : ∀ b : Mem, q = .inr b → AW Z b 30 [some (.ref (zr Z 0)), none] []) : AW Z s 2 [some (.ref (zr Z 0)), some (.int x1)] [] := by
  unfold st_X12_keepsTold_2 at h
  refine aw_iload_n X dX12_keepsTold_2 rfl ?_
  refine aw_bipush (v := 48) X dX12_keepsTold_3 (by decide) ?_
  refine aw_icmp_ge (tgt := 30) X dX12_keepsTold_5 (by decide) (fun c1 => ?_) (fun c1 => ?_)
  · rw [if_pos c1] at h
    cases h
    refine aw_msk [true, false] ?_
    exact he _ rfl
  · rw [if_neg c1] at h
    refine aw_aload_n X dX12_keepsTold_8 rfl ?_
    refine aw_getr X dX12_keepsTold_9 fl_RX12_56 iu_RX12 gu_RX12_32 ?_
    refine aw_iload_n X dX12_keepsTold_12 rfl ?_
    refine aw_aload_n X dX12_keepsTold_13 rfl ?_
    refine aw_aload_n X dX12_keepsTold_14 rfl ?_
    refine aw_getr X dX12_keepsTold_15 fl_RX12_56 iu_RX12 gu_RX12_32 ?_
    refine aw_iload_n X dX12_keepsTold_18 rfl ?_
    obtain ⟨v2, ev2, h⟩ := bnd h
    refine aw_iald X dX12_keepsTold_19 iu_RX12_32 ev2 ?_
    obtain ⟨r3, er3, h⟩ := bnd h
    refine aw_callV X dX12_keepsTold_20 cv_RX12_484 (ok_X12_keeps er3 _ _ _ _ _) iu_RX12 rfl (Nat.le_trans (by decide) hfr) (by decide) rfl rfl (Nat.le_of_ble_eq_true rfl) ?_
    obtain ⟨s4, es4, h⟩ := bnd h
    refine aw_iast X dX12_keepsTold_23 iu_RX12_32 es4 ?_
    refine aw_iinc (v := (x1 + 1)) (L' := [some (.ref (zr Z 0)), some (.int (x1 + 1))]) X dX12_keepsTold_24 rfl rfl (by decide) rfl ?_
    refine aw_goto (tgt := 2) X dX12_keepsTold_27 (by decide) ?_
    cases h
    refine aw_msk [true, true] ?_
    exact hi _ rfl
set_option maxRecDepth 100000 in
set_option maxHeartbeats 4000000 in
theorem so_X12_keepsTold_32 {fr : Nat} (hfr : 1 ≤ fr) (Z : AZ) (X : AX Z cX12_keepsTold 2 RX12 none 1 fr) (x1 : Int32) (s : Mem) (q : (Int32 × Mem) ⊕ (Mem)) (h : st_X12_keepsTold_32 x1 s = some q) (hi : ∀ y : Int32 × Mem, q = .inl y → AW Z y.2 32 [some (.ref (zr Z 0)), some (.int y.1)] []) (he : ∀ b : Mem, q = .inr b → AW Z b 60 [some (.ref (zr Z 0)), none] []) : AW Z s 32 [some (.ref (zr Z 0)), some (.int x1)] [] := by
  unfold st_X12_keepsTold_32 at h
  refine aw_iload_n X dX12_keepsTold_32 rfl ?_
  refine aw_bipush (v := 64) X dX12_keepsTold_33 (by decide) ?_
  refine aw_icmp_ge (tgt := 60) X dX12_keepsTold_35 (by decide) (fun c6 => ?_) (fun c6 => ?_)
  · rw [if_pos c6] at h
    cases h
    refine aw_msk [true, false] ?_
    exact he _ rfl
  · rw [if_neg c6] at h
    refine aw_aload_n X dX12_keepsTold_38 rfl ?_
    refine aw_getr X dX12_keepsTold_39 fl_RX12_59 iu_RX12 gu_RX12_34 ?_
    refine aw_iload_n X dX12_keepsTold_42 rfl ?_
    refine aw_aload_n X dX12_keepsTold_43 rfl ?_
    refine aw_aload_n X dX12_keepsTold_44 rfl ?_
    refine aw_getr X dX12_keepsTold_45 fl_RX12_59 iu_RX12 gu_RX12_34 ?_
    refine aw_iload_n X dX12_keepsTold_48 rfl ?_
    obtain ⟨v7, ev7, h⟩ := bnd h
    refine aw_iald X dX12_keepsTold_49 iu_RX12_34 ev7 ?_
    obtain ⟨r8, er8, h⟩ := bnd h
    refine aw_callV X dX12_keepsTold_50 cv_RX12_484 (ok_X12_keeps er8 _ _ _ _ _) iu_RX12 rfl (Nat.le_trans (by decide) hfr) (by decide) rfl rfl (Nat.le_of_ble_eq_true rfl) ?_
    obtain ⟨s9, es9, h⟩ := bnd h
    refine aw_iast X dX12_keepsTold_53 iu_RX12_34 es9 ?_
    refine aw_iinc (v := (x1 + 1)) (L' := [some (.ref (zr Z 0)), some (.int (x1 + 1))]) X dX12_keepsTold_54 rfl rfl (by decide) rfl ?_
    refine aw_goto (tgt := 32) X dX12_keepsTold_57 (by decide) ?_
    cases h
    refine aw_msk [true, true] ?_
    exact hi _ rfl
set_option maxRecDepth 100000 in
set_option maxHeartbeats 4000000 in
theorem so_X12_keepsTold_62 {fr : Nat} (hfr : 1 ≤ fr) (Z : AZ) (X : AX Z cX12_keepsTold 2 RX12 none 1 fr) (x1 : Int32) (s : Mem) (q : (Int32 × Mem) ⊕ (Mem)) (h : st_X12_keepsTold_62 x1 s = some q) (hi : ∀ y : Int32 × Mem, q = .inl y → AW Z y.2 62 [some (.ref (zr Z 0)), some (.int y.1)] []) (he : ∀ b : Mem, q = .inr b → AW Z b 138 [some (.ref (zr Z 0)), none] []) : AW Z s 62 [some (.ref (zr Z 0)), some (.int x1)] [] := by
  unfold st_X12_keepsTold_62 at h
  refine aw_iload_n X dX12_keepsTold_62 rfl ?_
  refine aw_bipush (v := 14) X dX12_keepsTold_63 (by decide) ?_
  refine aw_icmp_ge (tgt := 138) X dX12_keepsTold_65 (by decide) (fun c11 => ?_) (fun c11 => ?_)
  · rw [if_pos c11] at h
    cases h
    refine aw_msk [true, false] ?_
    exact he _ rfl
  · rw [if_neg c11] at h
    refine aw_aload_n X dX12_keepsTold_68 rfl ?_
    refine aw_getr X dX12_keepsTold_69 fl_RX12_62 iu_RX12 gu_RX12_36 ?_
    refine aw_iload_n X dX12_keepsTold_72 rfl ?_
    refine aw_aload_n X dX12_keepsTold_73 rfl ?_
    refine aw_aload_n X dX12_keepsTold_74 rfl ?_
    refine aw_getr X dX12_keepsTold_75 fl_RX12_62 iu_RX12 gu_RX12_36 ?_
    refine aw_iload_n X dX12_keepsTold_78 rfl ?_
    obtain ⟨v12, ev12, h⟩ := bnd h
    refine aw_iald X dX12_keepsTold_79 iu_RX12_36 ev12 ?_
    obtain ⟨r13, er13, h⟩ := bnd h
    refine aw_callV X dX12_keepsTold_80 cv_RX12_484 (ok_X12_keeps er13 _ _ _ _ _) iu_RX12 rfl (Nat.le_trans (by decide) hfr) (by decide) rfl rfl (Nat.le_of_ble_eq_true rfl) ?_
    obtain ⟨s14, es14, h⟩ := bnd h
    refine aw_iast X dX12_keepsTold_83 iu_RX12_36 es14 ?_
    refine aw_aload_n X dX12_keepsTold_84 rfl ?_
    refine aw_getr X dX12_keepsTold_85 fl_RX12_86 iu_RX12 gu_RX12_47 ?_
    refine aw_iload_n X dX12_keepsTold_88 rfl ?_
    refine aw_aload_n X dX12_keepsTold_89 rfl ?_
    refine aw_aload_n X dX12_keepsTold_90 rfl ?_
    refine aw_getr X dX12_keepsTold_91 fl_RX12_86 iu_RX12 gu_RX12_47 ?_
    refine aw_iload_n X dX12_keepsTold_94 rfl ?_
    obtain ⟨v15, ev15, h⟩ := bnd h
    refine aw_iald X dX12_keepsTold_95 iu_RX12_47 ev15 ?_
    obtain ⟨r16, er16, h⟩ := bnd h
    refine aw_callV X dX12_keepsTold_96 cv_RX12_484 (ok_X12_keeps er16 _ _ _ _ _) iu_RX12 rfl (Nat.le_trans (by decide) hfr) (by decide) rfl rfl (Nat.le_of_ble_eq_true rfl) ?_
    obtain ⟨s17, es17, h⟩ := bnd h
    refine aw_iast X dX12_keepsTold_99 iu_RX12_47 es17 ?_
    refine aw_aload_n X dX12_keepsTold_100 rfl ?_
    refine aw_getr X dX12_keepsTold_101 fl_RX12_89 iu_RX12 gu_RX12_48 ?_
    refine aw_iload_n X dX12_keepsTold_104 rfl ?_
    refine aw_aload_n X dX12_keepsTold_105 rfl ?_
    refine aw_aload_n X dX12_keepsTold_106 rfl ?_
    refine aw_getr X dX12_keepsTold_107 fl_RX12_89 iu_RX12 gu_RX12_48 ?_
    refine aw_iload_n X dX12_keepsTold_110 rfl ?_
    obtain ⟨v18, ev18, h⟩ := bnd h
    refine aw_iald X dX12_keepsTold_111 iu_RX12_48 ev18 ?_
    obtain ⟨r19, er19, h⟩ := bnd h
    refine aw_callV X dX12_keepsTold_112 cv_RX12_484 (ok_X12_keeps er19 _ _ _ _ _) iu_RX12 rfl (Nat.le_trans (by decide) hfr) (by decide) rfl rfl (Nat.le_of_ble_eq_true rfl) ?_
    obtain ⟨s20, es20, h⟩ := bnd h
    refine aw_iast X dX12_keepsTold_115 iu_RX12_48 es20 ?_
    refine aw_aload_n X dX12_keepsTold_116 rfl ?_
    refine aw_getr X dX12_keepsTold_117 fl_RX12_92 iu_RX12 gu_RX12_49 ?_
    refine aw_iload_n X dX12_keepsTold_120 rfl ?_
    refine aw_aload_n X dX12_keepsTold_121 rfl ?_
    refine aw_aload_n X dX12_keepsTold_122 rfl ?_
    refine aw_getr X dX12_keepsTold_123 fl_RX12_92 iu_RX12 gu_RX12_49 ?_
    refine aw_iload_n X dX12_keepsTold_126 rfl ?_
    obtain ⟨v21, ev21, h⟩ := bnd h
    refine aw_iald X dX12_keepsTold_127 iu_RX12_49 ev21 ?_
    obtain ⟨r22, er22, h⟩ := bnd h
    refine aw_callV X dX12_keepsTold_128 cv_RX12_484 (ok_X12_keeps er22 _ _ _ _ _) iu_RX12 rfl (Nat.le_trans (by decide) hfr) (by decide) rfl rfl (Nat.le_of_ble_eq_true rfl) ?_
    obtain ⟨s23, es23, h⟩ := bnd h
    refine aw_iast X dX12_keepsTold_131 iu_RX12_49 es23 ?_
    refine aw_iinc (v := (x1 + 1)) (L' := [some (.ref (zr Z 0)), some (.int (x1 + 1))]) X dX12_keepsTold_132 rfl rfl (by decide) rfl ?_
    refine aw_goto (tgt := 62) X dX12_keepsTold_135 (by decide) ?_
    cases h
    refine aw_msk [true, true] ?_
    exact hi _ rfl
set_option maxRecDepth 100000 in
set_option maxHeartbeats 4000000 in
theorem so_X12_keepsTold_140 {fr : Nat} (hfr : 1 ≤ fr) (Z : AZ) (X : AX Z cX12_keepsTold 2 RX12 none 1 fr) (x1 : Int32) (s : Mem) (q : (Int32 × Mem) ⊕ (Mem)) (h : st_X12_keepsTold_140 x1 s = some q) (hi : ∀ y : Int32 × Mem, q = .inl y → AW Z y.2 140 [some (.ref (zr Z 0)), some (.int y.1)] []) (he : ∀ b : Mem, q = .inr b → AW Z b 168 [some (.ref (zr Z 0)), none] []) : AW Z s 140 [some (.ref (zr Z 0)), some (.int x1)] [] := by
  unfold st_X12_keepsTold_140 at h
  refine aw_iload_n X dX12_keepsTold_140 rfl ?_
  refine aw_bipush (v := 84) X dX12_keepsTold_141 (by decide) ?_
  refine aw_icmp_ge (tgt := 168) X dX12_keepsTold_143 (by decide) (fun c25 => ?_) (fun c25 => ?_)
  · rw [if_pos c25] at h
    cases h
    refine aw_msk [true, false] ?_
    exact he _ rfl
  · rw [if_neg c25] at h
    refine aw_aload_n X dX12_keepsTold_146 rfl ?_
    refine aw_getr X dX12_keepsTold_147 fl_RX12_65 iu_RX12 gu_RX12_37 ?_
    refine aw_iload_n X dX12_keepsTold_150 rfl ?_
    refine aw_aload_n X dX12_keepsTold_151 rfl ?_
    refine aw_aload_n X dX12_keepsTold_152 rfl ?_
    refine aw_getr X dX12_keepsTold_153 fl_RX12_65 iu_RX12 gu_RX12_37 ?_
    refine aw_iload_n X dX12_keepsTold_156 rfl ?_
    obtain ⟨v26, ev26, h⟩ := bnd h
    refine aw_iald X dX12_keepsTold_157 iu_RX12_37 ev26 ?_
    obtain ⟨r27, er27, h⟩ := bnd h
    refine aw_callV X dX12_keepsTold_158 cv_RX12_484 (ok_X12_keeps er27 _ _ _ _ _) iu_RX12 rfl (Nat.le_trans (by decide) hfr) (by decide) rfl rfl (Nat.le_of_ble_eq_true rfl) ?_
    obtain ⟨s28, es28, h⟩ := bnd h
    refine aw_iast X dX12_keepsTold_161 iu_RX12_37 es28 ?_
    refine aw_iinc (v := (x1 + 1)) (L' := [some (.ref (zr Z 0)), some (.int (x1 + 1))]) X dX12_keepsTold_162 rfl rfl (by decide) rfl ?_
    refine aw_goto (tgt := 140) X dX12_keepsTold_165 (by decide) ?_
    cases h
    refine aw_msk [true, true] ?_
    exact hi _ rfl
set_option maxRecDepth 100000 in
set_option maxHeartbeats 4000000 in
theorem so_X12_keepsTold_170 {fr : Nat} (hfr : 1 ≤ fr) (Z : AZ) (X : AX Z cX12_keepsTold 2 RX12 none 1 fr) (x1 : Int32) (s : Mem) (q : (Int32 × Mem) ⊕ (Mem)) (h : st_X12_keepsTold_170 x1 s = some q) (hi : ∀ y : Int32 × Mem, q = .inl y → AW Z y.2 170 [some (.ref (zr Z 0)), some (.int y.1)] []) (he : ∀ b : Mem, q = .inr b → AW Z b 198 [some (.ref (zr Z 0)), none] []) : AW Z s 170 [some (.ref (zr Z 0)), some (.int x1)] [] := by
  unfold st_X12_keepsTold_170 at h
  refine aw_iload_n X dX12_keepsTold_170 rfl ?_
  refine aw_bipush (v := 16) X dX12_keepsTold_171 (by decide) ?_
  refine aw_icmp_ge (tgt := 198) X dX12_keepsTold_173 (by decide) (fun c30 => ?_) (fun c30 => ?_)
  · rw [if_pos c30] at h
    cases h
    refine aw_msk [true, false] ?_
    exact he _ rfl
  · rw [if_neg c30] at h
    refine aw_aload_n X dX12_keepsTold_176 rfl ?_
    refine aw_getr X dX12_keepsTold_177 fl_RX12_74 iu_RX12 gu_RX12_41 ?_
    refine aw_iload_n X dX12_keepsTold_180 rfl ?_
    refine aw_aload_n X dX12_keepsTold_181 rfl ?_
    refine aw_aload_n X dX12_keepsTold_182 rfl ?_
    refine aw_getr X dX12_keepsTold_183 fl_RX12_74 iu_RX12 gu_RX12_41 ?_
    refine aw_iload_n X dX12_keepsTold_186 rfl ?_
    obtain ⟨v31, ev31, h⟩ := bnd h
    refine aw_iald X dX12_keepsTold_187 iu_RX12_41 ev31 ?_
    obtain ⟨r32, er32, h⟩ := bnd h
    refine aw_callV X dX12_keepsTold_188 cv_RX12_484 (ok_X12_keeps er32 _ _ _ _ _) iu_RX12 rfl (Nat.le_trans (by decide) hfr) (by decide) rfl rfl (Nat.le_of_ble_eq_true rfl) ?_
    obtain ⟨s33, es33, h⟩ := bnd h
    refine aw_iast X dX12_keepsTold_191 iu_RX12_41 es33 ?_
    refine aw_iinc (v := (x1 + 1)) (L' := [some (.ref (zr Z 0)), some (.int (x1 + 1))]) X dX12_keepsTold_192 rfl rfl (by decide) rfl ?_
    refine aw_goto (tgt := 170) X dX12_keepsTold_195 (by decide) ?_
    cases h
    refine aw_msk [true, true] ?_
    exact hi _ rfl
set_option maxRecDepth 100000 in
set_option maxHeartbeats 4000000 in
theorem so_X12_keepsTold_200 {fr : Nat} (hfr : 1 ≤ fr) (Z : AZ) (X : AX Z cX12_keepsTold 2 RX12 none 1 fr) (x1 : Int32) (s : Mem) (q : (Int32 × Mem) ⊕ (Mem)) (h : st_X12_keepsTold_200 x1 s = some q) (hi : ∀ y : Int32 × Mem, q = .inl y → AW Z y.2 200 [some (.ref (zr Z 0)), some (.int y.1)] []) (he : ∀ b : Mem, q = .inr b → AW Z b 260 [some (.ref (zr Z 0)), none] []) : AW Z s 200 [some (.ref (zr Z 0)), some (.int x1)] [] := by
  unfold st_X12_keepsTold_200 at h
  refine aw_iload_n X dX12_keepsTold_200 rfl ?_
  refine aw_bipush (v := 10) X dX12_keepsTold_201 (by decide) ?_
  refine aw_icmp_ge (tgt := 260) X dX12_keepsTold_203 (by decide) (fun c35 => ?_) (fun c35 => ?_)
  · rw [if_pos c35] at h
    cases h
    refine aw_msk [true, false] ?_
    exact he _ rfl
  · rw [if_neg c35] at h
    refine aw_aload_n X dX12_keepsTold_206 rfl ?_
    refine aw_getr X dX12_keepsTold_207 fl_RX12_77 iu_RX12 gu_RX12_43 ?_
    refine aw_iload_n X dX12_keepsTold_210 rfl ?_
    refine aw_aload_n X dX12_keepsTold_211 rfl ?_
    refine aw_aload_n X dX12_keepsTold_212 rfl ?_
    refine aw_getr X dX12_keepsTold_213 fl_RX12_77 iu_RX12 gu_RX12_43 ?_
    refine aw_iload_n X dX12_keepsTold_216 rfl ?_
    obtain ⟨v36, ev36, h⟩ := bnd h
    refine aw_iald X dX12_keepsTold_217 iu_RX12_43 ev36 ?_
    obtain ⟨r37, er37, h⟩ := bnd h
    refine aw_callV X dX12_keepsTold_218 cv_RX12_484 (ok_X12_keeps er37 _ _ _ _ _) iu_RX12 rfl (Nat.le_trans (by decide) hfr) (by decide) rfl rfl (Nat.le_of_ble_eq_true rfl) ?_
    obtain ⟨s38, es38, h⟩ := bnd h
    refine aw_iast X dX12_keepsTold_221 iu_RX12_43 es38 ?_
    refine aw_aload_n X dX12_keepsTold_222 rfl ?_
    refine aw_getr X dX12_keepsTold_223 fl_RX12_80 iu_RX12 gu_RX12_44 ?_
    refine aw_iload_n X dX12_keepsTold_226 rfl ?_
    refine aw_aload_n X dX12_keepsTold_227 rfl ?_
    refine aw_aload_n X dX12_keepsTold_228 rfl ?_
    refine aw_getr X dX12_keepsTold_229 fl_RX12_80 iu_RX12 gu_RX12_44 ?_
    refine aw_iload_n X dX12_keepsTold_232 rfl ?_
    obtain ⟨v39, ev39, h⟩ := bnd h
    refine aw_iald X dX12_keepsTold_233 iu_RX12_44 ev39 ?_
    obtain ⟨r40, er40, h⟩ := bnd h
    refine aw_callV X dX12_keepsTold_234 cv_RX12_484 (ok_X12_keeps er40 _ _ _ _ _) iu_RX12 rfl (Nat.le_trans (by decide) hfr) (by decide) rfl rfl (Nat.le_of_ble_eq_true rfl) ?_
    obtain ⟨s41, es41, h⟩ := bnd h
    refine aw_iast X dX12_keepsTold_237 iu_RX12_44 es41 ?_
    refine aw_aload_n X dX12_keepsTold_238 rfl ?_
    refine aw_getr X dX12_keepsTold_239 fl_RX12_83 iu_RX12 gu_RX12_45 ?_
    refine aw_iload_n X dX12_keepsTold_242 rfl ?_
    refine aw_aload_n X dX12_keepsTold_243 rfl ?_
    refine aw_aload_n X dX12_keepsTold_244 rfl ?_
    refine aw_getr X dX12_keepsTold_245 fl_RX12_83 iu_RX12 gu_RX12_45 ?_
    refine aw_iload_n X dX12_keepsTold_248 rfl ?_
    obtain ⟨v42, ev42, h⟩ := bnd h
    refine aw_iald X dX12_keepsTold_249 iu_RX12_45 ev42 ?_
    obtain ⟨r43, er43, h⟩ := bnd h
    refine aw_callV X dX12_keepsTold_250 cv_RX12_484 (ok_X12_keeps er43 _ _ _ _ _) iu_RX12 rfl (Nat.le_trans (by decide) hfr) (by decide) rfl rfl (Nat.le_of_ble_eq_true rfl) ?_
    obtain ⟨s44, es44, h⟩ := bnd h
    refine aw_iast X dX12_keepsTold_253 iu_RX12_45 es44 ?_
    refine aw_iinc (v := (x1 + 1)) (L' := [some (.ref (zr Z 0)), some (.int (x1 + 1))]) X dX12_keepsTold_254 rfl rfl (by decide) rfl ?_
    refine aw_goto (tgt := 200) X dX12_keepsTold_257 (by decide) ?_
    cases h
    refine aw_msk [true, true] ?_
    exact hi _ rfl
set_option maxRecDepth 100000 in
set_option maxHeartbeats 4000000 in
theorem so_X12_keepsTold_262 {fr : Nat} (hfr : 1 ≤ fr) (Z : AZ) (X : AX Z cX12_keepsTold 2 RX12 none 1 fr) (x1 : Int32) (s : Mem) (q : (Int32 × Mem) ⊕ (Mem)) (h : st_X12_keepsTold_262 x1 s = some q) (hi : ∀ y : Int32 × Mem, q = .inl y → AW Z y.2 262 [some (.ref (zr Z 0)), some (.int y.1)] []) (he : ∀ b : Mem, q = .inr b → AW Z b 290 [some (.ref (zr Z 0)), none] []) : AW Z s 262 [some (.ref (zr Z 0)), some (.int x1)] [] := by
  unfold st_X12_keepsTold_262 at h
  refine aw_iload_n X dX12_keepsTold_262 rfl ?_
  refine aw_bipush (v := 12) X dX12_keepsTold_263 (by decide) ?_
  refine aw_icmp_ge (tgt := 290) X dX12_keepsTold_265 (by decide) (fun c46 => ?_) (fun c46 => ?_)
  · rw [if_pos c46] at h
    cases h
    refine aw_msk [true, false] ?_
    exact he _ rfl
  · rw [if_neg c46] at h
    refine aw_aload_n X dX12_keepsTold_268 rfl ?_
    refine aw_getr X dX12_keepsTold_269 fl_RX12_98 iu_RX12 gu_RX12_51 ?_
    refine aw_iload_n X dX12_keepsTold_272 rfl ?_
    refine aw_aload_n X dX12_keepsTold_273 rfl ?_
    refine aw_aload_n X dX12_keepsTold_274 rfl ?_
    refine aw_getr X dX12_keepsTold_275 fl_RX12_98 iu_RX12 gu_RX12_51 ?_
    refine aw_iload_n X dX12_keepsTold_278 rfl ?_
    obtain ⟨v47, ev47, h⟩ := bnd h
    refine aw_iald X dX12_keepsTold_279 iu_RX12_51 ev47 ?_
    obtain ⟨r48, er48, h⟩ := bnd h
    refine aw_callV X dX12_keepsTold_280 cv_RX12_484 (ok_X12_keeps er48 _ _ _ _ _) iu_RX12 rfl (Nat.le_trans (by decide) hfr) (by decide) rfl rfl (Nat.le_of_ble_eq_true rfl) ?_
    obtain ⟨s49, es49, h⟩ := bnd h
    refine aw_iast X dX12_keepsTold_283 iu_RX12_51 es49 ?_
    refine aw_iinc (v := (x1 + 1)) (L' := [some (.ref (zr Z 0)), some (.int (x1 + 1))]) X dX12_keepsTold_284 rfl rfl (by decide) rfl ?_
    refine aw_goto (tgt := 262) X dX12_keepsTold_287 (by decide) ?_
    cases h
    refine aw_msk [true, true] ?_
    exact hi _ rfl
set_option maxRecDepth 100000 in
set_option maxHeartbeats 4000000 in
theorem so_X12_keepsTold_292 {fr : Nat} (hfr : 1 ≤ fr) (Z : AZ) (X : AX Z cX12_keepsTold 2 RX12 none 1 fr) (x1 : Int32) (s : Mem) (q : (Int32 × Mem) ⊕ (Mem)) (h : st_X12_keepsTold_292 x1 s = some q) (hi : ∀ y : Int32 × Mem, q = .inl y → AW Z y.2 292 [some (.ref (zr Z 0)), some (.int y.1)] []) (he : ∀ b : Mem, q = .inr b → AW Z b 320 [some (.ref (zr Z 0)), none] []) : AW Z s 292 [some (.ref (zr Z 0)), some (.int x1)] [] := by
  unfold st_X12_keepsTold_292 at h
  refine aw_iload_n X dX12_keepsTold_292 rfl ?_
  refine aw_bipush (v := 6) X dX12_keepsTold_293 (by decide) ?_
  refine aw_icmp_ge (tgt := 320) X dX12_keepsTold_295 (by decide) (fun c51 => ?_) (fun c51 => ?_)
  · rw [if_pos c51] at h
    cases h
    refine aw_msk [true, false] ?_
    exact he _ rfl
  · rw [if_neg c51] at h
    refine aw_aload_n X dX12_keepsTold_298 rfl ?_
    refine aw_getr X dX12_keepsTold_299 fl_RX12_101 iu_RX12 gu_RX12_53 ?_
    refine aw_iload_n X dX12_keepsTold_302 rfl ?_
    refine aw_aload_n X dX12_keepsTold_303 rfl ?_
    refine aw_aload_n X dX12_keepsTold_304 rfl ?_
    refine aw_getr X dX12_keepsTold_305 fl_RX12_101 iu_RX12 gu_RX12_53 ?_
    refine aw_iload_n X dX12_keepsTold_308 rfl ?_
    obtain ⟨v52, ev52, h⟩ := bnd h
    refine aw_iald X dX12_keepsTold_309 iu_RX12_53 ev52 ?_
    obtain ⟨r53, er53, h⟩ := bnd h
    refine aw_callV X dX12_keepsTold_310 cv_RX12_484 (ok_X12_keeps er53 _ _ _ _ _) iu_RX12 rfl (Nat.le_trans (by decide) hfr) (by decide) rfl rfl (Nat.le_of_ble_eq_true rfl) ?_
    obtain ⟨s54, es54, h⟩ := bnd h
    refine aw_iast X dX12_keepsTold_313 iu_RX12_53 es54 ?_
    refine aw_iinc (v := (x1 + 1)) (L' := [some (.ref (zr Z 0)), some (.int (x1 + 1))]) X dX12_keepsTold_314 rfl rfl (by decide) rfl ?_
    refine aw_goto (tgt := 292) X dX12_keepsTold_317 (by decide) ?_
    cases h
    refine aw_msk [true, true] ?_
    exact hi _ rfl
set_option maxRecDepth 100000 in
set_option maxHeartbeats 4000000 in
theorem so_X12_keepsTold_322 {fr : Nat} (hfr : 1 ≤ fr) (Z : AZ) (X : AX Z cX12_keepsTold 2 RX12 none 1 fr) (x1 : Int32) (s : Mem) (q : (Int32 × Mem) ⊕ (Mem)) (h : st_X12_keepsTold_322 x1 s = some q) (hi : ∀ y : Int32 × Mem, q = .inl y → AW Z y.2 322 [some (.ref (zr Z 0)), some (.int y.1)] []) (he : ∀ b : Mem, q = .inr b → AW Z b 350 [some (.ref (zr Z 0)), none] []) : AW Z s 322 [some (.ref (zr Z 0)), some (.int x1)] [] := by
  unfold st_X12_keepsTold_322 at h
  refine aw_iload_n X dX12_keepsTold_322 rfl ?_
  refine aw_bipush (v := 8) X dX12_keepsTold_323 (by decide) ?_
  refine aw_icmp_ge (tgt := 350) X dX12_keepsTold_325 (by decide) (fun c56 => ?_) (fun c56 => ?_)
  · rw [if_pos c56] at h
    cases h
    refine aw_msk [true, false] ?_
    exact he _ rfl
  · rw [if_neg c56] at h
    refine aw_aload_n X dX12_keepsTold_328 rfl ?_
    refine aw_getr X dX12_keepsTold_329 fl_RX12_107 iu_RX12 gu_RX12_56 ?_
    refine aw_iload_n X dX12_keepsTold_332 rfl ?_
    refine aw_aload_n X dX12_keepsTold_333 rfl ?_
    refine aw_aload_n X dX12_keepsTold_334 rfl ?_
    refine aw_getr X dX12_keepsTold_335 fl_RX12_107 iu_RX12 gu_RX12_56 ?_
    refine aw_iload_n X dX12_keepsTold_338 rfl ?_
    obtain ⟨v57, ev57, h⟩ := bnd h
    refine aw_iald X dX12_keepsTold_339 iu_RX12_56 ev57 ?_
    obtain ⟨r58, er58, h⟩ := bnd h
    refine aw_callV X dX12_keepsTold_340 cv_RX12_484 (ok_X12_keeps er58 _ _ _ _ _) iu_RX12 rfl (Nat.le_trans (by decide) hfr) (by decide) rfl rfl (Nat.le_of_ble_eq_true rfl) ?_
    obtain ⟨s59, es59, h⟩ := bnd h
    refine aw_iast X dX12_keepsTold_343 iu_RX12_56 es59 ?_
    refine aw_iinc (v := (x1 + 1)) (L' := [some (.ref (zr Z 0)), some (.int (x1 + 1))]) X dX12_keepsTold_344 rfl rfl (by decide) rfl ?_
    refine aw_goto (tgt := 322) X dX12_keepsTold_347 (by decide) ?_
    cases h
    refine aw_msk [true, true] ?_
    exact hi _ rfl
set_option maxRecDepth 100000 in
set_option maxHeartbeats 4000000 in
theorem so_X12_keepsTold_352 {fr : Nat} (hfr : 1 ≤ fr) (Z : AZ) (X : AX Z cX12_keepsTold 2 RX12 none 1 fr) (x1 : Int32) (s : Mem) (q : (Int32 × Mem) ⊕ (Mem)) (h : st_X12_keepsTold_352 x1 s = some q) (hi : ∀ y : Int32 × Mem, q = .inl y → AW Z y.2 352 [some (.ref (zr Z 0)), some (.int y.1)] []) (he : ∀ b : Mem, q = .inr b → AW Z b 379 [none, none] []) : AW Z s 352 [some (.ref (zr Z 0)), some (.int x1)] [] := by
  unfold st_X12_keepsTold_352 at h
  refine aw_iload_n X dX12_keepsTold_352 rfl ?_
  refine aw_iconst (v := 4) X dX12_keepsTold_353 (by decide) ?_
  refine aw_icmp_ge (tgt := 379) X dX12_keepsTold_354 (by decide) (fun c61 => ?_) (fun c61 => ?_)
  · rw [if_pos c61] at h
    cases h
    refine aw_msk [false, false] ?_
    exact he _ rfl
  · rw [if_neg c61] at h
    refine aw_aload_n X dX12_keepsTold_357 rfl ?_
    refine aw_getr X dX12_keepsTold_358 fl_RX12_116 iu_RX12 gu_RX12_60 ?_
    refine aw_iload_n X dX12_keepsTold_361 rfl ?_
    refine aw_aload_n X dX12_keepsTold_362 rfl ?_
    refine aw_aload_n X dX12_keepsTold_363 rfl ?_
    refine aw_getr X dX12_keepsTold_364 fl_RX12_116 iu_RX12 gu_RX12_60 ?_
    refine aw_iload_n X dX12_keepsTold_367 rfl ?_
    obtain ⟨v62, ev62, h⟩ := bnd h
    refine aw_iald X dX12_keepsTold_368 iu_RX12_60 ev62 ?_
    obtain ⟨r63, er63, h⟩ := bnd h
    refine aw_callV X dX12_keepsTold_369 cv_RX12_484 (ok_X12_keeps er63 _ _ _ _ _) iu_RX12 rfl (Nat.le_trans (by decide) hfr) (by decide) rfl rfl (Nat.le_of_ble_eq_true rfl) ?_
    obtain ⟨s64, es64, h⟩ := bnd h
    refine aw_iast X dX12_keepsTold_372 iu_RX12_60 es64 ?_
    refine aw_iinc (v := (x1 + 1)) (L' := [some (.ref (zr Z 0)), some (.int (x1 + 1))]) X dX12_keepsTold_373 rfl rfl (by decide) rfl ?_
    refine aw_goto (tgt := 352) X dX12_keepsTold_376 (by decide) ?_
    cases h
    refine aw_msk [true, true] ?_
    exact hi _ rfl
set_option maxRecDepth 100000 in
set_option maxHeartbeats 4000000 in
theorem w_X12_keepsTold {fr : Nat} (hfr : 1 ≤ fr) (Z : AZ) (X : AX Z cX12_keepsTold 2 RX12 none 1 fr) (s : Mem) (r : Mem) (hz : zres Z = (none, r)) (h : f_X12_keepsTold s = some r) : AW Z s 0 [some (.ref (zr Z 0)), none] [] := by
  unfold f_X12_keepsTold at h
  refine aw_iconst (v := 0) X dX12_keepsTold_0 (by decide) ?_
  refine aw_istore_n (L' := [some (.ref (zr Z 0)), some (.int 0)]) X dX12_keepsTold_1 (by decide) rfl ?_
  obtain ⟨r5, er5, h⟩ := bnd h
  refine aw_msk [true, true] ?_
  refine it_ok (P := fun y : Int32 × Mem => AW Z y.2 2 [some (.ref (zr Z 0)), some (.int y.1)] []) (Q := fun b : Mem => AW Z b 30 [some (.ref (zr Z 0)), none] []) (fun y q hq hi he => so_X12_keepsTold_2 hfr Z X y.1 y.2 q hq hi he) FUEL _ _ er5 ?_
  refine aw_iconst (v := 0) X dX12_keepsTold_30 (by decide) ?_
  refine aw_istore_n (L' := [some (.ref (zr Z 0)), some (.int 0)]) X dX12_keepsTold_31 (by decide) rfl ?_
  obtain ⟨r10, er10, h⟩ := bnd h
  refine aw_msk [true, true] ?_
  refine it_ok (P := fun y : Int32 × Mem => AW Z y.2 32 [some (.ref (zr Z 0)), some (.int y.1)] []) (Q := fun b : Mem => AW Z b 60 [some (.ref (zr Z 0)), none] []) (fun y q hq hi he => so_X12_keepsTold_32 hfr Z X y.1 y.2 q hq hi he) FUEL _ _ er10 ?_
  refine aw_iconst (v := 0) X dX12_keepsTold_60 (by decide) ?_
  refine aw_istore_n (L' := [some (.ref (zr Z 0)), some (.int 0)]) X dX12_keepsTold_61 (by decide) rfl ?_
  obtain ⟨r24, er24, h⟩ := bnd h
  refine aw_msk [true, true] ?_
  refine it_ok (P := fun y : Int32 × Mem => AW Z y.2 62 [some (.ref (zr Z 0)), some (.int y.1)] []) (Q := fun b : Mem => AW Z b 138 [some (.ref (zr Z 0)), none] []) (fun y q hq hi he => so_X12_keepsTold_62 hfr Z X y.1 y.2 q hq hi he) FUEL _ _ er24 ?_
  refine aw_iconst (v := 0) X dX12_keepsTold_138 (by decide) ?_
  refine aw_istore_n (L' := [some (.ref (zr Z 0)), some (.int 0)]) X dX12_keepsTold_139 (by decide) rfl ?_
  obtain ⟨r29, er29, h⟩ := bnd h
  refine aw_msk [true, true] ?_
  refine it_ok (P := fun y : Int32 × Mem => AW Z y.2 140 [some (.ref (zr Z 0)), some (.int y.1)] []) (Q := fun b : Mem => AW Z b 168 [some (.ref (zr Z 0)), none] []) (fun y q hq hi he => so_X12_keepsTold_140 hfr Z X y.1 y.2 q hq hi he) FUEL _ _ er29 ?_
  refine aw_iconst (v := 0) X dX12_keepsTold_168 (by decide) ?_
  refine aw_istore_n (L' := [some (.ref (zr Z 0)), some (.int 0)]) X dX12_keepsTold_169 (by decide) rfl ?_
  obtain ⟨r34, er34, h⟩ := bnd h
  refine aw_msk [true, true] ?_
  refine it_ok (P := fun y : Int32 × Mem => AW Z y.2 170 [some (.ref (zr Z 0)), some (.int y.1)] []) (Q := fun b : Mem => AW Z b 198 [some (.ref (zr Z 0)), none] []) (fun y q hq hi he => so_X12_keepsTold_170 hfr Z X y.1 y.2 q hq hi he) FUEL _ _ er34 ?_
  refine aw_iconst (v := 0) X dX12_keepsTold_198 (by decide) ?_
  refine aw_istore_n (L' := [some (.ref (zr Z 0)), some (.int 0)]) X dX12_keepsTold_199 (by decide) rfl ?_
  obtain ⟨r45, er45, h⟩ := bnd h
  refine aw_msk [true, true] ?_
  refine it_ok (P := fun y : Int32 × Mem => AW Z y.2 200 [some (.ref (zr Z 0)), some (.int y.1)] []) (Q := fun b : Mem => AW Z b 260 [some (.ref (zr Z 0)), none] []) (fun y q hq hi he => so_X12_keepsTold_200 hfr Z X y.1 y.2 q hq hi he) FUEL _ _ er45 ?_
  refine aw_iconst (v := 0) X dX12_keepsTold_260 (by decide) ?_
  refine aw_istore_n (L' := [some (.ref (zr Z 0)), some (.int 0)]) X dX12_keepsTold_261 (by decide) rfl ?_
  obtain ⟨r50, er50, h⟩ := bnd h
  refine aw_msk [true, true] ?_
  refine it_ok (P := fun y : Int32 × Mem => AW Z y.2 262 [some (.ref (zr Z 0)), some (.int y.1)] []) (Q := fun b : Mem => AW Z b 290 [some (.ref (zr Z 0)), none] []) (fun y q hq hi he => so_X12_keepsTold_262 hfr Z X y.1 y.2 q hq hi he) FUEL _ _ er50 ?_
  refine aw_iconst (v := 0) X dX12_keepsTold_290 (by decide) ?_
  refine aw_istore_n (L' := [some (.ref (zr Z 0)), some (.int 0)]) X dX12_keepsTold_291 (by decide) rfl ?_
  obtain ⟨r55, er55, h⟩ := bnd h
  refine aw_msk [true, true] ?_
  refine it_ok (P := fun y : Int32 × Mem => AW Z y.2 292 [some (.ref (zr Z 0)), some (.int y.1)] []) (Q := fun b : Mem => AW Z b 320 [some (.ref (zr Z 0)), none] []) (fun y q hq hi he => so_X12_keepsTold_292 hfr Z X y.1 y.2 q hq hi he) FUEL _ _ er55 ?_
  refine aw_iconst (v := 0) X dX12_keepsTold_320 (by decide) ?_
  refine aw_istore_n (L' := [some (.ref (zr Z 0)), some (.int 0)]) X dX12_keepsTold_321 (by decide) rfl ?_
  obtain ⟨r60, er60, h⟩ := bnd h
  refine aw_msk [true, true] ?_
  refine it_ok (P := fun y : Int32 × Mem => AW Z y.2 322 [some (.ref (zr Z 0)), some (.int y.1)] []) (Q := fun b : Mem => AW Z b 350 [some (.ref (zr Z 0)), none] []) (fun y q hq hi he => so_X12_keepsTold_322 hfr Z X y.1 y.2 q hq hi he) FUEL _ _ er60 ?_
  refine aw_iconst (v := 0) X dX12_keepsTold_350 (by decide) ?_
  refine aw_istore_n (L' := [some (.ref (zr Z 0)), some (.int 0)]) X dX12_keepsTold_351 (by decide) rfl ?_
  obtain ⟨r65, er65, h⟩ := bnd h
  refine aw_msk [true, true] ?_
  refine it_ok (P := fun y : Int32 × Mem => AW Z y.2 352 [some (.ref (zr Z 0)), some (.int y.1)] []) (Q := fun b : Mem => AW Z b 379 [none, none] []) (fun y q hq hi he => so_X12_keepsTold_352 hfr Z X y.1 y.2 q hq hi he) FUEL _ _ er65 ?_
  cases h
  exact aw_vret X dX12_keepsTold_379 rfl hz.symm
set_option maxRecDepth 100000 in
set_option maxHeartbeats 4000000 in
theorem ok_X12_keepsTold {s : Mem} {r : Mem} (h : f_X12_keepsTold s = some r) (l : Launch) (D : va_G) (ρ : Nat → Nat) (cA : ClassId × ClassId × ClassId) (τ : AT) : AM l D ρ cA 1 τ yX12_keepsTold cX12_keepsTold 2 none 1 [.ref (ρ 0)] none s r := by
  refine AM_of (L := [some (.ref (ρ 0)), none]) (by decide) (by simp [Value.category]) (Nat.le_of_ble_eq_true rfl) (fun j v q => ?_) (fun Z X hρ hz hτ => ?_)
  · exact aL_ok (n := 1) [.ref (ρ 0)] j v q
  · subst hρ
    subst hτ
    exact w_X12_keepsTold (Nat.le_refl _) Z X s r hz h

theorem dX12_image_0 : decode cX12_image 0 = .ok (.aload_n 0, 1) := by decide +kernel
theorem dX12_image_1 : decode cX12_image 1 = .ok (.iconst 0, 1) := by decide +kernel
theorem dX12_image_2 : decode cX12_image 2 = .ok (.putfield 122, 3) := by decide +kernel
theorem dX12_image_5 : decode cX12_image 5 = .ok (.iload_n 1, 1) := by decide +kernel
theorem dX12_image_6 : decode cX12_image 6 = .ok (.ifCond .ne 12, 3) := by decide +kernel
theorem dX12_image_9 : decode cX12_image 9 = .ok (.aload_n 0, 1) := by decide +kernel
theorem dX12_image_10 : decode cX12_image 10 = .ok (.getfield 487, 3) := by decide +kernel
theorem dX12_image_13 : decode cX12_image 13 = .ok (.ifCond .ne 5, 3) := by decide +kernel
theorem dX12_image_16 : decode cX12_image 16 = .ok (.iconst 0, 1) := by decide +kernel
theorem dX12_image_17 : decode cX12_image 17 = .ok (.ireturn, 1) := by decide +kernel
theorem dX12_image_18 : decode cX12_image 18 = .ok (.aload_n 0, 1) := by decide +kernel
theorem dX12_image_19 : decode cX12_image 19 = .ok (.iload_n 1, 1) := by decide +kernel
theorem dX12_image_20 : decode cX12_image 20 = .ok (.putfield 481, 3) := by decide +kernel
theorem dX12_image_23 : decode cX12_image 23 = .ok (.aload_n 0, 1) := by decide +kernel
theorem dX12_image_24 : decode cX12_image 24 = .ok (.iconst 1, 1) := by decide +kernel
theorem dX12_image_25 : decode cX12_image 25 = .ok (.putfield 487, 3) := by decide +kernel
theorem dX12_image_28 : decode cX12_image 28 = .ok (.aload_n 0, 1) := by decide +kernel
theorem dX12_image_29 : decode cX12_image 29 = .ok (.iconst 0, 1) := by decide +kernel
theorem dX12_image_30 : decode cX12_image 30 = .ok (.putfield 478, 3) := by decide +kernel
theorem dX12_image_33 : decode cX12_image 33 = .ok (.iconst 0, 1) := by decide +kernel
theorem dX12_image_34 : decode cX12_image 34 = .ok (.istore_n 2, 1) := by decide +kernel
theorem dX12_image_35 : decode cX12_image 35 = .ok (.iload_n 2, 1) := by decide +kernel
theorem dX12_image_36 : decode cX12_image 36 = .ok (.bipush 102, 2) := by decide +kernel
theorem dX12_image_38 : decode cX12_image 38 = .ok (.if_icmp .ge 25, 3) := by decide +kernel
theorem dX12_image_41 : decode cX12_image 41 = .ok (.aload_n 0, 1) := by decide +kernel
theorem dX12_image_42 : decode cX12_image 42 = .ok (.getfield 7, 3) := by decide +kernel
theorem dX12_image_45 : decode cX12_image 45 = .ok (.iload_n 2, 1) := by decide +kernel
theorem dX12_image_46 : decode cX12_image 46 = .ok (.aload_n 0, 1) := by decide +kernel
theorem dX12_image_47 : decode cX12_image 47 = .ok (.aload_n 0, 1) := by decide +kernel
theorem dX12_image_48 : decode cX12_image 48 = .ok (.getfield 7, 3) := by decide +kernel
theorem dX12_image_51 : decode cX12_image 51 = .ok (.iload_n 2, 1) := by decide +kernel
theorem dX12_image_52 : decode cX12_image 52 = .ok (.iaload, 1) := by decide +kernel
theorem dX12_image_53 : decode cX12_image 53 = .ok (.invokevirtual 484, 3) := by decide +kernel
theorem dX12_image_56 : decode cX12_image 56 = .ok (.iastore, 1) := by decide +kernel
theorem dX12_image_57 : decode cX12_image 57 = .ok (.iinc 2 1, 3) := by decide +kernel
theorem dX12_image_60 : decode cX12_image 60 = .ok (.goto (-25), 3) := by decide +kernel
theorem dX12_image_63 : decode cX12_image 63 = .ok (.aload_n 0, 1) := by decide +kernel
theorem dX12_image_64 : decode cX12_image 64 = .ok (.invokevirtual 490, 3) := by decide +kernel
theorem dX12_image_67 : decode cX12_image 67 = .ok (.aload_n 0, 1) := by decide +kernel
theorem dX12_image_68 : decode cX12_image 68 = .ok (.invokevirtual 493, 3) := by decide +kernel
theorem dX12_image_71 : decode cX12_image 71 = .ok (.iconst 0, 1) := by decide +kernel
theorem dX12_image_72 : decode cX12_image 72 = .ok (.istore_n 2, 1) := by decide +kernel
theorem dX12_image_73 : decode cX12_image 73 = .ok (.iload_n 2, 1) := by decide +kernel
theorem dX12_image_74 : decode cX12_image 74 = .ok (.sipush 600, 3) := by decide +kernel
theorem dX12_image_77 : decode cX12_image 77 = .ok (.if_icmp .ge 25, 3) := by decide +kernel
theorem dX12_image_80 : decode cX12_image 80 = .ok (.aload_n 0, 1) := by decide +kernel
theorem dX12_image_81 : decode cX12_image 81 = .ok (.getfield 19, 3) := by decide +kernel
theorem dX12_image_84 : decode cX12_image 84 = .ok (.iload_n 2, 1) := by decide +kernel
theorem dX12_image_85 : decode cX12_image 85 = .ok (.aload_n 0, 1) := by decide +kernel
theorem dX12_image_86 : decode cX12_image 86 = .ok (.aload_n 0, 1) := by decide +kernel
theorem dX12_image_87 : decode cX12_image 87 = .ok (.getfield 19, 3) := by decide +kernel
theorem dX12_image_90 : decode cX12_image 90 = .ok (.iload_n 2, 1) := by decide +kernel
theorem dX12_image_91 : decode cX12_image 91 = .ok (.iaload, 1) := by decide +kernel
theorem dX12_image_92 : decode cX12_image 92 = .ok (.invokevirtual 484, 3) := by decide +kernel
theorem dX12_image_95 : decode cX12_image 95 = .ok (.iastore, 1) := by decide +kernel
theorem dX12_image_96 : decode cX12_image 96 = .ok (.iinc 2 1, 3) := by decide +kernel
theorem dX12_image_99 : decode cX12_image 99 = .ok (.goto (-26), 3) := by decide +kernel
theorem dX12_image_102 : decode cX12_image 102 = .ok (.aload_n 0, 1) := by decide +kernel
theorem dX12_image_103 : decode cX12_image 103 = .ok (.invokevirtual 496, 3) := by decide +kernel
theorem dX12_image_106 : decode cX12_image 106 = .ok (.iload_n 1, 1) := by decide +kernel
theorem dX12_image_107 : decode cX12_image 107 = .ok (.ifCond .ne 8, 3) := by decide +kernel
theorem dX12_image_110 : decode cX12_image 110 = .ok (.aload_n 0, 1) := by decide +kernel
theorem dX12_image_111 : decode cX12_image 111 = .ok (.iconst 0, 1) := by decide +kernel
theorem dX12_image_112 : decode cX12_image 112 = .ok (.putfield 125, 3) := by decide +kernel
theorem dX12_image_115 : decode cX12_image 115 = .ok (.iconst 1, 1) := by decide +kernel
theorem dX12_image_116 : decode cX12_image 116 = .ok (.ireturn, 1) := by decide +kernel
set_option maxRecDepth 100000 in
set_option maxHeartbeats 4000000 in
theorem so_X12_image_35 {fr : Nat} (hfr : 2 ≤ fr) (Z : AZ) (X : AX Z cX12_image 3 RX12 (some .boolean) 1 fr) (x1 : Int32) (x2 : Int32) (s : Mem) (q : (Int32 × Mem) ⊕ (Mem)) (h : st_X12_image_35 x1 x2 s = some q) (hi : ∀ y : Int32 × Mem, q = .inl y → AW Z y.2 35 [some (.ref (zr Z 0)), some (.int x1), some (.int y.1)] []) (he : ∀ b : Mem, q = .inr b → AW Z b 63 [some (.ref (zr Z 0)), some (.int x1), none] []) : AW Z s 35 [some (.ref (zr Z 0)), some (.int x1), some (.int x2)] [] := by
  unfold st_X12_image_35 at h
  refine aw_iload_n X dX12_image_35 rfl ?_
  refine aw_bipush (v := 102) X dX12_image_36 (by decide) ?_
  refine aw_icmp_ge (tgt := 63) X dX12_image_38 (by decide) (fun c3 => ?_) (fun c3 => ?_)
  · rw [if_pos c3] at h
    cases h
    refine aw_msk [true, true, false] ?_
    exact he _ rfl
  · rw [if_neg c3] at h
    refine aw_aload_n X dX12_image_41 rfl ?_
    refine aw_getr X dX12_image_42 fl_RX12_7 iu_RX12 gu_RX12_1 ?_
    refine aw_iload_n X dX12_image_45 rfl ?_
    refine aw_aload_n X dX12_image_46 rfl ?_
    refine aw_aload_n X dX12_image_47 rfl ?_
    refine aw_getr X dX12_image_48 fl_RX12_7 iu_RX12 gu_RX12_1 ?_
    refine aw_iload_n X dX12_image_51 rfl ?_
    obtain ⟨v4, ev4, h⟩ := bnd h
    refine aw_iald X dX12_image_52 iu_RX12_1 ev4 ?_
    obtain ⟨r5, er5, h⟩ := bnd h
    refine aw_callV X dX12_image_53 cv_RX12_484 (ok_X12_keeps er5 _ _ _ _ _) iu_RX12 rfl (Nat.le_trans (by decide) hfr) (by decide) rfl rfl (Nat.le_of_ble_eq_true rfl) ?_
    obtain ⟨s6, es6, h⟩ := bnd h
    refine aw_iast X dX12_image_56 iu_RX12_1 es6 ?_
    refine aw_iinc (v := (x2 + 1)) (L' := [some (.ref (zr Z 0)), some (.int x1), some (.int (x2 + 1))]) X dX12_image_57 rfl rfl (by decide) rfl ?_
    refine aw_goto (tgt := 35) X dX12_image_60 (by decide) ?_
    cases h
    refine aw_msk [true, true, true] ?_
    exact hi _ rfl
set_option maxRecDepth 100000 in
set_option maxHeartbeats 4000000 in
theorem so_X12_image_73 {fr : Nat} (hfr : 2 ≤ fr) (Z : AZ) (X : AX Z cX12_image 3 RX12 (some .boolean) 1 fr) (x1 : Int32) (x2 : Int32) (s : Mem) (q : (Int32 × Mem) ⊕ (Mem)) (h : st_X12_image_73 x1 x2 s = some q) (hi : ∀ y : Int32 × Mem, q = .inl y → AW Z y.2 73 [some (.ref (zr Z 0)), some (.int x1), some (.int y.1)] []) (he : ∀ b : Mem, q = .inr b → AW Z b 102 [some (.ref (zr Z 0)), some (.int x1), none] []) : AW Z s 73 [some (.ref (zr Z 0)), some (.int x1), some (.int x2)] [] := by
  unfold st_X12_image_73 at h
  refine aw_iload_n X dX12_image_73 rfl ?_
  refine aw_sipush (v := 600) X dX12_image_74 (by decide) ?_
  refine aw_icmp_ge (tgt := 102) X dX12_image_77 (by decide) (fun c10 => ?_) (fun c10 => ?_)
  · rw [if_pos c10] at h
    cases h
    refine aw_msk [true, true, false] ?_
    exact he _ rfl
  · rw [if_neg c10] at h
    refine aw_aload_n X dX12_image_80 rfl ?_
    refine aw_getr X dX12_image_81 fl_RX12_19 iu_RX12 gu_RX12_7 ?_
    refine aw_iload_n X dX12_image_84 rfl ?_
    refine aw_aload_n X dX12_image_85 rfl ?_
    refine aw_aload_n X dX12_image_86 rfl ?_
    refine aw_getr X dX12_image_87 fl_RX12_19 iu_RX12 gu_RX12_7 ?_
    refine aw_iload_n X dX12_image_90 rfl ?_
    obtain ⟨v11, ev11, h⟩ := bnd h
    refine aw_iald X dX12_image_91 iu_RX12_7 ev11 ?_
    obtain ⟨r12, er12, h⟩ := bnd h
    refine aw_callV X dX12_image_92 cv_RX12_484 (ok_X12_keeps er12 _ _ _ _ _) iu_RX12 rfl (Nat.le_trans (by decide) hfr) (by decide) rfl rfl (Nat.le_of_ble_eq_true rfl) ?_
    obtain ⟨s13, es13, h⟩ := bnd h
    refine aw_iast X dX12_image_95 iu_RX12_7 es13 ?_
    refine aw_iinc (v := (x2 + 1)) (L' := [some (.ref (zr Z 0)), some (.int x1), some (.int (x2 + 1))]) X dX12_image_96 rfl rfl (by decide) rfl ?_
    refine aw_goto (tgt := 73) X dX12_image_99 (by decide) ?_
    cases h
    refine aw_msk [true, true, true] ?_
    exact hi _ rfl
set_option maxRecDepth 100000 in
set_option maxHeartbeats 4000000 in
theorem jo_X12_image_18 {fr : Nat} (hfr : 2 ≤ fr) (Z : AZ) (X : AX Z cX12_image 3 RX12 (some .boolean) 1 fr) (x1 : Int32) (s : Mem) (r : Int32 × Mem) (hz : zres Z = (some (.int r.1), r.2)) (h : jn_X12_image_18 x1 s = some r) : AW Z s 18 [some (.ref (zr Z 0)), some (.int x1), none] [] := by
  unfold jn_X12_image_18 at h
  refine aw_aload_n X dX12_image_18 rfl ?_
  refine aw_iload_n X dX12_image_19 rfl ?_
  by_cases c2 : ¬ (x1 = 0 ∨ x1 = 1)
  · rw [if_pos c2] at h
    cases h
  rw [if_neg c2] at h
  have c2 := Decidable.of_not_not c2
  refine aw_put X dX12_image_20 fp_RX12_481 iu_RX12 gu_RX12_61 (bz_n c2) (bz_f c2) ?_
  refine aw_aload_n X dX12_image_23 rfl ?_
  refine aw_iconst (v := 1) X dX12_image_24 (by decide) ?_
  refine aw_put X dX12_image_25 fp_RX12_487 iu_RX12 gu_RX12_62 rfl rfl ?_
  refine aw_aload_n X dX12_image_28 rfl ?_
  refine aw_iconst (v := 0) X dX12_image_29 (by decide) ?_
  refine aw_put X dX12_image_30 fp_RX12_478 iu_RX12 gu_RX12_63 rfl rfl ?_
  refine aw_iconst (v := 0) X dX12_image_33 (by decide) ?_
  refine aw_istore_n (L' := [some (.ref (zr Z 0)), some (.int x1), some (.int 0)]) X dX12_image_34 (by decide) rfl ?_
  obtain ⟨r7, er7, h⟩ := bnd h
  refine aw_msk [true, true, true] ?_
  refine it_ok (P := fun y : Int32 × Mem => AW Z y.2 35 [some (.ref (zr Z 0)), some (.int x1), some (.int y.1)] []) (Q := fun b : Mem => AW Z b 63 [some (.ref (zr Z 0)), some (.int x1), none] []) (fun y q hq hi he => so_X12_image_35 hfr Z X x1 y.1 y.2 q hq hi he) FUEL _ _ er7 ?_
  refine aw_aload_n X dX12_image_63 rfl ?_
  obtain ⟨r8, er8, h⟩ := bnd h
  refine aw_callV X dX12_image_64 cv_RX12_490 (ok_X12_keepsMany er8 _ _ _ _ _) iu_RX12 rfl (Nat.le_trans (by decide) hfr) (by decide) rfl rfl (Nat.le_of_ble_eq_true rfl) ?_
  refine aw_aload_n X dX12_image_67 rfl ?_
  obtain ⟨r9, er9, h⟩ := bnd h
  refine aw_callV X dX12_image_68 cv_RX12_493 (ok_X12_keepsTold er9 _ _ _ _ _) iu_RX12 rfl (Nat.le_trans (by decide) hfr) (by decide) rfl rfl (Nat.le_of_ble_eq_true rfl) ?_
  refine aw_iconst (v := 0) X dX12_image_71 (by decide) ?_
  refine aw_istore_n (L' := [some (.ref (zr Z 0)), some (.int x1), some (.int 0)]) X dX12_image_72 (by decide) rfl ?_
  obtain ⟨r14, er14, h⟩ := bnd h
  refine aw_msk [true, true, true] ?_
  refine it_ok (P := fun y : Int32 × Mem => AW Z y.2 73 [some (.ref (zr Z 0)), some (.int x1), some (.int y.1)] []) (Q := fun b : Mem => AW Z b 102 [some (.ref (zr Z 0)), some (.int x1), none] []) (fun y q hq hi he => so_X12_image_73 hfr Z X x1 y.1 y.2 q hq hi he) FUEL _ _ er14 ?_
  refine aw_aload_n X dX12_image_102 rfl ?_
  obtain ⟨r15, er15, h⟩ := bnd h
  refine aw_callV X dX12_image_103 cv_RX12_496 (ok_X12_keepsLaw er15 _ _ _ _ _) iu_RX12 rfl (Nat.le_trans (by decide) hfr) (by decide) rfl rfl (Nat.le_of_ble_eq_true rfl) ?_
  refine aw_iload_n X dX12_image_106 rfl ?_
  refine aw_if_ne (tgt := 115) X dX12_image_107 (by decide) (fun c16 => ?_) (fun c16 => ?_)
  · rw [if_neg c16] at h
    refine aw_iconst (v := 1) X dX12_image_115 (by decide) ?_
    cases h
    exact aw_zret X dX12_image_116 rfl rfl hz.symm
  · rw [if_pos c16] at h
    refine aw_aload_n X dX12_image_110 rfl ?_
    refine aw_iconst (v := 0) X dX12_image_111 (by decide) ?_
    refine aw_put X dX12_image_112 fp_RX12_125 iu_RX12 gu_RX12_3 rfl rfl ?_
    refine aw_iconst (v := 1) X dX12_image_115 (by decide) ?_
    cases h
    exact aw_zret X dX12_image_116 rfl rfl hz.symm
set_option maxRecDepth 100000 in
set_option maxHeartbeats 4000000 in
theorem w_X12_image {fr : Nat} (hfr : 2 ≤ fr) (Z : AZ) (X : AX Z cX12_image 3 RX12 (some .boolean) 1 fr) (x1 : Int32) (s : Mem) (r : Int32 × Mem) (hz : zres Z = (some (.int r.1), r.2)) (h : f_X12_image x1 s = some r) : AW Z s 0 [some (.ref (zr Z 0)), some (.int x1), none] [] := by
  unfold f_X12_image at h
  refine aw_aload_n X dX12_image_0 rfl ?_
  refine aw_iconst (v := 0) X dX12_image_1 (by decide) ?_
  refine aw_put X dX12_image_2 fp_RX12_122 iu_RX12 gu_RX12_0 rfl rfl ?_
  refine aw_iload_n X dX12_image_5 rfl ?_
  refine aw_if_ne (tgt := 18) X dX12_image_6 (by decide) (fun c1 => ?_) (fun c1 => ?_)
  · rw [if_neg c1] at h
    refine aw_msk [true, true, false] ?_
    exact jo_X12_image_18 hfr Z X _ _ _ hz h
  · rw [if_pos c1] at h
    refine aw_aload_n X dX12_image_9 rfl ?_
    refine aw_geti X dX12_image_10 fl_RX12_487 iu_RX12 gu_RX12_62 ?_
    refine aw_if_ne (tgt := 18) X dX12_image_13 (by decide) (fun c17 => ?_) (fun c17 => ?_)
    · rw [if_neg c17] at h
      refine aw_msk [true, true, false] ?_
      exact jo_X12_image_18 hfr Z X _ _ _ hz h
    · rw [if_pos c17] at h
      refine aw_iconst (v := 0) X dX12_image_16 (by decide) ?_
      cases h
      exact aw_zret X dX12_image_17 rfl rfl hz.symm
set_option maxRecDepth 100000 in
set_option maxHeartbeats 4000000 in
theorem ok_X12_image {x1 : Int32} {s : Mem} {r : Int32 × Mem} (h : f_X12_image x1 s = some r) (l : Launch) (D : va_G) (ρ : Nat → Nat) (cA : ClassId × ClassId × ClassId) (τ : AT) : AM l D ρ cA 1 τ yX12_image cX12_image 3 (some .boolean) 2 [.ref (ρ 0), .int x1] (some (.int r.1)) s r.2 := by
  refine AM_of (L := [some (.ref (ρ 0)), some (.int x1), none]) (by decide) (by simp [Value.category]) (Nat.le_of_ble_eq_true rfl) (fun j v q => ?_) (fun Z X hρ hz hτ => ?_)
  · exact aL_ok (n := 1) [.ref (ρ 0), .int x1] j v q
  · subst hρ
    subst hτ
    exact w_X12_image (Nat.le_refl _) Z X x1 s r hz h

theorem dX12_look_0 : decode cX12_look 0 = .ok (.aload_n 0, 1) := by decide +kernel
theorem dX12_look_1 : decode cX12_look 1 = .ok (.iconst 0, 1) := by decide +kernel
theorem dX12_look_2 : decode cX12_look 2 = .ok (.putfield 122, 3) := by decide +kernel
theorem dX12_look_5 : decode cX12_look 5 = .ok (.iload_n 1, 1) := by decide +kernel
theorem dX12_look_6 : decode cX12_look 6 = .ok (.ifCond .ne 8, 3) := by decide +kernel
theorem dX12_look_9 : decode cX12_look 9 = .ok (.aload_n 0, 1) := by decide +kernel
theorem dX12_look_10 : decode cX12_look 10 = .ok (.getfield 134, 3) := by decide +kernel
theorem dX12_look_13 : decode cX12_look 13 = .ok (.ireturn, 1) := by decide +kernel
theorem dX12_look_14 : decode cX12_look 14 = .ok (.iload_n 1, 1) := by decide +kernel
theorem dX12_look_15 : decode cX12_look 15 = .ok (.iconst 1, 1) := by decide +kernel
theorem dX12_look_16 : decode cX12_look 16 = .ok (.if_icmp .ne 8, 3) := by decide +kernel
theorem dX12_look_19 : decode cX12_look 19 = .ok (.aload_n 0, 1) := by decide +kernel
theorem dX12_look_20 : decode cX12_look 20 = .ok (.invokevirtual 401, 3) := by decide +kernel
theorem dX12_look_23 : decode cX12_look 23 = .ok (.ireturn, 1) := by decide +kernel
theorem dX12_look_24 : decode cX12_look 24 = .ok (.iload_n 1, 1) := by decide +kernel
theorem dX12_look_25 : decode cX12_look 25 = .ok (.iconst 2, 1) := by decide +kernel
theorem dX12_look_26 : decode cX12_look 26 = .ok (.if_icmp .ne 10, 3) := by decide +kernel
theorem dX12_look_29 : decode cX12_look 29 = .ok (.aload_n 0, 1) := by decide +kernel
theorem dX12_look_30 : decode cX12_look 30 = .ok (.getfield 7, 3) := by decide +kernel
theorem dX12_look_33 : decode cX12_look 33 = .ok (.iconst 3, 1) := by decide +kernel
theorem dX12_look_34 : decode cX12_look 34 = .ok (.iaload, 1) := by decide +kernel
theorem dX12_look_35 : decode cX12_look 35 = .ok (.ireturn, 1) := by decide +kernel
theorem dX12_look_36 : decode cX12_look 36 = .ok (.iload_n 1, 1) := by decide +kernel
theorem dX12_look_37 : decode cX12_look 37 = .ok (.iconst 3, 1) := by decide +kernel
theorem dX12_look_38 : decode cX12_look 38 = .ok (.if_icmp .ne 10, 3) := by decide +kernel
theorem dX12_look_41 : decode cX12_look 41 = .ok (.aload_n 0, 1) := by decide +kernel
theorem dX12_look_42 : decode cX12_look 42 = .ok (.getfield 7, 3) := by decide +kernel
theorem dX12_look_45 : decode cX12_look 45 = .ok (.iconst 0, 1) := by decide +kernel
theorem dX12_look_46 : decode cX12_look 46 = .ok (.iaload, 1) := by decide +kernel
theorem dX12_look_47 : decode cX12_look 47 = .ok (.ireturn, 1) := by decide +kernel
theorem dX12_look_48 : decode cX12_look 48 = .ok (.iload_n 1, 1) := by decide +kernel
theorem dX12_look_49 : decode cX12_look 49 = .ok (.iconst 4, 1) := by decide +kernel
theorem dX12_look_50 : decode cX12_look 50 = .ok (.if_icmp .ne 10, 3) := by decide +kernel
theorem dX12_look_53 : decode cX12_look 53 = .ok (.aload_n 0, 1) := by decide +kernel
theorem dX12_look_54 : decode cX12_look 54 = .ok (.getfield 7, 3) := by decide +kernel
theorem dX12_look_57 : decode cX12_look 57 = .ok (.iconst 2, 1) := by decide +kernel
theorem dX12_look_58 : decode cX12_look 58 = .ok (.iaload, 1) := by decide +kernel
theorem dX12_look_59 : decode cX12_look 59 = .ok (.ireturn, 1) := by decide +kernel
theorem dX12_look_60 : decode cX12_look 60 = .ok (.iload_n 1, 1) := by decide +kernel
theorem dX12_look_61 : decode cX12_look 61 = .ok (.iconst 5, 1) := by decide +kernel
theorem dX12_look_62 : decode cX12_look 62 = .ok (.if_icmp .ne 10, 3) := by decide +kernel
theorem dX12_look_65 : decode cX12_look 65 = .ok (.aload_n 0, 1) := by decide +kernel
theorem dX12_look_66 : decode cX12_look 66 = .ok (.getfield 7, 3) := by decide +kernel
theorem dX12_look_69 : decode cX12_look 69 = .ok (.iconst 1, 1) := by decide +kernel
theorem dX12_look_70 : decode cX12_look 70 = .ok (.iaload, 1) := by decide +kernel
theorem dX12_look_71 : decode cX12_look 71 = .ok (.ireturn, 1) := by decide +kernel
theorem dX12_look_72 : decode cX12_look 72 = .ok (.iload_n 1, 1) := by decide +kernel
theorem dX12_look_73 : decode cX12_look 73 = .ok (.bipush 6, 2) := by decide +kernel
theorem dX12_look_75 : decode cX12_look 75 = .ok (.if_icmp .ne 10, 3) := by decide +kernel
theorem dX12_look_78 : decode cX12_look 78 = .ok (.aload_n 0, 1) := by decide +kernel
theorem dX12_look_79 : decode cX12_look 79 = .ok (.getfield 28, 3) := by decide +kernel
theorem dX12_look_82 : decode cX12_look 82 = .ok (.iconst 0, 1) := by decide +kernel
theorem dX12_look_83 : decode cX12_look 83 = .ok (.iaload, 1) := by decide +kernel
theorem dX12_look_84 : decode cX12_look 84 = .ok (.ireturn, 1) := by decide +kernel
theorem dX12_look_85 : decode cX12_look 85 = .ok (.iload_n 1, 1) := by decide +kernel
theorem dX12_look_86 : decode cX12_look 86 = .ok (.bipush 7, 2) := by decide +kernel
theorem dX12_look_88 : decode cX12_look 88 = .ok (.if_icmp .ne 8, 3) := by decide +kernel
theorem dX12_look_91 : decode cX12_look 91 = .ok (.aload_n 0, 1) := by decide +kernel
theorem dX12_look_92 : decode cX12_look 92 = .ok (.getfield 284, 3) := by decide +kernel
theorem dX12_look_95 : decode cX12_look 95 = .ok (.ireturn, 1) := by decide +kernel
theorem dX12_look_96 : decode cX12_look 96 = .ok (.iload_n 1, 1) := by decide +kernel
theorem dX12_look_97 : decode cX12_look 97 = .ok (.bipush 8, 2) := by decide +kernel
theorem dX12_look_99 : decode cX12_look 99 = .ok (.if_icmp .ne 8, 3) := by decide +kernel
theorem dX12_look_102 : decode cX12_look 102 = .ok (.aload_n 0, 1) := by decide +kernel
theorem dX12_look_103 : decode cX12_look 103 = .ok (.getfield 287, 3) := by decide +kernel
theorem dX12_look_106 : decode cX12_look 106 = .ok (.ireturn, 1) := by decide +kernel
theorem dX12_look_107 : decode cX12_look 107 = .ok (.iload_n 1, 1) := by decide +kernel
theorem dX12_look_108 : decode cX12_look 108 = .ok (.bipush 9, 2) := by decide +kernel
theorem dX12_look_110 : decode cX12_look 110 = .ok (.if_icmp .ne 8, 3) := by decide +kernel
theorem dX12_look_113 : decode cX12_look 113 = .ok (.aload_n 0, 1) := by decide +kernel
theorem dX12_look_114 : decode cX12_look 114 = .ok (.getfield 281, 3) := by decide +kernel
theorem dX12_look_117 : decode cX12_look 117 = .ok (.ireturn, 1) := by decide +kernel
theorem dX12_look_118 : decode cX12_look 118 = .ok (.iload_n 1, 1) := by decide +kernel
theorem dX12_look_119 : decode cX12_look 119 = .ok (.bipush 10, 2) := by decide +kernel
theorem dX12_look_121 : decode cX12_look 121 = .ok (.if_icmp .ne 10, 3) := by decide +kernel
theorem dX12_look_124 : decode cX12_look 124 = .ok (.aload_n 0, 1) := by decide +kernel
theorem dX12_look_125 : decode cX12_look 125 = .ok (.getfield 125, 3) := by decide +kernel
theorem dX12_look_128 : decode cX12_look 128 = .ok (.goto 6, 3) := by decide +kernel
theorem dX12_look_131 : decode cX12_look 131 = .ok (.ldc_w 499, 3) := by decide +kernel
theorem dX12_look_134 : decode cX12_look 134 = .ok (.ireturn, 1) := by decide +kernel
set_option maxRecDepth 100000 in
set_option maxHeartbeats 4000000 in
theorem w_X12_look {fr : Nat} (hfr : 2 ≤ fr) (Z : AZ) (X : AX Z cX12_look 2 RX12 (some .int) 1 fr) (x1 : Int32) (s : Mem) (r : Int32 × Mem) (hz : zres Z = (some (.int r.1), r.2)) (h : f_X12_look x1 s = some r) : AW Z s 0 [some (.ref (zr Z 0)), some (.int x1)] [] := by
  unfold f_X12_look at h
  refine aw_aload_n X dX12_look_0 rfl ?_
  refine aw_iconst (v := 0) X dX12_look_1 (by decide) ?_
  refine aw_put X dX12_look_2 fp_RX12_122 iu_RX12 gu_RX12_0 rfl rfl ?_
  refine aw_iload_n X dX12_look_5 rfl ?_
  refine aw_if_ne (tgt := 14) X dX12_look_6 (by decide) (fun c1 => ?_) (fun c1 => ?_)
  · rw [if_neg c1] at h
    refine aw_iload_n X dX12_look_14 rfl ?_
    refine aw_iconst (v := 1) X dX12_look_15 (by decide) ?_
    refine aw_icmp_ne (tgt := 24) X dX12_look_16 (by decide) (fun c2 => ?_) (fun c2 => ?_)
    · rw [if_neg c2] at h
      refine aw_iload_n X dX12_look_24 rfl ?_
      refine aw_iconst (v := 2) X dX12_look_25 (by decide) ?_
      refine aw_icmp_ne (tgt := 36) X dX12_look_26 (by decide) (fun c3 => ?_) (fun c3 => ?_)
      · rw [if_neg c3] at h
        refine aw_iload_n X dX12_look_36 rfl ?_
        refine aw_iconst (v := 3) X dX12_look_37 (by decide) ?_
        refine aw_icmp_ne (tgt := 48) X dX12_look_38 (by decide) (fun c4 => ?_) (fun c4 => ?_)
        · rw [if_neg c4] at h
          refine aw_iload_n X dX12_look_48 rfl ?_
          refine aw_iconst (v := 4) X dX12_look_49 (by decide) ?_
          refine aw_icmp_ne (tgt := 60) X dX12_look_50 (by decide) (fun c5 => ?_) (fun c5 => ?_)
          · rw [if_neg c5] at h
            refine aw_iload_n X dX12_look_60 rfl ?_
            refine aw_iconst (v := 5) X dX12_look_61 (by decide) ?_
            refine aw_icmp_ne (tgt := 72) X dX12_look_62 (by decide) (fun c6 => ?_) (fun c6 => ?_)
            · rw [if_neg c6] at h
              refine aw_iload_n X dX12_look_72 rfl ?_
              refine aw_bipush (v := 6) X dX12_look_73 (by decide) ?_
              refine aw_icmp_ne (tgt := 85) X dX12_look_75 (by decide) (fun c7 => ?_) (fun c7 => ?_)
              · rw [if_neg c7] at h
                refine aw_iload_n X dX12_look_85 rfl ?_
                refine aw_bipush (v := 7) X dX12_look_86 (by decide) ?_
                refine aw_icmp_ne (tgt := 96) X dX12_look_88 (by decide) (fun c8 => ?_) (fun c8 => ?_)
                · rw [if_neg c8] at h
                  refine aw_iload_n X dX12_look_96 rfl ?_
                  refine aw_bipush (v := 8) X dX12_look_97 (by decide) ?_
                  refine aw_icmp_ne (tgt := 107) X dX12_look_99 (by decide) (fun c9 => ?_) (fun c9 => ?_)
                  · rw [if_neg c9] at h
                    refine aw_iload_n X dX12_look_107 rfl ?_
                    refine aw_bipush (v := 9) X dX12_look_108 (by decide) ?_
                    refine aw_icmp_ne (tgt := 118) X dX12_look_110 (by decide) (fun c10 => ?_) (fun c10 => ?_)
                    · rw [if_neg c10] at h
                      refine aw_iload_n X dX12_look_118 rfl ?_
                      refine aw_bipush (v := 10) X dX12_look_119 (by decide) ?_
                      refine aw_icmp_ne (tgt := 131) X dX12_look_121 (by decide) (fun c11 => ?_) (fun c11 => ?_)
                      · rw [if_neg c11] at h
                        refine aw_ldcw X dX12_look_131 kc_RX12_499 ?_
                        cases h
                        exact aw_iret X dX12_look_134 rfl hz.symm
                      · rw [if_pos c11] at h
                        refine aw_aload_n X dX12_look_124 rfl ?_
                        refine aw_geti X dX12_look_125 fl_RX12_125 iu_RX12 gu_RX12_3 ?_
                        refine aw_goto (tgt := 134) X dX12_look_128 (by decide) ?_
                        cases h
                        exact aw_iret X dX12_look_134 rfl hz.symm
                    · rw [if_pos c10] at h
                      refine aw_aload_n X dX12_look_113 rfl ?_
                      refine aw_geti X dX12_look_114 fl_RX12_281 iu_RX12 gu_RX12_35 ?_
                      cases h
                      exact aw_iret X dX12_look_117 rfl hz.symm
                  · rw [if_pos c9] at h
                    refine aw_aload_n X dX12_look_102 rfl ?_
                    refine aw_geti X dX12_look_103 fl_RX12_287 iu_RX12 gu_RX12_33 ?_
                    cases h
                    exact aw_iret X dX12_look_106 rfl hz.symm
                · rw [if_pos c8] at h
                  refine aw_aload_n X dX12_look_91 rfl ?_
                  refine aw_geti X dX12_look_92 fl_RX12_284 iu_RX12 gu_RX12_31 ?_
                  cases h
                  exact aw_iret X dX12_look_95 rfl hz.symm
              · rw [if_pos c7] at h
                refine aw_aload_n X dX12_look_78 rfl ?_
                refine aw_getr X dX12_look_79 fl_RX12_28 iu_RX12 gu_RX12_15 ?_
                refine aw_iconst (v := 0) X dX12_look_82 (by decide) ?_
                obtain ⟨v12, ev12, h⟩ := bnd h
                refine aw_iald X dX12_look_83 iu_RX12_15 ev12 ?_
                cases h
                exact aw_iret X dX12_look_84 rfl hz.symm
            · rw [if_pos c6] at h
              refine aw_aload_n X dX12_look_65 rfl ?_
              refine aw_getr X dX12_look_66 fl_RX12_7 iu_RX12 gu_RX12_1 ?_
              refine aw_iconst (v := 1) X dX12_look_69 (by decide) ?_
              obtain ⟨v13, ev13, h⟩ := bnd h
              refine aw_iald X dX12_look_70 iu_RX12_1 ev13 ?_
              cases h
              exact aw_iret X dX12_look_71 rfl hz.symm
          · rw [if_pos c5] at h
            refine aw_aload_n X dX12_look_53 rfl ?_
            refine aw_getr X dX12_look_54 fl_RX12_7 iu_RX12 gu_RX12_1 ?_
            refine aw_iconst (v := 2) X dX12_look_57 (by decide) ?_
            obtain ⟨v14, ev14, h⟩ := bnd h
            refine aw_iald X dX12_look_58 iu_RX12_1 ev14 ?_
            cases h
            exact aw_iret X dX12_look_59 rfl hz.symm
        · rw [if_pos c4] at h
          refine aw_aload_n X dX12_look_41 rfl ?_
          refine aw_getr X dX12_look_42 fl_RX12_7 iu_RX12 gu_RX12_1 ?_
          refine aw_iconst (v := 0) X dX12_look_45 (by decide) ?_
          obtain ⟨v15, ev15, h⟩ := bnd h
          refine aw_iald X dX12_look_46 iu_RX12_1 ev15 ?_
          cases h
          exact aw_iret X dX12_look_47 rfl hz.symm
      · rw [if_pos c3] at h
        refine aw_aload_n X dX12_look_29 rfl ?_
        refine aw_getr X dX12_look_30 fl_RX12_7 iu_RX12 gu_RX12_1 ?_
        refine aw_iconst (v := 3) X dX12_look_33 (by decide) ?_
        obtain ⟨v16, ev16, h⟩ := bnd h
        refine aw_iald X dX12_look_34 iu_RX12_1 ev16 ?_
        cases h
        exact aw_iret X dX12_look_35 rfl hz.symm
    · rw [if_pos c2] at h
      refine aw_aload_n X dX12_look_19 rfl ?_
      obtain ⟨r17, er17, h⟩ := bnd h
      refine aw_callV X dX12_look_20 cv_RX12_401 (ok_X12_whoHas er17 _ _ _ _ _) iu_RX12 rfl (Nat.le_trans (by decide) hfr) (by decide) rfl rfl (Nat.le_of_ble_eq_true rfl) ?_
      cases h
      exact aw_iret X dX12_look_23 rfl hz.symm
  · rw [if_pos c1] at h
    refine aw_aload_n X dX12_look_9 rfl ?_
    refine aw_geti X dX12_look_10 fl_RX12_134 iu_RX12 gu_RX12_6 ?_
    cases h
    exact aw_iret X dX12_look_13 rfl hz.symm
set_option maxRecDepth 100000 in
set_option maxHeartbeats 4000000 in
theorem ok_X12_look {x1 : Int32} {s : Mem} {r : Int32 × Mem} (h : f_X12_look x1 s = some r) (l : Launch) (D : va_G) (ρ : Nat → Nat) (cA : ClassId × ClassId × ClassId) (τ : AT) : AM l D ρ cA 1 τ yX12_look cX12_look 2 (some .int) 2 [.ref (ρ 0), .int x1] (some (.int r.1)) s r.2 := by
  refine AM_of (L := [some (.ref (ρ 0)), some (.int x1)]) (by decide) (by simp [Value.category]) (Nat.le_of_ble_eq_true rfl) (fun j v q => ?_) (fun Z X hρ hz hτ => ?_)
  · exact aL_ok (n := 0) [.ref (ρ 0), .int x1] j v q
  · subst hρ
    subst hτ
    exact w_X12_look (Nat.le_refl _) Z X x1 s r hz h
