/-! ===== walks: X12_takesLaw .. X12_runs ===== -/
theorem dX12_takesLaw_0 : decode cX12_takesLaw 0 = .ok (.iconst 0, 1) := by decide +kernel
theorem dX12_takesLaw_1 : decode cX12_takesLaw 1 = .ok (.istore_n 2, 1) := by decide +kernel
theorem dX12_takesLaw_2 : decode cX12_takesLaw 2 = .ok (.iload_n 2, 1) := by decide +kernel
theorem dX12_takesLaw_3 : decode cX12_takesLaw 3 = .ok (.iload_n 1, 1) := by decide +kernel
theorem dX12_takesLaw_4 : decode cX12_takesLaw 4 = .ok (.if_icmp .ge 101, 3) := by decide +kernel
theorem dX12_takesLaw_7 : decode cX12_takesLaw 7 = .ok (.aload_n 0, 1) := by decide +kernel
theorem dX12_takesLaw_8 : decode cX12_takesLaw 8 = .ok (.getfield 31, 3) := by decide +kernel
theorem dX12_takesLaw_11 : decode cX12_takesLaw 11 = .ok (.bipush 16, 2) := by decide +kernel
theorem dX12_takesLaw_13 : decode cX12_takesLaw 13 = .ok (.aload_n 0, 1) := by decide +kernel
theorem dX12_takesLaw_14 : decode cX12_takesLaw 14 = .ok (.getfield 244, 3) := by decide +kernel
theorem dX12_takesLaw_17 : decode cX12_takesLaw 17 = .ok (.imul, 1) := by decide +kernel
theorem dX12_takesLaw_18 : decode cX12_takesLaw 18 = .ok (.iload_n 2, 1) := by decide +kernel
theorem dX12_takesLaw_19 : decode cX12_takesLaw 19 = .ok (.iadd, 1) := by decide +kernel
theorem dX12_takesLaw_20 : decode cX12_takesLaw 20 = .ok (.aload_n 0, 1) := by decide +kernel
theorem dX12_takesLaw_21 : decode cX12_takesLaw 21 = .ok (.getfield 31, 3) := by decide +kernel
theorem dX12_takesLaw_24 : decode cX12_takesLaw 24 = .ok (.bipush 32, 2) := by decide +kernel
theorem dX12_takesLaw_26 : decode cX12_takesLaw 26 = .ok (.iload_n 2, 1) := by decide +kernel
theorem dX12_takesLaw_27 : decode cX12_takesLaw 27 = .ok (.iadd, 1) := by decide +kernel
theorem dX12_takesLaw_28 : decode cX12_takesLaw 28 = .ok (.iaload, 1) := by decide +kernel
theorem dX12_takesLaw_29 : decode cX12_takesLaw 29 = .ok (.iastore, 1) := by decide +kernel
theorem dX12_takesLaw_30 : decode cX12_takesLaw 30 = .ok (.aload_n 0, 1) := by decide +kernel
theorem dX12_takesLaw_31 : decode cX12_takesLaw 31 = .ok (.getfield 34, 3) := by decide +kernel
theorem dX12_takesLaw_34 : decode cX12_takesLaw 34 = .ok (.bipush 16, 2) := by decide +kernel
theorem dX12_takesLaw_36 : decode cX12_takesLaw 36 = .ok (.aload_n 0, 1) := by decide +kernel
theorem dX12_takesLaw_37 : decode cX12_takesLaw 37 = .ok (.getfield 244, 3) := by decide +kernel
theorem dX12_takesLaw_40 : decode cX12_takesLaw 40 = .ok (.imul, 1) := by decide +kernel
theorem dX12_takesLaw_41 : decode cX12_takesLaw 41 = .ok (.iload_n 2, 1) := by decide +kernel
theorem dX12_takesLaw_42 : decode cX12_takesLaw 42 = .ok (.iadd, 1) := by decide +kernel
theorem dX12_takesLaw_43 : decode cX12_takesLaw 43 = .ok (.aload_n 0, 1) := by decide +kernel
theorem dX12_takesLaw_44 : decode cX12_takesLaw 44 = .ok (.getfield 34, 3) := by decide +kernel
theorem dX12_takesLaw_47 : decode cX12_takesLaw 47 = .ok (.bipush 32, 2) := by decide +kernel
theorem dX12_takesLaw_49 : decode cX12_takesLaw 49 = .ok (.iload_n 2, 1) := by decide +kernel
theorem dX12_takesLaw_50 : decode cX12_takesLaw 50 = .ok (.iadd, 1) := by decide +kernel
theorem dX12_takesLaw_51 : decode cX12_takesLaw 51 = .ok (.iaload, 1) := by decide +kernel
theorem dX12_takesLaw_52 : decode cX12_takesLaw 52 = .ok (.iastore, 1) := by decide +kernel
theorem dX12_takesLaw_53 : decode cX12_takesLaw 53 = .ok (.aload_n 0, 1) := by decide +kernel
theorem dX12_takesLaw_54 : decode cX12_takesLaw 54 = .ok (.getfield 37, 3) := by decide +kernel
theorem dX12_takesLaw_57 : decode cX12_takesLaw 57 = .ok (.bipush 16, 2) := by decide +kernel
theorem dX12_takesLaw_59 : decode cX12_takesLaw 59 = .ok (.aload_n 0, 1) := by decide +kernel
theorem dX12_takesLaw_60 : decode cX12_takesLaw 60 = .ok (.getfield 244, 3) := by decide +kernel
theorem dX12_takesLaw_63 : decode cX12_takesLaw 63 = .ok (.imul, 1) := by decide +kernel
theorem dX12_takesLaw_64 : decode cX12_takesLaw 64 = .ok (.iload_n 2, 1) := by decide +kernel
theorem dX12_takesLaw_65 : decode cX12_takesLaw 65 = .ok (.iadd, 1) := by decide +kernel
theorem dX12_takesLaw_66 : decode cX12_takesLaw 66 = .ok (.aload_n 0, 1) := by decide +kernel
theorem dX12_takesLaw_67 : decode cX12_takesLaw 67 = .ok (.getfield 37, 3) := by decide +kernel
theorem dX12_takesLaw_70 : decode cX12_takesLaw 70 = .ok (.bipush 32, 2) := by decide +kernel
theorem dX12_takesLaw_72 : decode cX12_takesLaw 72 = .ok (.iload_n 2, 1) := by decide +kernel
theorem dX12_takesLaw_73 : decode cX12_takesLaw 73 = .ok (.iadd, 1) := by decide +kernel
theorem dX12_takesLaw_74 : decode cX12_takesLaw 74 = .ok (.iaload, 1) := by decide +kernel
theorem dX12_takesLaw_75 : decode cX12_takesLaw 75 = .ok (.iastore, 1) := by decide +kernel
theorem dX12_takesLaw_76 : decode cX12_takesLaw 76 = .ok (.aload_n 0, 1) := by decide +kernel
theorem dX12_takesLaw_77 : decode cX12_takesLaw 77 = .ok (.getfield 40, 3) := by decide +kernel
theorem dX12_takesLaw_80 : decode cX12_takesLaw 80 = .ok (.bipush 16, 2) := by decide +kernel
theorem dX12_takesLaw_82 : decode cX12_takesLaw 82 = .ok (.aload_n 0, 1) := by decide +kernel
theorem dX12_takesLaw_83 : decode cX12_takesLaw 83 = .ok (.getfield 244, 3) := by decide +kernel
theorem dX12_takesLaw_86 : decode cX12_takesLaw 86 = .ok (.imul, 1) := by decide +kernel
theorem dX12_takesLaw_87 : decode cX12_takesLaw 87 = .ok (.iload_n 2, 1) := by decide +kernel
theorem dX12_takesLaw_88 : decode cX12_takesLaw 88 = .ok (.iadd, 1) := by decide +kernel
theorem dX12_takesLaw_89 : decode cX12_takesLaw 89 = .ok (.aload_n 0, 1) := by decide +kernel
theorem dX12_takesLaw_90 : decode cX12_takesLaw 90 = .ok (.getfield 40, 3) := by decide +kernel
theorem dX12_takesLaw_93 : decode cX12_takesLaw 93 = .ok (.bipush 32, 2) := by decide +kernel
theorem dX12_takesLaw_95 : decode cX12_takesLaw 95 = .ok (.iload_n 2, 1) := by decide +kernel
theorem dX12_takesLaw_96 : decode cX12_takesLaw 96 = .ok (.iadd, 1) := by decide +kernel
theorem dX12_takesLaw_97 : decode cX12_takesLaw 97 = .ok (.iaload, 1) := by decide +kernel
theorem dX12_takesLaw_98 : decode cX12_takesLaw 98 = .ok (.iastore, 1) := by decide +kernel
theorem dX12_takesLaw_99 : decode cX12_takesLaw 99 = .ok (.iinc 2 1, 3) := by decide +kernel
theorem dX12_takesLaw_102 : decode cX12_takesLaw 102 = .ok (.goto (-100), 3) := by decide +kernel
theorem dX12_takesLaw_105 : decode cX12_takesLaw 105 = .ok (.iconst 0, 1) := by decide +kernel
theorem dX12_takesLaw_106 : decode cX12_takesLaw 106 = .ok (.istore_n 2, 1) := by decide +kernel
theorem dX12_takesLaw_107 : decode cX12_takesLaw 107 = .ok (.iload_n 2, 1) := by decide +kernel
theorem dX12_takesLaw_108 : decode cX12_takesLaw 108 = .ok (.aload_n 0, 1) := by decide +kernel
theorem dX12_takesLaw_109 : decode cX12_takesLaw 109 = .ok (.getfield 191, 3) := by decide +kernel
theorem dX12_takesLaw_112 : decode cX12_takesLaw 112 = .ok (.if_icmp .ge 59, 3) := by decide +kernel
theorem dX12_takesLaw_115 : decode cX12_takesLaw 115 = .ok (.aload_n 0, 1) := by decide +kernel
theorem dX12_takesLaw_116 : decode cX12_takesLaw 116 = .ok (.getfield 43, 3) := by decide +kernel
theorem dX12_takesLaw_119 : decode cX12_takesLaw 119 = .ok (.sipush 400, 3) := by decide +kernel
theorem dX12_takesLaw_122 : decode cX12_takesLaw 122 = .ok (.aload_n 0, 1) := by decide +kernel
theorem dX12_takesLaw_123 : decode cX12_takesLaw 123 = .ok (.getfield 244, 3) := by decide +kernel
theorem dX12_takesLaw_126 : decode cX12_takesLaw 126 = .ok (.imul, 1) := by decide +kernel
theorem dX12_takesLaw_127 : decode cX12_takesLaw 127 = .ok (.iload_n 2, 1) := by decide +kernel
theorem dX12_takesLaw_128 : decode cX12_takesLaw 128 = .ok (.iadd, 1) := by decide +kernel
theorem dX12_takesLaw_129 : decode cX12_takesLaw 129 = .ok (.aload_n 0, 1) := by decide +kernel
theorem dX12_takesLaw_130 : decode cX12_takesLaw 130 = .ok (.getfield 43, 3) := by decide +kernel
theorem dX12_takesLaw_133 : decode cX12_takesLaw 133 = .ok (.sipush 800, 3) := by decide +kernel
theorem dX12_takesLaw_136 : decode cX12_takesLaw 136 = .ok (.iload_n 2, 1) := by decide +kernel
theorem dX12_takesLaw_137 : decode cX12_takesLaw 137 = .ok (.iadd, 1) := by decide +kernel
theorem dX12_takesLaw_138 : decode cX12_takesLaw 138 = .ok (.iaload, 1) := by decide +kernel
theorem dX12_takesLaw_139 : decode cX12_takesLaw 139 = .ok (.iastore, 1) := by decide +kernel
theorem dX12_takesLaw_140 : decode cX12_takesLaw 140 = .ok (.aload_n 0, 1) := by decide +kernel
theorem dX12_takesLaw_141 : decode cX12_takesLaw 141 = .ok (.getfield 46, 3) := by decide +kernel
theorem dX12_takesLaw_144 : decode cX12_takesLaw 144 = .ok (.sipush 400, 3) := by decide +kernel
theorem dX12_takesLaw_147 : decode cX12_takesLaw 147 = .ok (.aload_n 0, 1) := by decide +kernel
theorem dX12_takesLaw_148 : decode cX12_takesLaw 148 = .ok (.getfield 244, 3) := by decide +kernel
theorem dX12_takesLaw_151 : decode cX12_takesLaw 151 = .ok (.imul, 1) := by decide +kernel
theorem dX12_takesLaw_152 : decode cX12_takesLaw 152 = .ok (.iload_n 2, 1) := by decide +kernel
theorem dX12_takesLaw_153 : decode cX12_takesLaw 153 = .ok (.iadd, 1) := by decide +kernel
theorem dX12_takesLaw_154 : decode cX12_takesLaw 154 = .ok (.aload_n 0, 1) := by decide +kernel
theorem dX12_takesLaw_155 : decode cX12_takesLaw 155 = .ok (.getfield 46, 3) := by decide +kernel
theorem dX12_takesLaw_158 : decode cX12_takesLaw 158 = .ok (.sipush 800, 3) := by decide +kernel
theorem dX12_takesLaw_161 : decode cX12_takesLaw 161 = .ok (.iload_n 2, 1) := by decide +kernel
theorem dX12_takesLaw_162 : decode cX12_takesLaw 162 = .ok (.iadd, 1) := by decide +kernel
theorem dX12_takesLaw_163 : decode cX12_takesLaw 163 = .ok (.iaload, 1) := by decide +kernel
theorem dX12_takesLaw_164 : decode cX12_takesLaw 164 = .ok (.iastore, 1) := by decide +kernel
theorem dX12_takesLaw_165 : decode cX12_takesLaw 165 = .ok (.iinc 2 1, 3) := by decide +kernel
theorem dX12_takesLaw_168 : decode cX12_takesLaw 168 = .ok (.goto (-61), 3) := by decide +kernel
theorem dX12_takesLaw_171 : decode cX12_takesLaw 171 = .ok (.aload_n 0, 1) := by decide +kernel
theorem dX12_takesLaw_172 : decode cX12_takesLaw 172 = .ok (.getfield 28, 3) := by decide +kernel
theorem dX12_takesLaw_175 : decode cX12_takesLaw 175 = .ok (.aload_n 0, 1) := by decide +kernel
theorem dX12_takesLaw_176 : decode cX12_takesLaw 176 = .ok (.getfield 244, 3) := by decide +kernel
theorem dX12_takesLaw_179 : decode cX12_takesLaw 179 = .ok (.iload_n 1, 1) := by decide +kernel
theorem dX12_takesLaw_180 : decode cX12_takesLaw 180 = .ok (.iastore, 1) := by decide +kernel
theorem dX12_takesLaw_181 : decode cX12_takesLaw 181 = .ok (.return_, 1) := by decide +kernel
def st_X12_takesLaw_2 (x1 : Int32) (x2 : Int32) (s : Mem) : Option ((Int32 × Mem) ⊕ (Mem)) :=
  if x1 ≤ x2 then
  some (.inr (s))
  else
  (rd 48 (s 8) (32 + x2)).bind fun v2 =>
  (wr 48 s 8 ((16 * (s 0 22)) + x2) v2).bind fun s3 =>
  (rd 48 (s3 9) (32 + x2)).bind fun v4 =>
  (wr 48 s3 9 ((16 * (s3 0 22)) + x2) v4).bind fun s5 =>
  (rd 48 (s5 10) (32 + x2)).bind fun v6 =>
  (wr 48 s5 10 ((16 * (s5 0 22)) + x2) v6).bind fun s7 =>
  (rd 48 (s7 11) (32 + x2)).bind fun v8 =>
  (wr 48 s7 11 ((16 * (s7 0 22)) + x2) v8).bind fun s9 =>
  some (.inl ((x2 + 1), s9))
def st_X12_takesLaw_107 (x1 : Int32) (x2 : Int32) (s : Mem) : Option ((Int32 × Mem) ⊕ (Mem)) :=
  if (s 0 23) ≤ x2 then
  some (.inr (s))
  else
  (rd 1200 (s 12) (800 + x2)).bind fun v12 =>
  (wr 1200 s 12 ((400 * (s 0 22)) + x2) v12).bind fun s13 =>
  (rd 1200 (s13 13) (800 + x2)).bind fun v14 =>
  (wr 1200 s13 13 ((400 * (s13 0 22)) + x2) v14).bind fun s15 =>
  some (.inl ((x2 + 1), s15))
def f_X12_takesLaw (x1 : Int32) (s : Mem) : Option (Mem) :=
  (it FUEL (fun y => st_X12_takesLaw_2 x1 y.1 y.2) (0, s)).bind fun r10 =>
  (it FUEL (fun y => st_X12_takesLaw_107 x1 y.1 y.2) (0, r10)).bind fun r16 =>
  (wr 2 r16 7 (r16 0 22) x1).bind fun s17 =>
  some s17
set_option maxRecDepth 100000 in
set_option maxHeartbeats 4000000 in
theorem so_X12_takesLaw_2 {fr : Nat} (hfr : 0 ≤ fr) (Z : AZ) (X : AX Z cX12_takesLaw 3 RX12 none 1 fr) (x1 : Int32) (x2 : Int32) (s : Mem) (q : (Int32 × Mem) ⊕ (Mem)) (h : st_X12_takesLaw_2 x1 x2 s = some q) (hi : ∀ y : Int32 × Mem, q = .inl y → AW Z y.2 2 [some (.ref (zr Z 0)), some (.int x1), some (.int y.1)] []) (he : ∀ b : Mem, q = .inr b → AW Z b 105 [some (.ref (zr Z 0)), some (.int x1), none] []) : AW Z s 2 [some (.ref (zr Z 0)), some (.int x1), some (.int x2)] [] := by
  unfold st_X12_takesLaw_2 at h
  refine aw_iload_n X dX12_takesLaw_2 rfl ?_
  refine aw_iload_n X dX12_takesLaw_3 rfl ?_
  refine aw_icmp_ge (tgt := 105) X dX12_takesLaw_4 (by decide) (fun c1 => ?_) (fun c1 => ?_)
  · rw [if_pos c1] at h
    cases h
    refine aw_msk [true, true, false] ?_
    exact he _ rfl
  · rw [if_neg c1] at h
    refine aw_aload_n X dX12_takesLaw_7 rfl ?_
    refine aw_getr X dX12_takesLaw_8 fl_RX12_31 iu_RX12 gu_RX12_16 ?_
    refine aw_bipush (v := 16) X dX12_takesLaw_11 (by decide) ?_
    refine aw_aload_n X dX12_takesLaw_13 rfl ?_
    refine aw_geti X dX12_takesLaw_14 fl_RX12_244 iu_RX12 gu_RX12_22 ?_
    refine aw_imul X dX12_takesLaw_17 ?_
    refine aw_iload_n X dX12_takesLaw_18 rfl ?_
    refine aw_iadd X dX12_takesLaw_19 ?_
    refine aw_aload_n X dX12_takesLaw_20 rfl ?_
    refine aw_getr X dX12_takesLaw_21 fl_RX12_31 iu_RX12 gu_RX12_16 ?_
    refine aw_bipush (v := 32) X dX12_takesLaw_24 (by decide) ?_
    refine aw_iload_n X dX12_takesLaw_26 rfl ?_
    refine aw_iadd X dX12_takesLaw_27 ?_
    obtain ⟨v2, ev2, h⟩ := bnd h
    refine aw_iald X dX12_takesLaw_28 iu_RX12_16 ev2 ?_
    obtain ⟨s3, es3, h⟩ := bnd h
    refine aw_iast X dX12_takesLaw_29 iu_RX12_16 es3 ?_
    refine aw_aload_n X dX12_takesLaw_30 rfl ?_
    refine aw_getr X dX12_takesLaw_31 fl_RX12_34 iu_RX12 gu_RX12_17 ?_
    refine aw_bipush (v := 16) X dX12_takesLaw_34 (by decide) ?_
    refine aw_aload_n X dX12_takesLaw_36 rfl ?_
    refine aw_geti X dX12_takesLaw_37 fl_RX12_244 iu_RX12 gu_RX12_22 ?_
    refine aw_imul X dX12_takesLaw_40 ?_
    refine aw_iload_n X dX12_takesLaw_41 rfl ?_
    refine aw_iadd X dX12_takesLaw_42 ?_
    refine aw_aload_n X dX12_takesLaw_43 rfl ?_
    refine aw_getr X dX12_takesLaw_44 fl_RX12_34 iu_RX12 gu_RX12_17 ?_
    refine aw_bipush (v := 32) X dX12_takesLaw_47 (by decide) ?_
    refine aw_iload_n X dX12_takesLaw_49 rfl ?_
    refine aw_iadd X dX12_takesLaw_50 ?_
    obtain ⟨v4, ev4, h⟩ := bnd h
    refine aw_iald X dX12_takesLaw_51 iu_RX12_17 ev4 ?_
    obtain ⟨s5, es5, h⟩ := bnd h
    refine aw_iast X dX12_takesLaw_52 iu_RX12_17 es5 ?_
    refine aw_aload_n X dX12_takesLaw_53 rfl ?_
    refine aw_getr X dX12_takesLaw_54 fl_RX12_37 iu_RX12 gu_RX12_18 ?_
    refine aw_bipush (v := 16) X dX12_takesLaw_57 (by decide) ?_
    refine aw_aload_n X dX12_takesLaw_59 rfl ?_
    refine aw_geti X dX12_takesLaw_60 fl_RX12_244 iu_RX12 gu_RX12_22 ?_
    refine aw_imul X dX12_takesLaw_63 ?_
    refine aw_iload_n X dX12_takesLaw_64 rfl ?_
    refine aw_iadd X dX12_takesLaw_65 ?_
    refine aw_aload_n X dX12_takesLaw_66 rfl ?_
    refine aw_getr X dX12_takesLaw_67 fl_RX12_37 iu_RX12 gu_RX12_18 ?_
    refine aw_bipush (v := 32) X dX12_takesLaw_70 (by decide) ?_
    refine aw_iload_n X dX12_takesLaw_72 rfl ?_
    refine aw_iadd X dX12_takesLaw_73 ?_
    obtain ⟨v6, ev6, h⟩ := bnd h
    refine aw_iald X dX12_takesLaw_74 iu_RX12_18 ev6 ?_
    obtain ⟨s7, es7, h⟩ := bnd h
    refine aw_iast X dX12_takesLaw_75 iu_RX12_18 es7 ?_
    refine aw_aload_n X dX12_takesLaw_76 rfl ?_
    refine aw_getr X dX12_takesLaw_77 fl_RX12_40 iu_RX12 gu_RX12_19 ?_
    refine aw_bipush (v := 16) X dX12_takesLaw_80 (by decide) ?_
    refine aw_aload_n X dX12_takesLaw_82 rfl ?_
    refine aw_geti X dX12_takesLaw_83 fl_RX12_244 iu_RX12 gu_RX12_22 ?_
    refine aw_imul X dX12_takesLaw_86 ?_
    refine aw_iload_n X dX12_takesLaw_87 rfl ?_
    refine aw_iadd X dX12_takesLaw_88 ?_
    refine aw_aload_n X dX12_takesLaw_89 rfl ?_
    refine aw_getr X dX12_takesLaw_90 fl_RX12_40 iu_RX12 gu_RX12_19 ?_
    refine aw_bipush (v := 32) X dX12_takesLaw_93 (by decide) ?_
    refine aw_iload_n X dX12_takesLaw_95 rfl ?_
    refine aw_iadd X dX12_takesLaw_96 ?_
    obtain ⟨v8, ev8, h⟩ := bnd h
    refine aw_iald X dX12_takesLaw_97 iu_RX12_19 ev8 ?_
    obtain ⟨s9, es9, h⟩ := bnd h
    refine aw_iast X dX12_takesLaw_98 iu_RX12_19 es9 ?_
    refine aw_iinc (v := (x2 + 1)) (L' := [some (.ref (zr Z 0)), some (.int x1), some (.int (x2 + 1))]) X dX12_takesLaw_99 rfl rfl (by decide) rfl ?_
    refine aw_goto (tgt := 2) X dX12_takesLaw_102 (by decide) ?_
    cases h
    refine aw_msk [true, true, true] ?_
    exact hi _ rfl
set_option maxRecDepth 100000 in
set_option maxHeartbeats 4000000 in
theorem so_X12_takesLaw_107 {fr : Nat} (hfr : 0 ≤ fr) (Z : AZ) (X : AX Z cX12_takesLaw 3 RX12 none 1 fr) (x1 : Int32) (x2 : Int32) (s : Mem) (q : (Int32 × Mem) ⊕ (Mem)) (h : st_X12_takesLaw_107 x1 x2 s = some q) (hi : ∀ y : Int32 × Mem, q = .inl y → AW Z y.2 107 [some (.ref (zr Z 0)), some (.int x1), some (.int y.1)] []) (he : ∀ b : Mem, q = .inr b → AW Z b 171 [some (.ref (zr Z 0)), some (.int x1), none] []) : AW Z s 107 [some (.ref (zr Z 0)), some (.int x1), some (.int x2)] [] := by
  unfold st_X12_takesLaw_107 at h
  refine aw_iload_n X dX12_takesLaw_107 rfl ?_
  refine aw_aload_n X dX12_takesLaw_108 rfl ?_
  refine aw_geti X dX12_takesLaw_109 fl_RX12_191 iu_RX12 gu_RX12_23 ?_
  refine aw_icmp_ge (tgt := 171) X dX12_takesLaw_112 (by decide) (fun c11 => ?_) (fun c11 => ?_)
  · rw [if_pos c11] at h
    cases h
    refine aw_msk [true, true, false] ?_
    exact he _ rfl
  · rw [if_neg c11] at h
    refine aw_aload_n X dX12_takesLaw_115 rfl ?_
    refine aw_getr X dX12_takesLaw_116 fl_RX12_43 iu_RX12 gu_RX12_20 ?_
    refine aw_sipush (v := 400) X dX12_takesLaw_119 (by decide) ?_
    refine aw_aload_n X dX12_takesLaw_122 rfl ?_
    refine aw_geti X dX12_takesLaw_123 fl_RX12_244 iu_RX12 gu_RX12_22 ?_
    refine aw_imul X dX12_takesLaw_126 ?_
    refine aw_iload_n X dX12_takesLaw_127 rfl ?_
    refine aw_iadd X dX12_takesLaw_128 ?_
    refine aw_aload_n X dX12_takesLaw_129 rfl ?_
    refine aw_getr X dX12_takesLaw_130 fl_RX12_43 iu_RX12 gu_RX12_20 ?_
    refine aw_sipush (v := 800) X dX12_takesLaw_133 (by decide) ?_
    refine aw_iload_n X dX12_takesLaw_136 rfl ?_
    refine aw_iadd X dX12_takesLaw_137 ?_
    obtain ⟨v12, ev12, h⟩ := bnd h
    refine aw_iald X dX12_takesLaw_138 iu_RX12_20 ev12 ?_
    obtain ⟨s13, es13, h⟩ := bnd h
    refine aw_iast X dX12_takesLaw_139 iu_RX12_20 es13 ?_
    refine aw_aload_n X dX12_takesLaw_140 rfl ?_
    refine aw_getr X dX12_takesLaw_141 fl_RX12_46 iu_RX12 gu_RX12_21 ?_
    refine aw_sipush (v := 400) X dX12_takesLaw_144 (by decide) ?_
    refine aw_aload_n X dX12_takesLaw_147 rfl ?_
    refine aw_geti X dX12_takesLaw_148 fl_RX12_244 iu_RX12 gu_RX12_22 ?_
    refine aw_imul X dX12_takesLaw_151 ?_
    refine aw_iload_n X dX12_takesLaw_152 rfl ?_
    refine aw_iadd X dX12_takesLaw_153 ?_
    refine aw_aload_n X dX12_takesLaw_154 rfl ?_
    refine aw_getr X dX12_takesLaw_155 fl_RX12_46 iu_RX12 gu_RX12_21 ?_
    refine aw_sipush (v := 800) X dX12_takesLaw_158 (by decide) ?_
    refine aw_iload_n X dX12_takesLaw_161 rfl ?_
    refine aw_iadd X dX12_takesLaw_162 ?_
    obtain ⟨v14, ev14, h⟩ := bnd h
    refine aw_iald X dX12_takesLaw_163 iu_RX12_21 ev14 ?_
    obtain ⟨s15, es15, h⟩ := bnd h
    refine aw_iast X dX12_takesLaw_164 iu_RX12_21 es15 ?_
    refine aw_iinc (v := (x2 + 1)) (L' := [some (.ref (zr Z 0)), some (.int x1), some (.int (x2 + 1))]) X dX12_takesLaw_165 rfl rfl (by decide) rfl ?_
    refine aw_goto (tgt := 107) X dX12_takesLaw_168 (by decide) ?_
    cases h
    refine aw_msk [true, true, true] ?_
    exact hi _ rfl
set_option maxRecDepth 100000 in
set_option maxHeartbeats 4000000 in
theorem w_X12_takesLaw {fr : Nat} (hfr : 0 ≤ fr) (Z : AZ) (X : AX Z cX12_takesLaw 3 RX12 none 1 fr) (x1 : Int32) (s : Mem) (r : Mem) (hz : zres Z = (none, r)) (h : f_X12_takesLaw x1 s = some r) : AW Z s 0 [some (.ref (zr Z 0)), some (.int x1), none] [] := by
  unfold f_X12_takesLaw at h
  refine aw_iconst (v := 0) X dX12_takesLaw_0 (by decide) ?_
  refine aw_istore_n (L' := [some (.ref (zr Z 0)), some (.int x1), some (.int 0)]) X dX12_takesLaw_1 (by decide) rfl ?_
  obtain ⟨r10, er10, h⟩ := bnd h
  refine aw_msk [true, true, true] ?_
  refine it_ok (P := fun y : Int32 × Mem => AW Z y.2 2 [some (.ref (zr Z 0)), some (.int x1), some (.int y.1)] []) (Q := fun b : Mem => AW Z b 105 [some (.ref (zr Z 0)), some (.int x1), none] []) (fun y q hq hi he => so_X12_takesLaw_2 hfr Z X x1 y.1 y.2 q hq hi he) FUEL _ _ er10 ?_
  refine aw_iconst (v := 0) X dX12_takesLaw_105 (by decide) ?_
  refine aw_istore_n (L' := [some (.ref (zr Z 0)), some (.int x1), some (.int 0)]) X dX12_takesLaw_106 (by decide) rfl ?_
  obtain ⟨r16, er16, h⟩ := bnd h
  refine aw_msk [true, true, true] ?_
  refine it_ok (P := fun y : Int32 × Mem => AW Z y.2 107 [some (.ref (zr Z 0)), some (.int x1), some (.int y.1)] []) (Q := fun b : Mem => AW Z b 171 [some (.ref (zr Z 0)), some (.int x1), none] []) (fun y q hq hi he => so_X12_takesLaw_107 hfr Z X x1 y.1 y.2 q hq hi he) FUEL _ _ er16 ?_
  refine aw_aload_n X dX12_takesLaw_171 rfl ?_
  refine aw_getr X dX12_takesLaw_172 fl_RX12_28 iu_RX12 gu_RX12_15 ?_
  refine aw_aload_n X dX12_takesLaw_175 rfl ?_
  refine aw_geti X dX12_takesLaw_176 fl_RX12_244 iu_RX12 gu_RX12_22 ?_
  refine aw_iload_n X dX12_takesLaw_179 rfl ?_
  obtain ⟨s17, es17, h⟩ := bnd h
  refine aw_iast X dX12_takesLaw_180 iu_RX12_15 es17 ?_
  cases h
  exact aw_vret X dX12_takesLaw_181 rfl hz.symm
set_option maxRecDepth 100000 in
set_option maxHeartbeats 4000000 in
theorem ok_X12_takesLaw {x1 : Int32} {s : Mem} {r : Mem} (h : f_X12_takesLaw x1 s = some r) (l : Launch) (D : va_G) (ρ : Nat → Nat) (cA : ClassId × ClassId × ClassId) (τ : AT) : AM l D ρ cA 1 τ yX12_takesLaw cX12_takesLaw 3 none 0 [.ref (ρ 0), .int x1] none s r := by
  refine AM_of (L := [some (.ref (ρ 0)), some (.int x1), none]) (by decide) (by simp [Value.category]) (Nat.le_of_ble_eq_true rfl) (fun j v q => ?_) (fun Z X hρ hz => ?_)
  · exact aL_ok (n := 1) [.ref (ρ 0), .int x1] j v q
  · subst hρ
    exact w_X12_takesLaw (Nat.le_refl _) Z X x1 s r hz h

theorem dX12_readNumber_0 : decode cX12_readNumber 0 = .ok (.aload_n 0, 1) := by decide +kernel
theorem dX12_readNumber_1 : decode cX12_readNumber 1 = .ok (.getfield 166, 3) := by decide +kernel
theorem dX12_readNumber_4 : decode cX12_readNumber 4 = .ok (.iconst 3, 1) := by decide +kernel
theorem dX12_readNumber_5 : decode cX12_readNumber 5 = .ok (.if_icmp .eq 9, 3) := by decide +kernel
theorem dX12_readNumber_8 : decode cX12_readNumber 8 = .ok (.aload_n 0, 1) := by decide +kernel
theorem dX12_readNumber_9 : decode cX12_readNumber 9 = .ok (.iconst 1, 1) := by decide +kernel
theorem dX12_readNumber_10 : decode cX12_readNumber 10 = .ok (.invokevirtual 197, 3) := by decide +kernel
theorem dX12_readNumber_13 : decode cX12_readNumber 13 = .ok (.ireturn, 1) := by decide +kernel
theorem dX12_readNumber_14 : decode cX12_readNumber 14 = .ok (.aload_n 0, 1) := by decide +kernel
theorem dX12_readNumber_15 : decode cX12_readNumber 15 = .ok (.aload_n 0, 1) := by decide +kernel
theorem dX12_readNumber_16 : decode cX12_readNumber 16 = .ok (.getfield 169, 3) := by decide +kernel
theorem dX12_readNumber_19 : decode cX12_readNumber 19 = .ok (.iload_n 1, 1) := by decide +kernel
theorem dX12_readNumber_20 : decode cX12_readNumber 20 = .ok (.iload_n 2, 1) := by decide +kernel
theorem dX12_readNumber_21 : decode cX12_readNumber 21 = .ok (.invokevirtual 137, 3) := by decide +kernel
theorem dX12_readNumber_24 : decode cX12_readNumber 24 = .ok (.ifCond .ne 9, 3) := by decide +kernel
theorem dX12_readNumber_27 : decode cX12_readNumber 27 = .ok (.aload_n 0, 1) := by decide +kernel
theorem dX12_readNumber_28 : decode cX12_readNumber 28 = .ok (.iconst 2, 1) := by decide +kernel
theorem dX12_readNumber_29 : decode cX12_readNumber 29 = .ok (.invokevirtual 197, 3) := by decide +kernel
theorem dX12_readNumber_32 : decode cX12_readNumber 32 = .ok (.ireturn, 1) := by decide +kernel
theorem dX12_readNumber_33 : decode cX12_readNumber 33 = .ok (.aload_n 0, 1) := by decide +kernel
theorem dX12_readNumber_34 : decode cX12_readNumber 34 = .ok (.getfield 169, 3) := by decide +kernel
theorem dX12_readNumber_37 : decode cX12_readNumber 37 = .ok (.istore_n 3, 1) := by decide +kernel
theorem dX12_readNumber_38 : decode cX12_readNumber 38 = .ok (.aload_n 0, 1) := by decide +kernel
theorem dX12_readNumber_39 : decode cX12_readNumber 39 = .ok (.invokevirtual 203, 3) := by decide +kernel
theorem dX12_readNumber_42 : decode cX12_readNumber 42 = .ok (.iload_n 3, 1) := by decide +kernel
theorem dX12_readNumber_43 : decode cX12_readNumber 43 = .ok (.ireturn, 1) := by decide +kernel
def f_X12_readNumber (x1 : Int32) (x2 : Int32) (s : Mem) : Option (Int32 × Mem) :=
  if (s 0 12) = 3 then
  (f_X12_isIn (s 0 13) x1 x2 s).bind fun r2 =>
  if r2.1 = 0 then
  (f_X12_errs 2 r2.2).bind fun r5 =>
  some (r5.1, r5.2)
  else
  (f_X12_reads r2.2).bind fun r4 =>
  some ((r2.2 0 13), r4)
  else
  (f_X12_errs 1 s).bind fun r6 =>
  some (r6.1, r6.2)
set_option maxRecDepth 100000 in
set_option maxHeartbeats 4000000 in
theorem w_X12_readNumber {fr : Nat} (hfr : 3 ≤ fr) (Z : AZ) (X : AX Z cX12_readNumber 4 RX12 (some .int) 1 fr) (x1 : Int32) (x2 : Int32) (s : Mem) (r : Int32 × Mem) (hz : zres Z = (some (.int r.1), r.2)) (h : f_X12_readNumber x1 x2 s = some r) : AW Z s 0 [some (.ref (zr Z 0)), some (.int x1), some (.int x2), none] [] := by
  unfold f_X12_readNumber at h
  refine aw_aload_n X dX12_readNumber_0 rfl ?_
  refine aw_geti X dX12_readNumber_1 fl_RX12_166 iu_RX12 gu_RX12_12 ?_
  refine aw_iconst (v := 3) X dX12_readNumber_4 (by decide) ?_
  refine aw_icmp_eq (tgt := 14) X dX12_readNumber_5 (by decide) (fun c1 => ?_) (fun c1 => ?_)
  · rw [if_pos c1] at h
    refine aw_aload_n X dX12_readNumber_14 rfl ?_
    refine aw_aload_n X dX12_readNumber_15 rfl ?_
    refine aw_geti X dX12_readNumber_16 fl_RX12_169 iu_RX12 gu_RX12_13 ?_
    refine aw_iload_n X dX12_readNumber_19 rfl ?_
    refine aw_iload_n X dX12_readNumber_20 rfl ?_
    obtain ⟨r2, er2, h⟩ := bnd h
    refine aw_callV X dX12_readNumber_21 cv_RX12_137 (ok_X12_isIn er2 _ _ _ _ _) iu_RX12 rfl (Nat.le_trans (by decide) hfr) (by decide) rfl rfl (Nat.le_of_ble_eq_true rfl) ?_
    refine aw_if_ne (tgt := 33) X dX12_readNumber_24 (by decide) (fun c3 => ?_) (fun c3 => ?_)
    · rw [if_neg c3] at h
      refine aw_aload_n X dX12_readNumber_33 rfl ?_
      refine aw_geti X dX12_readNumber_34 fl_RX12_169 iu_RX12 gu_RX12_13 ?_
      refine aw_istore_n (L' := [some (.ref (zr Z 0)), some (.int x1), some (.int x2), some (.int (r2.2 0 13))]) X dX12_readNumber_37 (by decide) rfl ?_
      refine aw_aload_n X dX12_readNumber_38 rfl ?_
      obtain ⟨r4, er4, h⟩ := bnd h
      refine aw_callV X dX12_readNumber_39 cv_RX12_203 (ok_X12_reads er4 _ _ _ _ _) iu_RX12 rfl (Nat.le_trans (by decide) hfr) (by decide) rfl rfl (Nat.le_of_ble_eq_true rfl) ?_
      refine aw_iload_n X dX12_readNumber_42 rfl ?_
      cases h
      exact aw_iret X dX12_readNumber_43 rfl hz.symm
    · rw [if_pos c3] at h
      refine aw_aload_n X dX12_readNumber_27 rfl ?_
      refine aw_iconst (v := 2) X dX12_readNumber_28 (by decide) ?_
      obtain ⟨r5, er5, h⟩ := bnd h
      refine aw_callV X dX12_readNumber_29 cv_RX12_197 (ok_X12_errs er5 _ _ _ _ _) iu_RX12 rfl (Nat.le_trans (by decide) hfr) (by decide) rfl rfl (Nat.le_of_ble_eq_true rfl) ?_
      cases h
      exact aw_iret X dX12_readNumber_32 rfl hz.symm
  · rw [if_neg c1] at h
    refine aw_aload_n X dX12_readNumber_8 rfl ?_
    refine aw_iconst (v := 1) X dX12_readNumber_9 (by decide) ?_
    obtain ⟨r6, er6, h⟩ := bnd h
    refine aw_callV X dX12_readNumber_10 cv_RX12_197 (ok_X12_errs er6 _ _ _ _ _) iu_RX12 rfl (Nat.le_trans (by decide) hfr) (by decide) rfl rfl (Nat.le_of_ble_eq_true rfl) ?_
    cases h
    exact aw_iret X dX12_readNumber_13 rfl hz.symm
set_option maxRecDepth 100000 in
set_option maxHeartbeats 4000000 in
theorem ok_X12_readNumber {x1 x2 : Int32} {s : Mem} {r : Int32 × Mem} (h : f_X12_readNumber x1 x2 s = some r) (l : Launch) (D : va_G) (ρ : Nat → Nat) (cA : ClassId × ClassId × ClassId) (τ : AT) : AM l D ρ cA 1 τ yX12_readNumber cX12_readNumber 4 (some .int) 3 [.ref (ρ 0), .int x1, .int x2] (some (.int r.1)) s r.2 := by
  refine AM_of (L := [some (.ref (ρ 0)), some (.int x1), some (.int x2), none]) (by decide) (by simp [Value.category]) (Nat.le_of_ble_eq_true rfl) (fun j v q => ?_) (fun Z X hρ hz => ?_)
  · exact aL_ok (n := 1) [.ref (ρ 0), .int x1, .int x2] j v q
  · subst hρ
    exact w_X12_readNumber (Nat.le_refl _) Z X x1 x2 s r hz h

theorem dX12_readMark_0 : decode cX12_readMark 0 = .ok (.aload_n 0, 1) := by decide +kernel
theorem dX12_readMark_1 : decode cX12_readMark 1 = .ok (.iload_n 1, 1) := by decide +kernel
theorem dX12_readMark_2 : decode cX12_readMark 2 = .ok (.invokevirtual 210, 3) := by decide +kernel
theorem dX12_readMark_5 : decode cX12_readMark 5 = .ok (.ifCond .ne 9, 3) := by decide +kernel
theorem dX12_readMark_8 : decode cX12_readMark 8 = .ok (.aload_n 0, 1) := by decide +kernel
theorem dX12_readMark_9 : decode cX12_readMark 9 = .ok (.iconst 1, 1) := by decide +kernel
theorem dX12_readMark_10 : decode cX12_readMark 10 = .ok (.invokevirtual 197, 3) := by decide +kernel
theorem dX12_readMark_13 : decode cX12_readMark 13 = .ok (.ireturn, 1) := by decide +kernel
theorem dX12_readMark_14 : decode cX12_readMark 14 = .ok (.aload_n 0, 1) := by decide +kernel
theorem dX12_readMark_15 : decode cX12_readMark 15 = .ok (.invokevirtual 203, 3) := by decide +kernel
theorem dX12_readMark_18 : decode cX12_readMark 18 = .ok (.iconst 0, 1) := by decide +kernel
theorem dX12_readMark_19 : decode cX12_readMark 19 = .ok (.ireturn, 1) := by decide +kernel
def f_X12_readMark (x1 : Int32) (s : Mem) : Option (Int32 × Mem) :=
  (f_X12_isSign x1 s).bind fun r1 =>
  if r1.1 = 0 then
  (f_X12_errs 1 r1.2).bind fun r4 =>
  some (r4.1, r4.2)
  else
  (f_X12_reads r1.2).bind fun r3 =>
  some (0, r3)
set_option maxRecDepth 100000 in
set_option maxHeartbeats 4000000 in
theorem w_X12_readMark {fr : Nat} (hfr : 3 ≤ fr) (Z : AZ) (X : AX Z cX12_readMark 2 RX12 (some .int) 1 fr) (x1 : Int32) (s : Mem) (r : Int32 × Mem) (hz : zres Z = (some (.int r.1), r.2)) (h : f_X12_readMark x1 s = some r) : AW Z s 0 [some (.ref (zr Z 0)), some (.int x1)] [] := by
  unfold f_X12_readMark at h
  refine aw_aload_n X dX12_readMark_0 rfl ?_
  refine aw_iload_n X dX12_readMark_1 rfl ?_
  obtain ⟨r1, er1, h⟩ := bnd h
  refine aw_callV X dX12_readMark_2 cv_RX12_210 (ok_X12_isSign er1 _ _ _ _ _) iu_RX12 rfl (Nat.le_trans (by decide) hfr) (by decide) rfl rfl (Nat.le_of_ble_eq_true rfl) ?_
  refine aw_if_ne (tgt := 14) X dX12_readMark_5 (by decide) (fun c2 => ?_) (fun c2 => ?_)
  · rw [if_neg c2] at h
    refine aw_aload_n X dX12_readMark_14 rfl ?_
    obtain ⟨r3, er3, h⟩ := bnd h
    refine aw_callV X dX12_readMark_15 cv_RX12_203 (ok_X12_reads er3 _ _ _ _ _) iu_RX12 rfl (Nat.le_trans (by decide) hfr) (by decide) rfl rfl (Nat.le_of_ble_eq_true rfl) ?_
    refine aw_iconst (v := 0) X dX12_readMark_18 (by decide) ?_
    cases h
    exact aw_iret X dX12_readMark_19 rfl hz.symm
  · rw [if_pos c2] at h
    refine aw_aload_n X dX12_readMark_8 rfl ?_
    refine aw_iconst (v := 1) X dX12_readMark_9 (by decide) ?_
    obtain ⟨r4, er4, h⟩ := bnd h
    refine aw_callV X dX12_readMark_10 cv_RX12_197 (ok_X12_errs er4 _ _ _ _ _) iu_RX12 rfl (Nat.le_trans (by decide) hfr) (by decide) rfl rfl (Nat.le_of_ble_eq_true rfl) ?_
    cases h
    exact aw_iret X dX12_readMark_13 rfl hz.symm
set_option maxRecDepth 100000 in
set_option maxHeartbeats 4000000 in
theorem ok_X12_readMark {x1 : Int32} {s : Mem} {r : Int32 × Mem} (h : f_X12_readMark x1 s = some r) (l : Launch) (D : va_G) (ρ : Nat → Nat) (cA : ClassId × ClassId × ClassId) (τ : AT) : AM l D ρ cA 1 τ yX12_readMark cX12_readMark 2 (some .int) 3 [.ref (ρ 0), .int x1] (some (.int r.1)) s r.2 := by
  refine AM_of (L := [some (.ref (ρ 0)), some (.int x1)]) (by decide) (by simp [Value.category]) (Nat.le_of_ble_eq_true rfl) (fun j v q => ?_) (fun Z X hρ hz => ?_)
  · exact aL_ok (n := 0) [.ref (ρ 0), .int x1] j v q
  · subst hρ
    exact w_X12_readMark (Nat.le_refl _) Z X x1 s r hz h

theorem dX12_readTold_0 : decode cX12_readTold 0 = .ok (.aload_n 0, 1) := by decide +kernel
theorem dX12_readTold_1 : decode cX12_readTold 1 = .ok (.iload_n 1, 1) := by decide +kernel
theorem dX12_readTold_2 : decode cX12_readTold 2 = .ok (.invokevirtual 225, 3) := by decide +kernel
theorem dX12_readTold_5 : decode cX12_readTold 5 = .ok (.ifCond .ne 9, 3) := by decide +kernel
theorem dX12_readTold_8 : decode cX12_readTold 8 = .ok (.aload_n 0, 1) := by decide +kernel
theorem dX12_readTold_9 : decode cX12_readTold 9 = .ok (.iconst 1, 1) := by decide +kernel
theorem dX12_readTold_10 : decode cX12_readTold 10 = .ok (.invokevirtual 197, 3) := by decide +kernel
theorem dX12_readTold_13 : decode cX12_readTold 13 = .ok (.ireturn, 1) := by decide +kernel
theorem dX12_readTold_14 : decode cX12_readTold 14 = .ok (.aload_n 0, 1) := by decide +kernel
theorem dX12_readTold_15 : decode cX12_readTold 15 = .ok (.invokevirtual 203, 3) := by decide +kernel
theorem dX12_readTold_18 : decode cX12_readTold 18 = .ok (.aload_n 0, 1) := by decide +kernel
theorem dX12_readTold_19 : decode cX12_readTold 19 = .ok (.iload_n 2, 1) := by decide +kernel
theorem dX12_readTold_20 : decode cX12_readTold 20 = .ok (.iload_n 3, 1) := by decide +kernel
theorem dX12_readTold_21 : decode cX12_readTold 21 = .ok (.invokevirtual 247, 3) := by decide +kernel
theorem dX12_readTold_24 : decode cX12_readTold 24 = .ok (.ireturn, 1) := by decide +kernel
def f_X12_readTold (x1 : Int32) (x2 : Int32) (x3 : Int32) (s : Mem) : Option (Int32 × Mem) :=
  (f_X12_isWord x1 s).bind fun r1 =>
  if r1.1 = 0 then
  (f_X12_errs 1 r1.2).bind fun r5 =>
  some (r5.1, r5.2)
  else
  (f_X12_reads r1.2).bind fun r3 =>
  (f_X12_readNumber x2 x3 r3).bind fun r4 =>
  some (r4.1, r4.2)
set_option maxRecDepth 100000 in
set_option maxHeartbeats 4000000 in
theorem w_X12_readTold {fr : Nat} (hfr : 4 ≤ fr) (Z : AZ) (X : AX Z cX12_readTold 4 RX12 (some .int) 1 fr) (x1 : Int32) (x2 : Int32) (x3 : Int32) (s : Mem) (r : Int32 × Mem) (hz : zres Z = (some (.int r.1), r.2)) (h : f_X12_readTold x1 x2 x3 s = some r) : AW Z s 0 [some (.ref (zr Z 0)), some (.int x1), some (.int x2), some (.int x3)] [] := by
  unfold f_X12_readTold at h
  refine aw_aload_n X dX12_readTold_0 rfl ?_
  refine aw_iload_n X dX12_readTold_1 rfl ?_
  obtain ⟨r1, er1, h⟩ := bnd h
  refine aw_callV X dX12_readTold_2 cv_RX12_225 (ok_X12_isWord er1 _ _ _ _ _) iu_RX12 rfl (Nat.le_trans (by decide) hfr) (by decide) rfl rfl (Nat.le_of_ble_eq_true rfl) ?_
  refine aw_if_ne (tgt := 14) X dX12_readTold_5 (by decide) (fun c2 => ?_) (fun c2 => ?_)
  · rw [if_neg c2] at h
    refine aw_aload_n X dX12_readTold_14 rfl ?_
    obtain ⟨r3, er3, h⟩ := bnd h
    refine aw_callV X dX12_readTold_15 cv_RX12_203 (ok_X12_reads er3 _ _ _ _ _) iu_RX12 rfl (Nat.le_trans (by decide) hfr) (by decide) rfl rfl (Nat.le_of_ble_eq_true rfl) ?_
    refine aw_aload_n X dX12_readTold_18 rfl ?_
    refine aw_iload_n X dX12_readTold_19 rfl ?_
    refine aw_iload_n X dX12_readTold_20 rfl ?_
    obtain ⟨r4, er4, h⟩ := bnd h
    refine aw_callV X dX12_readTold_21 cv_RX12_247 (ok_X12_readNumber er4 _ _ _ _ _) iu_RX12 rfl (Nat.le_trans (by decide) hfr) (by decide) rfl rfl (Nat.le_of_ble_eq_true rfl) ?_
    cases h
    exact aw_iret X dX12_readTold_24 rfl hz.symm
  · rw [if_pos c2] at h
    refine aw_aload_n X dX12_readTold_8 rfl ?_
    refine aw_iconst (v := 1) X dX12_readTold_9 (by decide) ?_
    obtain ⟨r5, er5, h⟩ := bnd h
    refine aw_callV X dX12_readTold_10 cv_RX12_197 (ok_X12_errs er5 _ _ _ _ _) iu_RX12 rfl (Nat.le_trans (by decide) hfr) (by decide) rfl rfl (Nat.le_of_ble_eq_true rfl) ?_
    cases h
    exact aw_iret X dX12_readTold_13 rfl hz.symm
set_option maxRecDepth 100000 in
set_option maxHeartbeats 4000000 in
theorem ok_X12_readTold {x1 x2 x3 : Int32} {s : Mem} {r : Int32 × Mem} (h : f_X12_readTold x1 x2 x3 s = some r) (l : Launch) (D : va_G) (ρ : Nat → Nat) (cA : ClassId × ClassId × ClassId) (τ : AT) : AM l D ρ cA 1 τ yX12_readTold cX12_readTold 4 (some .int) 4 [.ref (ρ 0), .int x1, .int x2, .int x3] (some (.int r.1)) s r.2 := by
  refine AM_of (L := [some (.ref (ρ 0)), some (.int x1), some (.int x2), some (.int x3)]) (by decide) (by simp [Value.category]) (Nat.le_of_ble_eq_true rfl) (fun j v q => ?_) (fun Z X hρ hz => ?_)
  · exact aL_ok (n := 0) [.ref (ρ 0), .int x1, .int x2, .int x3] j v q
  · subst hρ
    exact w_X12_readTold (Nat.le_refl _) Z X x1 x2 x3 s r hz h

theorem dX12_readOther_0 : decode cX12_readOther 0 = .ok (.aload_n 0, 1) := by decide +kernel
theorem dX12_readOther_1 : decode cX12_readOther 1 = .ok (.getfield 166, 3) := by decide +kernel
theorem dX12_readOther_4 : decode cX12_readOther 4 = .ok (.iconst 3, 1) := by decide +kernel
theorem dX12_readOther_5 : decode cX12_readOther 5 = .ok (.if_icmp .ne 17, 3) := by decide +kernel
theorem dX12_readOther_8 : decode cX12_readOther 8 = .ok (.aload_n 0, 1) := by decide +kernel
theorem dX12_readOther_9 : decode cX12_readOther 9 = .ok (.getfield 169, 3) := by decide +kernel
theorem dX12_readOther_12 : decode cX12_readOther 12 = .ok (.iload_n 1, 1) := by decide +kernel
theorem dX12_readOther_13 : decode cX12_readOther 13 = .ok (.if_icmp .ne 9, 3) := by decide +kernel
theorem dX12_readOther_16 : decode cX12_readOther 16 = .ok (.aload_n 0, 1) := by decide +kernel
theorem dX12_readOther_17 : decode cX12_readOther 17 = .ok (.iconst 2, 1) := by decide +kernel
theorem dX12_readOther_18 : decode cX12_readOther 18 = .ok (.invokevirtual 197, 3) := by decide +kernel
theorem dX12_readOther_21 : decode cX12_readOther 21 = .ok (.ireturn, 1) := by decide +kernel
theorem dX12_readOther_22 : decode cX12_readOther 22 = .ok (.aload_n 0, 1) := by decide +kernel
theorem dX12_readOther_23 : decode cX12_readOther 23 = .ok (.iconst 0, 1) := by decide +kernel
theorem dX12_readOther_24 : decode cX12_readOther 24 = .ok (.aload_n 0, 1) := by decide +kernel
theorem dX12_readOther_25 : decode cX12_readOther 25 = .ok (.getfield 134, 3) := by decide +kernel
theorem dX12_readOther_28 : decode cX12_readOther 28 = .ok (.iconst 1, 1) := by decide +kernel
theorem dX12_readOther_29 : decode cX12_readOther 29 = .ok (.isub, 1) := by decide +kernel
theorem dX12_readOther_30 : decode cX12_readOther 30 = .ok (.invokevirtual 247, 3) := by decide +kernel
theorem dX12_readOther_33 : decode cX12_readOther 33 = .ok (.ireturn, 1) := by decide +kernel
def jn_X12_readOther_22 (s : Mem) : Option (Int32 × Mem) :=
  (f_X12_readNumber 0 ((s 0 6) - 1) s).bind fun r2 =>
  some (r2.1, r2.2)
def f_X12_readOther (x1 : Int32) (s : Mem) : Option (Int32 × Mem) :=
  if (s 0 12) = 3 then
  if (s 0 13) = x1 then
  (f_X12_errs 2 s).bind fun r4 =>
  some (r4.1, r4.2)
  else
  jn_X12_readOther_22 s
  else
  jn_X12_readOther_22 s
set_option maxRecDepth 100000 in
set_option maxHeartbeats 4000000 in
theorem jo_X12_readOther_22 {fr : Nat} (hfr : 4 ≤ fr) (Z : AZ) (X : AX Z cX12_readOther 2 RX12 (some .int) 1 fr) (s : Mem) (r : Int32 × Mem) (hz : zres Z = (some (.int r.1), r.2)) (h : jn_X12_readOther_22 s = some r) : AW Z s 22 [some (.ref (zr Z 0)), none] [] := by
  unfold jn_X12_readOther_22 at h
  refine aw_aload_n X dX12_readOther_22 rfl ?_
  refine aw_iconst (v := 0) X dX12_readOther_23 (by decide) ?_
  refine aw_aload_n X dX12_readOther_24 rfl ?_
  refine aw_geti X dX12_readOther_25 fl_RX12_134 iu_RX12 gu_RX12_6 ?_
  refine aw_iconst (v := 1) X dX12_readOther_28 (by decide) ?_
  refine aw_isub X dX12_readOther_29 ?_
  obtain ⟨r2, er2, h⟩ := bnd h
  refine aw_callV X dX12_readOther_30 cv_RX12_247 (ok_X12_readNumber er2 _ _ _ _ _) iu_RX12 rfl (Nat.le_trans (by decide) hfr) (by decide) rfl rfl (Nat.le_of_ble_eq_true rfl) ?_
  cases h
  exact aw_iret X dX12_readOther_33 rfl hz.symm
set_option maxRecDepth 100000 in
set_option maxHeartbeats 4000000 in
theorem w_X12_readOther {fr : Nat} (hfr : 4 ≤ fr) (Z : AZ) (X : AX Z cX12_readOther 2 RX12 (some .int) 1 fr) (x1 : Int32) (s : Mem) (r : Int32 × Mem) (hz : zres Z = (some (.int r.1), r.2)) (h : f_X12_readOther x1 s = some r) : AW Z s 0 [some (.ref (zr Z 0)), some (.int x1)] [] := by
  unfold f_X12_readOther at h
  refine aw_aload_n X dX12_readOther_0 rfl ?_
  refine aw_geti X dX12_readOther_1 fl_RX12_166 iu_RX12 gu_RX12_12 ?_
  refine aw_iconst (v := 3) X dX12_readOther_4 (by decide) ?_
  refine aw_icmp_ne (tgt := 22) X dX12_readOther_5 (by decide) (fun c1 => ?_) (fun c1 => ?_)
  · rw [if_neg c1] at h
    refine aw_msk [true, false] ?_
    exact jo_X12_readOther_22 hfr Z X _ _ hz h
  · rw [if_pos c1] at h
    refine aw_aload_n X dX12_readOther_8 rfl ?_
    refine aw_geti X dX12_readOther_9 fl_RX12_169 iu_RX12 gu_RX12_13 ?_
    refine aw_iload_n X dX12_readOther_12 rfl ?_
    refine aw_icmp_ne (tgt := 22) X dX12_readOther_13 (by decide) (fun c3 => ?_) (fun c3 => ?_)
    · rw [if_neg c3] at h
      refine aw_msk [true, false] ?_
      exact jo_X12_readOther_22 hfr Z X _ _ hz h
    · rw [if_pos c3] at h
      refine aw_aload_n X dX12_readOther_16 rfl ?_
      refine aw_iconst (v := 2) X dX12_readOther_17 (by decide) ?_
      obtain ⟨r4, er4, h⟩ := bnd h
      refine aw_callV X dX12_readOther_18 cv_RX12_197 (ok_X12_errs er4 _ _ _ _ _) iu_RX12 rfl (Nat.le_trans (by decide) hfr) (by decide) rfl rfl (Nat.le_of_ble_eq_true rfl) ?_
      cases h
      exact aw_iret X dX12_readOther_21 rfl hz.symm
set_option maxRecDepth 100000 in
set_option maxHeartbeats 4000000 in
theorem ok_X12_readOther {x1 : Int32} {s : Mem} {r : Int32 × Mem} (h : f_X12_readOther x1 s = some r) (l : Launch) (D : va_G) (ρ : Nat → Nat) (cA : ClassId × ClassId × ClassId) (τ : AT) : AM l D ρ cA 1 τ yX12_readOther cX12_readOther 2 (some .int) 4 [.ref (ρ 0), .int x1] (some (.int r.1)) s r.2 := by
  refine AM_of (L := [some (.ref (ρ 0)), some (.int x1)]) (by decide) (by simp [Value.category]) (Nat.le_of_ble_eq_true rfl) (fun j v q => ?_) (fun Z X hρ hz => ?_)
  · exact aL_ok (n := 0) [.ref (ρ 0), .int x1] j v q
  · subst hρ
    exact w_X12_readOther (Nat.le_refl _) Z X x1 s r hz h

theorem dX12_readTalkLine_0 : decode cX12_readTalkLine 0 = .ok (.aload_n 0, 1) := by decide +kernel
theorem dX12_readTalkLine_1 : decode cX12_readTalkLine 1 = .ok (.getfield 56, 3) := by decide +kernel
theorem dX12_readTalkLine_4 : decode cX12_readTalkLine 4 = .ok (.iload_n 1, 1) := by decide +kernel
theorem dX12_readTalkLine_5 : decode cX12_readTalkLine 5 = .ok (.aload_n 0, 1) := by decide +kernel
theorem dX12_readTalkLine_6 : decode cX12_readTalkLine 6 = .ok (.bipush 15, 2) := by decide +kernel
theorem dX12_readTalkLine_8 : decode cX12_readTalkLine 8 = .ok (.iconst 0, 1) := by decide +kernel
theorem dX12_readTalkLine_9 : decode cX12_readTalkLine 9 = .ok (.sipush 999, 3) := by decide +kernel
theorem dX12_readTalkLine_12 : decode cX12_readTalkLine 12 = .ok (.invokevirtual 250, 3) := by decide +kernel
theorem dX12_readTalkLine_15 : decode cX12_readTalkLine 15 = .ok (.iastore, 1) := by decide +kernel
theorem dX12_readTalkLine_16 : decode cX12_readTalkLine 16 = .ok (.aload_n 0, 1) := by decide +kernel
theorem dX12_readTalkLine_17 : decode cX12_readTalkLine 17 = .ok (.getfield 56, 3) := by decide +kernel
theorem dX12_readTalkLine_20 : decode cX12_readTalkLine 20 = .ok (.iload_n 1, 1) := by decide +kernel
theorem dX12_readTalkLine_21 : decode cX12_readTalkLine 21 = .ok (.iaload, 1) := by decide +kernel
theorem dX12_readTalkLine_22 : decode cX12_readTalkLine 22 = .ok (.iconst (-1), 1) := by decide +kernel
theorem dX12_readTalkLine_23 : decode cX12_readTalkLine 23 = .ok (.if_icmp .ne 5, 3) := by decide +kernel
theorem dX12_readTalkLine_26 : decode cX12_readTalkLine 26 = .ok (.iconst (-1), 1) := by decide +kernel
theorem dX12_readTalkLine_27 : decode cX12_readTalkLine 27 = .ok (.ireturn, 1) := by decide +kernel
theorem dX12_readTalkLine_28 : decode cX12_readTalkLine 28 = .ok (.aload_n 0, 1) := by decide +kernel
theorem dX12_readTalkLine_29 : decode cX12_readTalkLine 29 = .ok (.getfield 56, 3) := by decide +kernel
theorem dX12_readTalkLine_32 : decode cX12_readTalkLine 32 = .ok (.iload_n 1, 1) := by decide +kernel
theorem dX12_readTalkLine_33 : decode cX12_readTalkLine 33 = .ok (.iconst 1, 1) := by decide +kernel
theorem dX12_readTalkLine_34 : decode cX12_readTalkLine 34 = .ok (.iadd, 1) := by decide +kernel
theorem dX12_readTalkLine_35 : decode cX12_readTalkLine 35 = .ok (.aload_n 0, 1) := by decide +kernel
theorem dX12_readTalkLine_36 : decode cX12_readTalkLine 36 = .ok (.bipush 16, 2) := by decide +kernel
theorem dX12_readTalkLine_38 : decode cX12_readTalkLine 38 = .ok (.iconst 0, 1) := by decide +kernel
theorem dX12_readTalkLine_39 : decode cX12_readTalkLine 39 = .ok (.aload_n 0, 1) := by decide +kernel
theorem dX12_readTalkLine_40 : decode cX12_readTalkLine 40 = .ok (.getfield 134, 3) := by decide +kernel
theorem dX12_readTalkLine_43 : decode cX12_readTalkLine 43 = .ok (.iconst 1, 1) := by decide +kernel
theorem dX12_readTalkLine_44 : decode cX12_readTalkLine 44 = .ok (.isub, 1) := by decide +kernel
theorem dX12_readTalkLine_45 : decode cX12_readTalkLine 45 = .ok (.invokevirtual 250, 3) := by decide +kernel
theorem dX12_readTalkLine_48 : decode cX12_readTalkLine 48 = .ok (.iastore, 1) := by decide +kernel
theorem dX12_readTalkLine_49 : decode cX12_readTalkLine 49 = .ok (.aload_n 0, 1) := by decide +kernel
theorem dX12_readTalkLine_50 : decode cX12_readTalkLine 50 = .ok (.getfield 56, 3) := by decide +kernel
theorem dX12_readTalkLine_53 : decode cX12_readTalkLine 53 = .ok (.iload_n 1, 1) := by decide +kernel
theorem dX12_readTalkLine_54 : decode cX12_readTalkLine 54 = .ok (.iconst 1, 1) := by decide +kernel
theorem dX12_readTalkLine_55 : decode cX12_readTalkLine 55 = .ok (.iadd, 1) := by decide +kernel
theorem dX12_readTalkLine_56 : decode cX12_readTalkLine 56 = .ok (.iaload, 1) := by decide +kernel
theorem dX12_readTalkLine_57 : decode cX12_readTalkLine 57 = .ok (.iconst (-1), 1) := by decide +kernel
theorem dX12_readTalkLine_58 : decode cX12_readTalkLine 58 = .ok (.if_icmp .ne 5, 3) := by decide +kernel
theorem dX12_readTalkLine_61 : decode cX12_readTalkLine 61 = .ok (.iconst (-1), 1) := by decide +kernel
theorem dX12_readTalkLine_62 : decode cX12_readTalkLine 62 = .ok (.ireturn, 1) := by decide +kernel
theorem dX12_readTalkLine_63 : decode cX12_readTalkLine 63 = .ok (.aload_n 0, 1) := by decide +kernel
theorem dX12_readTalkLine_64 : decode cX12_readTalkLine 64 = .ok (.bipush 17, 2) := by decide +kernel
theorem dX12_readTalkLine_66 : decode cX12_readTalkLine 66 = .ok (.invokevirtual 225, 3) := by decide +kernel
theorem dX12_readTalkLine_69 : decode cX12_readTalkLine 69 = .ok (.ifCond .ne 9, 3) := by decide +kernel
theorem dX12_readTalkLine_72 : decode cX12_readTalkLine 72 = .ok (.aload_n 0, 1) := by decide +kernel
theorem dX12_readTalkLine_73 : decode cX12_readTalkLine 73 = .ok (.iconst 1, 1) := by decide +kernel
theorem dX12_readTalkLine_74 : decode cX12_readTalkLine 74 = .ok (.invokevirtual 197, 3) := by decide +kernel
theorem dX12_readTalkLine_77 : decode cX12_readTalkLine 77 = .ok (.ireturn, 1) := by decide +kernel
theorem dX12_readTalkLine_78 : decode cX12_readTalkLine 78 = .ok (.aload_n 0, 1) := by decide +kernel
theorem dX12_readTalkLine_79 : decode cX12_readTalkLine 79 = .ok (.invokevirtual 203, 3) := by decide +kernel
theorem dX12_readTalkLine_82 : decode cX12_readTalkLine 82 = .ok (.aload_n 0, 1) := by decide +kernel
theorem dX12_readTalkLine_83 : decode cX12_readTalkLine 83 = .ok (.getfield 56, 3) := by decide +kernel
theorem dX12_readTalkLine_86 : decode cX12_readTalkLine 86 = .ok (.iload_n 1, 1) := by decide +kernel
theorem dX12_readTalkLine_87 : decode cX12_readTalkLine 87 = .ok (.iconst 2, 1) := by decide +kernel
theorem dX12_readTalkLine_88 : decode cX12_readTalkLine 88 = .ok (.iadd, 1) := by decide +kernel
theorem dX12_readTalkLine_89 : decode cX12_readTalkLine 89 = .ok (.aload_n 0, 1) := by decide +kernel
theorem dX12_readTalkLine_90 : decode cX12_readTalkLine 90 = .ok (.aload_n 0, 1) := by decide +kernel
theorem dX12_readTalkLine_91 : decode cX12_readTalkLine 91 = .ok (.getfield 56, 3) := by decide +kernel
theorem dX12_readTalkLine_94 : decode cX12_readTalkLine 94 = .ok (.iload_n 1, 1) := by decide +kernel
theorem dX12_readTalkLine_95 : decode cX12_readTalkLine 95 = .ok (.iconst 1, 1) := by decide +kernel
theorem dX12_readTalkLine_96 : decode cX12_readTalkLine 96 = .ok (.iadd, 1) := by decide +kernel
theorem dX12_readTalkLine_97 : decode cX12_readTalkLine 97 = .ok (.iaload, 1) := by decide +kernel
theorem dX12_readTalkLine_98 : decode cX12_readTalkLine 98 = .ok (.invokevirtual 254, 3) := by decide +kernel
theorem dX12_readTalkLine_101 : decode cX12_readTalkLine 101 = .ok (.iastore, 1) := by decide +kernel
theorem dX12_readTalkLine_102 : decode cX12_readTalkLine 102 = .ok (.aload_n 0, 1) := by decide +kernel
theorem dX12_readTalkLine_103 : decode cX12_readTalkLine 103 = .ok (.getfield 56, 3) := by decide +kernel
theorem dX12_readTalkLine_106 : decode cX12_readTalkLine 106 = .ok (.iload_n 1, 1) := by decide +kernel
theorem dX12_readTalkLine_107 : decode cX12_readTalkLine 107 = .ok (.iconst 2, 1) := by decide +kernel
theorem dX12_readTalkLine_108 : decode cX12_readTalkLine 108 = .ok (.iadd, 1) := by decide +kernel
theorem dX12_readTalkLine_109 : decode cX12_readTalkLine 109 = .ok (.iaload, 1) := by decide +kernel
theorem dX12_readTalkLine_110 : decode cX12_readTalkLine 110 = .ok (.iconst (-1), 1) := by decide +kernel
theorem dX12_readTalkLine_111 : decode cX12_readTalkLine 111 = .ok (.if_icmp .ne 7, 3) := by decide +kernel
theorem dX12_readTalkLine_114 : decode cX12_readTalkLine 114 = .ok (.iconst (-1), 1) := by decide +kernel
theorem dX12_readTalkLine_115 : decode cX12_readTalkLine 115 = .ok (.goto 9, 3) := by decide +kernel
theorem dX12_readTalkLine_118 : decode cX12_readTalkLine 118 = .ok (.aload_n 0, 1) := by decide +kernel
theorem dX12_readTalkLine_119 : decode cX12_readTalkLine 119 = .ok (.bipush 59, 2) := by decide +kernel
theorem dX12_readTalkLine_121 : decode cX12_readTalkLine 121 = .ok (.invokevirtual 257, 3) := by decide +kernel
theorem dX12_readTalkLine_124 : decode cX12_readTalkLine 124 = .ok (.ireturn, 1) := by decide +kernel
def f_X12_readTalkLine (x1 : Int32) (s : Mem) : Option (Int32 × Mem) :=
  (f_X12_readTold 15 0 999 s).bind fun r1 =>
  (wr 96 r1.2 15 x1 r1.1).bind fun s2 =>
  (rd 96 (s2 15) x1).bind fun v3 =>
  if v3 = (-1) then
  some ((-1), s2)
  else
  (f_X12_readTold 16 0 ((s2 0 6) - 1) s2).bind fun r5 =>
  (wr 96 r5.2 15 (x1 + 1) r5.1).bind fun s6 =>
  (rd 96 (s6 15) (x1 + 1)).bind fun v7 =>
  if v7 = (-1) then
  some ((-1), s6)
  else
  (f_X12_isWord 17 s6).bind fun r9 =>
  if r9.1 = 0 then
  (f_X12_errs 1 r9.2).bind fun r18 =>
  some (r18.1, r18.2)
  else
  (f_X12_reads r9.2).bind fun r11 =>
  (rd 96 (r11 15) (x1 + 1)).bind fun v12 =>
  (f_X12_readOther v12 r11).bind fun r13 =>
  (wr 96 r13.2 15 (x1 + 2) r13.1).bind fun s14 =>
  (rd 96 (s14 15) (x1 + 2)).bind fun v15 =>
  if v15 = (-1) then
  some ((-1), s14)
  else
  (f_X12_readMark 59 s14).bind fun r17 =>
  some (r17.1, r17.2)
set_option maxRecDepth 100000 in
set_option maxHeartbeats 4000000 in
theorem w_X12_readTalkLine {fr : Nat} (hfr : 5 ≤ fr) (Z : AZ) (X : AX Z cX12_readTalkLine 2 RX12 (some .int) 1 fr) (x1 : Int32) (s : Mem) (r : Int32 × Mem) (hz : zres Z = (some (.int r.1), r.2)) (h : f_X12_readTalkLine x1 s = some r) : AW Z s 0 [some (.ref (zr Z 0)), some (.int x1)] [] := by
  unfold f_X12_readTalkLine at h
  refine aw_aload_n X dX12_readTalkLine_0 rfl ?_
  refine aw_getr X dX12_readTalkLine_1 fl_RX12_56 iu_RX12 gu_RX12_32 ?_
  refine aw_iload_n X dX12_readTalkLine_4 rfl ?_
  refine aw_aload_n X dX12_readTalkLine_5 rfl ?_
  refine aw_bipush (v := 15) X dX12_readTalkLine_6 (by decide) ?_
  refine aw_iconst (v := 0) X dX12_readTalkLine_8 (by decide) ?_
  refine aw_sipush (v := 999) X dX12_readTalkLine_9 (by decide) ?_
  obtain ⟨r1, er1, h⟩ := bnd h
  refine aw_callV X dX12_readTalkLine_12 cv_RX12_250 (ok_X12_readTold er1 _ _ _ _ _) iu_RX12 rfl (Nat.le_trans (by decide) hfr) (by decide) rfl rfl (Nat.le_of_ble_eq_true rfl) ?_
  obtain ⟨s2, es2, h⟩ := bnd h
  refine aw_iast X dX12_readTalkLine_15 iu_RX12_32 es2 ?_
  refine aw_aload_n X dX12_readTalkLine_16 rfl ?_
  refine aw_getr X dX12_readTalkLine_17 fl_RX12_56 iu_RX12 gu_RX12_32 ?_
  refine aw_iload_n X dX12_readTalkLine_20 rfl ?_
  obtain ⟨v3, ev3, h⟩ := bnd h
  refine aw_iald X dX12_readTalkLine_21 iu_RX12_32 ev3 ?_
  refine aw_iconst (v := (-1)) X dX12_readTalkLine_22 (by decide) ?_
  refine aw_icmp_ne (tgt := 28) X dX12_readTalkLine_23 (by decide) (fun c4 => ?_) (fun c4 => ?_)
  · rw [if_neg c4] at h
    refine aw_aload_n X dX12_readTalkLine_28 rfl ?_
    refine aw_getr X dX12_readTalkLine_29 fl_RX12_56 iu_RX12 gu_RX12_32 ?_
    refine aw_iload_n X dX12_readTalkLine_32 rfl ?_
    refine aw_iconst (v := 1) X dX12_readTalkLine_33 (by decide) ?_
    refine aw_iadd X dX12_readTalkLine_34 ?_
    refine aw_aload_n X dX12_readTalkLine_35 rfl ?_
    refine aw_bipush (v := 16) X dX12_readTalkLine_36 (by decide) ?_
    refine aw_iconst (v := 0) X dX12_readTalkLine_38 (by decide) ?_
    refine aw_aload_n X dX12_readTalkLine_39 rfl ?_
    refine aw_geti X dX12_readTalkLine_40 fl_RX12_134 iu_RX12 gu_RX12_6 ?_
    refine aw_iconst (v := 1) X dX12_readTalkLine_43 (by decide) ?_
    refine aw_isub X dX12_readTalkLine_44 ?_
    obtain ⟨r5, er5, h⟩ := bnd h
    refine aw_callV X dX12_readTalkLine_45 cv_RX12_250 (ok_X12_readTold er5 _ _ _ _ _) iu_RX12 rfl (Nat.le_trans (by decide) hfr) (by decide) rfl rfl (Nat.le_of_ble_eq_true rfl) ?_
    obtain ⟨s6, es6, h⟩ := bnd h
    refine aw_iast X dX12_readTalkLine_48 iu_RX12_32 es6 ?_
    refine aw_aload_n X dX12_readTalkLine_49 rfl ?_
    refine aw_getr X dX12_readTalkLine_50 fl_RX12_56 iu_RX12 gu_RX12_32 ?_
    refine aw_iload_n X dX12_readTalkLine_53 rfl ?_
    refine aw_iconst (v := 1) X dX12_readTalkLine_54 (by decide) ?_
    refine aw_iadd X dX12_readTalkLine_55 ?_
    obtain ⟨v7, ev7, h⟩ := bnd h
    refine aw_iald X dX12_readTalkLine_56 iu_RX12_32 ev7 ?_
    refine aw_iconst (v := (-1)) X dX12_readTalkLine_57 (by decide) ?_
    refine aw_icmp_ne (tgt := 63) X dX12_readTalkLine_58 (by decide) (fun c8 => ?_) (fun c8 => ?_)
    · rw [if_neg c8] at h
      refine aw_aload_n X dX12_readTalkLine_63 rfl ?_
      refine aw_bipush (v := 17) X dX12_readTalkLine_64 (by decide) ?_
      obtain ⟨r9, er9, h⟩ := bnd h
      refine aw_callV X dX12_readTalkLine_66 cv_RX12_225 (ok_X12_isWord er9 _ _ _ _ _) iu_RX12 rfl (Nat.le_trans (by decide) hfr) (by decide) rfl rfl (Nat.le_of_ble_eq_true rfl) ?_
      refine aw_if_ne (tgt := 78) X dX12_readTalkLine_69 (by decide) (fun c10 => ?_) (fun c10 => ?_)
      · rw [if_neg c10] at h
        refine aw_aload_n X dX12_readTalkLine_78 rfl ?_
        obtain ⟨r11, er11, h⟩ := bnd h
        refine aw_callV X dX12_readTalkLine_79 cv_RX12_203 (ok_X12_reads er11 _ _ _ _ _) iu_RX12 rfl (Nat.le_trans (by decide) hfr) (by decide) rfl rfl (Nat.le_of_ble_eq_true rfl) ?_
        refine aw_aload_n X dX12_readTalkLine_82 rfl ?_
        refine aw_getr X dX12_readTalkLine_83 fl_RX12_56 iu_RX12 gu_RX12_32 ?_
        refine aw_iload_n X dX12_readTalkLine_86 rfl ?_
        refine aw_iconst (v := 2) X dX12_readTalkLine_87 (by decide) ?_
        refine aw_iadd X dX12_readTalkLine_88 ?_
        refine aw_aload_n X dX12_readTalkLine_89 rfl ?_
        refine aw_aload_n X dX12_readTalkLine_90 rfl ?_
        refine aw_getr X dX12_readTalkLine_91 fl_RX12_56 iu_RX12 gu_RX12_32 ?_
        refine aw_iload_n X dX12_readTalkLine_94 rfl ?_
        refine aw_iconst (v := 1) X dX12_readTalkLine_95 (by decide) ?_
        refine aw_iadd X dX12_readTalkLine_96 ?_
        obtain ⟨v12, ev12, h⟩ := bnd h
        refine aw_iald X dX12_readTalkLine_97 iu_RX12_32 ev12 ?_
        obtain ⟨r13, er13, h⟩ := bnd h
        refine aw_callV X dX12_readTalkLine_98 cv_RX12_254 (ok_X12_readOther er13 _ _ _ _ _) iu_RX12 rfl (Nat.le_trans (by decide) hfr) (by decide) rfl rfl (Nat.le_of_ble_eq_true rfl) ?_
        obtain ⟨s14, es14, h⟩ := bnd h
        refine aw_iast X dX12_readTalkLine_101 iu_RX12_32 es14 ?_
        refine aw_aload_n X dX12_readTalkLine_102 rfl ?_
        refine aw_getr X dX12_readTalkLine_103 fl_RX12_56 iu_RX12 gu_RX12_32 ?_
        refine aw_iload_n X dX12_readTalkLine_106 rfl ?_
        refine aw_iconst (v := 2) X dX12_readTalkLine_107 (by decide) ?_
        refine aw_iadd X dX12_readTalkLine_108 ?_
        obtain ⟨v15, ev15, h⟩ := bnd h
        refine aw_iald X dX12_readTalkLine_109 iu_RX12_32 ev15 ?_
        refine aw_iconst (v := (-1)) X dX12_readTalkLine_110 (by decide) ?_
        refine aw_icmp_ne (tgt := 118) X dX12_readTalkLine_111 (by decide) (fun c16 => ?_) (fun c16 => ?_)
        · rw [if_neg c16] at h
          refine aw_aload_n X dX12_readTalkLine_118 rfl ?_
          refine aw_bipush (v := 59) X dX12_readTalkLine_119 (by decide) ?_
          obtain ⟨r17, er17, h⟩ := bnd h
          refine aw_callV X dX12_readTalkLine_121 cv_RX12_257 (ok_X12_readMark er17 _ _ _ _ _) iu_RX12 rfl (Nat.le_trans (by decide) hfr) (by decide) rfl rfl (Nat.le_of_ble_eq_true rfl) ?_
          cases h
          exact aw_iret X dX12_readTalkLine_124 rfl hz.symm
        · rw [if_pos c16] at h
          refine aw_iconst (v := (-1)) X dX12_readTalkLine_114 (by decide) ?_
          refine aw_goto (tgt := 124) X dX12_readTalkLine_115 (by decide) ?_
          cases h
          exact aw_iret X dX12_readTalkLine_124 rfl hz.symm
      · rw [if_pos c10] at h
        refine aw_aload_n X dX12_readTalkLine_72 rfl ?_
        refine aw_iconst (v := 1) X dX12_readTalkLine_73 (by decide) ?_
        obtain ⟨r18, er18, h⟩ := bnd h
        refine aw_callV X dX12_readTalkLine_74 cv_RX12_197 (ok_X12_errs er18 _ _ _ _ _) iu_RX12 rfl (Nat.le_trans (by decide) hfr) (by decide) rfl rfl (Nat.le_of_ble_eq_true rfl) ?_
        cases h
        exact aw_iret X dX12_readTalkLine_77 rfl hz.symm
    · rw [if_pos c8] at h
      refine aw_iconst (v := (-1)) X dX12_readTalkLine_61 (by decide) ?_
      cases h
      exact aw_iret X dX12_readTalkLine_62 rfl hz.symm
  · rw [if_pos c4] at h
    refine aw_iconst (v := (-1)) X dX12_readTalkLine_26 (by decide) ?_
    cases h
    exact aw_iret X dX12_readTalkLine_27 rfl hz.symm
set_option maxRecDepth 100000 in
set_option maxHeartbeats 4000000 in
theorem ok_X12_readTalkLine {x1 : Int32} {s : Mem} {r : Int32 × Mem} (h : f_X12_readTalkLine x1 s = some r) (l : Launch) (D : va_G) (ρ : Nat → Nat) (cA : ClassId × ClassId × ClassId) (τ : AT) : AM l D ρ cA 1 τ yX12_readTalkLine cX12_readTalkLine 2 (some .int) 5 [.ref (ρ 0), .int x1] (some (.int r.1)) s r.2 := by
  refine AM_of (L := [some (.ref (ρ 0)), some (.int x1)]) (by decide) (by simp [Value.category]) (Nat.le_of_ble_eq_true rfl) (fun j v q => ?_) (fun Z X hρ hz => ?_)
  · exact aL_ok (n := 0) [.ref (ρ 0), .int x1] j v q
  · subst hρ
    exact w_X12_readTalkLine (Nat.le_refl _) Z X x1 s r hz h

theorem dX12_readTalk_0 : decode cX12_readTalk 0 = .ok (.iconst 0, 1) := by decide +kernel
theorem dX12_readTalk_1 : decode cX12_readTalk 1 = .ok (.istore_n 1, 1) := by decide +kernel
theorem dX12_readTalk_2 : decode cX12_readTalk 2 = .ok (.aload_n 0, 1) := by decide +kernel
theorem dX12_readTalk_3 : decode cX12_readTalk 3 = .ok (.bipush 15, 2) := by decide +kernel
theorem dX12_readTalk_5 : decode cX12_readTalk 5 = .ok (.invokevirtual 225, 3) := by decide +kernel
theorem dX12_readTalk_8 : decode cX12_readTalk 8 = .ok (.ifCond .eq 38, 3) := by decide +kernel
theorem dX12_readTalk_11 : decode cX12_readTalk 11 = .ok (.iload_n 1, 1) := by decide +kernel
theorem dX12_readTalk_12 : decode cX12_readTalk 12 = .ok (.bipush 16, 2) := by decide +kernel
theorem dX12_readTalk_14 : decode cX12_readTalk 14 = .ok (.if_icmp .ne 9, 3) := by decide +kernel
theorem dX12_readTalk_17 : decode cX12_readTalk 17 = .ok (.aload_n 0, 1) := by decide +kernel
theorem dX12_readTalk_18 : decode cX12_readTalk 18 = .ok (.iconst 3, 1) := by decide +kernel
theorem dX12_readTalk_19 : decode cX12_readTalk 19 = .ok (.invokevirtual 197, 3) := by decide +kernel
theorem dX12_readTalk_22 : decode cX12_readTalk 22 = .ok (.ireturn, 1) := by decide +kernel
theorem dX12_readTalk_23 : decode cX12_readTalk 23 = .ok (.aload_n 0, 1) := by decide +kernel
theorem dX12_readTalk_24 : decode cX12_readTalk 24 = .ok (.bipush 48, 2) := by decide +kernel
theorem dX12_readTalk_26 : decode cX12_readTalk 26 = .ok (.iconst 3, 1) := by decide +kernel
theorem dX12_readTalk_27 : decode cX12_readTalk 27 = .ok (.iload_n 1, 1) := by decide +kernel
theorem dX12_readTalk_28 : decode cX12_readTalk 28 = .ok (.imul, 1) := by decide +kernel
theorem dX12_readTalk_29 : decode cX12_readTalk 29 = .ok (.iadd, 1) := by decide +kernel
theorem dX12_readTalk_30 : decode cX12_readTalk 30 = .ok (.invokevirtual 260, 3) := by decide +kernel
theorem dX12_readTalk_33 : decode cX12_readTalk 33 = .ok (.iconst (-1), 1) := by decide +kernel
theorem dX12_readTalk_34 : decode cX12_readTalk 34 = .ok (.if_icmp .ne 5, 3) := by decide +kernel
theorem dX12_readTalk_37 : decode cX12_readTalk 37 = .ok (.iconst (-1), 1) := by decide +kernel
theorem dX12_readTalk_38 : decode cX12_readTalk 38 = .ok (.ireturn, 1) := by decide +kernel
theorem dX12_readTalk_39 : decode cX12_readTalk 39 = .ok (.iload_n 1, 1) := by decide +kernel
theorem dX12_readTalk_40 : decode cX12_readTalk 40 = .ok (.iconst 1, 1) := by decide +kernel
theorem dX12_readTalk_41 : decode cX12_readTalk 41 = .ok (.iadd, 1) := by decide +kernel
theorem dX12_readTalk_42 : decode cX12_readTalk 42 = .ok (.istore_n 1, 1) := by decide +kernel
theorem dX12_readTalk_43 : decode cX12_readTalk 43 = .ok (.goto (-41), 3) := by decide +kernel
theorem dX12_readTalk_46 : decode cX12_readTalk 46 = .ok (.aload_n 0, 1) := by decide +kernel
theorem dX12_readTalk_47 : decode cX12_readTalk 47 = .ok (.getfield 166, 3) := by decide +kernel
theorem dX12_readTalk_50 : decode cX12_readTalk 50 = .ok (.ifCond .ne 7, 3) := by decide +kernel
theorem dX12_readTalk_53 : decode cX12_readTalk 53 = .ok (.iload_n 1, 1) := by decide +kernel
theorem dX12_readTalk_54 : decode cX12_readTalk 54 = .ok (.goto 8, 3) := by decide +kernel
theorem dX12_readTalk_57 : decode cX12_readTalk 57 = .ok (.aload_n 0, 1) := by decide +kernel
theorem dX12_readTalk_58 : decode cX12_readTalk 58 = .ok (.iconst 1, 1) := by decide +kernel
theorem dX12_readTalk_59 : decode cX12_readTalk 59 = .ok (.invokevirtual 197, 3) := by decide +kernel
theorem dX12_readTalk_62 : decode cX12_readTalk 62 = .ok (.ireturn, 1) := by decide +kernel
def st_X12_readTalk_2 (x1 : Int32) (s : Mem) : Option ((Int32 × Mem) ⊕ (Nat × Int32 × Mem)) :=
  (f_X12_isWord 15 s).bind fun r1 =>
  if r1.1 = 0 then
  some (.inr (2, x1, r1.2))
  else
  if x1 = 16 then
  some (.inr (0, 0, r1.2))
  else
  (f_X12_readTalkLine (48 + (3 * x1)) r1.2).bind fun r4 =>
  if r4.1 = (-1) then
  some (.inr (1, 0, r4.2))
  else
  some (.inl ((x1 + 1), r4.2))
def f_X12_readTalk (s : Mem) : Option (Int32 × Mem) :=
  (it FUEL (fun y => st_X12_readTalk_2 y.1 y.2) (0, s)).bind fun r6 =>
  if r6.1 = 0 then (f_X12_errs 3 r6.2.2).bind fun r7 =>
  some (r7.1, r7.2) else if r6.1 = 1 then some ((-1), r6.2.2) else if (r6.2.2 0 12) = 0 then
  some (r6.2.1, r6.2.2)
  else
  (f_X12_errs 1 r6.2.2).bind fun r9 =>
  some (r9.1, r9.2)
set_option maxRecDepth 100000 in
set_option maxHeartbeats 4000000 in
theorem so_X12_readTalk_2 {fr : Nat} (hfr : 6 ≤ fr) (Z : AZ) (X : AX Z cX12_readTalk 2 RX12 (some .int) 1 fr) (x1 : Int32) (s : Mem) (q : (Int32 × Mem) ⊕ (Nat × Int32 × Mem)) (h : st_X12_readTalk_2 x1 s = some q) (hi : ∀ y : Int32 × Mem, q = .inl y → AW Z y.2 2 [some (.ref (zr Z 0)), some (.int y.1)] []) (he : ∀ b : Nat × Int32 × Mem, q = .inr b → (b.1 = 0 → AW Z b.2.2 17 [some (.ref (zr Z 0)), none] []) ∧ (b.1 = 1 → AW Z b.2.2 37 [none, none] []) ∧ (b.1 = 2 → AW Z b.2.2 46 [some (.ref (zr Z 0)), some (.int b.2.1)] [])) : AW Z s 2 [some (.ref (zr Z 0)), some (.int x1)] [] := by
  unfold st_X12_readTalk_2 at h
  refine aw_aload_n X dX12_readTalk_2 rfl ?_
  refine aw_bipush (v := 15) X dX12_readTalk_3 (by decide) ?_
  obtain ⟨r1, er1, h⟩ := bnd h
  refine aw_callV X dX12_readTalk_5 cv_RX12_225 (ok_X12_isWord er1 _ _ _ _ _) iu_RX12 rfl (Nat.le_trans (by decide) hfr) (by decide) rfl rfl (Nat.le_of_ble_eq_true rfl) ?_
  refine aw_if_eq (tgt := 46) X dX12_readTalk_8 (by decide) (fun c2 => ?_) (fun c2 => ?_)
  · rw [if_pos c2] at h
    cases h
    refine aw_msk [true, true] ?_
    exact (he _ rfl).2.2 rfl
  · rw [if_neg c2] at h
    refine aw_iload_n X dX12_readTalk_11 rfl ?_
    refine aw_bipush (v := 16) X dX12_readTalk_12 (by decide) ?_
    refine aw_icmp_ne (tgt := 23) X dX12_readTalk_14 (by decide) (fun c3 => ?_) (fun c3 => ?_)
    · rw [if_neg c3] at h
      refine aw_aload_n X dX12_readTalk_23 rfl ?_
      refine aw_bipush (v := 48) X dX12_readTalk_24 (by decide) ?_
      refine aw_iconst (v := 3) X dX12_readTalk_26 (by decide) ?_
      refine aw_iload_n X dX12_readTalk_27 rfl ?_
      refine aw_imul X dX12_readTalk_28 ?_
      refine aw_iadd X dX12_readTalk_29 ?_
      obtain ⟨r4, er4, h⟩ := bnd h
      refine aw_callV X dX12_readTalk_30 cv_RX12_260 (ok_X12_readTalkLine er4 _ _ _ _ _) iu_RX12 rfl (Nat.le_trans (by decide) hfr) (by decide) rfl rfl (Nat.le_of_ble_eq_true rfl) ?_
      refine aw_iconst (v := (-1)) X dX12_readTalk_33 (by decide) ?_
      refine aw_icmp_ne (tgt := 39) X dX12_readTalk_34 (by decide) (fun c5 => ?_) (fun c5 => ?_)
      · rw [if_neg c5] at h
        refine aw_iload_n X dX12_readTalk_39 rfl ?_
        refine aw_iconst (v := 1) X dX12_readTalk_40 (by decide) ?_
        refine aw_iadd X dX12_readTalk_41 ?_
        refine aw_istore_n (L' := [some (.ref (zr Z 0)), some (.int (x1 + 1))]) X dX12_readTalk_42 (by decide) rfl ?_
        refine aw_goto (tgt := 2) X dX12_readTalk_43 (by decide) ?_
        cases h
        refine aw_msk [true, true] ?_
        exact hi _ rfl
      · rw [if_pos c5] at h
        cases h
        refine aw_msk [false, false] ?_
        exact (he _ rfl).2.1 rfl
    · rw [if_pos c3] at h
      cases h
      refine aw_msk [true, false] ?_
      exact (he _ rfl).1 rfl
set_option maxRecDepth 100000 in
set_option maxHeartbeats 4000000 in
theorem w_X12_readTalk {fr : Nat} (hfr : 6 ≤ fr) (Z : AZ) (X : AX Z cX12_readTalk 2 RX12 (some .int) 1 fr) (s : Mem) (r : Int32 × Mem) (hz : zres Z = (some (.int r.1), r.2)) (h : f_X12_readTalk s = some r) : AW Z s 0 [some (.ref (zr Z 0)), none] [] := by
  unfold f_X12_readTalk at h
  refine aw_iconst (v := 0) X dX12_readTalk_0 (by decide) ?_
  refine aw_istore_n (L' := [some (.ref (zr Z 0)), some (.int 0)]) X dX12_readTalk_1 (by decide) rfl ?_
  obtain ⟨r6, er6, h⟩ := bnd h
  refine aw_msk [true, true] ?_
  refine it_ok (P := fun y : Int32 × Mem => AW Z y.2 2 [some (.ref (zr Z 0)), some (.int y.1)] []) (Q := fun b : Nat × Int32 × Mem => (b.1 = 0 → AW Z b.2.2 17 [some (.ref (zr Z 0)), none] []) ∧ (b.1 = 1 → AW Z b.2.2 37 [none, none] []) ∧ (b.1 = 2 → AW Z b.2.2 46 [some (.ref (zr Z 0)), some (.int b.2.1)] [])) (fun y q hq hi he => so_X12_readTalk_2 hfr Z X y.1 y.2 q hq hi he) FUEL _ _ er6 ?_
  refine ⟨fun c0 => ?_, fun c1 => ?_, fun c2 => ?_⟩
  · rw [if_pos c0] at h
    refine aw_aload_n X dX12_readTalk_17 rfl ?_
    refine aw_iconst (v := 3) X dX12_readTalk_18 (by decide) ?_
    obtain ⟨r7, er7, h⟩ := bnd h
    refine aw_callV X dX12_readTalk_19 cv_RX12_197 (ok_X12_errs er7 _ _ _ _ _) iu_RX12 rfl (Nat.le_trans (by decide) hfr) (by decide) rfl rfl (Nat.le_of_ble_eq_true rfl) ?_
    cases h
    exact aw_iret X dX12_readTalk_22 rfl hz.symm
  · rw [if_neg (by rw [c1]; decide)] at h
    rw [if_pos c1] at h
    refine aw_iconst (v := (-1)) X dX12_readTalk_37 (by decide) ?_
    cases h
    exact aw_iret X dX12_readTalk_38 rfl hz.symm
  · rw [if_neg (by rw [c2]; decide)] at h
    rw [if_neg (by rw [c2]; decide)] at h
    refine aw_aload_n X dX12_readTalk_46 rfl ?_
    refine aw_geti X dX12_readTalk_47 fl_RX12_166 iu_RX12 gu_RX12_12 ?_
    refine aw_if_ne (tgt := 57) X dX12_readTalk_50 (by decide) (fun c8 => ?_) (fun c8 => ?_)
    · rw [if_neg c8] at h
      refine aw_aload_n X dX12_readTalk_57 rfl ?_
      refine aw_iconst (v := 1) X dX12_readTalk_58 (by decide) ?_
      obtain ⟨r9, er9, h⟩ := bnd h
      refine aw_callV X dX12_readTalk_59 cv_RX12_197 (ok_X12_errs er9 _ _ _ _ _) iu_RX12 rfl (Nat.le_trans (by decide) hfr) (by decide) rfl rfl (Nat.le_of_ble_eq_true rfl) ?_
      cases h
      exact aw_iret X dX12_readTalk_62 rfl hz.symm
    · rw [if_pos c8] at h
      refine aw_iload_n X dX12_readTalk_53 rfl ?_
      refine aw_goto (tgt := 62) X dX12_readTalk_54 (by decide) ?_
      cases h
      exact aw_iret X dX12_readTalk_62 rfl hz.symm
set_option maxRecDepth 100000 in
set_option maxHeartbeats 4000000 in
theorem ok_X12_readTalk {s : Mem} {r : Int32 × Mem} (h : f_X12_readTalk s = some r) (l : Launch) (D : va_G) (ρ : Nat → Nat) (cA : ClassId × ClassId × ClassId) (τ : AT) : AM l D ρ cA 1 τ yX12_readTalk cX12_readTalk 2 (some .int) 6 [.ref (ρ 0)] (some (.int r.1)) s r.2 := by
  refine AM_of (L := [some (.ref (ρ 0)), none]) (by decide) (by simp [Value.category]) (Nat.le_of_ble_eq_true rfl) (fun j v q => ?_) (fun Z X hρ hz => ?_)
  · exact aL_ok (n := 1) [.ref (ρ 0)] j v q
  · subst hρ
    exact w_X12_readTalk (Nat.le_refl _) Z X s r hz h

theorem dX12_readCure_0 : decode cX12_readCure 0 = .ok (.aload_n 0, 1) := by decide +kernel
theorem dX12_readCure_1 : decode cX12_readCure 1 = .ok (.getfield 59, 3) := by decide +kernel
theorem dX12_readCure_4 : decode cX12_readCure 4 = .ok (.iload_n 1, 1) := by decide +kernel
theorem dX12_readCure_5 : decode cX12_readCure 5 = .ok (.aload_n 0, 1) := by decide +kernel
theorem dX12_readCure_6 : decode cX12_readCure 6 = .ok (.bipush 15, 2) := by decide +kernel
theorem dX12_readCure_8 : decode cX12_readCure 8 = .ok (.iconst 0, 1) := by decide +kernel
theorem dX12_readCure_9 : decode cX12_readCure 9 = .ok (.sipush 999, 3) := by decide +kernel
theorem dX12_readCure_12 : decode cX12_readCure 12 = .ok (.invokevirtual 250, 3) := by decide +kernel
theorem dX12_readCure_15 : decode cX12_readCure 15 = .ok (.iastore, 1) := by decide +kernel
theorem dX12_readCure_16 : decode cX12_readCure 16 = .ok (.aload_n 0, 1) := by decide +kernel
theorem dX12_readCure_17 : decode cX12_readCure 17 = .ok (.getfield 59, 3) := by decide +kernel
theorem dX12_readCure_20 : decode cX12_readCure 20 = .ok (.iload_n 1, 1) := by decide +kernel
theorem dX12_readCure_21 : decode cX12_readCure 21 = .ok (.iaload, 1) := by decide +kernel
theorem dX12_readCure_22 : decode cX12_readCure 22 = .ok (.iconst (-1), 1) := by decide +kernel
theorem dX12_readCure_23 : decode cX12_readCure 23 = .ok (.if_icmp .ne 5, 3) := by decide +kernel
theorem dX12_readCure_26 : decode cX12_readCure 26 = .ok (.iconst (-1), 1) := by decide +kernel
theorem dX12_readCure_27 : decode cX12_readCure 27 = .ok (.ireturn, 1) := by decide +kernel
theorem dX12_readCure_28 : decode cX12_readCure 28 = .ok (.aload_n 0, 1) := by decide +kernel
theorem dX12_readCure_29 : decode cX12_readCure 29 = .ok (.getfield 166, 3) := by decide +kernel
theorem dX12_readCure_32 : decode cX12_readCure 32 = .ok (.iconst 2, 1) := by decide +kernel
theorem dX12_readCure_33 : decode cX12_readCure 33 = .ok (.if_icmp .ne 18, 3) := by decide +kernel
theorem dX12_readCure_36 : decode cX12_readCure 36 = .ok (.aload_n 0, 1) := by decide +kernel
theorem dX12_readCure_37 : decode cX12_readCure 37 = .ok (.aload_n 0, 1) := by decide +kernel
theorem dX12_readCure_38 : decode cX12_readCure 38 = .ok (.getfield 169, 3) := by decide +kernel
theorem dX12_readCure_41 : decode cX12_readCure 41 = .ok (.bipush 18, 2) := by decide +kernel
theorem dX12_readCure_43 : decode cX12_readCure 43 = .ok (.bipush 21, 2) := by decide +kernel
theorem dX12_readCure_45 : decode cX12_readCure 45 = .ok (.invokevirtual 137, 3) := by decide +kernel
theorem dX12_readCure_48 : decode cX12_readCure 48 = .ok (.ifCond .ne 9, 3) := by decide +kernel
theorem dX12_readCure_51 : decode cX12_readCure 51 = .ok (.aload_n 0, 1) := by decide +kernel
theorem dX12_readCure_52 : decode cX12_readCure 52 = .ok (.iconst 1, 1) := by decide +kernel
theorem dX12_readCure_53 : decode cX12_readCure 53 = .ok (.invokevirtual 197, 3) := by decide +kernel
theorem dX12_readCure_56 : decode cX12_readCure 56 = .ok (.ireturn, 1) := by decide +kernel
theorem dX12_readCure_57 : decode cX12_readCure 57 = .ok (.aload_n 0, 1) := by decide +kernel
theorem dX12_readCure_58 : decode cX12_readCure 58 = .ok (.getfield 169, 3) := by decide +kernel
theorem dX12_readCure_61 : decode cX12_readCure 61 = .ok (.bipush 18, 2) := by decide +kernel
theorem dX12_readCure_63 : decode cX12_readCure 63 = .ok (.isub, 1) := by decide +kernel
theorem dX12_readCure_64 : decode cX12_readCure 64 = .ok (.istore_n 2, 1) := by decide +kernel
theorem dX12_readCure_65 : decode cX12_readCure 65 = .ok (.aload_n 0, 1) := by decide +kernel
theorem dX12_readCure_66 : decode cX12_readCure 66 = .ok (.invokevirtual 203, 3) := by decide +kernel
theorem dX12_readCure_69 : decode cX12_readCure 69 = .ok (.aload_n 0, 1) := by decide +kernel
theorem dX12_readCure_70 : decode cX12_readCure 70 = .ok (.getfield 59, 3) := by decide +kernel
theorem dX12_readCure_73 : decode cX12_readCure 73 = .ok (.iload_n 1, 1) := by decide +kernel
theorem dX12_readCure_74 : decode cX12_readCure 74 = .ok (.iconst 1, 1) := by decide +kernel
theorem dX12_readCure_75 : decode cX12_readCure 75 = .ok (.iadd, 1) := by decide +kernel
theorem dX12_readCure_76 : decode cX12_readCure 76 = .ok (.iload_n 2, 1) := by decide +kernel
theorem dX12_readCure_77 : decode cX12_readCure 77 = .ok (.iastore, 1) := by decide +kernel
theorem dX12_readCure_78 : decode cX12_readCure 78 = .ok (.aload_n 0, 1) := by decide +kernel
theorem dX12_readCure_79 : decode cX12_readCure 79 = .ok (.getfield 59, 3) := by decide +kernel
theorem dX12_readCure_82 : decode cX12_readCure 82 = .ok (.iload_n 1, 1) := by decide +kernel
theorem dX12_readCure_83 : decode cX12_readCure 83 = .ok (.iconst 2, 1) := by decide +kernel
theorem dX12_readCure_84 : decode cX12_readCure 84 = .ok (.iadd, 1) := by decide +kernel
theorem dX12_readCure_85 : decode cX12_readCure 85 = .ok (.aload_n 0, 1) := by decide +kernel
theorem dX12_readCure_86 : decode cX12_readCure 86 = .ok (.iconst 0, 1) := by decide +kernel
theorem dX12_readCure_87 : decode cX12_readCure 87 = .ok (.aload_n 0, 1) := by decide +kernel
theorem dX12_readCure_88 : decode cX12_readCure 88 = .ok (.getfield 134, 3) := by decide +kernel
theorem dX12_readCure_91 : decode cX12_readCure 91 = .ok (.iconst 1, 1) := by decide +kernel
theorem dX12_readCure_92 : decode cX12_readCure 92 = .ok (.isub, 1) := by decide +kernel
theorem dX12_readCure_93 : decode cX12_readCure 93 = .ok (.invokevirtual 247, 3) := by decide +kernel
theorem dX12_readCure_96 : decode cX12_readCure 96 = .ok (.iastore, 1) := by decide +kernel
theorem dX12_readCure_97 : decode cX12_readCure 97 = .ok (.aload_n 0, 1) := by decide +kernel
theorem dX12_readCure_98 : decode cX12_readCure 98 = .ok (.getfield 59, 3) := by decide +kernel
theorem dX12_readCure_101 : decode cX12_readCure 101 = .ok (.iload_n 1, 1) := by decide +kernel
theorem dX12_readCure_102 : decode cX12_readCure 102 = .ok (.iconst 2, 1) := by decide +kernel
theorem dX12_readCure_103 : decode cX12_readCure 103 = .ok (.iadd, 1) := by decide +kernel
theorem dX12_readCure_104 : decode cX12_readCure 104 = .ok (.iaload, 1) := by decide +kernel
theorem dX12_readCure_105 : decode cX12_readCure 105 = .ok (.iconst (-1), 1) := by decide +kernel
theorem dX12_readCure_106 : decode cX12_readCure 106 = .ok (.if_icmp .ne 5, 3) := by decide +kernel
theorem dX12_readCure_109 : decode cX12_readCure 109 = .ok (.iconst (-1), 1) := by decide +kernel
theorem dX12_readCure_110 : decode cX12_readCure 110 = .ok (.ireturn, 1) := by decide +kernel
theorem dX12_readCure_111 : decode cX12_readCure 111 = .ok (.aload_n 0, 1) := by decide +kernel
theorem dX12_readCure_112 : decode cX12_readCure 112 = .ok (.getfield 59, 3) := by decide +kernel
theorem dX12_readCure_115 : decode cX12_readCure 115 = .ok (.iload_n 1, 1) := by decide +kernel
theorem dX12_readCure_116 : decode cX12_readCure 116 = .ok (.iconst 3, 1) := by decide +kernel
theorem dX12_readCure_117 : decode cX12_readCure 117 = .ok (.iadd, 1) := by decide +kernel
theorem dX12_readCure_118 : decode cX12_readCure 118 = .ok (.iload_n 2, 1) := by decide +kernel
theorem dX12_readCure_119 : decode cX12_readCure 119 = .ok (.iconst 1, 1) := by decide +kernel
theorem dX12_readCure_120 : decode cX12_readCure 120 = .ok (.if_icmp .ne 13, 3) := by decide +kernel
theorem dX12_readCure_123 : decode cX12_readCure 123 = .ok (.aload_n 0, 1) := by decide +kernel
theorem dX12_readCure_124 : decode cX12_readCure 124 = .ok (.iconst 1, 1) := by decide +kernel
theorem dX12_readCure_125 : decode cX12_readCure 125 = .ok (.bipush 99, 2) := by decide +kernel
theorem dX12_readCure_127 : decode cX12_readCure 127 = .ok (.invokevirtual 247, 3) := by decide +kernel
theorem dX12_readCure_130 : decode cX12_readCure 130 = .ok (.goto 24, 3) := by decide +kernel
theorem dX12_readCure_133 : decode cX12_readCure 133 = .ok (.iload_n 2, 1) := by decide +kernel
theorem dX12_readCure_134 : decode cX12_readCure 134 = .ok (.iconst 2, 1) := by decide +kernel
theorem dX12_readCure_135 : decode cX12_readCure 135 = .ok (.if_icmp .ne 18, 3) := by decide +kernel
theorem dX12_readCure_138 : decode cX12_readCure 138 = .ok (.aload_n 0, 1) := by decide +kernel
theorem dX12_readCure_139 : decode cX12_readCure 139 = .ok (.aload_n 0, 1) := by decide +kernel
theorem dX12_readCure_140 : decode cX12_readCure 140 = .ok (.getfield 59, 3) := by decide +kernel
theorem dX12_readCure_143 : decode cX12_readCure 143 = .ok (.iload_n 1, 1) := by decide +kernel
theorem dX12_readCure_144 : decode cX12_readCure 144 = .ok (.iconst 2, 1) := by decide +kernel
theorem dX12_readCure_145 : decode cX12_readCure 145 = .ok (.iadd, 1) := by decide +kernel
theorem dX12_readCure_146 : decode cX12_readCure 146 = .ok (.iaload, 1) := by decide +kernel
theorem dX12_readCure_147 : decode cX12_readCure 147 = .ok (.invokevirtual 254, 3) := by decide +kernel
theorem dX12_readCure_150 : decode cX12_readCure 150 = .ok (.goto 4, 3) := by decide +kernel
theorem dX12_readCure_153 : decode cX12_readCure 153 = .ok (.iconst 0, 1) := by decide +kernel
theorem dX12_readCure_154 : decode cX12_readCure 154 = .ok (.iastore, 1) := by decide +kernel
theorem dX12_readCure_155 : decode cX12_readCure 155 = .ok (.aload_n 0, 1) := by decide +kernel
theorem dX12_readCure_156 : decode cX12_readCure 156 = .ok (.getfield 59, 3) := by decide +kernel
theorem dX12_readCure_159 : decode cX12_readCure 159 = .ok (.iload_n 1, 1) := by decide +kernel
theorem dX12_readCure_160 : decode cX12_readCure 160 = .ok (.iconst 3, 1) := by decide +kernel
theorem dX12_readCure_161 : decode cX12_readCure 161 = .ok (.iadd, 1) := by decide +kernel
theorem dX12_readCure_162 : decode cX12_readCure 162 = .ok (.iaload, 1) := by decide +kernel
theorem dX12_readCure_163 : decode cX12_readCure 163 = .ok (.iconst (-1), 1) := by decide +kernel
theorem dX12_readCure_164 : decode cX12_readCure 164 = .ok (.if_icmp .ne 7, 3) := by decide +kernel
theorem dX12_readCure_167 : decode cX12_readCure 167 = .ok (.iconst (-1), 1) := by decide +kernel
theorem dX12_readCure_168 : decode cX12_readCure 168 = .ok (.goto 9, 3) := by decide +kernel
theorem dX12_readCure_171 : decode cX12_readCure 171 = .ok (.aload_n 0, 1) := by decide +kernel
theorem dX12_readCure_172 : decode cX12_readCure 172 = .ok (.bipush 59, 2) := by decide +kernel
theorem dX12_readCure_174 : decode cX12_readCure 174 = .ok (.invokevirtual 257, 3) := by decide +kernel
theorem dX12_readCure_177 : decode cX12_readCure 177 = .ok (.ireturn, 1) := by decide +kernel
def jn_X12_readCure_51 (s : Mem) : Option (Int32 × Mem) :=
  (f_X12_errs 1 s).bind fun r6 =>
  some (r6.1, r6.2)
def jn_X12_readCure_154 (x1 : Int32) (t1 : Int32) (t2 : Int32) (s : Mem) : Option (Int32 × Mem) :=
  (wr 128 s 16 t1 t2).bind fun s17 =>
  (rd 128 (s17 16) (x1 + 3)).bind fun v18 =>
  if v18 = (-1) then
  some ((-1), s17)
  else
  (f_X12_readMark 59 s17).bind fun r20 =>
  some (r20.1, r20.2)
def f_X12_readCure (x1 : Int32) (s : Mem) : Option (Int32 × Mem) :=
  (f_X12_readTold 15 0 999 s).bind fun r1 =>
  (wr 128 r1.2 16 x1 r1.1).bind fun s2 =>
  (rd 128 (s2 16) x1).bind fun v3 =>
  if v3 = (-1) then
  some ((-1), s2)
  else
  if (s2 0 12) = 2 then
  (f_X12_isIn (s2 0 13) 18 21 s2).bind fun r7 =>
  if r7.1 = 0 then
  jn_X12_readCure_51 r7.2
  else
  (f_X12_reads r7.2).bind fun r9 =>
  (wr 128 r9 16 (x1 + 1) ((r7.2 0 13) - 18)).bind fun s10 =>
  (f_X12_readNumber 0 ((s10 0 6) - 1) s10).bind fun r11 =>
  (wr 128 r11.2 16 (x1 + 2) r11.1).bind fun s12 =>
  (rd 128 (s12 16) (x1 + 2)).bind fun v13 =>
  if v13 = (-1) then
  some ((-1), s12)
  else
  if ((r7.2 0 13) - 18) = 1 then
  (f_X12_readNumber 1 99 s12).bind fun r23 =>
  jn_X12_readCure_154 x1 (x1 + 3) r23.1 r23.2
  else
  if ((r7.2 0 13) - 18) = 2 then
  (rd 128 (s12 16) (x1 + 2)).bind fun v21 =>
  (f_X12_readOther v21 s12).bind fun r22 =>
  jn_X12_readCure_154 x1 (x1 + 3) r22.1 r22.2
  else
  jn_X12_readCure_154 x1 (x1 + 3) 0 s12
  else
  jn_X12_readCure_51 s2
set_option maxRecDepth 100000 in
set_option maxHeartbeats 4000000 in
theorem jo_X12_readCure_51 {fr : Nat} (hfr : 5 ≤ fr) (Z : AZ) (X : AX Z cX12_readCure 3 RX12 (some .int) 1 fr) (s : Mem) (r : Int32 × Mem) (hz : zres Z = (some (.int r.1), r.2)) (h : jn_X12_readCure_51 s = some r) : AW Z s 51 [some (.ref (zr Z 0)), none, none] [] := by
  unfold jn_X12_readCure_51 at h
  refine aw_aload_n X dX12_readCure_51 rfl ?_
  refine aw_iconst (v := 1) X dX12_readCure_52 (by decide) ?_
  obtain ⟨r6, er6, h⟩ := bnd h
  refine aw_callV X dX12_readCure_53 cv_RX12_197 (ok_X12_errs er6 _ _ _ _ _) iu_RX12 rfl (Nat.le_trans (by decide) hfr) (by decide) rfl rfl (Nat.le_of_ble_eq_true rfl) ?_
  cases h
  exact aw_iret X dX12_readCure_56 rfl hz.symm
set_option maxRecDepth 100000 in
set_option maxHeartbeats 4000000 in
theorem jo_X12_readCure_154 {fr : Nat} (hfr : 5 ≤ fr) (Z : AZ) (X : AX Z cX12_readCure 3 RX12 (some .int) 1 fr) (x1 : Int32) (t1 : Int32) (t2 : Int32) (s : Mem) (r : Int32 × Mem) (hz : zres Z = (some (.int r.1), r.2)) (h : jn_X12_readCure_154 x1 t1 t2 s = some r) : AW Z s 154 [some (.ref (zr Z 0)), some (.int x1), none] [.int t2, .int t1, .ref (zr Z 16)] := by
  unfold jn_X12_readCure_154 at h
  obtain ⟨s17, es17, h⟩ := bnd h
  refine aw_iast X dX12_readCure_154 iu_RX12_34 es17 ?_
  refine aw_aload_n X dX12_readCure_155 rfl ?_
  refine aw_getr X dX12_readCure_156 fl_RX12_59 iu_RX12 gu_RX12_34 ?_
  refine aw_iload_n X dX12_readCure_159 rfl ?_
  refine aw_iconst (v := 3) X dX12_readCure_160 (by decide) ?_
  refine aw_iadd X dX12_readCure_161 ?_
  obtain ⟨v18, ev18, h⟩ := bnd h
  refine aw_iald X dX12_readCure_162 iu_RX12_34 ev18 ?_
  refine aw_iconst (v := (-1)) X dX12_readCure_163 (by decide) ?_
  refine aw_icmp_ne (tgt := 171) X dX12_readCure_164 (by decide) (fun c19 => ?_) (fun c19 => ?_)
  · rw [if_neg c19] at h
    refine aw_aload_n X dX12_readCure_171 rfl ?_
    refine aw_bipush (v := 59) X dX12_readCure_172 (by decide) ?_
    obtain ⟨r20, er20, h⟩ := bnd h
    refine aw_callV X dX12_readCure_174 cv_RX12_257 (ok_X12_readMark er20 _ _ _ _ _) iu_RX12 rfl (Nat.le_trans (by decide) hfr) (by decide) rfl rfl (Nat.le_of_ble_eq_true rfl) ?_
    cases h
    exact aw_iret X dX12_readCure_177 rfl hz.symm
  · rw [if_pos c19] at h
    refine aw_iconst (v := (-1)) X dX12_readCure_167 (by decide) ?_
    refine aw_goto (tgt := 177) X dX12_readCure_168 (by decide) ?_
    cases h
    exact aw_iret X dX12_readCure_177 rfl hz.symm
set_option maxRecDepth 100000 in
set_option maxHeartbeats 4000000 in
theorem w_X12_readCure {fr : Nat} (hfr : 5 ≤ fr) (Z : AZ) (X : AX Z cX12_readCure 3 RX12 (some .int) 1 fr) (x1 : Int32) (s : Mem) (r : Int32 × Mem) (hz : zres Z = (some (.int r.1), r.2)) (h : f_X12_readCure x1 s = some r) : AW Z s 0 [some (.ref (zr Z 0)), some (.int x1), none] [] := by
  unfold f_X12_readCure at h
  refine aw_aload_n X dX12_readCure_0 rfl ?_
  refine aw_getr X dX12_readCure_1 fl_RX12_59 iu_RX12 gu_RX12_34 ?_
  refine aw_iload_n X dX12_readCure_4 rfl ?_
  refine aw_aload_n X dX12_readCure_5 rfl ?_
  refine aw_bipush (v := 15) X dX12_readCure_6 (by decide) ?_
  refine aw_iconst (v := 0) X dX12_readCure_8 (by decide) ?_
  refine aw_sipush (v := 999) X dX12_readCure_9 (by decide) ?_
  obtain ⟨r1, er1, h⟩ := bnd h
  refine aw_callV X dX12_readCure_12 cv_RX12_250 (ok_X12_readTold er1 _ _ _ _ _) iu_RX12 rfl (Nat.le_trans (by decide) hfr) (by decide) rfl rfl (Nat.le_of_ble_eq_true rfl) ?_
  obtain ⟨s2, es2, h⟩ := bnd h
  refine aw_iast X dX12_readCure_15 iu_RX12_34 es2 ?_
  refine aw_aload_n X dX12_readCure_16 rfl ?_
  refine aw_getr X dX12_readCure_17 fl_RX12_59 iu_RX12 gu_RX12_34 ?_
  refine aw_iload_n X dX12_readCure_20 rfl ?_
  obtain ⟨v3, ev3, h⟩ := bnd h
  refine aw_iald X dX12_readCure_21 iu_RX12_34 ev3 ?_
  refine aw_iconst (v := (-1)) X dX12_readCure_22 (by decide) ?_
  refine aw_icmp_ne (tgt := 28) X dX12_readCure_23 (by decide) (fun c4 => ?_) (fun c4 => ?_)
  · rw [if_neg c4] at h
    refine aw_aload_n X dX12_readCure_28 rfl ?_
    refine aw_geti X dX12_readCure_29 fl_RX12_166 iu_RX12 gu_RX12_12 ?_
    refine aw_iconst (v := 2) X dX12_readCure_32 (by decide) ?_
    refine aw_icmp_ne (tgt := 51) X dX12_readCure_33 (by decide) (fun c5 => ?_) (fun c5 => ?_)
    · rw [if_neg c5] at h
      refine aw_msk [true, false, false] ?_
      exact jo_X12_readCure_51 hfr Z X _ _ hz h
    · rw [if_pos c5] at h
      refine aw_aload_n X dX12_readCure_36 rfl ?_
      refine aw_aload_n X dX12_readCure_37 rfl ?_
      refine aw_geti X dX12_readCure_38 fl_RX12_169 iu_RX12 gu_RX12_13 ?_
      refine aw_bipush (v := 18) X dX12_readCure_41 (by decide) ?_
      refine aw_bipush (v := 21) X dX12_readCure_43 (by decide) ?_
      obtain ⟨r7, er7, h⟩ := bnd h
      refine aw_callV X dX12_readCure_45 cv_RX12_137 (ok_X12_isIn er7 _ _ _ _ _) iu_RX12 rfl (Nat.le_trans (by decide) hfr) (by decide) rfl rfl (Nat.le_of_ble_eq_true rfl) ?_
      refine aw_if_ne (tgt := 57) X dX12_readCure_48 (by decide) (fun c8 => ?_) (fun c8 => ?_)
      · rw [if_neg c8] at h
        refine aw_aload_n X dX12_readCure_57 rfl ?_
        refine aw_geti X dX12_readCure_58 fl_RX12_169 iu_RX12 gu_RX12_13 ?_
        refine aw_bipush (v := 18) X dX12_readCure_61 (by decide) ?_
        refine aw_isub X dX12_readCure_63 ?_
        refine aw_istore_n (L' := [some (.ref (zr Z 0)), some (.int x1), some (.int ((r7.2 0 13) - 18))]) X dX12_readCure_64 (by decide) rfl ?_
        refine aw_aload_n X dX12_readCure_65 rfl ?_
        obtain ⟨r9, er9, h⟩ := bnd h
        refine aw_callV X dX12_readCure_66 cv_RX12_203 (ok_X12_reads er9 _ _ _ _ _) iu_RX12 rfl (Nat.le_trans (by decide) hfr) (by decide) rfl rfl (Nat.le_of_ble_eq_true rfl) ?_
        refine aw_aload_n X dX12_readCure_69 rfl ?_
        refine aw_getr X dX12_readCure_70 fl_RX12_59 iu_RX12 gu_RX12_34 ?_
        refine aw_iload_n X dX12_readCure_73 rfl ?_
        refine aw_iconst (v := 1) X dX12_readCure_74 (by decide) ?_
        refine aw_iadd X dX12_readCure_75 ?_
        refine aw_iload_n X dX12_readCure_76 rfl ?_
        obtain ⟨s10, es10, h⟩ := bnd h
        refine aw_iast X dX12_readCure_77 iu_RX12_34 es10 ?_
        refine aw_aload_n X dX12_readCure_78 rfl ?_
        refine aw_getr X dX12_readCure_79 fl_RX12_59 iu_RX12 gu_RX12_34 ?_
        refine aw_iload_n X dX12_readCure_82 rfl ?_
        refine aw_iconst (v := 2) X dX12_readCure_83 (by decide) ?_
        refine aw_iadd X dX12_readCure_84 ?_
        refine aw_aload_n X dX12_readCure_85 rfl ?_
        refine aw_iconst (v := 0) X dX12_readCure_86 (by decide) ?_
        refine aw_aload_n X dX12_readCure_87 rfl ?_
        refine aw_geti X dX12_readCure_88 fl_RX12_134 iu_RX12 gu_RX12_6 ?_
        refine aw_iconst (v := 1) X dX12_readCure_91 (by decide) ?_
        refine aw_isub X dX12_readCure_92 ?_
        obtain ⟨r11, er11, h⟩ := bnd h
        refine aw_callV X dX12_readCure_93 cv_RX12_247 (ok_X12_readNumber er11 _ _ _ _ _) iu_RX12 rfl (Nat.le_trans (by decide) hfr) (by decide) rfl rfl (Nat.le_of_ble_eq_true rfl) ?_
        obtain ⟨s12, es12, h⟩ := bnd h
        refine aw_iast X dX12_readCure_96 iu_RX12_34 es12 ?_
        refine aw_aload_n X dX12_readCure_97 rfl ?_
        refine aw_getr X dX12_readCure_98 fl_RX12_59 iu_RX12 gu_RX12_34 ?_
        refine aw_iload_n X dX12_readCure_101 rfl ?_
        refine aw_iconst (v := 2) X dX12_readCure_102 (by decide) ?_
        refine aw_iadd X dX12_readCure_103 ?_
        obtain ⟨v13, ev13, h⟩ := bnd h
        refine aw_iald X dX12_readCure_104 iu_RX12_34 ev13 ?_
        refine aw_iconst (v := (-1)) X dX12_readCure_105 (by decide) ?_
        refine aw_icmp_ne (tgt := 111) X dX12_readCure_106 (by decide) (fun c14 => ?_) (fun c14 => ?_)
        · rw [if_neg c14] at h
          refine aw_aload_n X dX12_readCure_111 rfl ?_
          refine aw_getr X dX12_readCure_112 fl_RX12_59 iu_RX12 gu_RX12_34 ?_
          refine aw_iload_n X dX12_readCure_115 rfl ?_
          refine aw_iconst (v := 3) X dX12_readCure_116 (by decide) ?_
          refine aw_iadd X dX12_readCure_117 ?_
          refine aw_iload_n X dX12_readCure_118 rfl ?_
          refine aw_iconst (v := 1) X dX12_readCure_119 (by decide) ?_
          refine aw_icmp_ne (tgt := 133) X dX12_readCure_120 (by decide) (fun c15 => ?_) (fun c15 => ?_)
          · rw [if_neg c15] at h
            refine aw_iload_n X dX12_readCure_133 rfl ?_
            refine aw_iconst (v := 2) X dX12_readCure_134 (by decide) ?_
            refine aw_icmp_ne (tgt := 153) X dX12_readCure_135 (by decide) (fun c16 => ?_) (fun c16 => ?_)
            · rw [if_neg c16] at h
              refine aw_iconst (v := 0) X dX12_readCure_153 (by decide) ?_
              refine aw_msk [true, true, false] ?_
              exact jo_X12_readCure_154 hfr Z X _ _ _ _ _ hz h
            · rw [if_pos c16] at h
              refine aw_aload_n X dX12_readCure_138 rfl ?_
              refine aw_aload_n X dX12_readCure_139 rfl ?_
              refine aw_getr X dX12_readCure_140 fl_RX12_59 iu_RX12 gu_RX12_34 ?_
              refine aw_iload_n X dX12_readCure_143 rfl ?_
              refine aw_iconst (v := 2) X dX12_readCure_144 (by decide) ?_
              refine aw_iadd X dX12_readCure_145 ?_
              obtain ⟨v21, ev21, h⟩ := bnd h
              refine aw_iald X dX12_readCure_146 iu_RX12_34 ev21 ?_
              obtain ⟨r22, er22, h⟩ := bnd h
              refine aw_callV X dX12_readCure_147 cv_RX12_254 (ok_X12_readOther er22 _ _ _ _ _) iu_RX12 rfl (Nat.le_trans (by decide) hfr) (by decide) rfl rfl (Nat.le_of_ble_eq_true rfl) ?_
              refine aw_goto (tgt := 154) X dX12_readCure_150 (by decide) ?_
              refine aw_msk [true, true, false] ?_
              exact jo_X12_readCure_154 hfr Z X _ _ _ _ _ hz h
          · rw [if_pos c15] at h
            refine aw_aload_n X dX12_readCure_123 rfl ?_
            refine aw_iconst (v := 1) X dX12_readCure_124 (by decide) ?_
            refine aw_bipush (v := 99) X dX12_readCure_125 (by decide) ?_
            obtain ⟨r23, er23, h⟩ := bnd h
            refine aw_callV X dX12_readCure_127 cv_RX12_247 (ok_X12_readNumber er23 _ _ _ _ _) iu_RX12 rfl (Nat.le_trans (by decide) hfr) (by decide) rfl rfl (Nat.le_of_ble_eq_true rfl) ?_
            refine aw_goto (tgt := 154) X dX12_readCure_130 (by decide) ?_
            refine aw_msk [true, true, false] ?_
            exact jo_X12_readCure_154 hfr Z X _ _ _ _ _ hz h
        · rw [if_pos c14] at h
          refine aw_iconst (v := (-1)) X dX12_readCure_109 (by decide) ?_
          cases h
          exact aw_iret X dX12_readCure_110 rfl hz.symm
      · rw [if_pos c8] at h
        refine aw_msk [true, false, false] ?_
        exact jo_X12_readCure_51 hfr Z X _ _ hz h
  · rw [if_pos c4] at h
    refine aw_iconst (v := (-1)) X dX12_readCure_26 (by decide) ?_
    cases h
    exact aw_iret X dX12_readCure_27 rfl hz.symm
set_option maxRecDepth 100000 in
set_option maxHeartbeats 4000000 in
theorem ok_X12_readCure {x1 : Int32} {s : Mem} {r : Int32 × Mem} (h : f_X12_readCure x1 s = some r) (l : Launch) (D : va_G) (ρ : Nat → Nat) (cA : ClassId × ClassId × ClassId) (τ : AT) : AM l D ρ cA 1 τ yX12_readCure cX12_readCure 3 (some .int) 5 [.ref (ρ 0), .int x1] (some (.int r.1)) s r.2 := by
  refine AM_of (L := [some (.ref (ρ 0)), some (.int x1), none]) (by decide) (by simp [Value.category]) (Nat.le_of_ble_eq_true rfl) (fun j v q => ?_) (fun Z X hρ hz => ?_)
  · exact aL_ok (n := 1) [.ref (ρ 0), .int x1] j v q
  · subst hρ
    exact w_X12_readCure (Nat.le_refl _) Z X x1 s r hz h

theorem dX12_readCures_0 : decode cX12_readCures 0 = .ok (.iconst 0, 1) := by decide +kernel
theorem dX12_readCures_1 : decode cX12_readCures 1 = .ok (.istore_n 1, 1) := by decide +kernel
theorem dX12_readCures_2 : decode cX12_readCures 2 = .ok (.aload_n 0, 1) := by decide +kernel
theorem dX12_readCures_3 : decode cX12_readCures 3 = .ok (.bipush 15, 2) := by decide +kernel
theorem dX12_readCures_5 : decode cX12_readCures 5 = .ok (.invokevirtual 225, 3) := by decide +kernel
theorem dX12_readCures_8 : decode cX12_readCures 8 = .ok (.ifCond .eq 38, 3) := by decide +kernel
theorem dX12_readCures_11 : decode cX12_readCures 11 = .ok (.iload_n 1, 1) := by decide +kernel
theorem dX12_readCures_12 : decode cX12_readCures 12 = .ok (.bipush 16, 2) := by decide +kernel
theorem dX12_readCures_14 : decode cX12_readCures 14 = .ok (.if_icmp .ne 9, 3) := by decide +kernel
theorem dX12_readCures_17 : decode cX12_readCures 17 = .ok (.aload_n 0, 1) := by decide +kernel
theorem dX12_readCures_18 : decode cX12_readCures 18 = .ok (.iconst 3, 1) := by decide +kernel
theorem dX12_readCures_19 : decode cX12_readCures 19 = .ok (.invokevirtual 197, 3) := by decide +kernel
theorem dX12_readCures_22 : decode cX12_readCures 22 = .ok (.ireturn, 1) := by decide +kernel
theorem dX12_readCures_23 : decode cX12_readCures 23 = .ok (.aload_n 0, 1) := by decide +kernel
theorem dX12_readCures_24 : decode cX12_readCures 24 = .ok (.bipush 64, 2) := by decide +kernel
theorem dX12_readCures_26 : decode cX12_readCures 26 = .ok (.iconst 4, 1) := by decide +kernel
theorem dX12_readCures_27 : decode cX12_readCures 27 = .ok (.iload_n 1, 1) := by decide +kernel
theorem dX12_readCures_28 : decode cX12_readCures 28 = .ok (.imul, 1) := by decide +kernel
theorem dX12_readCures_29 : decode cX12_readCures 29 = .ok (.iadd, 1) := by decide +kernel
theorem dX12_readCures_30 : decode cX12_readCures 30 = .ok (.invokevirtual 263, 3) := by decide +kernel
theorem dX12_readCures_33 : decode cX12_readCures 33 = .ok (.iconst (-1), 1) := by decide +kernel
theorem dX12_readCures_34 : decode cX12_readCures 34 = .ok (.if_icmp .ne 5, 3) := by decide +kernel
theorem dX12_readCures_37 : decode cX12_readCures 37 = .ok (.iconst (-1), 1) := by decide +kernel
theorem dX12_readCures_38 : decode cX12_readCures 38 = .ok (.ireturn, 1) := by decide +kernel
theorem dX12_readCures_39 : decode cX12_readCures 39 = .ok (.iload_n 1, 1) := by decide +kernel
theorem dX12_readCures_40 : decode cX12_readCures 40 = .ok (.iconst 1, 1) := by decide +kernel
theorem dX12_readCures_41 : decode cX12_readCures 41 = .ok (.iadd, 1) := by decide +kernel
theorem dX12_readCures_42 : decode cX12_readCures 42 = .ok (.istore_n 1, 1) := by decide +kernel
theorem dX12_readCures_43 : decode cX12_readCures 43 = .ok (.goto (-41), 3) := by decide +kernel
theorem dX12_readCures_46 : decode cX12_readCures 46 = .ok (.aload_n 0, 1) := by decide +kernel
theorem dX12_readCures_47 : decode cX12_readCures 47 = .ok (.getfield 166, 3) := by decide +kernel
theorem dX12_readCures_50 : decode cX12_readCures 50 = .ok (.ifCond .ne 7, 3) := by decide +kernel
theorem dX12_readCures_53 : decode cX12_readCures 53 = .ok (.iload_n 1, 1) := by decide +kernel
theorem dX12_readCures_54 : decode cX12_readCures 54 = .ok (.goto 8, 3) := by decide +kernel
theorem dX12_readCures_57 : decode cX12_readCures 57 = .ok (.aload_n 0, 1) := by decide +kernel
theorem dX12_readCures_58 : decode cX12_readCures 58 = .ok (.iconst 1, 1) := by decide +kernel
theorem dX12_readCures_59 : decode cX12_readCures 59 = .ok (.invokevirtual 197, 3) := by decide +kernel
theorem dX12_readCures_62 : decode cX12_readCures 62 = .ok (.ireturn, 1) := by decide +kernel
def st_X12_readCures_2 (x1 : Int32) (s : Mem) : Option ((Int32 × Mem) ⊕ (Nat × Int32 × Mem)) :=
  (f_X12_isWord 15 s).bind fun r1 =>
  if r1.1 = 0 then
  some (.inr (2, x1, r1.2))
  else
  if x1 = 16 then
  some (.inr (0, 0, r1.2))
  else
  (f_X12_readCure (64 + (4 * x1)) r1.2).bind fun r4 =>
  if r4.1 = (-1) then
  some (.inr (1, 0, r4.2))
  else
  some (.inl ((x1 + 1), r4.2))
def f_X12_readCures (s : Mem) : Option (Int32 × Mem) :=
  (it FUEL (fun y => st_X12_readCures_2 y.1 y.2) (0, s)).bind fun r6 =>
  if r6.1 = 0 then (f_X12_errs 3 r6.2.2).bind fun r7 =>
  some (r7.1, r7.2) else if r6.1 = 1 then some ((-1), r6.2.2) else if (r6.2.2 0 12) = 0 then
  some (r6.2.1, r6.2.2)
  else
  (f_X12_errs 1 r6.2.2).bind fun r9 =>
  some (r9.1, r9.2)
set_option maxRecDepth 100000 in
set_option maxHeartbeats 4000000 in
theorem so_X12_readCures_2 {fr : Nat} (hfr : 6 ≤ fr) (Z : AZ) (X : AX Z cX12_readCures 2 RX12 (some .int) 1 fr) (x1 : Int32) (s : Mem) (q : (Int32 × Mem) ⊕ (Nat × Int32 × Mem)) (h : st_X12_readCures_2 x1 s = some q) (hi : ∀ y : Int32 × Mem, q = .inl y → AW Z y.2 2 [some (.ref (zr Z 0)), some (.int y.1)] []) (he : ∀ b : Nat × Int32 × Mem, q = .inr b → (b.1 = 0 → AW Z b.2.2 17 [some (.ref (zr Z 0)), none] []) ∧ (b.1 = 1 → AW Z b.2.2 37 [none, none] []) ∧ (b.1 = 2 → AW Z b.2.2 46 [some (.ref (zr Z 0)), some (.int b.2.1)] [])) : AW Z s 2 [some (.ref (zr Z 0)), some (.int x1)] [] := by
  unfold st_X12_readCures_2 at h
  refine aw_aload_n X dX12_readCures_2 rfl ?_
  refine aw_bipush (v := 15) X dX12_readCures_3 (by decide) ?_
  obtain ⟨r1, er1, h⟩ := bnd h
  refine aw_callV X dX12_readCures_5 cv_RX12_225 (ok_X12_isWord er1 _ _ _ _ _) iu_RX12 rfl (Nat.le_trans (by decide) hfr) (by decide) rfl rfl (Nat.le_of_ble_eq_true rfl) ?_
  refine aw_if_eq (tgt := 46) X dX12_readCures_8 (by decide) (fun c2 => ?_) (fun c2 => ?_)
  · rw [if_pos c2] at h
    cases h
    refine aw_msk [true, true] ?_
    exact (he _ rfl).2.2 rfl
  · rw [if_neg c2] at h
    refine aw_iload_n X dX12_readCures_11 rfl ?_
    refine aw_bipush (v := 16) X dX12_readCures_12 (by decide) ?_
    refine aw_icmp_ne (tgt := 23) X dX12_readCures_14 (by decide) (fun c3 => ?_) (fun c3 => ?_)
    · rw [if_neg c3] at h
      refine aw_aload_n X dX12_readCures_23 rfl ?_
      refine aw_bipush (v := 64) X dX12_readCures_24 (by decide) ?_
      refine aw_iconst (v := 4) X dX12_readCures_26 (by decide) ?_
      refine aw_iload_n X dX12_readCures_27 rfl ?_
      refine aw_imul X dX12_readCures_28 ?_
      refine aw_iadd X dX12_readCures_29 ?_
      obtain ⟨r4, er4, h⟩ := bnd h
      refine aw_callV X dX12_readCures_30 cv_RX12_263 (ok_X12_readCure er4 _ _ _ _ _) iu_RX12 rfl (Nat.le_trans (by decide) hfr) (by decide) rfl rfl (Nat.le_of_ble_eq_true rfl) ?_
      refine aw_iconst (v := (-1)) X dX12_readCures_33 (by decide) ?_
      refine aw_icmp_ne (tgt := 39) X dX12_readCures_34 (by decide) (fun c5 => ?_) (fun c5 => ?_)
      · rw [if_neg c5] at h
        refine aw_iload_n X dX12_readCures_39 rfl ?_
        refine aw_iconst (v := 1) X dX12_readCures_40 (by decide) ?_
        refine aw_iadd X dX12_readCures_41 ?_
        refine aw_istore_n (L' := [some (.ref (zr Z 0)), some (.int (x1 + 1))]) X dX12_readCures_42 (by decide) rfl ?_
        refine aw_goto (tgt := 2) X dX12_readCures_43 (by decide) ?_
        cases h
        refine aw_msk [true, true] ?_
        exact hi _ rfl
      · rw [if_pos c5] at h
        cases h
        refine aw_msk [false, false] ?_
        exact (he _ rfl).2.1 rfl
    · rw [if_pos c3] at h
      cases h
      refine aw_msk [true, false] ?_
      exact (he _ rfl).1 rfl
set_option maxRecDepth 100000 in
set_option maxHeartbeats 4000000 in
theorem w_X12_readCures {fr : Nat} (hfr : 6 ≤ fr) (Z : AZ) (X : AX Z cX12_readCures 2 RX12 (some .int) 1 fr) (s : Mem) (r : Int32 × Mem) (hz : zres Z = (some (.int r.1), r.2)) (h : f_X12_readCures s = some r) : AW Z s 0 [some (.ref (zr Z 0)), none] [] := by
  unfold f_X12_readCures at h
  refine aw_iconst (v := 0) X dX12_readCures_0 (by decide) ?_
  refine aw_istore_n (L' := [some (.ref (zr Z 0)), some (.int 0)]) X dX12_readCures_1 (by decide) rfl ?_
  obtain ⟨r6, er6, h⟩ := bnd h
  refine aw_msk [true, true] ?_
  refine it_ok (P := fun y : Int32 × Mem => AW Z y.2 2 [some (.ref (zr Z 0)), some (.int y.1)] []) (Q := fun b : Nat × Int32 × Mem => (b.1 = 0 → AW Z b.2.2 17 [some (.ref (zr Z 0)), none] []) ∧ (b.1 = 1 → AW Z b.2.2 37 [none, none] []) ∧ (b.1 = 2 → AW Z b.2.2 46 [some (.ref (zr Z 0)), some (.int b.2.1)] [])) (fun y q hq hi he => so_X12_readCures_2 hfr Z X y.1 y.2 q hq hi he) FUEL _ _ er6 ?_
  refine ⟨fun c0 => ?_, fun c1 => ?_, fun c2 => ?_⟩
  · rw [if_pos c0] at h
    refine aw_aload_n X dX12_readCures_17 rfl ?_
    refine aw_iconst (v := 3) X dX12_readCures_18 (by decide) ?_
    obtain ⟨r7, er7, h⟩ := bnd h
    refine aw_callV X dX12_readCures_19 cv_RX12_197 (ok_X12_errs er7 _ _ _ _ _) iu_RX12 rfl (Nat.le_trans (by decide) hfr) (by decide) rfl rfl (Nat.le_of_ble_eq_true rfl) ?_
    cases h
    exact aw_iret X dX12_readCures_22 rfl hz.symm
  · rw [if_neg (by rw [c1]; decide)] at h
    rw [if_pos c1] at h
    refine aw_iconst (v := (-1)) X dX12_readCures_37 (by decide) ?_
    cases h
    exact aw_iret X dX12_readCures_38 rfl hz.symm
  · rw [if_neg (by rw [c2]; decide)] at h
    rw [if_neg (by rw [c2]; decide)] at h
    refine aw_aload_n X dX12_readCures_46 rfl ?_
    refine aw_geti X dX12_readCures_47 fl_RX12_166 iu_RX12 gu_RX12_12 ?_
    refine aw_if_ne (tgt := 57) X dX12_readCures_50 (by decide) (fun c8 => ?_) (fun c8 => ?_)
    · rw [if_neg c8] at h
      refine aw_aload_n X dX12_readCures_57 rfl ?_
      refine aw_iconst (v := 1) X dX12_readCures_58 (by decide) ?_
      obtain ⟨r9, er9, h⟩ := bnd h
      refine aw_callV X dX12_readCures_59 cv_RX12_197 (ok_X12_errs er9 _ _ _ _ _) iu_RX12 rfl (Nat.le_trans (by decide) hfr) (by decide) rfl rfl (Nat.le_of_ble_eq_true rfl) ?_
      cases h
      exact aw_iret X dX12_readCures_62 rfl hz.symm
    · rw [if_pos c8] at h
      refine aw_iload_n X dX12_readCures_53 rfl ?_
      refine aw_goto (tgt := 62) X dX12_readCures_54 (by decide) ?_
      cases h
      exact aw_iret X dX12_readCures_62 rfl hz.symm
set_option maxRecDepth 100000 in
set_option maxHeartbeats 4000000 in
theorem ok_X12_readCures {s : Mem} {r : Int32 × Mem} (h : f_X12_readCures s = some r) (l : Launch) (D : va_G) (ρ : Nat → Nat) (cA : ClassId × ClassId × ClassId) (τ : AT) : AM l D ρ cA 1 τ yX12_readCures cX12_readCures 2 (some .int) 6 [.ref (ρ 0)] (some (.int r.1)) s r.2 := by
  refine AM_of (L := [some (.ref (ρ 0)), none]) (by decide) (by simp [Value.category]) (Nat.le_of_ble_eq_true rfl) (fun j v q => ?_) (fun Z X hρ hz => ?_)
  · exact aL_ok (n := 1) [.ref (ρ 0)] j v q
  · subst hρ
    exact w_X12_readCures (Nat.le_refl _) Z X s r hz h

theorem dX12_readRow_0 : decode cX12_readRow 0 = .ok (.aload_n 0, 1) := by decide +kernel
theorem dX12_readRow_1 : decode cX12_readRow 1 = .ok (.bipush 16, 2) := by decide +kernel
theorem dX12_readRow_3 : decode cX12_readRow 3 = .ok (.iconst 0, 1) := by decide +kernel
theorem dX12_readRow_4 : decode cX12_readRow 4 = .ok (.aload_n 0, 1) := by decide +kernel
theorem dX12_readRow_5 : decode cX12_readRow 5 = .ok (.getfield 134, 3) := by decide +kernel
theorem dX12_readRow_8 : decode cX12_readRow 8 = .ok (.iconst 1, 1) := by decide +kernel
theorem dX12_readRow_9 : decode cX12_readRow 9 = .ok (.isub, 1) := by decide +kernel
theorem dX12_readRow_10 : decode cX12_readRow 10 = .ok (.invokevirtual 250, 3) := by decide +kernel
theorem dX12_readRow_13 : decode cX12_readRow 13 = .ok (.istore_n 1, 1) := by decide +kernel
theorem dX12_readRow_14 : decode cX12_readRow 14 = .ok (.iload_n 1, 1) := by decide +kernel
theorem dX12_readRow_15 : decode cX12_readRow 15 = .ok (.iconst (-1), 1) := by decide +kernel
theorem dX12_readRow_16 : decode cX12_readRow 16 = .ok (.if_icmp .ne 5, 3) := by decide +kernel
theorem dX12_readRow_19 : decode cX12_readRow 19 = .ok (.iconst (-1), 1) := by decide +kernel
theorem dX12_readRow_20 : decode cX12_readRow 20 = .ok (.ireturn, 1) := by decide +kernel
theorem dX12_readRow_21 : decode cX12_readRow 21 = .ok (.aload_n 0, 1) := by decide +kernel
theorem dX12_readRow_22 : decode cX12_readRow 22 = .ok (.bipush 22, 2) := by decide +kernel
theorem dX12_readRow_24 : decode cX12_readRow 24 = .ok (.invokevirtual 225, 3) := by decide +kernel
theorem dX12_readRow_27 : decode cX12_readRow 27 = .ok (.ifCond .ne 9, 3) := by decide +kernel
theorem dX12_readRow_30 : decode cX12_readRow 30 = .ok (.aload_n 0, 1) := by decide +kernel
theorem dX12_readRow_31 : decode cX12_readRow 31 = .ok (.iconst 1, 1) := by decide +kernel
theorem dX12_readRow_32 : decode cX12_readRow 32 = .ok (.invokevirtual 197, 3) := by decide +kernel
theorem dX12_readRow_35 : decode cX12_readRow 35 = .ok (.ireturn, 1) := by decide +kernel
theorem dX12_readRow_36 : decode cX12_readRow 36 = .ok (.aload_n 0, 1) := by decide +kernel
theorem dX12_readRow_37 : decode cX12_readRow 37 = .ok (.invokevirtual 203, 3) := by decide +kernel
theorem dX12_readRow_40 : decode cX12_readRow 40 = .ok (.iconst 0, 1) := by decide +kernel
theorem dX12_readRow_41 : decode cX12_readRow 41 = .ok (.istore_n 2, 1) := by decide +kernel
theorem dX12_readRow_42 : decode cX12_readRow 42 = .ok (.iload_n 2, 1) := by decide +kernel
theorem dX12_readRow_43 : decode cX12_readRow 43 = .ok (.ifCond .eq 11, 3) := by decide +kernel
theorem dX12_readRow_46 : decode cX12_readRow 46 = .ok (.aload_n 0, 1) := by decide +kernel
theorem dX12_readRow_47 : decode cX12_readRow 47 = .ok (.getfield 166, 3) := by decide +kernel
theorem dX12_readRow_50 : decode cX12_readRow 50 = .ok (.iconst 3, 1) := by decide +kernel
theorem dX12_readRow_51 : decode cX12_readRow 51 = .ok (.if_icmp .ne 64, 3) := by decide +kernel
theorem dX12_readRow_54 : decode cX12_readRow 54 = .ok (.aload_n 0, 1) := by decide +kernel
theorem dX12_readRow_55 : decode cX12_readRow 55 = .ok (.getfield 163, 3) := by decide +kernel
theorem dX12_readRow_58 : decode cX12_readRow 58 = .ok (.istore_n 3, 1) := by decide +kernel
theorem dX12_readRow_59 : decode cX12_readRow 59 = .ok (.aload_n 0, 1) := by decide +kernel
theorem dX12_readRow_60 : decode cX12_readRow 60 = .ok (.iload_n 1, 1) := by decide +kernel
theorem dX12_readRow_61 : decode cX12_readRow 61 = .ok (.invokevirtual 254, 3) := by decide +kernel
theorem dX12_readRow_64 : decode cX12_readRow 64 = .ok (.istore 4, 2) := by decide +kernel
theorem dX12_readRow_66 : decode cX12_readRow 66 = .ok (.iload 4, 2) := by decide +kernel
theorem dX12_readRow_68 : decode cX12_readRow 68 = .ok (.iconst (-1), 1) := by decide +kernel
theorem dX12_readRow_69 : decode cX12_readRow 69 = .ok (.if_icmp .ne 5, 3) := by decide +kernel
theorem dX12_readRow_72 : decode cX12_readRow 72 = .ok (.iconst (-1), 1) := by decide +kernel
theorem dX12_readRow_73 : decode cX12_readRow 73 = .ok (.ireturn, 1) := by decide +kernel
theorem dX12_readRow_74 : decode cX12_readRow 74 = .ok (.iload_n 2, 1) := by decide +kernel
theorem dX12_readRow_75 : decode cX12_readRow 75 = .ok (.bipush 6, 2) := by decide +kernel
theorem dX12_readRow_77 : decode cX12_readRow 77 = .ok (.if_icmp .ne 15, 3) := by decide +kernel
theorem dX12_readRow_80 : decode cX12_readRow 80 = .ok (.aload_n 0, 1) := by decide +kernel
theorem dX12_readRow_81 : decode cX12_readRow 81 = .ok (.iload_n 3, 1) := by decide +kernel
theorem dX12_readRow_82 : decode cX12_readRow 82 = .ok (.putfield 188, 3) := by decide +kernel
theorem dX12_readRow_85 : decode cX12_readRow 85 = .ok (.aload_n 0, 1) := by decide +kernel
theorem dX12_readRow_86 : decode cX12_readRow 86 = .ok (.iconst 3, 1) := by decide +kernel
theorem dX12_readRow_87 : decode cX12_readRow 87 = .ok (.putfield 185, 3) := by decide +kernel
theorem dX12_readRow_90 : decode cX12_readRow 90 = .ok (.iconst (-1), 1) := by decide +kernel
theorem dX12_readRow_91 : decode cX12_readRow 91 = .ok (.ireturn, 1) := by decide +kernel
theorem dX12_readRow_92 : decode cX12_readRow 92 = .ok (.aload_n 0, 1) := by decide +kernel
theorem dX12_readRow_93 : decode cX12_readRow 93 = .ok (.getfield 65, 3) := by decide +kernel
theorem dX12_readRow_96 : decode cX12_readRow 96 = .ok (.bipush 6, 2) := by decide +kernel
theorem dX12_readRow_98 : decode cX12_readRow 98 = .ok (.bipush 14, 2) := by decide +kernel
theorem dX12_readRow_100 : decode cX12_readRow 100 = .ok (.iload_n 1, 1) := by decide +kernel
theorem dX12_readRow_101 : decode cX12_readRow 101 = .ok (.iadd, 1) := by decide +kernel
theorem dX12_readRow_102 : decode cX12_readRow 102 = .ok (.imul, 1) := by decide +kernel
theorem dX12_readRow_103 : decode cX12_readRow 103 = .ok (.iload_n 2, 1) := by decide +kernel
theorem dX12_readRow_104 : decode cX12_readRow 104 = .ok (.iadd, 1) := by decide +kernel
theorem dX12_readRow_105 : decode cX12_readRow 105 = .ok (.iload 4, 2) := by decide +kernel
theorem dX12_readRow_107 : decode cX12_readRow 107 = .ok (.iastore, 1) := by decide +kernel
theorem dX12_readRow_108 : decode cX12_readRow 108 = .ok (.iload_n 2, 1) := by decide +kernel
theorem dX12_readRow_109 : decode cX12_readRow 109 = .ok (.iconst 1, 1) := by decide +kernel
theorem dX12_readRow_110 : decode cX12_readRow 110 = .ok (.iadd, 1) := by decide +kernel
theorem dX12_readRow_111 : decode cX12_readRow 111 = .ok (.istore_n 2, 1) := by decide +kernel
theorem dX12_readRow_112 : decode cX12_readRow 112 = .ok (.goto (-70), 3) := by decide +kernel
theorem dX12_readRow_115 : decode cX12_readRow 115 = .ok (.aload_n 0, 1) := by decide +kernel
theorem dX12_readRow_116 : decode cX12_readRow 116 = .ok (.getfield 62, 3) := by decide +kernel
theorem dX12_readRow_119 : decode cX12_readRow 119 = .ok (.bipush 14, 2) := by decide +kernel
theorem dX12_readRow_121 : decode cX12_readRow 121 = .ok (.iload_n 1, 1) := by decide +kernel
theorem dX12_readRow_122 : decode cX12_readRow 122 = .ok (.iadd, 1) := by decide +kernel
theorem dX12_readRow_123 : decode cX12_readRow 123 = .ok (.iload_n 2, 1) := by decide +kernel
theorem dX12_readRow_124 : decode cX12_readRow 124 = .ok (.iastore, 1) := by decide +kernel
theorem dX12_readRow_125 : decode cX12_readRow 125 = .ok (.aload_n 0, 1) := by decide +kernel
theorem dX12_readRow_126 : decode cX12_readRow 126 = .ok (.bipush 59, 2) := by decide +kernel
theorem dX12_readRow_128 : decode cX12_readRow 128 = .ok (.invokevirtual 257, 3) := by decide +kernel
theorem dX12_readRow_131 : decode cX12_readRow 131 = .ok (.ireturn, 1) := by decide +kernel
def jn_X12_readRow_54 (x1 : Int32) (x2 : Int32) (s : Mem) : Option ((Int32 × Mem) ⊕ (Nat × Int32 × Int32 × Mem)) :=
  (f_X12_readOther x1 s).bind fun r7 =>
  if r7.1 = (-1) then
  some (.inr (0, 0, 0, r7.2))
  else
  if x2 = 6 then
  some (.inr (1, 0, (s 0 11), r7.2))
  else
  (wr 168 r7.2 18 ((6 * (14 + x1)) + x2) r7.1).bind fun s10 =>
  some (.inl ((x2 + 1), s10))
def st_X12_readRow_42 (x1 : Int32) (x2 : Int32) (s : Mem) : Option ((Int32 × Mem) ⊕ (Nat × Int32 × Int32 × Mem)) :=
  if x2 = 0 then
  jn_X12_readRow_54 x1 x2 s
  else
  if (s 0 12) = 3 then
  jn_X12_readRow_54 x1 x2 s
  else
  some (.inr (2, x2, 0, s))
def f_X12_readRow (s : Mem) : Option (Int32 × Mem) :=
  (f_X12_readTold 16 0 ((s 0 6) - 1) s).bind fun r1 =>
  if r1.1 = (-1) then
  some ((-1), r1.2)
  else
  (f_X12_isWord 22 r1.2).bind fun r3 =>
  if r3.1 = 0 then
  (f_X12_errs 1 r3.2).bind fun r15 =>
  some (r15.1, r15.2)
  else
  (f_X12_reads r3.2).bind fun r5 =>
  (it FUEL (fun y => st_X12_readRow_42 r1.1 y.1 y.2) (0, r5)).bind fun r12 =>
  if r12.1 = 0 then some ((-1), r12.2.2.2) else if r12.1 = 1 then some ((-1), (mset (mset r12.2.2.2 0 28 r12.2.2.1) 0 27 3)) else (wr 28 r12.2.2.2 17 (14 + r1.1) r12.2.1).bind fun s13 =>
  (f_X12_readMark 59 s13).bind fun r14 =>
  some (r14.1, r14.2)
set_option maxRecDepth 100000 in
set_option maxHeartbeats 4000000 in
theorem jo_X12_readRow_54 {fr : Nat} (hfr : 5 ≤ fr) (Z : AZ) (X : AX Z cX12_readRow 5 RX12 (some .int) 1 fr) (x1 : Int32) (x2 : Int32) (s : Mem) (q : (Int32 × Mem) ⊕ (Nat × Int32 × Int32 × Mem)) (h : jn_X12_readRow_54 x1 x2 s = some q) (hi : ∀ y : Int32 × Mem, q = .inl y → AW Z y.2 42 [some (.ref (zr Z 0)), some (.int x1), some (.int y.1), none, none] []) (he : ∀ b : Nat × Int32 × Int32 × Mem, q = .inr b → (b.1 = 0 → AW Z b.2.2.2 72 [none, none, none, none, none] []) ∧ (b.1 = 1 → AW Z b.2.2.2 80 [some (.ref (zr Z 0)), none, none, some (.int b.2.2.1), none] []) ∧ (b.1 = 2 → AW Z b.2.2.2 115 [some (.ref (zr Z 0)), some (.int x1), some (.int b.2.1), none, none] [])) : AW Z s 54 [some (.ref (zr Z 0)), some (.int x1), some (.int x2), none, none] [] := by
  unfold jn_X12_readRow_54 at h
  refine aw_aload_n X dX12_readRow_54 rfl ?_
  refine aw_geti X dX12_readRow_55 fl_RX12_163 iu_RX12 gu_RX12_11 ?_
  refine aw_istore_n (L' := [some (.ref (zr Z 0)), some (.int x1), some (.int x2), some (.int (s 0 11)), none]) X dX12_readRow_58 (by decide) rfl ?_
  refine aw_aload_n X dX12_readRow_59 rfl ?_
  refine aw_iload_n X dX12_readRow_60 rfl ?_
  obtain ⟨r7, er7, h⟩ := bnd h
  refine aw_callV X dX12_readRow_61 cv_RX12_254 (ok_X12_readOther er7 _ _ _ _ _) iu_RX12 rfl (Nat.le_trans (by decide) hfr) (by decide) rfl rfl (Nat.le_of_ble_eq_true rfl) ?_
  refine aw_istore (L' := [some (.ref (zr Z 0)), some (.int x1), some (.int x2), some (.int (s 0 11)), some (.int r7.1)]) X dX12_readRow_64 (by decide) rfl ?_
  refine aw_iload X dX12_readRow_66 rfl ?_
  refine aw_iconst (v := (-1)) X dX12_readRow_68 (by decide) ?_
  refine aw_icmp_ne (tgt := 74) X dX12_readRow_69 (by decide) (fun c8 => ?_) (fun c8 => ?_)
  · rw [if_neg c8] at h
    refine aw_iload_n X dX12_readRow_74 rfl ?_
    refine aw_bipush (v := 6) X dX12_readRow_75 (by decide) ?_
    refine aw_icmp_ne (tgt := 92) X dX12_readRow_77 (by decide) (fun c9 => ?_) (fun c9 => ?_)
    · rw [if_neg c9] at h
      refine aw_aload_n X dX12_readRow_92 rfl ?_
      refine aw_getr X dX12_readRow_93 fl_RX12_65 iu_RX12 gu_RX12_37 ?_
      refine aw_bipush (v := 6) X dX12_readRow_96 (by decide) ?_
      refine aw_bipush (v := 14) X dX12_readRow_98 (by decide) ?_
      refine aw_iload_n X dX12_readRow_100 rfl ?_
      refine aw_iadd X dX12_readRow_101 ?_
      refine aw_imul X dX12_readRow_102 ?_
      refine aw_iload_n X dX12_readRow_103 rfl ?_
      refine aw_iadd X dX12_readRow_104 ?_
      refine aw_iload X dX12_readRow_105 rfl ?_
      obtain ⟨s10, es10, h⟩ := bnd h
      refine aw_iast X dX12_readRow_107 iu_RX12_37 es10 ?_
      refine aw_iload_n X dX12_readRow_108 rfl ?_
      refine aw_iconst (v := 1) X dX12_readRow_109 (by decide) ?_
      refine aw_iadd X dX12_readRow_110 ?_
      refine aw_istore_n (L' := [some (.ref (zr Z 0)), some (.int x1), some (.int (x2 + 1)), some (.int (s 0 11)), some (.int r7.1)]) X dX12_readRow_111 (by decide) rfl ?_
      refine aw_goto (tgt := 42) X dX12_readRow_112 (by decide) ?_
      cases h
      refine aw_msk [true, true, true, false, false] ?_
      exact hi _ rfl
    · rw [if_pos c9] at h
      cases h
      refine aw_msk [true, false, false, true, false] ?_
      exact (he _ rfl).2.1 rfl
  · rw [if_pos c8] at h
    cases h
    refine aw_msk [false, false, false, false, false] ?_
    exact (he _ rfl).1 rfl
set_option maxRecDepth 100000 in
set_option maxHeartbeats 4000000 in
theorem so_X12_readRow_42 {fr : Nat} (hfr : 5 ≤ fr) (Z : AZ) (X : AX Z cX12_readRow 5 RX12 (some .int) 1 fr) (x1 : Int32) (x2 : Int32) (s : Mem) (q : (Int32 × Mem) ⊕ (Nat × Int32 × Int32 × Mem)) (h : st_X12_readRow_42 x1 x2 s = some q) (hi : ∀ y : Int32 × Mem, q = .inl y → AW Z y.2 42 [some (.ref (zr Z 0)), some (.int x1), some (.int y.1), none, none] []) (he : ∀ b : Nat × Int32 × Int32 × Mem, q = .inr b → (b.1 = 0 → AW Z b.2.2.2 72 [none, none, none, none, none] []) ∧ (b.1 = 1 → AW Z b.2.2.2 80 [some (.ref (zr Z 0)), none, none, some (.int b.2.2.1), none] []) ∧ (b.1 = 2 → AW Z b.2.2.2 115 [some (.ref (zr Z 0)), some (.int x1), some (.int b.2.1), none, none] [])) : AW Z s 42 [some (.ref (zr Z 0)), some (.int x1), some (.int x2), none, none] [] := by
  unfold st_X12_readRow_42 at h
  refine aw_iload_n X dX12_readRow_42 rfl ?_
  refine aw_if_eq (tgt := 54) X dX12_readRow_43 (by decide) (fun c6 => ?_) (fun c6 => ?_)
  · rw [if_pos c6] at h
    refine aw_msk [true, true, true, false, false] ?_
    exact jo_X12_readRow_54 hfr Z X _ _ _ _ h hi he
  · rw [if_neg c6] at h
    refine aw_aload_n X dX12_readRow_46 rfl ?_
    refine aw_geti X dX12_readRow_47 fl_RX12_166 iu_RX12 gu_RX12_12 ?_
    refine aw_iconst (v := 3) X dX12_readRow_50 (by decide) ?_
    refine aw_icmp_ne (tgt := 115) X dX12_readRow_51 (by decide) (fun c11 => ?_) (fun c11 => ?_)
    · rw [if_neg c11] at h
      cases h
      refine aw_msk [true, true, true, false, false] ?_
      exact (he _ rfl).2.2 rfl
    · rw [if_pos c11] at h
      refine aw_msk [true, true, true, false, false] ?_
      exact jo_X12_readRow_54 hfr Z X _ _ _ _ h hi he
set_option maxRecDepth 100000 in
set_option maxHeartbeats 4000000 in
theorem w_X12_readRow {fr : Nat} (hfr : 5 ≤ fr) (Z : AZ) (X : AX Z cX12_readRow 5 RX12 (some .int) 1 fr) (s : Mem) (r : Int32 × Mem) (hz : zres Z = (some (.int r.1), r.2)) (h : f_X12_readRow s = some r) : AW Z s 0 [some (.ref (zr Z 0)), none, none, none, none] [] := by
  unfold f_X12_readRow at h
  refine aw_aload_n X dX12_readRow_0 rfl ?_
  refine aw_bipush (v := 16) X dX12_readRow_1 (by decide) ?_
  refine aw_iconst (v := 0) X dX12_readRow_3 (by decide) ?_
  refine aw_aload_n X dX12_readRow_4 rfl ?_
  refine aw_geti X dX12_readRow_5 fl_RX12_134 iu_RX12 gu_RX12_6 ?_
  refine aw_iconst (v := 1) X dX12_readRow_8 (by decide) ?_
  refine aw_isub X dX12_readRow_9 ?_
  obtain ⟨r1, er1, h⟩ := bnd h
  refine aw_callV X dX12_readRow_10 cv_RX12_250 (ok_X12_readTold er1 _ _ _ _ _) iu_RX12 rfl (Nat.le_trans (by decide) hfr) (by decide) rfl rfl (Nat.le_of_ble_eq_true rfl) ?_
  refine aw_istore_n (L' := [some (.ref (zr Z 0)), some (.int r1.1), none, none, none]) X dX12_readRow_13 (by decide) rfl ?_
  refine aw_iload_n X dX12_readRow_14 rfl ?_
  refine aw_iconst (v := (-1)) X dX12_readRow_15 (by decide) ?_
  refine aw_icmp_ne (tgt := 21) X dX12_readRow_16 (by decide) (fun c2 => ?_) (fun c2 => ?_)
  · rw [if_neg c2] at h
    refine aw_aload_n X dX12_readRow_21 rfl ?_
    refine aw_bipush (v := 22) X dX12_readRow_22 (by decide) ?_
    obtain ⟨r3, er3, h⟩ := bnd h
    refine aw_callV X dX12_readRow_24 cv_RX12_225 (ok_X12_isWord er3 _ _ _ _ _) iu_RX12 rfl (Nat.le_trans (by decide) hfr) (by decide) rfl rfl (Nat.le_of_ble_eq_true rfl) ?_
    refine aw_if_ne (tgt := 36) X dX12_readRow_27 (by decide) (fun c4 => ?_) (fun c4 => ?_)
    · rw [if_neg c4] at h
      refine aw_aload_n X dX12_readRow_36 rfl ?_
      obtain ⟨r5, er5, h⟩ := bnd h
      refine aw_callV X dX12_readRow_37 cv_RX12_203 (ok_X12_reads er5 _ _ _ _ _) iu_RX12 rfl (Nat.le_trans (by decide) hfr) (by decide) rfl rfl (Nat.le_of_ble_eq_true rfl) ?_
      refine aw_iconst (v := 0) X dX12_readRow_40 (by decide) ?_
      refine aw_istore_n (L' := [some (.ref (zr Z 0)), some (.int r1.1), some (.int 0), none, none]) X dX12_readRow_41 (by decide) rfl ?_
      obtain ⟨r12, er12, h⟩ := bnd h
      refine aw_msk [true, true, true, false, false] ?_
      refine it_ok (P := fun y : Int32 × Mem => AW Z y.2 42 [some (.ref (zr Z 0)), some (.int r1.1), some (.int y.1), none, none] []) (Q := fun b : Nat × Int32 × Int32 × Mem => (b.1 = 0 → AW Z b.2.2.2 72 [none, none, none, none, none] []) ∧ (b.1 = 1 → AW Z b.2.2.2 80 [some (.ref (zr Z 0)), none, none, some (.int b.2.2.1), none] []) ∧ (b.1 = 2 → AW Z b.2.2.2 115 [some (.ref (zr Z 0)), some (.int r1.1), some (.int b.2.1), none, none] [])) (fun y q hq hi he => so_X12_readRow_42 hfr Z X r1.1 y.1 y.2 q hq hi he) FUEL _ _ er12 ?_
      refine ⟨fun c0 => ?_, fun c1 => ?_, fun c2 => ?_⟩
      · rw [if_pos c0] at h
        refine aw_iconst (v := (-1)) X dX12_readRow_72 (by decide) ?_
        cases h
        exact aw_iret X dX12_readRow_73 rfl hz.symm
      · rw [if_neg (by rw [c1]; decide)] at h
        rw [if_pos c1] at h
        refine aw_aload_n X dX12_readRow_80 rfl ?_
        refine aw_iload_n X dX12_readRow_81 rfl ?_
        refine aw_put X dX12_readRow_82 fp_RX12_188 iu_RX12 gu_RX12_28 rfl rfl ?_
        refine aw_aload_n X dX12_readRow_85 rfl ?_
        refine aw_iconst (v := 3) X dX12_readRow_86 (by decide) ?_
        refine aw_put X dX12_readRow_87 fp_RX12_185 iu_RX12 gu_RX12_27 rfl rfl ?_
        refine aw_iconst (v := (-1)) X dX12_readRow_90 (by decide) ?_
        cases h
        exact aw_iret X dX12_readRow_91 rfl hz.symm
      · rw [if_neg (by rw [c2]; decide)] at h
        rw [if_neg (by rw [c2]; decide)] at h
        refine aw_aload_n X dX12_readRow_115 rfl ?_
        refine aw_getr X dX12_readRow_116 fl_RX12_62 iu_RX12 gu_RX12_36 ?_
        refine aw_bipush (v := 14) X dX12_readRow_119 (by decide) ?_
        refine aw_iload_n X dX12_readRow_121 rfl ?_
        refine aw_iadd X dX12_readRow_122 ?_
        refine aw_iload_n X dX12_readRow_123 rfl ?_
        obtain ⟨s13, es13, h⟩ := bnd h
        refine aw_iast X dX12_readRow_124 iu_RX12_36 es13 ?_
        refine aw_aload_n X dX12_readRow_125 rfl ?_
        refine aw_bipush (v := 59) X dX12_readRow_126 (by decide) ?_
        obtain ⟨r14, er14, h⟩ := bnd h
        refine aw_callV X dX12_readRow_128 cv_RX12_257 (ok_X12_readMark er14 _ _ _ _ _) iu_RX12 rfl (Nat.le_trans (by decide) hfr) (by decide) rfl rfl (Nat.le_of_ble_eq_true rfl) ?_
        cases h
        exact aw_iret X dX12_readRow_131 rfl hz.symm
    · rw [if_pos c4] at h
      refine aw_aload_n X dX12_readRow_30 rfl ?_
      refine aw_iconst (v := 1) X dX12_readRow_31 (by decide) ?_
      obtain ⟨r15, er15, h⟩ := bnd h
      refine aw_callV X dX12_readRow_32 cv_RX12_197 (ok_X12_errs er15 _ _ _ _ _) iu_RX12 rfl (Nat.le_trans (by decide) hfr) (by decide) rfl rfl (Nat.le_of_ble_eq_true rfl) ?_
      cases h
      exact aw_iret X dX12_readRow_35 rfl hz.symm
  · rw [if_pos c2] at h
    refine aw_iconst (v := (-1)) X dX12_readRow_19 (by decide) ?_
    cases h
    exact aw_iret X dX12_readRow_20 rfl hz.symm
set_option maxRecDepth 100000 in
set_option maxHeartbeats 4000000 in
theorem ok_X12_readRow {s : Mem} {r : Int32 × Mem} (h : f_X12_readRow s = some r) (l : Launch) (D : va_G) (ρ : Nat → Nat) (cA : ClassId × ClassId × ClassId) (τ : AT) : AM l D ρ cA 1 τ yX12_readRow cX12_readRow 5 (some .int) 5 [.ref (ρ 0)] (some (.int r.1)) s r.2 := by
  refine AM_of (L := [some (.ref (ρ 0)), none, none, none, none]) (by decide) (by simp [Value.category]) (Nat.le_of_ble_eq_true rfl) (fun j v q => ?_) (fun Z X hρ hz => ?_)
  · exact aL_ok (n := 4) [.ref (ρ 0)] j v q
  · subst hρ
    exact w_X12_readRow (Nat.le_refl _) Z X s r hz h

theorem dX12_readRows_0 : decode cX12_readRows 0 = .ok (.iconst 0, 1) := by decide +kernel
theorem dX12_readRows_1 : decode cX12_readRows 1 = .ok (.istore_n 1, 1) := by decide +kernel
theorem dX12_readRows_2 : decode cX12_readRows 2 = .ok (.iload_n 1, 1) := by decide +kernel
theorem dX12_readRows_3 : decode cX12_readRows 3 = .ok (.bipush 14, 2) := by decide +kernel
theorem dX12_readRows_5 : decode cX12_readRows 5 = .ok (.if_icmp .ge 19, 3) := by decide +kernel
theorem dX12_readRows_8 : decode cX12_readRows 8 = .ok (.aload_n 0, 1) := by decide +kernel
theorem dX12_readRows_9 : decode cX12_readRows 9 = .ok (.getfield 62, 3) := by decide +kernel
theorem dX12_readRows_12 : decode cX12_readRows 12 = .ok (.bipush 14, 2) := by decide +kernel
theorem dX12_readRows_14 : decode cX12_readRows 14 = .ok (.iload_n 1, 1) := by decide +kernel
theorem dX12_readRows_15 : decode cX12_readRows 15 = .ok (.iadd, 1) := by decide +kernel
theorem dX12_readRows_16 : decode cX12_readRows 16 = .ok (.iconst 0, 1) := by decide +kernel
theorem dX12_readRows_17 : decode cX12_readRows 17 = .ok (.iastore, 1) := by decide +kernel
theorem dX12_readRows_18 : decode cX12_readRows 18 = .ok (.iinc 1 1, 3) := by decide +kernel
theorem dX12_readRows_21 : decode cX12_readRows 21 = .ok (.goto (-19), 3) := by decide +kernel
theorem dX12_readRows_24 : decode cX12_readRows 24 = .ok (.iconst 0, 1) := by decide +kernel
theorem dX12_readRows_25 : decode cX12_readRows 25 = .ok (.istore_n 1, 1) := by decide +kernel
theorem dX12_readRows_26 : decode cX12_readRows 26 = .ok (.aload_n 0, 1) := by decide +kernel
theorem dX12_readRows_27 : decode cX12_readRows 27 = .ok (.bipush 16, 2) := by decide +kernel
theorem dX12_readRows_29 : decode cX12_readRows 29 = .ok (.invokevirtual 225, 3) := by decide +kernel
theorem dX12_readRows_32 : decode cX12_readRows 32 = .ok (.ifCond .eq 32, 3) := by decide +kernel
theorem dX12_readRows_35 : decode cX12_readRows 35 = .ok (.iload_n 1, 1) := by decide +kernel
theorem dX12_readRows_36 : decode cX12_readRows 36 = .ok (.bipush 16, 2) := by decide +kernel
theorem dX12_readRows_38 : decode cX12_readRows 38 = .ok (.if_icmp .ne 9, 3) := by decide +kernel
theorem dX12_readRows_41 : decode cX12_readRows 41 = .ok (.aload_n 0, 1) := by decide +kernel
theorem dX12_readRows_42 : decode cX12_readRows 42 = .ok (.iconst 3, 1) := by decide +kernel
theorem dX12_readRows_43 : decode cX12_readRows 43 = .ok (.invokevirtual 197, 3) := by decide +kernel
theorem dX12_readRows_46 : decode cX12_readRows 46 = .ok (.ireturn, 1) := by decide +kernel
theorem dX12_readRows_47 : decode cX12_readRows 47 = .ok (.aload_n 0, 1) := by decide +kernel
theorem dX12_readRows_48 : decode cX12_readRows 48 = .ok (.invokevirtual 266, 3) := by decide +kernel
theorem dX12_readRows_51 : decode cX12_readRows 51 = .ok (.iconst (-1), 1) := by decide +kernel
theorem dX12_readRows_52 : decode cX12_readRows 52 = .ok (.if_icmp .ne 5, 3) := by decide +kernel
theorem dX12_readRows_55 : decode cX12_readRows 55 = .ok (.iconst (-1), 1) := by decide +kernel
theorem dX12_readRows_56 : decode cX12_readRows 56 = .ok (.ireturn, 1) := by decide +kernel
theorem dX12_readRows_57 : decode cX12_readRows 57 = .ok (.iload_n 1, 1) := by decide +kernel
theorem dX12_readRows_58 : decode cX12_readRows 58 = .ok (.iconst 1, 1) := by decide +kernel
theorem dX12_readRows_59 : decode cX12_readRows 59 = .ok (.iadd, 1) := by decide +kernel
theorem dX12_readRows_60 : decode cX12_readRows 60 = .ok (.istore_n 1, 1) := by decide +kernel
theorem dX12_readRows_61 : decode cX12_readRows 61 = .ok (.goto (-35), 3) := by decide +kernel
theorem dX12_readRows_64 : decode cX12_readRows 64 = .ok (.aload_n 0, 1) := by decide +kernel
theorem dX12_readRows_65 : decode cX12_readRows 65 = .ok (.getfield 166, 3) := by decide +kernel
theorem dX12_readRows_68 : decode cX12_readRows 68 = .ok (.ifCond .ne 7, 3) := by decide +kernel
theorem dX12_readRows_71 : decode cX12_readRows 71 = .ok (.iload_n 1, 1) := by decide +kernel
theorem dX12_readRows_72 : decode cX12_readRows 72 = .ok (.goto 8, 3) := by decide +kernel
theorem dX12_readRows_75 : decode cX12_readRows 75 = .ok (.aload_n 0, 1) := by decide +kernel
theorem dX12_readRows_76 : decode cX12_readRows 76 = .ok (.iconst 1, 1) := by decide +kernel
theorem dX12_readRows_77 : decode cX12_readRows 77 = .ok (.invokevirtual 197, 3) := by decide +kernel
theorem dX12_readRows_80 : decode cX12_readRows 80 = .ok (.ireturn, 1) := by decide +kernel
def st_X12_readRows_2 (x1 : Int32) (s : Mem) : Option ((Int32 × Mem) ⊕ (Mem)) :=
  if 14 ≤ x1 then
  some (.inr (s))
  else
  (wr 28 s 17 (14 + x1) 0).bind fun s2 =>
  some (.inl ((x1 + 1), s2))
def st_X12_readRows_26 (x1 : Int32) (s : Mem) : Option ((Int32 × Mem) ⊕ (Nat × Int32 × Mem)) :=
  (f_X12_isWord 16 s).bind fun r4 =>
  if r4.1 = 0 then
  some (.inr (2, x1, r4.2))
  else
  if x1 = 16 then
  some (.inr (0, 0, r4.2))
  else
  (f_X12_readRow r4.2).bind fun r7 =>
  if r7.1 = (-1) then
  some (.inr (1, 0, r7.2))
  else
  some (.inl ((x1 + 1), r7.2))
def f_X12_readRows (s : Mem) : Option (Int32 × Mem) :=
  (it FUEL (fun y => st_X12_readRows_2 y.1 y.2) (0, s)).bind fun r3 =>
  (it FUEL (fun y => st_X12_readRows_26 y.1 y.2) (0, r3)).bind fun r9 =>
  if r9.1 = 0 then (f_X12_errs 3 r9.2.2).bind fun r10 =>
  some (r10.1, r10.2) else if r9.1 = 1 then some ((-1), r9.2.2) else if (r9.2.2 0 12) = 0 then
  some (r9.2.1, r9.2.2)
  else
  (f_X12_errs 1 r9.2.2).bind fun r12 =>
  some (r12.1, r12.2)
set_option maxRecDepth 100000 in
set_option maxHeartbeats 4000000 in
theorem so_X12_readRows_2 {fr : Nat} (hfr : 6 ≤ fr) (Z : AZ) (X : AX Z cX12_readRows 2 RX12 (some .int) 1 fr) (x1 : Int32) (s : Mem) (q : (Int32 × Mem) ⊕ (Mem)) (h : st_X12_readRows_2 x1 s = some q) (hi : ∀ y : Int32 × Mem, q = .inl y → AW Z y.2 2 [some (.ref (zr Z 0)), some (.int y.1)] []) (he : ∀ b : Mem, q = .inr b → AW Z b 24 [some (.ref (zr Z 0)), none] []) : AW Z s 2 [some (.ref (zr Z 0)), some (.int x1)] [] := by
  unfold st_X12_readRows_2 at h
  refine aw_iload_n X dX12_readRows_2 rfl ?_
  refine aw_bipush (v := 14) X dX12_readRows_3 (by decide) ?_
  refine aw_icmp_ge (tgt := 24) X dX12_readRows_5 (by decide) (fun c1 => ?_) (fun c1 => ?_)
  · rw [if_pos c1] at h
    cases h
    refine aw_msk [true, false] ?_
    exact he _ rfl
  · rw [if_neg c1] at h
    refine aw_aload_n X dX12_readRows_8 rfl ?_
    refine aw_getr X dX12_readRows_9 fl_RX12_62 iu_RX12 gu_RX12_36 ?_
    refine aw_bipush (v := 14) X dX12_readRows_12 (by decide) ?_
    refine aw_iload_n X dX12_readRows_14 rfl ?_
    refine aw_iadd X dX12_readRows_15 ?_
    refine aw_iconst (v := 0) X dX12_readRows_16 (by decide) ?_
    obtain ⟨s2, es2, h⟩ := bnd h
    refine aw_iast X dX12_readRows_17 iu_RX12_36 es2 ?_
    refine aw_iinc (v := (x1 + 1)) (L' := [some (.ref (zr Z 0)), some (.int (x1 + 1))]) X dX12_readRows_18 rfl rfl (by decide) rfl ?_
    refine aw_goto (tgt := 2) X dX12_readRows_21 (by decide) ?_
    cases h
    refine aw_msk [true, true] ?_
    exact hi _ rfl
set_option maxRecDepth 100000 in
set_option maxHeartbeats 4000000 in
theorem so_X12_readRows_26 {fr : Nat} (hfr : 6 ≤ fr) (Z : AZ) (X : AX Z cX12_readRows 2 RX12 (some .int) 1 fr) (x1 : Int32) (s : Mem) (q : (Int32 × Mem) ⊕ (Nat × Int32 × Mem)) (h : st_X12_readRows_26 x1 s = some q) (hi : ∀ y : Int32 × Mem, q = .inl y → AW Z y.2 26 [some (.ref (zr Z 0)), some (.int y.1)] []) (he : ∀ b : Nat × Int32 × Mem, q = .inr b → (b.1 = 0 → AW Z b.2.2 41 [some (.ref (zr Z 0)), none] []) ∧ (b.1 = 1 → AW Z b.2.2 55 [none, none] []) ∧ (b.1 = 2 → AW Z b.2.2 64 [some (.ref (zr Z 0)), some (.int b.2.1)] [])) : AW Z s 26 [some (.ref (zr Z 0)), some (.int x1)] [] := by
  unfold st_X12_readRows_26 at h
  refine aw_aload_n X dX12_readRows_26 rfl ?_
  refine aw_bipush (v := 16) X dX12_readRows_27 (by decide) ?_
  obtain ⟨r4, er4, h⟩ := bnd h
  refine aw_callV X dX12_readRows_29 cv_RX12_225 (ok_X12_isWord er4 _ _ _ _ _) iu_RX12 rfl (Nat.le_trans (by decide) hfr) (by decide) rfl rfl (Nat.le_of_ble_eq_true rfl) ?_
  refine aw_if_eq (tgt := 64) X dX12_readRows_32 (by decide) (fun c5 => ?_) (fun c5 => ?_)
  · rw [if_pos c5] at h
    cases h
    refine aw_msk [true, true] ?_
    exact (he _ rfl).2.2 rfl
  · rw [if_neg c5] at h
    refine aw_iload_n X dX12_readRows_35 rfl ?_
    refine aw_bipush (v := 16) X dX12_readRows_36 (by decide) ?_
    refine aw_icmp_ne (tgt := 47) X dX12_readRows_38 (by decide) (fun c6 => ?_) (fun c6 => ?_)
    · rw [if_neg c6] at h
      refine aw_aload_n X dX12_readRows_47 rfl ?_
      obtain ⟨r7, er7, h⟩ := bnd h
      refine aw_callV X dX12_readRows_48 cv_RX12_266 (ok_X12_readRow er7 _ _ _ _ _) iu_RX12 rfl (Nat.le_trans (by decide) hfr) (by decide) rfl rfl (Nat.le_of_ble_eq_true rfl) ?_
      refine aw_iconst (v := (-1)) X dX12_readRows_51 (by decide) ?_
      refine aw_icmp_ne (tgt := 57) X dX12_readRows_52 (by decide) (fun c8 => ?_) (fun c8 => ?_)
      · rw [if_neg c8] at h
        refine aw_iload_n X dX12_readRows_57 rfl ?_
        refine aw_iconst (v := 1) X dX12_readRows_58 (by decide) ?_
        refine aw_iadd X dX12_readRows_59 ?_
        refine aw_istore_n (L' := [some (.ref (zr Z 0)), some (.int (x1 + 1))]) X dX12_readRows_60 (by decide) rfl ?_
        refine aw_goto (tgt := 26) X dX12_readRows_61 (by decide) ?_
        cases h
        refine aw_msk [true, true] ?_
        exact hi _ rfl
      · rw [if_pos c8] at h
        cases h
        refine aw_msk [false, false] ?_
        exact (he _ rfl).2.1 rfl
    · rw [if_pos c6] at h
      cases h
      refine aw_msk [true, false] ?_
      exact (he _ rfl).1 rfl
set_option maxRecDepth 100000 in
set_option maxHeartbeats 4000000 in
theorem w_X12_readRows {fr : Nat} (hfr : 6 ≤ fr) (Z : AZ) (X : AX Z cX12_readRows 2 RX12 (some .int) 1 fr) (s : Mem) (r : Int32 × Mem) (hz : zres Z = (some (.int r.1), r.2)) (h : f_X12_readRows s = some r) : AW Z s 0 [some (.ref (zr Z 0)), none] [] := by
  unfold f_X12_readRows at h
  refine aw_iconst (v := 0) X dX12_readRows_0 (by decide) ?_
  refine aw_istore_n (L' := [some (.ref (zr Z 0)), some (.int 0)]) X dX12_readRows_1 (by decide) rfl ?_
  obtain ⟨r3, er3, h⟩ := bnd h
  refine aw_msk [true, true] ?_
  refine it_ok (P := fun y : Int32 × Mem => AW Z y.2 2 [some (.ref (zr Z 0)), some (.int y.1)] []) (Q := fun b : Mem => AW Z b 24 [some (.ref (zr Z 0)), none] []) (fun y q hq hi he => so_X12_readRows_2 hfr Z X y.1 y.2 q hq hi he) FUEL _ _ er3 ?_
  refine aw_iconst (v := 0) X dX12_readRows_24 (by decide) ?_
  refine aw_istore_n (L' := [some (.ref (zr Z 0)), some (.int 0)]) X dX12_readRows_25 (by decide) rfl ?_
  obtain ⟨r9, er9, h⟩ := bnd h
  refine aw_msk [true, true] ?_
  refine it_ok (P := fun y : Int32 × Mem => AW Z y.2 26 [some (.ref (zr Z 0)), some (.int y.1)] []) (Q := fun b : Nat × Int32 × Mem => (b.1 = 0 → AW Z b.2.2 41 [some (.ref (zr Z 0)), none] []) ∧ (b.1 = 1 → AW Z b.2.2 55 [none, none] []) ∧ (b.1 = 2 → AW Z b.2.2 64 [some (.ref (zr Z 0)), some (.int b.2.1)] [])) (fun y q hq hi he => so_X12_readRows_26 hfr Z X y.1 y.2 q hq hi he) FUEL _ _ er9 ?_
  refine ⟨fun c0 => ?_, fun c1 => ?_, fun c2 => ?_⟩
  · rw [if_pos c0] at h
    refine aw_aload_n X dX12_readRows_41 rfl ?_
    refine aw_iconst (v := 3) X dX12_readRows_42 (by decide) ?_
    obtain ⟨r10, er10, h⟩ := bnd h
    refine aw_callV X dX12_readRows_43 cv_RX12_197 (ok_X12_errs er10 _ _ _ _ _) iu_RX12 rfl (Nat.le_trans (by decide) hfr) (by decide) rfl rfl (Nat.le_of_ble_eq_true rfl) ?_
    cases h
    exact aw_iret X dX12_readRows_46 rfl hz.symm
  · rw [if_neg (by rw [c1]; decide)] at h
    rw [if_pos c1] at h
    refine aw_iconst (v := (-1)) X dX12_readRows_55 (by decide) ?_
    cases h
    exact aw_iret X dX12_readRows_56 rfl hz.symm
  · rw [if_neg (by rw [c2]; decide)] at h
    rw [if_neg (by rw [c2]; decide)] at h
    refine aw_aload_n X dX12_readRows_64 rfl ?_
    refine aw_geti X dX12_readRows_65 fl_RX12_166 iu_RX12 gu_RX12_12 ?_
    refine aw_if_ne (tgt := 75) X dX12_readRows_68 (by decide) (fun c11 => ?_) (fun c11 => ?_)
    · rw [if_neg c11] at h
      refine aw_aload_n X dX12_readRows_75 rfl ?_
      refine aw_iconst (v := 1) X dX12_readRows_76 (by decide) ?_
      obtain ⟨r12, er12, h⟩ := bnd h
      refine aw_callV X dX12_readRows_77 cv_RX12_197 (ok_X12_errs er12 _ _ _ _ _) iu_RX12 rfl (Nat.le_trans (by decide) hfr) (by decide) rfl rfl (Nat.le_of_ble_eq_true rfl) ?_
      cases h
      exact aw_iret X dX12_readRows_80 rfl hz.symm
    · rw [if_pos c11] at h
      refine aw_iload_n X dX12_readRows_71 rfl ?_
      refine aw_goto (tgt := 80) X dX12_readRows_72 (by decide) ?_
      cases h
      exact aw_iret X dX12_readRows_80 rfl hz.symm
set_option maxRecDepth 100000 in
set_option maxHeartbeats 4000000 in
theorem ok_X12_readRows {s : Mem} {r : Int32 × Mem} (h : f_X12_readRows s = some r) (l : Launch) (D : va_G) (ρ : Nat → Nat) (cA : ClassId × ClassId × ClassId) (τ : AT) : AM l D ρ cA 1 τ yX12_readRows cX12_readRows 2 (some .int) 6 [.ref (ρ 0)] (some (.int r.1)) s r.2 := by
  refine AM_of (L := [some (.ref (ρ 0)), none]) (by decide) (by simp [Value.category]) (Nat.le_of_ble_eq_true rfl) (fun j v q => ?_) (fun Z X hρ hz => ?_)
  · exact aL_ok (n := 1) [.ref (ρ 0)] j v q
  · subst hρ
    exact w_X12_readRows (Nat.le_refl _) Z X s r hz h

theorem dX12_readsText_0 : decode cX12_readsText 0 = .ok (.aload_n 0, 1) := by decide +kernel
theorem dX12_readsText_1 : decode cX12_readsText 1 = .ok (.iconst 0, 1) := by decide +kernel
theorem dX12_readsText_2 : decode cX12_readsText 2 = .ok (.putfield 244, 3) := by decide +kernel
theorem dX12_readsText_5 : decode cX12_readsText 5 = .ok (.aload_n 0, 1) := by decide +kernel
theorem dX12_readsText_6 : decode cX12_readsText 6 = .ok (.invokevirtual 203, 3) := by decide +kernel
theorem dX12_readsText_9 : decode cX12_readsText 9 = .ok (.iload_n 1, 1) := by decide +kernel
theorem dX12_readsText_10 : decode cX12_readsText 10 = .ok (.iconst 1, 1) := by decide +kernel
theorem dX12_readsText_11 : decode cX12_readsText 11 = .ok (.if_icmp .ne 8, 3) := by decide +kernel
theorem dX12_readsText_14 : decode cX12_readsText 14 = .ok (.aload_n 0, 1) := by decide +kernel
theorem dX12_readsText_15 : decode cX12_readsText 15 = .ok (.invokevirtual 269, 3) := by decide +kernel
theorem dX12_readsText_18 : decode cX12_readsText 18 = .ok (.ireturn, 1) := by decide +kernel
theorem dX12_readsText_19 : decode cX12_readsText 19 = .ok (.iload_n 1, 1) := by decide +kernel
theorem dX12_readsText_20 : decode cX12_readsText 20 = .ok (.iconst 2, 1) := by decide +kernel
theorem dX12_readsText_21 : decode cX12_readsText 21 = .ok (.if_icmp .ne 8, 3) := by decide +kernel
theorem dX12_readsText_24 : decode cX12_readsText 24 = .ok (.aload_n 0, 1) := by decide +kernel
theorem dX12_readsText_25 : decode cX12_readsText 25 = .ok (.invokevirtual 272, 3) := by decide +kernel
theorem dX12_readsText_28 : decode cX12_readsText 28 = .ok (.ireturn, 1) := by decide +kernel
theorem dX12_readsText_29 : decode cX12_readsText 29 = .ok (.iload_n 1, 1) := by decide +kernel
theorem dX12_readsText_30 : decode cX12_readsText 30 = .ok (.iconst 3, 1) := by decide +kernel
theorem dX12_readsText_31 : decode cX12_readsText 31 = .ok (.if_icmp .ne 10, 3) := by decide +kernel
theorem dX12_readsText_34 : decode cX12_readsText 34 = .ok (.aload_n 0, 1) := by decide +kernel
theorem dX12_readsText_35 : decode cX12_readsText 35 = .ok (.invokevirtual 275, 3) := by decide +kernel
theorem dX12_readsText_38 : decode cX12_readsText 38 = .ok (.goto 7, 3) := by decide +kernel
theorem dX12_readsText_41 : decode cX12_readsText 41 = .ok (.aload_n 0, 1) := by decide +kernel
theorem dX12_readsText_42 : decode cX12_readsText 42 = .ok (.invokevirtual 278, 3) := by decide +kernel
theorem dX12_readsText_45 : decode cX12_readsText 45 = .ok (.ireturn, 1) := by decide +kernel
def f_X12_readsText (x1 : Int32) (s : Mem) : Option (Int32 × Mem) :=
  (f_X12_reads (mset s 0 22 0)).bind fun r1 =>
  if x1 = 1 then
  (f_X12_readTalk r1).bind fun r8 =>
  some (r8.1, r8.2)
  else
  if x1 = 2 then
  (f_X12_readCures r1).bind fun r7 =>
  some (r7.1, r7.2)
  else
  if x1 = 3 then
  (f_X12_readRows r1).bind fun r6 =>
  some (r6.1, r6.2)
  else
  (f_X12_readLaw r1).bind fun r5 =>
  some (r5.1, r5.2)
set_option maxRecDepth 100000 in
set_option maxHeartbeats 4000000 in
theorem w_X12_readsText {fr : Nat} (hfr : 9 ≤ fr) (Z : AZ) (X : AX Z cX12_readsText 2 RX12 (some .int) 1 fr) (x1 : Int32) (s : Mem) (r : Int32 × Mem) (hz : zres Z = (some (.int r.1), r.2)) (h : f_X12_readsText x1 s = some r) : AW Z s 0 [some (.ref (zr Z 0)), some (.int x1)] [] := by
  unfold f_X12_readsText at h
  refine aw_aload_n X dX12_readsText_0 rfl ?_
  refine aw_iconst (v := 0) X dX12_readsText_1 (by decide) ?_
  refine aw_put X dX12_readsText_2 fp_RX12_244 iu_RX12 gu_RX12_22 rfl rfl ?_
  refine aw_aload_n X dX12_readsText_5 rfl ?_
  obtain ⟨r1, er1, h⟩ := bnd h
  refine aw_callV X dX12_readsText_6 cv_RX12_203 (ok_X12_reads er1 _ _ _ _ _) iu_RX12 rfl (Nat.le_trans (by decide) hfr) (by decide) rfl rfl (Nat.le_of_ble_eq_true rfl) ?_
  refine aw_iload_n X dX12_readsText_9 rfl ?_
  refine aw_iconst (v := 1) X dX12_readsText_10 (by decide) ?_
  refine aw_icmp_ne (tgt := 19) X dX12_readsText_11 (by decide) (fun c2 => ?_) (fun c2 => ?_)
  · rw [if_neg c2] at h
    refine aw_iload_n X dX12_readsText_19 rfl ?_
    refine aw_iconst (v := 2) X dX12_readsText_20 (by decide) ?_
    refine aw_icmp_ne (tgt := 29) X dX12_readsText_21 (by decide) (fun c3 => ?_) (fun c3 => ?_)
    · rw [if_neg c3] at h
      refine aw_iload_n X dX12_readsText_29 rfl ?_
      refine aw_iconst (v := 3) X dX12_readsText_30 (by decide) ?_
      refine aw_icmp_ne (tgt := 41) X dX12_readsText_31 (by decide) (fun c4 => ?_) (fun c4 => ?_)
      · rw [if_neg c4] at h
        refine aw_aload_n X dX12_readsText_41 rfl ?_
        obtain ⟨r5, er5, h⟩ := bnd h
        refine aw_callV X dX12_readsText_42 cv_RX12_278 (ok_X12_readLaw er5 _ _ _ _ _) iu_RX12 rfl (Nat.le_trans (by decide) hfr) (by decide) rfl rfl (Nat.le_of_ble_eq_true rfl) ?_
        cases h
        exact aw_iret X dX12_readsText_45 rfl hz.symm
      · rw [if_pos c4] at h
        refine aw_aload_n X dX12_readsText_34 rfl ?_
        obtain ⟨r6, er6, h⟩ := bnd h
        refine aw_callV X dX12_readsText_35 cv_RX12_275 (ok_X12_readRows er6 _ _ _ _ _) iu_RX12 rfl (Nat.le_trans (by decide) hfr) (by decide) rfl rfl (Nat.le_of_ble_eq_true rfl) ?_
        refine aw_goto (tgt := 45) X dX12_readsText_38 (by decide) ?_
        cases h
        exact aw_iret X dX12_readsText_45 rfl hz.symm
    · rw [if_pos c3] at h
      refine aw_aload_n X dX12_readsText_24 rfl ?_
      obtain ⟨r7, er7, h⟩ := bnd h
      refine aw_callV X dX12_readsText_25 cv_RX12_272 (ok_X12_readCures er7 _ _ _ _ _) iu_RX12 rfl (Nat.le_trans (by decide) hfr) (by decide) rfl rfl (Nat.le_of_ble_eq_true rfl) ?_
      cases h
      exact aw_iret X dX12_readsText_28 rfl hz.symm
  · rw [if_pos c2] at h
    refine aw_aload_n X dX12_readsText_14 rfl ?_
    obtain ⟨r8, er8, h⟩ := bnd h
    refine aw_callV X dX12_readsText_15 cv_RX12_269 (ok_X12_readTalk er8 _ _ _ _ _) iu_RX12 rfl (Nat.le_trans (by decide) hfr) (by decide) rfl rfl (Nat.le_of_ble_eq_true rfl) ?_
    cases h
    exact aw_iret X dX12_readsText_18 rfl hz.symm
set_option maxRecDepth 100000 in
set_option maxHeartbeats 4000000 in
theorem ok_X12_readsText {x1 : Int32} {s : Mem} {r : Int32 × Mem} (h : f_X12_readsText x1 s = some r) (l : Launch) (D : va_G) (ρ : Nat → Nat) (cA : ClassId × ClassId × ClassId) (τ : AT) : AM l D ρ cA 1 τ yX12_readsText cX12_readsText 2 (some .int) 9 [.ref (ρ 0), .int x1] (some (.int r.1)) s r.2 := by
  refine AM_of (L := [some (.ref (ρ 0)), some (.int x1)]) (by decide) (by simp [Value.category]) (Nat.le_of_ble_eq_true rfl) (fun j v q => ?_) (fun Z X hρ hz => ?_)
  · exact aL_ok (n := 0) [.ref (ρ 0), .int x1] j v q
  · subst hρ
    exact w_X12_readsText (Nat.le_refl _) Z X x1 s r hz h

theorem dX12_takesOther_0 : decode cX12_takesOther 0 = .ok (.iload_n 1, 1) := by decide +kernel
theorem dX12_takesOther_1 : decode cX12_takesOther 1 = .ok (.iconst 3, 1) := by decide +kernel
theorem dX12_takesOther_2 : decode cX12_takesOther 2 = .ok (.if_icmp .ne 67, 3) := by decide +kernel
theorem dX12_takesOther_5 : decode cX12_takesOther 5 = .ok (.iconst 0, 1) := by decide +kernel
theorem dX12_takesOther_6 : decode cX12_takesOther 6 = .ok (.istore_n 3, 1) := by decide +kernel
theorem dX12_takesOther_7 : decode cX12_takesOther 7 = .ok (.iload_n 3, 1) := by decide +kernel
theorem dX12_takesOther_8 : decode cX12_takesOther 8 = .ok (.bipush 14, 2) := by decide +kernel
theorem dX12_takesOther_10 : decode cX12_takesOther 10 = .ok (.if_icmp .ge 24, 3) := by decide +kernel
theorem dX12_takesOther_13 : decode cX12_takesOther 13 = .ok (.aload_n 0, 1) := by decide +kernel
theorem dX12_takesOther_14 : decode cX12_takesOther 14 = .ok (.getfield 62, 3) := by decide +kernel
theorem dX12_takesOther_17 : decode cX12_takesOther 17 = .ok (.iload_n 3, 1) := by decide +kernel
theorem dX12_takesOther_18 : decode cX12_takesOther 18 = .ok (.aload_n 0, 1) := by decide +kernel
theorem dX12_takesOther_19 : decode cX12_takesOther 19 = .ok (.getfield 62, 3) := by decide +kernel
theorem dX12_takesOther_22 : decode cX12_takesOther 22 = .ok (.bipush 14, 2) := by decide +kernel
theorem dX12_takesOther_24 : decode cX12_takesOther 24 = .ok (.iload_n 3, 1) := by decide +kernel
theorem dX12_takesOther_25 : decode cX12_takesOther 25 = .ok (.iadd, 1) := by decide +kernel
theorem dX12_takesOther_26 : decode cX12_takesOther 26 = .ok (.iaload, 1) := by decide +kernel
theorem dX12_takesOther_27 : decode cX12_takesOther 27 = .ok (.iastore, 1) := by decide +kernel
theorem dX12_takesOther_28 : decode cX12_takesOther 28 = .ok (.iinc 3 1, 3) := by decide +kernel
theorem dX12_takesOther_31 : decode cX12_takesOther 31 = .ok (.goto (-24), 3) := by decide +kernel
theorem dX12_takesOther_34 : decode cX12_takesOther 34 = .ok (.iconst 0, 1) := by decide +kernel
theorem dX12_takesOther_35 : decode cX12_takesOther 35 = .ok (.istore_n 3, 1) := by decide +kernel
theorem dX12_takesOther_36 : decode cX12_takesOther 36 = .ok (.iload_n 3, 1) := by decide +kernel
theorem dX12_takesOther_37 : decode cX12_takesOther 37 = .ok (.bipush 84, 2) := by decide +kernel
theorem dX12_takesOther_39 : decode cX12_takesOther 39 = .ok (.if_icmp .ge 24, 3) := by decide +kernel
theorem dX12_takesOther_42 : decode cX12_takesOther 42 = .ok (.aload_n 0, 1) := by decide +kernel
theorem dX12_takesOther_43 : decode cX12_takesOther 43 = .ok (.getfield 65, 3) := by decide +kernel
theorem dX12_takesOther_46 : decode cX12_takesOther 46 = .ok (.iload_n 3, 1) := by decide +kernel
theorem dX12_takesOther_47 : decode cX12_takesOther 47 = .ok (.aload_n 0, 1) := by decide +kernel
theorem dX12_takesOther_48 : decode cX12_takesOther 48 = .ok (.getfield 65, 3) := by decide +kernel
theorem dX12_takesOther_51 : decode cX12_takesOther 51 = .ok (.bipush 84, 2) := by decide +kernel
theorem dX12_takesOther_53 : decode cX12_takesOther 53 = .ok (.iload_n 3, 1) := by decide +kernel
theorem dX12_takesOther_54 : decode cX12_takesOther 54 = .ok (.iadd, 1) := by decide +kernel
theorem dX12_takesOther_55 : decode cX12_takesOther 55 = .ok (.iaload, 1) := by decide +kernel
theorem dX12_takesOther_56 : decode cX12_takesOther 56 = .ok (.iastore, 1) := by decide +kernel
theorem dX12_takesOther_57 : decode cX12_takesOther 57 = .ok (.iinc 3 1, 3) := by decide +kernel
theorem dX12_takesOther_60 : decode cX12_takesOther 60 = .ok (.goto (-24), 3) := by decide +kernel
theorem dX12_takesOther_63 : decode cX12_takesOther 63 = .ok (.aload_n 0, 1) := by decide +kernel
theorem dX12_takesOther_64 : decode cX12_takesOther 64 = .ok (.iload_n 2, 1) := by decide +kernel
theorem dX12_takesOther_65 : decode cX12_takesOther 65 = .ok (.putfield 281, 3) := by decide +kernel
theorem dX12_takesOther_68 : decode cX12_takesOther 68 = .ok (.return_, 1) := by decide +kernel
theorem dX12_takesOther_69 : decode cX12_takesOther 69 = .ok (.iconst 0, 1) := by decide +kernel
theorem dX12_takesOther_70 : decode cX12_takesOther 70 = .ok (.istore_n 3, 1) := by decide +kernel
theorem dX12_takesOther_71 : decode cX12_takesOther 71 = .ok (.iload_n 3, 1) := by decide +kernel
theorem dX12_takesOther_72 : decode cX12_takesOther 72 = .ok (.iconst 3, 1) := by decide +kernel
theorem dX12_takesOther_73 : decode cX12_takesOther 73 = .ok (.iload_n 2, 1) := by decide +kernel
theorem dX12_takesOther_74 : decode cX12_takesOther 74 = .ok (.imul, 1) := by decide +kernel
theorem dX12_takesOther_75 : decode cX12_takesOther 75 = .ok (.if_icmp .ge 29, 3) := by decide +kernel
theorem dX12_takesOther_78 : decode cX12_takesOther 78 = .ok (.iload_n 1, 1) := by decide +kernel
theorem dX12_takesOther_79 : decode cX12_takesOther 79 = .ok (.iconst 1, 1) := by decide +kernel
theorem dX12_takesOther_80 : decode cX12_takesOther 80 = .ok (.if_icmp .ne 24, 3) := by decide +kernel
theorem dX12_takesOther_83 : decode cX12_takesOther 83 = .ok (.aload_n 0, 1) := by decide +kernel
theorem dX12_takesOther_84 : decode cX12_takesOther 84 = .ok (.getfield 56, 3) := by decide +kernel
theorem dX12_takesOther_87 : decode cX12_takesOther 87 = .ok (.iload_n 3, 1) := by decide +kernel
theorem dX12_takesOther_88 : decode cX12_takesOther 88 = .ok (.aload_n 0, 1) := by decide +kernel
theorem dX12_takesOther_89 : decode cX12_takesOther 89 = .ok (.getfield 56, 3) := by decide +kernel
theorem dX12_takesOther_92 : decode cX12_takesOther 92 = .ok (.bipush 48, 2) := by decide +kernel
theorem dX12_takesOther_94 : decode cX12_takesOther 94 = .ok (.iload_n 3, 1) := by decide +kernel
theorem dX12_takesOther_95 : decode cX12_takesOther 95 = .ok (.iadd, 1) := by decide +kernel
theorem dX12_takesOther_96 : decode cX12_takesOther 96 = .ok (.iaload, 1) := by decide +kernel
theorem dX12_takesOther_97 : decode cX12_takesOther 97 = .ok (.iastore, 1) := by decide +kernel
theorem dX12_takesOther_98 : decode cX12_takesOther 98 = .ok (.iinc 3 1, 3) := by decide +kernel
theorem dX12_takesOther_101 : decode cX12_takesOther 101 = .ok (.goto (-30), 3) := by decide +kernel
theorem dX12_takesOther_104 : decode cX12_takesOther 104 = .ok (.iconst 0, 1) := by decide +kernel
theorem dX12_takesOther_105 : decode cX12_takesOther 105 = .ok (.istore_n 3, 1) := by decide +kernel
theorem dX12_takesOther_106 : decode cX12_takesOther 106 = .ok (.iload_n 3, 1) := by decide +kernel
theorem dX12_takesOther_107 : decode cX12_takesOther 107 = .ok (.iconst 4, 1) := by decide +kernel
theorem dX12_takesOther_108 : decode cX12_takesOther 108 = .ok (.iload_n 2, 1) := by decide +kernel
theorem dX12_takesOther_109 : decode cX12_takesOther 109 = .ok (.imul, 1) := by decide +kernel
theorem dX12_takesOther_110 : decode cX12_takesOther 110 = .ok (.if_icmp .ge 29, 3) := by decide +kernel
theorem dX12_takesOther_113 : decode cX12_takesOther 113 = .ok (.iload_n 1, 1) := by decide +kernel
theorem dX12_takesOther_114 : decode cX12_takesOther 114 = .ok (.iconst 2, 1) := by decide +kernel
theorem dX12_takesOther_115 : decode cX12_takesOther 115 = .ok (.if_icmp .ne 24, 3) := by decide +kernel
theorem dX12_takesOther_118 : decode cX12_takesOther 118 = .ok (.aload_n 0, 1) := by decide +kernel
theorem dX12_takesOther_119 : decode cX12_takesOther 119 = .ok (.getfield 59, 3) := by decide +kernel
theorem dX12_takesOther_122 : decode cX12_takesOther 122 = .ok (.iload_n 3, 1) := by decide +kernel
theorem dX12_takesOther_123 : decode cX12_takesOther 123 = .ok (.aload_n 0, 1) := by decide +kernel
theorem dX12_takesOther_124 : decode cX12_takesOther 124 = .ok (.getfield 59, 3) := by decide +kernel
theorem dX12_takesOther_127 : decode cX12_takesOther 127 = .ok (.bipush 64, 2) := by decide +kernel
theorem dX12_takesOther_129 : decode cX12_takesOther 129 = .ok (.iload_n 3, 1) := by decide +kernel
theorem dX12_takesOther_130 : decode cX12_takesOther 130 = .ok (.iadd, 1) := by decide +kernel
theorem dX12_takesOther_131 : decode cX12_takesOther 131 = .ok (.iaload, 1) := by decide +kernel
theorem dX12_takesOther_132 : decode cX12_takesOther 132 = .ok (.iastore, 1) := by decide +kernel
theorem dX12_takesOther_133 : decode cX12_takesOther 133 = .ok (.iinc 3 1, 3) := by decide +kernel
theorem dX12_takesOther_136 : decode cX12_takesOther 136 = .ok (.goto (-30), 3) := by decide +kernel
theorem dX12_takesOther_139 : decode cX12_takesOther 139 = .ok (.iload_n 1, 1) := by decide +kernel
theorem dX12_takesOther_140 : decode cX12_takesOther 140 = .ok (.iconst 1, 1) := by decide +kernel
theorem dX12_takesOther_141 : decode cX12_takesOther 141 = .ok (.if_icmp .ne 8, 3) := by decide +kernel
theorem dX12_takesOther_144 : decode cX12_takesOther 144 = .ok (.aload_n 0, 1) := by decide +kernel
theorem dX12_takesOther_145 : decode cX12_takesOther 145 = .ok (.iload_n 2, 1) := by decide +kernel
theorem dX12_takesOther_146 : decode cX12_takesOther 146 = .ok (.putfield 284, 3) := by decide +kernel
theorem dX12_takesOther_149 : decode cX12_takesOther 149 = .ok (.iload_n 1, 1) := by decide +kernel
theorem dX12_takesOther_150 : decode cX12_takesOther 150 = .ok (.iconst 2, 1) := by decide +kernel
theorem dX12_takesOther_151 : decode cX12_takesOther 151 = .ok (.if_icmp .ne 8, 3) := by decide +kernel
theorem dX12_takesOther_154 : decode cX12_takesOther 154 = .ok (.aload_n 0, 1) := by decide +kernel
theorem dX12_takesOther_155 : decode cX12_takesOther 155 = .ok (.iload_n 2, 1) := by decide +kernel
theorem dX12_takesOther_156 : decode cX12_takesOther 156 = .ok (.putfield 287, 3) := by decide +kernel
theorem dX12_takesOther_159 : decode cX12_takesOther 159 = .ok (.aload_n 0, 1) := by decide +kernel
theorem dX12_takesOther_160 : decode cX12_takesOther 160 = .ok (.iconst 0, 1) := by decide +kernel
theorem dX12_takesOther_161 : decode cX12_takesOther 161 = .ok (.putfield 125, 3) := by decide +kernel
theorem dX12_takesOther_164 : decode cX12_takesOther 164 = .ok (.return_, 1) := by decide +kernel
def st_X12_takesOther_71 (x1 : Int32) (x2 : Int32) (x3 : Int32) (s : Mem) : Option ((Int32 × Mem) ⊕ (Mem)) :=
  if (3 * x2) ≤ x3 then
  some (.inr (s))
  else
  if x1 = 1 then
  (rd 96 (s 15) (48 + x3)).bind fun v4 =>
  (wr 96 s 15 x3 v4).bind fun s5 =>
  some (.inl ((x3 + 1), s5))
  else
  some (.inr (s))
def st_X12_takesOther_106 (x1 : Int32) (x2 : Int32) (x3 : Int32) (s : Mem) : Option ((Int32 × Mem) ⊕ (Mem)) :=
  if (4 * x2) ≤ x3 then
  some (.inr (s))
  else
  if x1 = 2 then
  (rd 128 (s 16) (64 + x3)).bind fun v9 =>
  (wr 128 s 16 x3 v9).bind fun s10 =>
  some (.inl ((x3 + 1), s10))
  else
  some (.inr (s))
def jn_X12_takesOther_149 (x1 : Int32) (x2 : Int32) (s : Mem) : Option (Mem) :=
  if x1 = 2 then
  some (mset (mset s 0 33 x2) 0 3 0)
  else
  some (mset s 0 3 0)
def jn_X12_takesOther_139 (x1 : Int32) (x2 : Int32) (s : Mem) : Option (Mem) :=
  if x1 = 1 then
  jn_X12_takesOther_149 x1 x2 (mset s 0 31 x2)
  else
  jn_X12_takesOther_149 x1 x2 s
def jn_X12_takesOther_104 (x1 : Int32) (x2 : Int32) (s : Mem) : Option (Mem) :=
  (it FUEL (fun y => st_X12_takesOther_106 x1 x2 y.1 y.2) (0, s)).bind fun r11 =>
  jn_X12_takesOther_139 x1 x2 r11
def st_X12_takesOther_7 (x2 : Int32) (x3 : Int32) (s : Mem) : Option ((Int32 × Mem) ⊕ (Mem)) :=
  if 14 ≤ x3 then
  some (.inr (s))
  else
  (rd 28 (s 17) (14 + x3)).bind fun v15 =>
  (wr 28 s 17 x3 v15).bind fun s16 =>
  some (.inl ((x3 + 1), s16))
def st_X12_takesOther_36 (x2 : Int32) (x3 : Int32) (s : Mem) : Option ((Int32 × Mem) ⊕ (Mem)) :=
  if 84 ≤ x3 then
  some (.inr (s))
  else
  (rd 168 (s 18) (84 + x3)).bind fun v19 =>
  (wr 168 s 18 x3 v19).bind fun s20 =>
  some (.inl ((x3 + 1), s20))
def f_X12_takesOther (x1 : Int32) (x2 : Int32) (s : Mem) : Option (Mem) :=
  if x1 = 3 then
  (it FUEL (fun y => st_X12_takesOther_7 x2 y.1 y.2) (0, s)).bind fun r17 =>
  (it FUEL (fun y => st_X12_takesOther_36 x2 y.1 y.2) (0, r17)).bind fun r21 =>
  some (mset r21 0 35 x2)
  else
  (it FUEL (fun y => st_X12_takesOther_71 x1 x2 y.1 y.2) (0, s)).bind fun r6 =>
  jn_X12_takesOther_104 x1 x2 r6
set_option maxRecDepth 100000 in
set_option maxHeartbeats 4000000 in
theorem so_X12_takesOther_71 {fr : Nat} (hfr : 0 ≤ fr) (Z : AZ) (X : AX Z cX12_takesOther 4 RX12 none 1 fr) (x1 : Int32) (x2 : Int32) (x3 : Int32) (s : Mem) (q : (Int32 × Mem) ⊕ (Mem)) (h : st_X12_takesOther_71 x1 x2 x3 s = some q) (hi : ∀ y : Int32 × Mem, q = .inl y → AW Z y.2 71 [some (.ref (zr Z 0)), some (.int x1), some (.int x2), some (.int y.1)] []) (he : ∀ b : Mem, q = .inr b → AW Z b 104 [some (.ref (zr Z 0)), some (.int x1), some (.int x2), none] []) : AW Z s 71 [some (.ref (zr Z 0)), some (.int x1), some (.int x2), some (.int x3)] [] := by
  unfold st_X12_takesOther_71 at h
  refine aw_iload_n X dX12_takesOther_71 rfl ?_
  refine aw_iconst (v := 3) X dX12_takesOther_72 (by decide) ?_
  refine aw_iload_n X dX12_takesOther_73 rfl ?_
  refine aw_imul X dX12_takesOther_74 ?_
  refine aw_icmp_ge (tgt := 104) X dX12_takesOther_75 (by decide) (fun c2 => ?_) (fun c2 => ?_)
  · rw [if_pos c2] at h
    cases h
    refine aw_msk [true, true, true, false] ?_
    exact he _ rfl
  · rw [if_neg c2] at h
    refine aw_iload_n X dX12_takesOther_78 rfl ?_
    refine aw_iconst (v := 1) X dX12_takesOther_79 (by decide) ?_
    refine aw_icmp_ne (tgt := 104) X dX12_takesOther_80 (by decide) (fun c3 => ?_) (fun c3 => ?_)
    · rw [if_neg c3] at h
      cases h
      refine aw_msk [true, true, true, false] ?_
      exact he _ rfl
    · rw [if_pos c3] at h
      refine aw_aload_n X dX12_takesOther_83 rfl ?_
      refine aw_getr X dX12_takesOther_84 fl_RX12_56 iu_RX12 gu_RX12_32 ?_
      refine aw_iload_n X dX12_takesOther_87 rfl ?_
      refine aw_aload_n X dX12_takesOther_88 rfl ?_
      refine aw_getr X dX12_takesOther_89 fl_RX12_56 iu_RX12 gu_RX12_32 ?_
      refine aw_bipush (v := 48) X dX12_takesOther_92 (by decide) ?_
      refine aw_iload_n X dX12_takesOther_94 rfl ?_
      refine aw_iadd X dX12_takesOther_95 ?_
      obtain ⟨v4, ev4, h⟩ := bnd h
      refine aw_iald X dX12_takesOther_96 iu_RX12_32 ev4 ?_
      obtain ⟨s5, es5, h⟩ := bnd h
      refine aw_iast X dX12_takesOther_97 iu_RX12_32 es5 ?_
      refine aw_iinc (v := (x3 + 1)) (L' := [some (.ref (zr Z 0)), some (.int x1), some (.int x2), some (.int (x3 + 1))]) X dX12_takesOther_98 rfl rfl (by decide) rfl ?_
      refine aw_goto (tgt := 71) X dX12_takesOther_101 (by decide) ?_
      cases h
      refine aw_msk [true, true, true, true] ?_
      exact hi _ rfl
set_option maxRecDepth 100000 in
set_option maxHeartbeats 4000000 in
theorem so_X12_takesOther_106 {fr : Nat} (hfr : 0 ≤ fr) (Z : AZ) (X : AX Z cX12_takesOther 4 RX12 none 1 fr) (x1 : Int32) (x2 : Int32) (x3 : Int32) (s : Mem) (q : (Int32 × Mem) ⊕ (Mem)) (h : st_X12_takesOther_106 x1 x2 x3 s = some q) (hi : ∀ y : Int32 × Mem, q = .inl y → AW Z y.2 106 [some (.ref (zr Z 0)), some (.int x1), some (.int x2), some (.int y.1)] []) (he : ∀ b : Mem, q = .inr b → AW Z b 139 [some (.ref (zr Z 0)), some (.int x1), some (.int x2), none] []) : AW Z s 106 [some (.ref (zr Z 0)), some (.int x1), some (.int x2), some (.int x3)] [] := by
  unfold st_X12_takesOther_106 at h
  refine aw_iload_n X dX12_takesOther_106 rfl ?_
  refine aw_iconst (v := 4) X dX12_takesOther_107 (by decide) ?_
  refine aw_iload_n X dX12_takesOther_108 rfl ?_
  refine aw_imul X dX12_takesOther_109 ?_
  refine aw_icmp_ge (tgt := 139) X dX12_takesOther_110 (by decide) (fun c7 => ?_) (fun c7 => ?_)
  · rw [if_pos c7] at h
    cases h
    refine aw_msk [true, true, true, false] ?_
    exact he _ rfl
  · rw [if_neg c7] at h
    refine aw_iload_n X dX12_takesOther_113 rfl ?_
    refine aw_iconst (v := 2) X dX12_takesOther_114 (by decide) ?_
    refine aw_icmp_ne (tgt := 139) X dX12_takesOther_115 (by decide) (fun c8 => ?_) (fun c8 => ?_)
    · rw [if_neg c8] at h
      cases h
      refine aw_msk [true, true, true, false] ?_
      exact he _ rfl
    · rw [if_pos c8] at h
      refine aw_aload_n X dX12_takesOther_118 rfl ?_
      refine aw_getr X dX12_takesOther_119 fl_RX12_59 iu_RX12 gu_RX12_34 ?_
      refine aw_iload_n X dX12_takesOther_122 rfl ?_
      refine aw_aload_n X dX12_takesOther_123 rfl ?_
      refine aw_getr X dX12_takesOther_124 fl_RX12_59 iu_RX12 gu_RX12_34 ?_
      refine aw_bipush (v := 64) X dX12_takesOther_127 (by decide) ?_
      refine aw_iload_n X dX12_takesOther_129 rfl ?_
      refine aw_iadd X dX12_takesOther_130 ?_
      obtain ⟨v9, ev9, h⟩ := bnd h
      refine aw_iald X dX12_takesOther_131 iu_RX12_34 ev9 ?_
      obtain ⟨s10, es10, h⟩ := bnd h
      refine aw_iast X dX12_takesOther_132 iu_RX12_34 es10 ?_
      refine aw_iinc (v := (x3 + 1)) (L' := [some (.ref (zr Z 0)), some (.int x1), some (.int x2), some (.int (x3 + 1))]) X dX12_takesOther_133 rfl rfl (by decide) rfl ?_
      refine aw_goto (tgt := 106) X dX12_takesOther_136 (by decide) ?_
      cases h
      refine aw_msk [true, true, true, true] ?_
      exact hi _ rfl
set_option maxRecDepth 100000 in
set_option maxHeartbeats 4000000 in
theorem jo_X12_takesOther_149 {fr : Nat} (hfr : 0 ≤ fr) (Z : AZ) (X : AX Z cX12_takesOther 4 RX12 none 1 fr) (x1 : Int32) (x2 : Int32) (s : Mem) (r : Mem) (hz : zres Z = (none, r)) (h : jn_X12_takesOther_149 x1 x2 s = some r) : AW Z s 149 [some (.ref (zr Z 0)), some (.int x1), some (.int x2), none] [] := by
  unfold jn_X12_takesOther_149 at h
  refine aw_iload_n X dX12_takesOther_149 rfl ?_
  refine aw_iconst (v := 2) X dX12_takesOther_150 (by decide) ?_
  refine aw_icmp_ne (tgt := 159) X dX12_takesOther_151 (by decide) (fun c13 => ?_) (fun c13 => ?_)
  · rw [if_neg c13] at h
    refine aw_aload_n X dX12_takesOther_159 rfl ?_
    refine aw_iconst (v := 0) X dX12_takesOther_160 (by decide) ?_
    refine aw_put X dX12_takesOther_161 fp_RX12_125 iu_RX12 gu_RX12_3 rfl rfl ?_
    cases h
    exact aw_vret X dX12_takesOther_164 rfl hz.symm
  · rw [if_pos c13] at h
    refine aw_aload_n X dX12_takesOther_154 rfl ?_
    refine aw_iload_n X dX12_takesOther_155 rfl ?_
    refine aw_put X dX12_takesOther_156 fp_RX12_287 iu_RX12 gu_RX12_33 rfl rfl ?_
    refine aw_aload_n X dX12_takesOther_159 rfl ?_
    refine aw_iconst (v := 0) X dX12_takesOther_160 (by decide) ?_
    refine aw_put X dX12_takesOther_161 fp_RX12_125 iu_RX12 gu_RX12_3 rfl rfl ?_
    cases h
    exact aw_vret X dX12_takesOther_164 rfl hz.symm
set_option maxRecDepth 100000 in
set_option maxHeartbeats 4000000 in
theorem jo_X12_takesOther_139 {fr : Nat} (hfr : 0 ≤ fr) (Z : AZ) (X : AX Z cX12_takesOther 4 RX12 none 1 fr) (x1 : Int32) (x2 : Int32) (s : Mem) (r : Mem) (hz : zres Z = (none, r)) (h : jn_X12_takesOther_139 x1 x2 s = some r) : AW Z s 139 [some (.ref (zr Z 0)), some (.int x1), some (.int x2), none] [] := by
  unfold jn_X12_takesOther_139 at h
  refine aw_iload_n X dX12_takesOther_139 rfl ?_
  refine aw_iconst (v := 1) X dX12_takesOther_140 (by decide) ?_
  refine aw_icmp_ne (tgt := 149) X dX12_takesOther_141 (by decide) (fun c12 => ?_) (fun c12 => ?_)
  · rw [if_neg c12] at h
    refine aw_msk [true, true, true, false] ?_
    exact jo_X12_takesOther_149 hfr Z X _ _ _ _ hz h
  · rw [if_pos c12] at h
    refine aw_aload_n X dX12_takesOther_144 rfl ?_
    refine aw_iload_n X dX12_takesOther_145 rfl ?_
    refine aw_put X dX12_takesOther_146 fp_RX12_284 iu_RX12 gu_RX12_31 rfl rfl ?_
    refine aw_msk [true, true, true, false] ?_
    exact jo_X12_takesOther_149 hfr Z X _ _ _ _ hz h
set_option maxRecDepth 100000 in
set_option maxHeartbeats 4000000 in
theorem jo_X12_takesOther_104 {fr : Nat} (hfr : 0 ≤ fr) (Z : AZ) (X : AX Z cX12_takesOther 4 RX12 none 1 fr) (x1 : Int32) (x2 : Int32) (s : Mem) (r : Mem) (hz : zres Z = (none, r)) (h : jn_X12_takesOther_104 x1 x2 s = some r) : AW Z s 104 [some (.ref (zr Z 0)), some (.int x1), some (.int x2), none] [] := by
  unfold jn_X12_takesOther_104 at h
  refine aw_iconst (v := 0) X dX12_takesOther_104 (by decide) ?_
  refine aw_istore_n (L' := [some (.ref (zr Z 0)), some (.int x1), some (.int x2), some (.int 0)]) X dX12_takesOther_105 (by decide) rfl ?_
  obtain ⟨r11, er11, h⟩ := bnd h
  refine aw_msk [true, true, true, true] ?_
  refine it_ok (P := fun y : Int32 × Mem => AW Z y.2 106 [some (.ref (zr Z 0)), some (.int x1), some (.int x2), some (.int y.1)] []) (Q := fun b : Mem => AW Z b 139 [some (.ref (zr Z 0)), some (.int x1), some (.int x2), none] []) (fun y q hq hi he => so_X12_takesOther_106 hfr Z X x1 x2 y.1 y.2 q hq hi he) FUEL _ _ er11 ?_
  refine aw_msk [true, true, true, false] ?_
  exact jo_X12_takesOther_139 hfr Z X _ _ _ _ hz h
set_option maxRecDepth 100000 in
set_option maxHeartbeats 4000000 in
theorem so_X12_takesOther_7 {fr : Nat} (hfr : 0 ≤ fr) (Z : AZ) (X : AX Z cX12_takesOther 4 RX12 none 1 fr) (x2 : Int32) (x3 : Int32) (s : Mem) (q : (Int32 × Mem) ⊕ (Mem)) (h : st_X12_takesOther_7 x2 x3 s = some q) (hi : ∀ y : Int32 × Mem, q = .inl y → AW Z y.2 7 [some (.ref (zr Z 0)), none, some (.int x2), some (.int y.1)] []) (he : ∀ b : Mem, q = .inr b → AW Z b 34 [some (.ref (zr Z 0)), none, some (.int x2), none] []) : AW Z s 7 [some (.ref (zr Z 0)), none, some (.int x2), some (.int x3)] [] := by
  unfold st_X12_takesOther_7 at h
  refine aw_iload_n X dX12_takesOther_7 rfl ?_
  refine aw_bipush (v := 14) X dX12_takesOther_8 (by decide) ?_
  refine aw_icmp_ge (tgt := 34) X dX12_takesOther_10 (by decide) (fun c14 => ?_) (fun c14 => ?_)
  · rw [if_pos c14] at h
    cases h
    refine aw_msk [true, false, true, false] ?_
    exact he _ rfl
  · rw [if_neg c14] at h
    refine aw_aload_n X dX12_takesOther_13 rfl ?_
    refine aw_getr X dX12_takesOther_14 fl_RX12_62 iu_RX12 gu_RX12_36 ?_
    refine aw_iload_n X dX12_takesOther_17 rfl ?_
    refine aw_aload_n X dX12_takesOther_18 rfl ?_
    refine aw_getr X dX12_takesOther_19 fl_RX12_62 iu_RX12 gu_RX12_36 ?_
    refine aw_bipush (v := 14) X dX12_takesOther_22 (by decide) ?_
    refine aw_iload_n X dX12_takesOther_24 rfl ?_
    refine aw_iadd X dX12_takesOther_25 ?_
    obtain ⟨v15, ev15, h⟩ := bnd h
    refine aw_iald X dX12_takesOther_26 iu_RX12_36 ev15 ?_
    obtain ⟨s16, es16, h⟩ := bnd h
    refine aw_iast X dX12_takesOther_27 iu_RX12_36 es16 ?_
    refine aw_iinc (v := (x3 + 1)) (L' := [some (.ref (zr Z 0)), none, some (.int x2), some (.int (x3 + 1))]) X dX12_takesOther_28 rfl rfl (by decide) rfl ?_
    refine aw_goto (tgt := 7) X dX12_takesOther_31 (by decide) ?_
    cases h
    refine aw_msk [true, false, true, true] ?_
    exact hi _ rfl
set_option maxRecDepth 100000 in
set_option maxHeartbeats 4000000 in
theorem so_X12_takesOther_36 {fr : Nat} (hfr : 0 ≤ fr) (Z : AZ) (X : AX Z cX12_takesOther 4 RX12 none 1 fr) (x2 : Int32) (x3 : Int32) (s : Mem) (q : (Int32 × Mem) ⊕ (Mem)) (h : st_X12_takesOther_36 x2 x3 s = some q) (hi : ∀ y : Int32 × Mem, q = .inl y → AW Z y.2 36 [some (.ref (zr Z 0)), none, some (.int x2), some (.int y.1)] []) (he : ∀ b : Mem, q = .inr b → AW Z b 63 [some (.ref (zr Z 0)), none, some (.int x2), none] []) : AW Z s 36 [some (.ref (zr Z 0)), none, some (.int x2), some (.int x3)] [] := by
  unfold st_X12_takesOther_36 at h
  refine aw_iload_n X dX12_takesOther_36 rfl ?_
  refine aw_bipush (v := 84) X dX12_takesOther_37 (by decide) ?_
  refine aw_icmp_ge (tgt := 63) X dX12_takesOther_39 (by decide) (fun c18 => ?_) (fun c18 => ?_)
  · rw [if_pos c18] at h
    cases h
    refine aw_msk [true, false, true, false] ?_
    exact he _ rfl
  · rw [if_neg c18] at h
    refine aw_aload_n X dX12_takesOther_42 rfl ?_
    refine aw_getr X dX12_takesOther_43 fl_RX12_65 iu_RX12 gu_RX12_37 ?_
    refine aw_iload_n X dX12_takesOther_46 rfl ?_
    refine aw_aload_n X dX12_takesOther_47 rfl ?_
    refine aw_getr X dX12_takesOther_48 fl_RX12_65 iu_RX12 gu_RX12_37 ?_
    refine aw_bipush (v := 84) X dX12_takesOther_51 (by decide) ?_
    refine aw_iload_n X dX12_takesOther_53 rfl ?_
    refine aw_iadd X dX12_takesOther_54 ?_
    obtain ⟨v19, ev19, h⟩ := bnd h
    refine aw_iald X dX12_takesOther_55 iu_RX12_37 ev19 ?_
    obtain ⟨s20, es20, h⟩ := bnd h
    refine aw_iast X dX12_takesOther_56 iu_RX12_37 es20 ?_
    refine aw_iinc (v := (x3 + 1)) (L' := [some (.ref (zr Z 0)), none, some (.int x2), some (.int (x3 + 1))]) X dX12_takesOther_57 rfl rfl (by decide) rfl ?_
    refine aw_goto (tgt := 36) X dX12_takesOther_60 (by decide) ?_
    cases h
    refine aw_msk [true, false, true, true] ?_
    exact hi _ rfl
set_option maxRecDepth 100000 in
set_option maxHeartbeats 4000000 in
theorem w_X12_takesOther {fr : Nat} (hfr : 0 ≤ fr) (Z : AZ) (X : AX Z cX12_takesOther 4 RX12 none 1 fr) (x1 : Int32) (x2 : Int32) (s : Mem) (r : Mem) (hz : zres Z = (none, r)) (h : f_X12_takesOther x1 x2 s = some r) : AW Z s 0 [some (.ref (zr Z 0)), some (.int x1), some (.int x2), none] [] := by
  unfold f_X12_takesOther at h
  refine aw_iload_n X dX12_takesOther_0 rfl ?_
  refine aw_iconst (v := 3) X dX12_takesOther_1 (by decide) ?_
  refine aw_icmp_ne (tgt := 69) X dX12_takesOther_2 (by decide) (fun c1 => ?_) (fun c1 => ?_)
  · rw [if_neg c1] at h
    refine aw_iconst (v := 0) X dX12_takesOther_69 (by decide) ?_
    refine aw_istore_n (L' := [some (.ref (zr Z 0)), some (.int x1), some (.int x2), some (.int 0)]) X dX12_takesOther_70 (by decide) rfl ?_
    obtain ⟨r6, er6, h⟩ := bnd h
    refine aw_msk [true, true, true, true] ?_
    refine it_ok (P := fun y : Int32 × Mem => AW Z y.2 71 [some (.ref (zr Z 0)), some (.int x1), some (.int x2), some (.int y.1)] []) (Q := fun b : Mem => AW Z b 104 [some (.ref (zr Z 0)), some (.int x1), some (.int x2), none] []) (fun y q hq hi he => so_X12_takesOther_71 hfr Z X x1 x2 y.1 y.2 q hq hi he) FUEL _ _ er6 ?_
    refine aw_msk [true, true, true, false] ?_
    exact jo_X12_takesOther_104 hfr Z X _ _ _ _ hz h
  · rw [if_pos c1] at h
    refine aw_iconst (v := 0) X dX12_takesOther_5 (by decide) ?_
    refine aw_istore_n (L' := [some (.ref (zr Z 0)), some (.int x1), some (.int x2), some (.int 0)]) X dX12_takesOther_6 (by decide) rfl ?_
    obtain ⟨r17, er17, h⟩ := bnd h
    refine aw_msk [true, false, true, true] ?_
    refine it_ok (P := fun y : Int32 × Mem => AW Z y.2 7 [some (.ref (zr Z 0)), none, some (.int x2), some (.int y.1)] []) (Q := fun b : Mem => AW Z b 34 [some (.ref (zr Z 0)), none, some (.int x2), none] []) (fun y q hq hi he => so_X12_takesOther_7 hfr Z X x2 y.1 y.2 q hq hi he) FUEL _ _ er17 ?_
    refine aw_iconst (v := 0) X dX12_takesOther_34 (by decide) ?_
    refine aw_istore_n (L' := [some (.ref (zr Z 0)), none, some (.int x2), some (.int 0)]) X dX12_takesOther_35 (by decide) rfl ?_
    obtain ⟨r21, er21, h⟩ := bnd h
    refine aw_msk [true, false, true, true] ?_
    refine it_ok (P := fun y : Int32 × Mem => AW Z y.2 36 [some (.ref (zr Z 0)), none, some (.int x2), some (.int y.1)] []) (Q := fun b : Mem => AW Z b 63 [some (.ref (zr Z 0)), none, some (.int x2), none] []) (fun y q hq hi he => so_X12_takesOther_36 hfr Z X x2 y.1 y.2 q hq hi he) FUEL _ _ er21 ?_
    refine aw_aload_n X dX12_takesOther_63 rfl ?_
    refine aw_iload_n X dX12_takesOther_64 rfl ?_
    refine aw_put X dX12_takesOther_65 fp_RX12_281 iu_RX12 gu_RX12_35 rfl rfl ?_
    cases h
    exact aw_vret X dX12_takesOther_68 rfl hz.symm
set_option maxRecDepth 100000 in
set_option maxHeartbeats 4000000 in
theorem ok_X12_takesOther {x1 x2 : Int32} {s : Mem} {r : Mem} (h : f_X12_takesOther x1 x2 s = some r) (l : Launch) (D : va_G) (ρ : Nat → Nat) (cA : ClassId × ClassId × ClassId) (τ : AT) : AM l D ρ cA 1 τ yX12_takesOther cX12_takesOther 4 none 0 [.ref (ρ 0), .int x1, .int x2] none s r := by
  refine AM_of (L := [some (.ref (ρ 0)), some (.int x1), some (.int x2), none]) (by decide) (by simp [Value.category]) (Nat.le_of_ble_eq_true rfl) (fun j v q => ?_) (fun Z X hρ hz => ?_)
  · exact aL_ok (n := 1) [.ref (ρ 0), .int x1, .int x2] j v q
  · subst hρ
    exact w_X12_takesOther (Nat.le_refl _) Z X x1 x2 s r hz h

theorem dX12_text_0 : decode cX12_text 0 = .ok (.aload_n 0, 1) := by decide +kernel
theorem dX12_text_1 : decode cX12_text 1 = .ok (.iconst 0, 1) := by decide +kernel
theorem dX12_text_2 : decode cX12_text 2 = .ok (.putfield 122, 3) := by decide +kernel
theorem dX12_text_5 : decode cX12_text 5 = .ok (.aload_n 0, 1) := by decide +kernel
theorem dX12_text_6 : decode cX12_text 6 = .ok (.iconst 0, 1) := by decide +kernel
theorem dX12_text_7 : decode cX12_text 7 = .ok (.putfield 290, 3) := by decide +kernel
theorem dX12_text_10 : decode cX12_text 10 = .ok (.aload_n 0, 1) := by decide +kernel
theorem dX12_text_11 : decode cX12_text 11 = .ok (.iconst (-1), 1) := by decide +kernel
theorem dX12_text_12 : decode cX12_text 12 = .ok (.putfield 52, 3) := by decide +kernel
theorem dX12_text_15 : decode cX12_text 15 = .ok (.aload_n 0, 1) := by decide +kernel
theorem dX12_text_16 : decode cX12_text 16 = .ok (.iconst 0, 1) := by decide +kernel
theorem dX12_text_17 : decode cX12_text 17 = .ok (.putfield 156, 3) := by decide +kernel
theorem dX12_text_20 : decode cX12_text 20 = .ok (.aload_n 0, 1) := by decide +kernel
theorem dX12_text_21 : decode cX12_text 21 = .ok (.iconst 0, 1) := by decide +kernel
theorem dX12_text_22 : decode cX12_text 22 = .ok (.putfield 191, 3) := by decide +kernel
theorem dX12_text_25 : decode cX12_text 25 = .ok (.aload_n 0, 1) := by decide +kernel
theorem dX12_text_26 : decode cX12_text 26 = .ok (.iconst 0, 1) := by decide +kernel
theorem dX12_text_27 : decode cX12_text 27 = .ok (.putfield 222, 3) := by decide +kernel
theorem dX12_text_30 : decode cX12_text 30 = .ok (.iconst (-1), 1) := by decide +kernel
theorem dX12_text_31 : decode cX12_text 31 = .ok (.istore_n 2, 1) := by decide +kernel
theorem dX12_text_32 : decode cX12_text 32 = .ok (.aload_n 0, 1) := by decide +kernel
theorem dX12_text_33 : decode cX12_text 33 = .ok (.iload_n 1, 1) := by decide +kernel
theorem dX12_text_34 : decode cX12_text 34 = .ok (.iconst 0, 1) := by decide +kernel
theorem dX12_text_35 : decode cX12_text 35 = .ok (.iconst 3, 1) := by decide +kernel
theorem dX12_text_36 : decode cX12_text 36 = .ok (.invokevirtual 137, 3) := by decide +kernel
theorem dX12_text_39 : decode cX12_text 39 = .ok (.ifCond .eq 30, 3) := by decide +kernel
theorem dX12_text_42 : decode cX12_text 42 = .ok (.aload_n 0, 1) := by decide +kernel
theorem dX12_text_43 : decode cX12_text 43 = .ok (.iload_n 1, 1) := by decide +kernel
theorem dX12_text_44 : decode cX12_text 44 = .ok (.invokevirtual 293, 3) := by decide +kernel
theorem dX12_text_47 : decode cX12_text 47 = .ok (.istore_n 2, 1) := by decide +kernel
theorem dX12_text_48 : decode cX12_text 48 = .ok (.iload_n 2, 1) := by decide +kernel
theorem dX12_text_49 : decode cX12_text 49 = .ok (.iconst (-1), 1) := by decide +kernel
theorem dX12_text_50 : decode cX12_text 50 = .ok (.if_icmp .ne 19, 3) := by decide +kernel
theorem dX12_text_53 : decode cX12_text 53 = .ok (.aload_n 0, 1) := by decide +kernel
theorem dX12_text_54 : decode cX12_text 54 = .ok (.aload_n 0, 1) := by decide +kernel
theorem dX12_text_55 : decode cX12_text 55 = .ok (.getfield 185, 3) := by decide +kernel
theorem dX12_text_58 : decode cX12_text 58 = .ok (.putfield 290, 3) := by decide +kernel
theorem dX12_text_61 : decode cX12_text 61 = .ok (.aload_n 0, 1) := by decide +kernel
theorem dX12_text_62 : decode cX12_text 62 = .ok (.aload_n 0, 1) := by decide +kernel
theorem dX12_text_63 : decode cX12_text 63 = .ok (.getfield 188, 3) := by decide +kernel
theorem dX12_text_66 : decode cX12_text 66 = .ok (.putfield 52, 3) := by decide +kernel
theorem dX12_text_69 : decode cX12_text 69 = .ok (.aload_n 0, 1) := by decide +kernel
theorem dX12_text_70 : decode cX12_text 70 = .ok (.iconst 0, 1) := by decide +kernel
theorem dX12_text_71 : decode cX12_text 71 = .ok (.putfield 149, 3) := by decide +kernel
theorem dX12_text_74 : decode cX12_text 74 = .ok (.iload_n 2, 1) := by decide +kernel
theorem dX12_text_75 : decode cX12_text 75 = .ok (.iconst (-1), 1) := by decide +kernel
theorem dX12_text_76 : decode cX12_text 76 = .ok (.if_icmp .ne 5, 3) := by decide +kernel
theorem dX12_text_79 : decode cX12_text 79 = .ok (.iconst (-1), 1) := by decide +kernel
theorem dX12_text_80 : decode cX12_text 80 = .ok (.ireturn, 1) := by decide +kernel
theorem dX12_text_81 : decode cX12_text 81 = .ok (.iload_n 1, 1) := by decide +kernel
theorem dX12_text_82 : decode cX12_text 82 = .ok (.ifCond .ne 11, 3) := by decide +kernel
theorem dX12_text_85 : decode cX12_text 85 = .ok (.aload_n 0, 1) := by decide +kernel
theorem dX12_text_86 : decode cX12_text 86 = .ok (.iload_n 2, 1) := by decide +kernel
theorem dX12_text_87 : decode cX12_text 87 = .ok (.invokevirtual 296, 3) := by decide +kernel
theorem dX12_text_90 : decode cX12_text 90 = .ok (.goto 9, 3) := by decide +kernel
theorem dX12_text_93 : decode cX12_text 93 = .ok (.aload_n 0, 1) := by decide +kernel
theorem dX12_text_94 : decode cX12_text 94 = .ok (.iload_n 1, 1) := by decide +kernel
theorem dX12_text_95 : decode cX12_text 95 = .ok (.iload_n 2, 1) := by decide +kernel
theorem dX12_text_96 : decode cX12_text 96 = .ok (.invokevirtual 299, 3) := by decide +kernel
theorem dX12_text_99 : decode cX12_text 99 = .ok (.iload_n 2, 1) := by decide +kernel
theorem dX12_text_100 : decode cX12_text 100 = .ok (.ireturn, 1) := by decide +kernel
def jn_X12_text_69 (x1 : Int32) (x2 : Int32) (s : Mem) : Option (Int32 × Mem) :=
  if x2 = (-1) then
  some ((-1), (mset s 0 9 0))
  else
  if x1 = 0 then
  (f_X12_takesLaw x2 (mset s 0 9 0)).bind fun r6 =>
  some (x2, r6)
  else
  (f_X12_takesOther x1 x2 (mset s 0 9 0)).bind fun r5 =>
  some (x2, r5)
def f_X12_text (x1 : Int32) (s : Mem) : Option (Int32 × Mem) :=
  (f_X12_isIn x1 0 3 (mset (mset (mset (mset (mset (mset s 0 0 0) 0 29 0) 0 30 (-1)) 0 10 0) 0 23 0) 0 24 0)).bind fun r1 =>
  if r1.1 = 0 then
  jn_X12_text_69 x1 (-1) r1.2
  else
  (f_X12_readsText x1 r1.2).bind fun r7 =>
  if r7.1 = (-1) then
  jn_X12_text_69 x1 r7.1 (mset (mset r7.2 0 29 (r7.2 0 27)) 0 30 ((mset r7.2 0 29 (r7.2 0 27)) 0 28))
  else
  jn_X12_text_69 x1 r7.1 r7.2
set_option maxRecDepth 100000 in
set_option maxHeartbeats 4000000 in
theorem jo_X12_text_69 {fr : Nat} (hfr : 10 ≤ fr) (Z : AZ) (X : AX Z cX12_text 3 RX12 (some .int) 1 fr) (x1 : Int32) (x2 : Int32) (s : Mem) (r : Int32 × Mem) (hz : zres Z = (some (.int r.1), r.2)) (h : jn_X12_text_69 x1 x2 s = some r) : AW Z s 69 [some (.ref (zr Z 0)), some (.int x1), some (.int x2)] [] := by
  unfold jn_X12_text_69 at h
  refine aw_aload_n X dX12_text_69 rfl ?_
  refine aw_iconst (v := 0) X dX12_text_70 (by decide) ?_
  refine aw_put X dX12_text_71 fp_RX12_149 iu_RX12 gu_RX12_9 rfl rfl ?_
  refine aw_iload_n X dX12_text_74 rfl ?_
  refine aw_iconst (v := (-1)) X dX12_text_75 (by decide) ?_
  refine aw_icmp_ne (tgt := 81) X dX12_text_76 (by decide) (fun c3 => ?_) (fun c3 => ?_)
  · rw [if_neg c3] at h
    refine aw_iload_n X dX12_text_81 rfl ?_
    refine aw_if_ne (tgt := 93) X dX12_text_82 (by decide) (fun c4 => ?_) (fun c4 => ?_)
    · rw [if_neg c4] at h
      refine aw_aload_n X dX12_text_93 rfl ?_
      refine aw_iload_n X dX12_text_94 rfl ?_
      refine aw_iload_n X dX12_text_95 rfl ?_
      obtain ⟨r5, er5, h⟩ := bnd h
      refine aw_callV X dX12_text_96 cv_RX12_299 (ok_X12_takesOther er5 _ _ _ _ _) iu_RX12 rfl (Nat.le_trans (by decide) hfr) (by decide) rfl rfl (Nat.le_of_ble_eq_true rfl) ?_
      refine aw_iload_n X dX12_text_99 rfl ?_
      cases h
      exact aw_iret X dX12_text_100 rfl hz.symm
    · rw [if_pos c4] at h
      refine aw_aload_n X dX12_text_85 rfl ?_
      refine aw_iload_n X dX12_text_86 rfl ?_
      obtain ⟨r6, er6, h⟩ := bnd h
      refine aw_callV X dX12_text_87 cv_RX12_296 (ok_X12_takesLaw er6 _ _ _ _ _) iu_RX12 rfl (Nat.le_trans (by decide) hfr) (by decide) rfl rfl (Nat.le_of_ble_eq_true rfl) ?_
      refine aw_goto (tgt := 99) X dX12_text_90 (by decide) ?_
      refine aw_iload_n X dX12_text_99 rfl ?_
      cases h
      exact aw_iret X dX12_text_100 rfl hz.symm
  · rw [if_pos c3] at h
    refine aw_iconst (v := (-1)) X dX12_text_79 (by decide) ?_
    cases h
    exact aw_iret X dX12_text_80 rfl hz.symm
set_option maxRecDepth 100000 in
set_option maxHeartbeats 4000000 in
theorem w_X12_text {fr : Nat} (hfr : 10 ≤ fr) (Z : AZ) (X : AX Z cX12_text 3 RX12 (some .int) 1 fr) (x1 : Int32) (s : Mem) (r : Int32 × Mem) (hz : zres Z = (some (.int r.1), r.2)) (h : f_X12_text x1 s = some r) : AW Z s 0 [some (.ref (zr Z 0)), some (.int x1), none] [] := by
  unfold f_X12_text at h
  refine aw_aload_n X dX12_text_0 rfl ?_
  refine aw_iconst (v := 0) X dX12_text_1 (by decide) ?_
  refine aw_put X dX12_text_2 fp_RX12_122 iu_RX12 gu_RX12_0 rfl rfl ?_
  refine aw_aload_n X dX12_text_5 rfl ?_
  refine aw_iconst (v := 0) X dX12_text_6 (by decide) ?_
  refine aw_put X dX12_text_7 fp_RX12_290 iu_RX12 gu_RX12_29 rfl rfl ?_
  refine aw_aload_n X dX12_text_10 rfl ?_
  refine aw_iconst (v := (-1)) X dX12_text_11 (by decide) ?_
  refine aw_put X dX12_text_12 fp_RX12_52 iu_RX12 gu_RX12_30 rfl rfl ?_
  refine aw_aload_n X dX12_text_15 rfl ?_
  refine aw_iconst (v := 0) X dX12_text_16 (by decide) ?_
  refine aw_put X dX12_text_17 fp_RX12_156 iu_RX12 gu_RX12_10 rfl rfl ?_
  refine aw_aload_n X dX12_text_20 rfl ?_
  refine aw_iconst (v := 0) X dX12_text_21 (by decide) ?_
  refine aw_put X dX12_text_22 fp_RX12_191 iu_RX12 gu_RX12_23 rfl rfl ?_
  refine aw_aload_n X dX12_text_25 rfl ?_
  refine aw_iconst (v := 0) X dX12_text_26 (by decide) ?_
  refine aw_put X dX12_text_27 fp_RX12_222 iu_RX12 gu_RX12_24 rfl rfl ?_
  refine aw_iconst (v := (-1)) X dX12_text_30 (by decide) ?_
  refine aw_istore_n (L' := [some (.ref (zr Z 0)), some (.int x1), some (.int (-1))]) X dX12_text_31 (by decide) rfl ?_
  refine aw_aload_n X dX12_text_32 rfl ?_
  refine aw_iload_n X dX12_text_33 rfl ?_
  refine aw_iconst (v := 0) X dX12_text_34 (by decide) ?_
  refine aw_iconst (v := 3) X dX12_text_35 (by decide) ?_
  obtain ⟨r1, er1, h⟩ := bnd h
  refine aw_callV X dX12_text_36 cv_RX12_137 (ok_X12_isIn er1 _ _ _ _ _) iu_RX12 rfl (Nat.le_trans (by decide) hfr) (by decide) rfl rfl (Nat.le_of_ble_eq_true rfl) ?_
  refine aw_if_eq (tgt := 69) X dX12_text_39 (by decide) (fun c2 => ?_) (fun c2 => ?_)
  · rw [if_pos c2] at h
    refine aw_msk [true, true, true] ?_
    exact jo_X12_text_69 hfr Z X _ _ _ _ hz h
  · rw [if_neg c2] at h
    refine aw_aload_n X dX12_text_42 rfl ?_
    refine aw_iload_n X dX12_text_43 rfl ?_
    obtain ⟨r7, er7, h⟩ := bnd h
    refine aw_callV X dX12_text_44 cv_RX12_293 (ok_X12_readsText er7 _ _ _ _ _) iu_RX12 rfl (Nat.le_trans (by decide) hfr) (by decide) rfl rfl (Nat.le_of_ble_eq_true rfl) ?_
    refine aw_istore_n (L' := [some (.ref (zr Z 0)), some (.int x1), some (.int r7.1)]) X dX12_text_47 (by decide) rfl ?_
    refine aw_iload_n X dX12_text_48 rfl ?_
    refine aw_iconst (v := (-1)) X dX12_text_49 (by decide) ?_
    refine aw_icmp_ne (tgt := 69) X dX12_text_50 (by decide) (fun c8 => ?_) (fun c8 => ?_)
    · rw [if_neg c8] at h
      refine aw_msk [true, true, true] ?_
      exact jo_X12_text_69 hfr Z X _ _ _ _ hz h
    · rw [if_pos c8] at h
      refine aw_aload_n X dX12_text_53 rfl ?_
      refine aw_aload_n X dX12_text_54 rfl ?_
      refine aw_geti X dX12_text_55 fl_RX12_185 iu_RX12 gu_RX12_27 ?_
      refine aw_put X dX12_text_58 fp_RX12_290 iu_RX12 gu_RX12_29 rfl rfl ?_
      refine aw_aload_n X dX12_text_61 rfl ?_
      refine aw_aload_n X dX12_text_62 rfl ?_
      refine aw_geti X dX12_text_63 fl_RX12_188 iu_RX12 gu_RX12_28 ?_
      refine aw_put X dX12_text_66 fp_RX12_52 iu_RX12 gu_RX12_30 rfl rfl ?_
      refine aw_msk [true, true, true] ?_
      exact jo_X12_text_69 hfr Z X _ _ _ _ hz h
set_option maxRecDepth 100000 in
set_option maxHeartbeats 4000000 in
theorem ok_X12_text {x1 : Int32} {s : Mem} {r : Int32 × Mem} (h : f_X12_text x1 s = some r) (l : Launch) (D : va_G) (ρ : Nat → Nat) (cA : ClassId × ClassId × ClassId) (τ : AT) : AM l D ρ cA 1 τ yX12_text cX12_text 3 (some .int) 10 [.ref (ρ 0), .int x1] (some (.int r.1)) s r.2 := by
  refine AM_of (L := [some (.ref (ρ 0)), some (.int x1), none]) (by decide) (by simp [Value.category]) (Nat.le_of_ble_eq_true rfl) (fun j v q => ?_) (fun Z X hρ hz => ?_)
  · exact aL_ok (n := 1) [.ref (ρ 0), .int x1] j v q
  · subst hρ
    exact w_X12_text (Nat.le_refl _) Z X x1 s r hz h

theorem dX12_fault_0 : decode cX12_fault 0 = .ok (.aload_n 0, 1) := by decide +kernel
theorem dX12_fault_1 : decode cX12_fault 1 = .ok (.iconst 0, 1) := by decide +kernel
theorem dX12_fault_2 : decode cX12_fault 2 = .ok (.putfield 122, 3) := by decide +kernel
theorem dX12_fault_5 : decode cX12_fault 5 = .ok (.iload_n 1, 1) := by decide +kernel
theorem dX12_fault_6 : decode cX12_fault 6 = .ok (.ifCond .ne 10, 3) := by decide +kernel
theorem dX12_fault_9 : decode cX12_fault 9 = .ok (.aload_n 0, 1) := by decide +kernel
theorem dX12_fault_10 : decode cX12_fault 10 = .ok (.getfield 290, 3) := by decide +kernel
theorem dX12_fault_13 : decode cX12_fault 13 = .ok (.goto 16, 3) := by decide +kernel
theorem dX12_fault_16 : decode cX12_fault 16 = .ok (.iload_n 1, 1) := by decide +kernel
theorem dX12_fault_17 : decode cX12_fault 17 = .ok (.iconst 1, 1) := by decide +kernel
theorem dX12_fault_18 : decode cX12_fault 18 = .ok (.if_icmp .ne 10, 3) := by decide +kernel
theorem dX12_fault_21 : decode cX12_fault 21 = .ok (.aload_n 0, 1) := by decide +kernel
theorem dX12_fault_22 : decode cX12_fault 22 = .ok (.getfield 52, 3) := by decide +kernel
theorem dX12_fault_25 : decode cX12_fault 25 = .ok (.goto 4, 3) := by decide +kernel
theorem dX12_fault_28 : decode cX12_fault 28 = .ok (.iconst (-1), 1) := by decide +kernel
theorem dX12_fault_29 : decode cX12_fault 29 = .ok (.ireturn, 1) := by decide +kernel
def f_X12_fault (x1 : Int32) (s : Mem) : Option (Int32 × Mem) :=
  if x1 = 0 then
  some (((mset s 0 0 0) 0 29), (mset s 0 0 0))
  else
  if x1 = 1 then
  some (((mset s 0 0 0) 0 30), (mset s 0 0 0))
  else
  some ((-1), (mset s 0 0 0))
set_option maxRecDepth 100000 in
set_option maxHeartbeats 4000000 in
theorem w_X12_fault {fr : Nat} (hfr : 0 ≤ fr) (Z : AZ) (X : AX Z cX12_fault 2 RX12 (some .int) 1 fr) (x1 : Int32) (s : Mem) (r : Int32 × Mem) (hz : zres Z = (some (.int r.1), r.2)) (h : f_X12_fault x1 s = some r) : AW Z s 0 [some (.ref (zr Z 0)), some (.int x1)] [] := by
  unfold f_X12_fault at h
  refine aw_aload_n X dX12_fault_0 rfl ?_
  refine aw_iconst (v := 0) X dX12_fault_1 (by decide) ?_
  refine aw_put X dX12_fault_2 fp_RX12_122 iu_RX12 gu_RX12_0 rfl rfl ?_
  refine aw_iload_n X dX12_fault_5 rfl ?_
  refine aw_if_ne (tgt := 16) X dX12_fault_6 (by decide) (fun c1 => ?_) (fun c1 => ?_)
  · rw [if_neg c1] at h
    refine aw_iload_n X dX12_fault_16 rfl ?_
    refine aw_iconst (v := 1) X dX12_fault_17 (by decide) ?_
    refine aw_icmp_ne (tgt := 28) X dX12_fault_18 (by decide) (fun c2 => ?_) (fun c2 => ?_)
    · rw [if_neg c2] at h
      refine aw_iconst (v := (-1)) X dX12_fault_28 (by decide) ?_
      cases h
      exact aw_iret X dX12_fault_29 rfl hz.symm
    · rw [if_pos c2] at h
      refine aw_aload_n X dX12_fault_21 rfl ?_
      refine aw_geti X dX12_fault_22 fl_RX12_52 iu_RX12 gu_RX12_30 ?_
      refine aw_goto (tgt := 29) X dX12_fault_25 (by decide) ?_
      cases h
      exact aw_iret X dX12_fault_29 rfl hz.symm
  · rw [if_pos c1] at h
    refine aw_aload_n X dX12_fault_9 rfl ?_
    refine aw_geti X dX12_fault_10 fl_RX12_290 iu_RX12 gu_RX12_29 ?_
    refine aw_goto (tgt := 29) X dX12_fault_13 (by decide) ?_
    cases h
    exact aw_iret X dX12_fault_29 rfl hz.symm
set_option maxRecDepth 100000 in
set_option maxHeartbeats 4000000 in
theorem ok_X12_fault {x1 : Int32} {s : Mem} {r : Int32 × Mem} (h : f_X12_fault x1 s = some r) (l : Launch) (D : va_G) (ρ : Nat → Nat) (cA : ClassId × ClassId × ClassId) (τ : AT) : AM l D ρ cA 1 τ yX12_fault cX12_fault 2 (some .int) 0 [.ref (ρ 0), .int x1] (some (.int r.1)) s r.2 := by
  refine AM_of (L := [some (.ref (ρ 0)), some (.int x1)]) (by decide) (by simp [Value.category]) (Nat.le_of_ble_eq_true rfl) (fun j v q => ?_) (fun Z X hρ hz => ?_)
  · exact aL_ok (n := 0) [.ref (ρ 0), .int x1] j v q
  · subst hρ
    exact w_X12_fault (Nat.le_refl _) Z X x1 s r hz h

theorem dX12_twoOf_0 : decode cX12_twoOf 0 = .ok (.iload_n 1, 1) := by decide +kernel
theorem dX12_twoOf_1 : decode cX12_twoOf 1 = .ok (.iconst 2, 1) := by decide +kernel
theorem dX12_twoOf_2 : decode cX12_twoOf 2 = .ok (.if_icmp .ne 7, 3) := by decide +kernel
theorem dX12_twoOf_5 : decode cX12_twoOf 5 = .ok (.iload_n 2, 1) := by decide +kernel
theorem dX12_twoOf_6 : decode cX12_twoOf 6 = .ok (.iload_n 3, 1) := by decide +kernel
theorem dX12_twoOf_7 : decode cX12_twoOf 7 = .ok (.iadd, 1) := by decide +kernel
theorem dX12_twoOf_8 : decode cX12_twoOf 8 = .ok (.ireturn, 1) := by decide +kernel
theorem dX12_twoOf_9 : decode cX12_twoOf 9 = .ok (.iload_n 1, 1) := by decide +kernel
theorem dX12_twoOf_10 : decode cX12_twoOf 10 = .ok (.iconst 3, 1) := by decide +kernel
theorem dX12_twoOf_11 : decode cX12_twoOf 11 = .ok (.if_icmp .ne 7, 3) := by decide +kernel
theorem dX12_twoOf_14 : decode cX12_twoOf 14 = .ok (.iload_n 2, 1) := by decide +kernel
theorem dX12_twoOf_15 : decode cX12_twoOf 15 = .ok (.iload_n 3, 1) := by decide +kernel
theorem dX12_twoOf_16 : decode cX12_twoOf 16 = .ok (.isub, 1) := by decide +kernel
theorem dX12_twoOf_17 : decode cX12_twoOf 17 = .ok (.ireturn, 1) := by decide +kernel
theorem dX12_twoOf_18 : decode cX12_twoOf 18 = .ok (.iload_n 1, 1) := by decide +kernel
theorem dX12_twoOf_19 : decode cX12_twoOf 19 = .ok (.iconst 4, 1) := by decide +kernel
theorem dX12_twoOf_20 : decode cX12_twoOf 20 = .ok (.if_icmp .ne 7, 3) := by decide +kernel
theorem dX12_twoOf_23 : decode cX12_twoOf 23 = .ok (.iload_n 2, 1) := by decide +kernel
theorem dX12_twoOf_24 : decode cX12_twoOf 24 = .ok (.iload_n 3, 1) := by decide +kernel
theorem dX12_twoOf_25 : decode cX12_twoOf 25 = .ok (.imul, 1) := by decide +kernel
theorem dX12_twoOf_26 : decode cX12_twoOf 26 = .ok (.ireturn, 1) := by decide +kernel
theorem dX12_twoOf_27 : decode cX12_twoOf 27 = .ok (.iload_n 1, 1) := by decide +kernel
theorem dX12_twoOf_28 : decode cX12_twoOf 28 = .ok (.iconst 5, 1) := by decide +kernel
theorem dX12_twoOf_29 : decode cX12_twoOf 29 = .ok (.if_icmp .ne 7, 3) := by decide +kernel
theorem dX12_twoOf_32 : decode cX12_twoOf 32 = .ok (.iload_n 2, 1) := by decide +kernel
theorem dX12_twoOf_33 : decode cX12_twoOf 33 = .ok (.iload_n 3, 1) := by decide +kernel
theorem dX12_twoOf_34 : decode cX12_twoOf 34 = .ok (.idiv, 1) := by decide +kernel
theorem dX12_twoOf_35 : decode cX12_twoOf 35 = .ok (.ireturn, 1) := by decide +kernel
theorem dX12_twoOf_36 : decode cX12_twoOf 36 = .ok (.iload_n 1, 1) := by decide +kernel
theorem dX12_twoOf_37 : decode cX12_twoOf 37 = .ok (.bipush 6, 2) := by decide +kernel
theorem dX12_twoOf_39 : decode cX12_twoOf 39 = .ok (.if_icmp .ne 14, 3) := by decide +kernel
theorem dX12_twoOf_42 : decode cX12_twoOf 42 = .ok (.iload_n 2, 1) := by decide +kernel
theorem dX12_twoOf_43 : decode cX12_twoOf 43 = .ok (.iload_n 3, 1) := by decide +kernel
theorem dX12_twoOf_44 : decode cX12_twoOf 44 = .ok (.if_icmp .ge 7, 3) := by decide +kernel
theorem dX12_twoOf_47 : decode cX12_twoOf 47 = .ok (.iconst 1, 1) := by decide +kernel
theorem dX12_twoOf_48 : decode cX12_twoOf 48 = .ok (.goto 4, 3) := by decide +kernel
theorem dX12_twoOf_51 : decode cX12_twoOf 51 = .ok (.iconst 0, 1) := by decide +kernel
theorem dX12_twoOf_52 : decode cX12_twoOf 52 = .ok (.ireturn, 1) := by decide +kernel
theorem dX12_twoOf_53 : decode cX12_twoOf 53 = .ok (.iload_n 1, 1) := by decide +kernel
theorem dX12_twoOf_54 : decode cX12_twoOf 54 = .ok (.bipush 7, 2) := by decide +kernel
theorem dX12_twoOf_56 : decode cX12_twoOf 56 = .ok (.if_icmp .ne 14, 3) := by decide +kernel
theorem dX12_twoOf_59 : decode cX12_twoOf 59 = .ok (.iload_n 2, 1) := by decide +kernel
theorem dX12_twoOf_60 : decode cX12_twoOf 60 = .ok (.iload_n 3, 1) := by decide +kernel
theorem dX12_twoOf_61 : decode cX12_twoOf 61 = .ok (.if_icmp .ne 7, 3) := by decide +kernel
theorem dX12_twoOf_64 : decode cX12_twoOf 64 = .ok (.iconst 1, 1) := by decide +kernel
theorem dX12_twoOf_65 : decode cX12_twoOf 65 = .ok (.goto 4, 3) := by decide +kernel
theorem dX12_twoOf_68 : decode cX12_twoOf 68 = .ok (.iconst 0, 1) := by decide +kernel
theorem dX12_twoOf_69 : decode cX12_twoOf 69 = .ok (.ireturn, 1) := by decide +kernel
theorem dX12_twoOf_70 : decode cX12_twoOf 70 = .ok (.iload_n 1, 1) := by decide +kernel
theorem dX12_twoOf_71 : decode cX12_twoOf 71 = .ok (.bipush 8, 2) := by decide +kernel
theorem dX12_twoOf_73 : decode cX12_twoOf 73 = .ok (.if_icmp .ne 14, 3) := by decide +kernel
theorem dX12_twoOf_76 : decode cX12_twoOf 76 = .ok (.iload_n 2, 1) := by decide +kernel
theorem dX12_twoOf_77 : decode cX12_twoOf 77 = .ok (.iload_n 3, 1) := by decide +kernel
theorem dX12_twoOf_78 : decode cX12_twoOf 78 = .ok (.if_icmp .le 7, 3) := by decide +kernel
theorem dX12_twoOf_81 : decode cX12_twoOf 81 = .ok (.iconst 1, 1) := by decide +kernel
theorem dX12_twoOf_82 : decode cX12_twoOf 82 = .ok (.goto 4, 3) := by decide +kernel
theorem dX12_twoOf_85 : decode cX12_twoOf 85 = .ok (.iconst 0, 1) := by decide +kernel
theorem dX12_twoOf_86 : decode cX12_twoOf 86 = .ok (.ireturn, 1) := by decide +kernel
theorem dX12_twoOf_87 : decode cX12_twoOf 87 = .ok (.iload_n 1, 1) := by decide +kernel
theorem dX12_twoOf_88 : decode cX12_twoOf 88 = .ok (.bipush 10, 2) := by decide +kernel
theorem dX12_twoOf_90 : decode cX12_twoOf 90 = .ok (.if_icmp .ne 9, 3) := by decide +kernel
theorem dX12_twoOf_93 : decode cX12_twoOf 93 = .ok (.iload_n 2, 1) := by decide +kernel
theorem dX12_twoOf_94 : decode cX12_twoOf 94 = .ok (.iload_n 3, 1) := by decide +kernel
theorem dX12_twoOf_95 : decode cX12_twoOf 95 = .ok (.imul, 1) := by decide +kernel
theorem dX12_twoOf_96 : decode cX12_twoOf 96 = .ok (.goto 14, 3) := by decide +kernel
theorem dX12_twoOf_99 : decode cX12_twoOf 99 = .ok (.iload_n 2, 1) := by decide +kernel
theorem dX12_twoOf_100 : decode cX12_twoOf 100 = .ok (.iload_n 3, 1) := by decide +kernel
theorem dX12_twoOf_101 : decode cX12_twoOf 101 = .ok (.iadd, 1) := by decide +kernel
theorem dX12_twoOf_102 : decode cX12_twoOf 102 = .ok (.ifCond .le 7, 3) := by decide +kernel
theorem dX12_twoOf_105 : decode cX12_twoOf 105 = .ok (.iconst 1, 1) := by decide +kernel
theorem dX12_twoOf_106 : decode cX12_twoOf 106 = .ok (.goto 4, 3) := by decide +kernel
theorem dX12_twoOf_109 : decode cX12_twoOf 109 = .ok (.iconst 0, 1) := by decide +kernel
theorem dX12_twoOf_110 : decode cX12_twoOf 110 = .ok (.ireturn, 1) := by decide +kernel
def f_X12_twoOf (x1 : Int32) (x2 : Int32) (x3 : Int32) (s : Mem) : Option (Int32 × Mem) :=
  if x1 = 2 then
  some ((x2 + x3), s)
  else
  if x1 = 3 then
  some ((x2 - x3), s)
  else
  if x1 = 4 then
  some ((x2 * x3), s)
  else
  if x1 = 5 then
  if x3 = 0 then none else
  some ((x2 / x3), s)
  else
  if x1 = 6 then
  if x3 ≤ x2 then
  some (0, s)
  else
  some (1, s)
  else
  if x1 = 7 then
  if x2 = x3 then
  some (1, s)
  else
  some (0, s)
  else
  if x1 = 8 then
  if x2 ≤ x3 then
  some (0, s)
  else
  some (1, s)
  else
  if x1 = 10 then
  some ((x2 * x3), s)
  else
  if (x2 + x3) ≤ 0 then
  some (0, s)
  else
  some (1, s)
set_option maxRecDepth 100000 in
set_option maxHeartbeats 4000000 in
theorem w_X12_twoOf {fr : Nat} (hfr : 0 ≤ fr) (Z : AZ) (X : AX Z cX12_twoOf 4 RX12 (some .int) 1 fr) (x1 : Int32) (x2 : Int32) (x3 : Int32) (s : Mem) (r : Int32 × Mem) (hz : zres Z = (some (.int r.1), r.2)) (h : f_X12_twoOf x1 x2 x3 s = some r) : AW Z s 0 [some (.ref (zr Z 0)), some (.int x1), some (.int x2), some (.int x3)] [] := by
  unfold f_X12_twoOf at h
  refine aw_iload_n X dX12_twoOf_0 rfl ?_
  refine aw_iconst (v := 2) X dX12_twoOf_1 (by decide) ?_
  refine aw_icmp_ne (tgt := 9) X dX12_twoOf_2 (by decide) (fun c1 => ?_) (fun c1 => ?_)
  · rw [if_neg c1] at h
    refine aw_iload_n X dX12_twoOf_9 rfl ?_
    refine aw_iconst (v := 3) X dX12_twoOf_10 (by decide) ?_
    refine aw_icmp_ne (tgt := 18) X dX12_twoOf_11 (by decide) (fun c2 => ?_) (fun c2 => ?_)
    · rw [if_neg c2] at h
      refine aw_iload_n X dX12_twoOf_18 rfl ?_
      refine aw_iconst (v := 4) X dX12_twoOf_19 (by decide) ?_
      refine aw_icmp_ne (tgt := 27) X dX12_twoOf_20 (by decide) (fun c3 => ?_) (fun c3 => ?_)
      · rw [if_neg c3] at h
        refine aw_iload_n X dX12_twoOf_27 rfl ?_
        refine aw_iconst (v := 5) X dX12_twoOf_28 (by decide) ?_
        refine aw_icmp_ne (tgt := 36) X dX12_twoOf_29 (by decide) (fun c4 => ?_) (fun c4 => ?_)
        · rw [if_neg c4] at h
          refine aw_iload_n X dX12_twoOf_36 rfl ?_
          refine aw_bipush (v := 6) X dX12_twoOf_37 (by decide) ?_
          refine aw_icmp_ne (tgt := 53) X dX12_twoOf_39 (by decide) (fun c5 => ?_) (fun c5 => ?_)
          · rw [if_neg c5] at h
            refine aw_iload_n X dX12_twoOf_53 rfl ?_
            refine aw_bipush (v := 7) X dX12_twoOf_54 (by decide) ?_
            refine aw_icmp_ne (tgt := 70) X dX12_twoOf_56 (by decide) (fun c6 => ?_) (fun c6 => ?_)
            · rw [if_neg c6] at h
              refine aw_iload_n X dX12_twoOf_70 rfl ?_
              refine aw_bipush (v := 8) X dX12_twoOf_71 (by decide) ?_
              refine aw_icmp_ne (tgt := 87) X dX12_twoOf_73 (by decide) (fun c7 => ?_) (fun c7 => ?_)
              · rw [if_neg c7] at h
                refine aw_iload_n X dX12_twoOf_87 rfl ?_
                refine aw_bipush (v := 10) X dX12_twoOf_88 (by decide) ?_
                refine aw_icmp_ne (tgt := 99) X dX12_twoOf_90 (by decide) (fun c8 => ?_) (fun c8 => ?_)
                · rw [if_neg c8] at h
                  refine aw_iload_n X dX12_twoOf_99 rfl ?_
                  refine aw_iload_n X dX12_twoOf_100 rfl ?_
                  refine aw_iadd X dX12_twoOf_101 ?_
                  refine aw_if_le (tgt := 109) X dX12_twoOf_102 (by decide) (fun c9 => ?_) (fun c9 => ?_)
                  · rw [if_pos c9] at h
                    refine aw_iconst (v := 0) X dX12_twoOf_109 (by decide) ?_
                    cases h
                    exact aw_iret X dX12_twoOf_110 rfl hz.symm
                  · rw [if_neg c9] at h
                    refine aw_iconst (v := 1) X dX12_twoOf_105 (by decide) ?_
                    refine aw_goto (tgt := 110) X dX12_twoOf_106 (by decide) ?_
                    cases h
                    exact aw_iret X dX12_twoOf_110 rfl hz.symm
                · rw [if_pos c8] at h
                  refine aw_iload_n X dX12_twoOf_93 rfl ?_
                  refine aw_iload_n X dX12_twoOf_94 rfl ?_
                  refine aw_imul X dX12_twoOf_95 ?_
                  refine aw_goto (tgt := 110) X dX12_twoOf_96 (by decide) ?_
                  cases h
                  exact aw_iret X dX12_twoOf_110 rfl hz.symm
              · rw [if_pos c7] at h
                refine aw_iload_n X dX12_twoOf_76 rfl ?_
                refine aw_iload_n X dX12_twoOf_77 rfl ?_
                refine aw_icmp_le (tgt := 85) X dX12_twoOf_78 (by decide) (fun c10 => ?_) (fun c10 => ?_)
                · rw [if_pos c10] at h
                  refine aw_iconst (v := 0) X dX12_twoOf_85 (by decide) ?_
                  cases h
                  exact aw_iret X dX12_twoOf_86 rfl hz.symm
                · rw [if_neg c10] at h
                  refine aw_iconst (v := 1) X dX12_twoOf_81 (by decide) ?_
                  refine aw_goto (tgt := 86) X dX12_twoOf_82 (by decide) ?_
                  cases h
                  exact aw_iret X dX12_twoOf_86 rfl hz.symm
            · rw [if_pos c6] at h
              refine aw_iload_n X dX12_twoOf_59 rfl ?_
              refine aw_iload_n X dX12_twoOf_60 rfl ?_
              refine aw_icmp_ne (tgt := 68) X dX12_twoOf_61 (by decide) (fun c11 => ?_) (fun c11 => ?_)
              · rw [if_neg c11] at h
                refine aw_iconst (v := 0) X dX12_twoOf_68 (by decide) ?_
                cases h
                exact aw_iret X dX12_twoOf_69 rfl hz.symm
              · rw [if_pos c11] at h
                refine aw_iconst (v := 1) X dX12_twoOf_64 (by decide) ?_
                refine aw_goto (tgt := 69) X dX12_twoOf_65 (by decide) ?_
                cases h
                exact aw_iret X dX12_twoOf_69 rfl hz.symm
          · rw [if_pos c5] at h
            refine aw_iload_n X dX12_twoOf_42 rfl ?_
            refine aw_iload_n X dX12_twoOf_43 rfl ?_
            refine aw_icmp_ge (tgt := 51) X dX12_twoOf_44 (by decide) (fun c12 => ?_) (fun c12 => ?_)
            · rw [if_pos c12] at h
              refine aw_iconst (v := 0) X dX12_twoOf_51 (by decide) ?_
              cases h
              exact aw_iret X dX12_twoOf_52 rfl hz.symm
            · rw [if_neg c12] at h
              refine aw_iconst (v := 1) X dX12_twoOf_47 (by decide) ?_
              refine aw_goto (tgt := 52) X dX12_twoOf_48 (by decide) ?_
              cases h
              exact aw_iret X dX12_twoOf_52 rfl hz.symm
        · rw [if_pos c4] at h
          refine aw_iload_n X dX12_twoOf_32 rfl ?_
          refine aw_iload_n X dX12_twoOf_33 rfl ?_
          by_cases c13 : x3 = 0
          · rw [if_pos c13] at h
            cases h
          rw [if_neg c13] at h
          refine aw_idiv X dX12_twoOf_34 c13 ?_
          cases h
          exact aw_iret X dX12_twoOf_35 rfl hz.symm
      · rw [if_pos c3] at h
        refine aw_iload_n X dX12_twoOf_23 rfl ?_
        refine aw_iload_n X dX12_twoOf_24 rfl ?_
        refine aw_imul X dX12_twoOf_25 ?_
        cases h
        exact aw_iret X dX12_twoOf_26 rfl hz.symm
    · rw [if_pos c2] at h
      refine aw_iload_n X dX12_twoOf_14 rfl ?_
      refine aw_iload_n X dX12_twoOf_15 rfl ?_
      refine aw_isub X dX12_twoOf_16 ?_
      cases h
      exact aw_iret X dX12_twoOf_17 rfl hz.symm
  · rw [if_pos c1] at h
    refine aw_iload_n X dX12_twoOf_5 rfl ?_
    refine aw_iload_n X dX12_twoOf_6 rfl ?_
    refine aw_iadd X dX12_twoOf_7 ?_
    cases h
    exact aw_iret X dX12_twoOf_8 rfl hz.symm
set_option maxRecDepth 100000 in
set_option maxHeartbeats 4000000 in
theorem ok_X12_twoOf {x1 x2 x3 : Int32} {s : Mem} {r : Int32 × Mem} (h : f_X12_twoOf x1 x2 x3 s = some r) (l : Launch) (D : va_G) (ρ : Nat → Nat) (cA : ClassId × ClassId × ClassId) (τ : AT) : AM l D ρ cA 1 τ yX12_twoOf cX12_twoOf 4 (some .int) 0 [.ref (ρ 0), .int x1, .int x2, .int x3] (some (.int r.1)) s r.2 := by
  refine AM_of (L := [some (.ref (ρ 0)), some (.int x1), some (.int x2), some (.int x3)]) (by decide) (by simp [Value.category]) (Nat.le_of_ble_eq_true rfl) (fun j v q => ?_) (fun Z X hρ hz => ?_)
  · exact aL_ok (n := 0) [.ref (ρ 0), .int x1, .int x2, .int x3] j v q
  · subst hρ
    exact w_X12_twoOf (Nat.le_refl _) Z X x1 x2 x3 s r hz h

theorem dX12_runs_0 : decode cX12_runs 0 = .ok (.iconst 0, 1) := by decide +kernel
theorem dX12_runs_1 : decode cX12_runs 1 = .ok (.istore 4, 2) := by decide +kernel
theorem dX12_runs_3 : decode cX12_runs 3 = .ok (.sipush 400, 3) := by decide +kernel
theorem dX12_runs_6 : decode cX12_runs 6 = .ok (.iload_n 1, 1) := by decide +kernel
theorem dX12_runs_7 : decode cX12_runs 7 = .ok (.imul, 1) := by decide +kernel
theorem dX12_runs_8 : decode cX12_runs 8 = .ok (.iload_n 2, 1) := by decide +kernel
theorem dX12_runs_9 : decode cX12_runs 9 = .ok (.iadd, 1) := by decide +kernel
theorem dX12_runs_10 : decode cX12_runs 10 = .ok (.istore 5, 2) := by decide +kernel
theorem dX12_runs_12 : decode cX12_runs 12 = .ok (.iload 5, 2) := by decide +kernel
theorem dX12_runs_14 : decode cX12_runs 14 = .ok (.sipush 400, 3) := by decide +kernel
theorem dX12_runs_17 : decode cX12_runs 17 = .ok (.iload_n 1, 1) := by decide +kernel
theorem dX12_runs_18 : decode cX12_runs 18 = .ok (.imul, 1) := by decide +kernel
theorem dX12_runs_19 : decode cX12_runs 19 = .ok (.iload_n 3, 1) := by decide +kernel
theorem dX12_runs_20 : decode cX12_runs 20 = .ok (.iadd, 1) := by decide +kernel
theorem dX12_runs_21 : decode cX12_runs 21 = .ok (.if_icmp .ge 155, 3) := by decide +kernel
theorem dX12_runs_24 : decode cX12_runs 24 = .ok (.aload_n 0, 1) := by decide +kernel
theorem dX12_runs_25 : decode cX12_runs 25 = .ok (.getfield 43, 3) := by decide +kernel
theorem dX12_runs_28 : decode cX12_runs 28 = .ok (.iload 5, 2) := by decide +kernel
theorem dX12_runs_30 : decode cX12_runs 30 = .ok (.iaload, 1) := by decide +kernel
theorem dX12_runs_31 : decode cX12_runs 31 = .ok (.ifCond .eq 14, 3) := by decide +kernel
theorem dX12_runs_34 : decode cX12_runs 34 = .ok (.aload_n 0, 1) := by decide +kernel
theorem dX12_runs_35 : decode cX12_runs 35 = .ok (.getfield 43, 3) := by decide +kernel
theorem dX12_runs_38 : decode cX12_runs 38 = .ok (.iload 5, 2) := by decide +kernel
theorem dX12_runs_40 : decode cX12_runs 40 = .ok (.iaload, 1) := by decide +kernel
theorem dX12_runs_41 : decode cX12_runs 41 = .ok (.iconst 1, 1) := by decide +kernel
theorem dX12_runs_42 : decode cX12_runs 42 = .ok (.if_icmp .ne 51, 3) := by decide +kernel
theorem dX12_runs_45 : decode cX12_runs 45 = .ok (.aload_n 0, 1) := by decide +kernel
theorem dX12_runs_46 : decode cX12_runs 46 = .ok (.getfield 71, 3) := by decide +kernel
theorem dX12_runs_49 : decode cX12_runs 49 = .ok (.iload 4, 2) := by decide +kernel
theorem dX12_runs_51 : decode cX12_runs 51 = .ok (.aload_n 0, 1) := by decide +kernel
theorem dX12_runs_52 : decode cX12_runs 52 = .ok (.getfield 43, 3) := by decide +kernel
theorem dX12_runs_55 : decode cX12_runs 55 = .ok (.iload 5, 2) := by decide +kernel
theorem dX12_runs_57 : decode cX12_runs 57 = .ok (.iaload, 1) := by decide +kernel
theorem dX12_runs_58 : decode cX12_runs 58 = .ok (.ifCond .ne 13, 3) := by decide +kernel
theorem dX12_runs_61 : decode cX12_runs 61 = .ok (.aload_n 0, 1) := by decide +kernel
theorem dX12_runs_62 : decode cX12_runs 62 = .ok (.getfield 46, 3) := by decide +kernel
theorem dX12_runs_65 : decode cX12_runs 65 = .ok (.iload 5, 2) := by decide +kernel
theorem dX12_runs_67 : decode cX12_runs 67 = .ok (.iaload, 1) := by decide +kernel
theorem dX12_runs_68 : decode cX12_runs 68 = .ok (.goto 15, 3) := by decide +kernel
theorem dX12_runs_71 : decode cX12_runs 71 = .ok (.aload_n 0, 1) := by decide +kernel
theorem dX12_runs_72 : decode cX12_runs 72 = .ok (.getfield 68, 3) := by decide +kernel
theorem dX12_runs_75 : decode cX12_runs 75 = .ok (.aload_n 0, 1) := by decide +kernel
theorem dX12_runs_76 : decode cX12_runs 76 = .ok (.getfield 46, 3) := by decide +kernel
theorem dX12_runs_79 : decode cX12_runs 79 = .ok (.iload 5, 2) := by decide +kernel
theorem dX12_runs_81 : decode cX12_runs 81 = .ok (.iaload, 1) := by decide +kernel
theorem dX12_runs_82 : decode cX12_runs 82 = .ok (.iaload, 1) := by decide +kernel
theorem dX12_runs_83 : decode cX12_runs 83 = .ok (.iastore, 1) := by decide +kernel
theorem dX12_runs_84 : decode cX12_runs 84 = .ok (.iload 4, 2) := by decide +kernel
theorem dX12_runs_86 : decode cX12_runs 86 = .ok (.iconst 1, 1) := by decide +kernel
theorem dX12_runs_87 : decode cX12_runs 87 = .ok (.iadd, 1) := by decide +kernel
theorem dX12_runs_88 : decode cX12_runs 88 = .ok (.istore 4, 2) := by decide +kernel
theorem dX12_runs_90 : decode cX12_runs 90 = .ok (.goto 80, 3) := by decide +kernel
theorem dX12_runs_93 : decode cX12_runs 93 = .ok (.aload_n 0, 1) := by decide +kernel
theorem dX12_runs_94 : decode cX12_runs 94 = .ok (.getfield 43, 3) := by decide +kernel
theorem dX12_runs_97 : decode cX12_runs 97 = .ok (.iload 5, 2) := by decide +kernel
theorem dX12_runs_99 : decode cX12_runs 99 = .ok (.iaload, 1) := by decide +kernel
theorem dX12_runs_100 : decode cX12_runs 100 = .ok (.bipush 9, 2) := by decide +kernel
theorem dX12_runs_102 : decode cX12_runs 102 = .ok (.if_icmp .ne 26, 3) := by decide +kernel
theorem dX12_runs_105 : decode cX12_runs 105 = .ok (.aload_n 0, 1) := by decide +kernel
theorem dX12_runs_106 : decode cX12_runs 106 = .ok (.getfield 71, 3) := by decide +kernel
theorem dX12_runs_109 : decode cX12_runs 109 = .ok (.iload 4, 2) := by decide +kernel
theorem dX12_runs_111 : decode cX12_runs 111 = .ok (.iconst 1, 1) := by decide +kernel
theorem dX12_runs_112 : decode cX12_runs 112 = .ok (.isub, 1) := by decide +kernel
theorem dX12_runs_113 : decode cX12_runs 113 = .ok (.iconst 1, 1) := by decide +kernel
theorem dX12_runs_114 : decode cX12_runs 114 = .ok (.aload_n 0, 1) := by decide +kernel
theorem dX12_runs_115 : decode cX12_runs 115 = .ok (.getfield 71, 3) := by decide +kernel
theorem dX12_runs_118 : decode cX12_runs 118 = .ok (.iload 4, 2) := by decide +kernel
theorem dX12_runs_120 : decode cX12_runs 120 = .ok (.iconst 1, 1) := by decide +kernel
theorem dX12_runs_121 : decode cX12_runs 121 = .ok (.isub, 1) := by decide +kernel
theorem dX12_runs_122 : decode cX12_runs 122 = .ok (.iaload, 1) := by decide +kernel
theorem dX12_runs_123 : decode cX12_runs 123 = .ok (.isub, 1) := by decide +kernel
theorem dX12_runs_124 : decode cX12_runs 124 = .ok (.iastore, 1) := by decide +kernel
theorem dX12_runs_125 : decode cX12_runs 125 = .ok (.goto 45, 3) := by decide +kernel
theorem dX12_runs_128 : decode cX12_runs 128 = .ok (.iload 4, 2) := by decide +kernel
theorem dX12_runs_130 : decode cX12_runs 130 = .ok (.iconst 1, 1) := by decide +kernel
theorem dX12_runs_131 : decode cX12_runs 131 = .ok (.isub, 1) := by decide +kernel
theorem dX12_runs_132 : decode cX12_runs 132 = .ok (.istore 4, 2) := by decide +kernel
theorem dX12_runs_134 : decode cX12_runs 134 = .ok (.aload_n 0, 1) := by decide +kernel
theorem dX12_runs_135 : decode cX12_runs 135 = .ok (.getfield 71, 3) := by decide +kernel
theorem dX12_runs_138 : decode cX12_runs 138 = .ok (.iload 4, 2) := by decide +kernel
theorem dX12_runs_140 : decode cX12_runs 140 = .ok (.iconst 1, 1) := by decide +kernel
theorem dX12_runs_141 : decode cX12_runs 141 = .ok (.isub, 1) := by decide +kernel
theorem dX12_runs_142 : decode cX12_runs 142 = .ok (.aload_n 0, 1) := by decide +kernel
theorem dX12_runs_143 : decode cX12_runs 143 = .ok (.aload_n 0, 1) := by decide +kernel
theorem dX12_runs_144 : decode cX12_runs 144 = .ok (.getfield 43, 3) := by decide +kernel
theorem dX12_runs_147 : decode cX12_runs 147 = .ok (.iload 5, 2) := by decide +kernel
theorem dX12_runs_149 : decode cX12_runs 149 = .ok (.iaload, 1) := by decide +kernel
theorem dX12_runs_150 : decode cX12_runs 150 = .ok (.aload_n 0, 1) := by decide +kernel
theorem dX12_runs_151 : decode cX12_runs 151 = .ok (.getfield 71, 3) := by decide +kernel
theorem dX12_runs_154 : decode cX12_runs 154 = .ok (.iload 4, 2) := by decide +kernel
theorem dX12_runs_156 : decode cX12_runs 156 = .ok (.iconst 1, 1) := by decide +kernel
theorem dX12_runs_157 : decode cX12_runs 157 = .ok (.isub, 1) := by decide +kernel
theorem dX12_runs_158 : decode cX12_runs 158 = .ok (.iaload, 1) := by decide +kernel
theorem dX12_runs_159 : decode cX12_runs 159 = .ok (.aload_n 0, 1) := by decide +kernel
theorem dX12_runs_160 : decode cX12_runs 160 = .ok (.getfield 71, 3) := by decide +kernel
theorem dX12_runs_163 : decode cX12_runs 163 = .ok (.iload 4, 2) := by decide +kernel
theorem dX12_runs_165 : decode cX12_runs 165 = .ok (.iaload, 1) := by decide +kernel
theorem dX12_runs_166 : decode cX12_runs 166 = .ok (.invokevirtual 302, 3) := by decide +kernel
theorem dX12_runs_169 : decode cX12_runs 169 = .ok (.iastore, 1) := by decide +kernel
theorem dX12_runs_170 : decode cX12_runs 170 = .ok (.iinc 5 1, 3) := by decide +kernel
theorem dX12_runs_173 : decode cX12_runs 173 = .ok (.goto (-161), 3) := by decide +kernel
theorem dX12_runs_176 : decode cX12_runs 176 = .ok (.aload_n 0, 1) := by decide +kernel
theorem dX12_runs_177 : decode cX12_runs 177 = .ok (.getfield 71, 3) := by decide +kernel
theorem dX12_runs_180 : decode cX12_runs 180 = .ok (.iconst 0, 1) := by decide +kernel
theorem dX12_runs_181 : decode cX12_runs 181 = .ok (.iaload, 1) := by decide +kernel
theorem dX12_runs_182 : decode cX12_runs 182 = .ok (.ireturn, 1) := by decide +kernel
def jn_X12_runs_83 (x1 : Int32) (x3 : Int32) (x4 : Int32) (x5 : Int32) (t1 : Int32) (t2 : Int32) (s : Mem) : Option ((Int32 × Int32 × Mem) ⊕ (Mem)) :=
  (wr 420 s 20 t1 t2).bind fun s8 =>
  some (.inl ((x4 + 1), (x5 + 1), s8))
def jn_X12_runs_45 (x1 : Int32) (x3 : Int32) (x4 : Int32) (x5 : Int32) (s : Mem) : Option ((Int32 × Int32 × Mem) ⊕ (Mem)) :=
  (rd 1200 (s 12) x5).bind fun v4 =>
  if v4 = 0 then
  (rd 1200 (s 13) x5).bind fun v9 =>
  jn_X12_runs_83 x1 x3 x4 x5 x4 v9 s
  else
  (rd 1200 (s 13) x5).bind fun v6 =>
  (rd 8 (s 19) v6).bind fun v7 =>
  jn_X12_runs_83 x1 x3 x4 x5 x4 v7 s
def st_X12_runs_12 (x1 : Int32) (x3 : Int32) (x4 : Int32) (x5 : Int32) (s : Mem) : Option ((Int32 × Int32 × Mem) ⊕ (Mem)) :=
  if ((400 * x1) + x3) ≤ x5 then
  some (.inr (s))
  else
  (rd 1200 (s 12) x5).bind fun v2 =>
  if v2 = 0 then
  jn_X12_runs_45 x1 x3 x4 x5 s
  else
  (rd 1200 (s 12) x5).bind fun v10 =>
  if v10 = 1 then
  jn_X12_runs_45 x1 x3 x4 x5 s
  else
  (rd 1200 (s 12) x5).bind fun v12 =>
  if v12 = 9 then
  (rd 420 (s 20) (x4 - 1)).bind fun v19 =>
  (wr 420 s 20 (x4 - 1) (1 - v19)).bind fun s20 =>
  some (.inl (x4, (x5 + 1), s20))
  else
  (rd 1200 (s 12) x5).bind fun v14 =>
  (rd 420 (s 20) ((x4 - 1) - 1)).bind fun v15 =>
  (rd 420 (s 20) (x4 - 1)).bind fun v16 =>
  (f_X12_twoOf v14 v15 v16 s).bind fun r17 =>
  (wr 420 r17.2 20 ((x4 - 1) - 1) r17.1).bind fun s18 =>
  some (.inl ((x4 - 1), (x5 + 1), s18))
def f_X12_runs (x1 : Int32) (x2 : Int32) (x3 : Int32) (s : Mem) : Option (Int32 × Mem) :=
  (it FUEL (fun y => st_X12_runs_12 x1 x3 y.1 y.2.1 y.2.2) (0, ((400 * x1) + x2), s)).bind fun r21 =>
  (rd 420 (r21 20) 0).bind fun v22 =>
  some (v22, r21)
set_option maxRecDepth 100000 in
set_option maxHeartbeats 4000000 in
theorem jo_X12_runs_83 {fr : Nat} (hfr : 1 ≤ fr) (Z : AZ) (X : AX Z cX12_runs 6 RX12 (some .int) 1 fr) (x1 : Int32) (x3 : Int32) (x4 : Int32) (x5 : Int32) (t1 : Int32) (t2 : Int32) (s : Mem) (q : (Int32 × Int32 × Mem) ⊕ (Mem)) (h : jn_X12_runs_83 x1 x3 x4 x5 t1 t2 s = some q) (hi : ∀ y : Int32 × Int32 × Mem, q = .inl y → AW Z y.2.2 12 [some (.ref (zr Z 0)), some (.int x1), none, some (.int x3), some (.int y.1), some (.int y.2.1)] []) (he : ∀ b : Mem, q = .inr b → AW Z b 176 [some (.ref (zr Z 0)), none, none, none, none, none] []) : AW Z s 83 [some (.ref (zr Z 0)), some (.int x1), none, some (.int x3), some (.int x4), some (.int x5)] [.int t2, .int t1, .ref (zr Z 20)] := by
  unfold jn_X12_runs_83 at h
  obtain ⟨s8, es8, h⟩ := bnd h
  refine aw_iast X dX12_runs_83 iu_RX12_39 es8 ?_
  refine aw_iload X dX12_runs_84 rfl ?_
  refine aw_iconst (v := 1) X dX12_runs_86 (by decide) ?_
  refine aw_iadd X dX12_runs_87 ?_
  refine aw_istore (L' := [some (.ref (zr Z 0)), some (.int x1), none, some (.int x3), some (.int (x4 + 1)), some (.int x5)]) X dX12_runs_88 (by decide) rfl ?_
  refine aw_goto (tgt := 170) X dX12_runs_90 (by decide) ?_
  refine aw_iinc (v := (x5 + 1)) (L' := [some (.ref (zr Z 0)), some (.int x1), none, some (.int x3), some (.int (x4 + 1)), some (.int (x5 + 1))]) X dX12_runs_170 rfl rfl (by decide) rfl ?_
  refine aw_goto (tgt := 12) X dX12_runs_173 (by decide) ?_
  cases h
  refine aw_msk [true, true, false, true, true, true] ?_
  exact hi _ rfl
set_option maxRecDepth 100000 in
set_option maxHeartbeats 4000000 in
theorem jo_X12_runs_45 {fr : Nat} (hfr : 1 ≤ fr) (Z : AZ) (X : AX Z cX12_runs 6 RX12 (some .int) 1 fr) (x1 : Int32) (x3 : Int32) (x4 : Int32) (x5 : Int32) (s : Mem) (q : (Int32 × Int32 × Mem) ⊕ (Mem)) (h : jn_X12_runs_45 x1 x3 x4 x5 s = some q) (hi : ∀ y : Int32 × Int32 × Mem, q = .inl y → AW Z y.2.2 12 [some (.ref (zr Z 0)), some (.int x1), none, some (.int x3), some (.int y.1), some (.int y.2.1)] []) (he : ∀ b : Mem, q = .inr b → AW Z b 176 [some (.ref (zr Z 0)), none, none, none, none, none] []) : AW Z s 45 [some (.ref (zr Z 0)), some (.int x1), none, some (.int x3), some (.int x4), some (.int x5)] [] := by
  unfold jn_X12_runs_45 at h
  refine aw_aload_n X dX12_runs_45 rfl ?_
  refine aw_getr X dX12_runs_46 fl_RX12_71 iu_RX12 gu_RX12_39 ?_
  refine aw_iload X dX12_runs_49 rfl ?_
  refine aw_aload_n X dX12_runs_51 rfl ?_
  refine aw_getr X dX12_runs_52 fl_RX12_43 iu_RX12 gu_RX12_20 ?_
  refine aw_iload X dX12_runs_55 rfl ?_
  obtain ⟨v4, ev4, h⟩ := bnd h
  refine aw_iald X dX12_runs_57 iu_RX12_20 ev4 ?_
  refine aw_if_ne (tgt := 71) X dX12_runs_58 (by decide) (fun c5 => ?_) (fun c5 => ?_)
  · rw [if_neg c5] at h
    refine aw_aload_n X dX12_runs_71 rfl ?_
    refine aw_getr X dX12_runs_72 fl_RX12_68 iu_RX12 gu_RX12_38 ?_
    refine aw_aload_n X dX12_runs_75 rfl ?_
    refine aw_getr X dX12_runs_76 fl_RX12_46 iu_RX12 gu_RX12_21 ?_
    refine aw_iload X dX12_runs_79 rfl ?_
    obtain ⟨v6, ev6, h⟩ := bnd h
    refine aw_iald X dX12_runs_81 iu_RX12_21 ev6 ?_
    obtain ⟨v7, ev7, h⟩ := bnd h
    refine aw_iald X dX12_runs_82 iu_RX12_38 ev7 ?_
    refine aw_msk [true, true, false, true, true, true] ?_
    exact jo_X12_runs_83 hfr Z X _ _ _ _ _ _ _ _ h hi he
  · rw [if_pos c5] at h
    refine aw_aload_n X dX12_runs_61 rfl ?_
    refine aw_getr X dX12_runs_62 fl_RX12_46 iu_RX12 gu_RX12_21 ?_
    refine aw_iload X dX12_runs_65 rfl ?_
    obtain ⟨v9, ev9, h⟩ := bnd h
    refine aw_iald X dX12_runs_67 iu_RX12_21 ev9 ?_
    refine aw_goto (tgt := 83) X dX12_runs_68 (by decide) ?_
    refine aw_msk [true, true, false, true, true, true] ?_
    exact jo_X12_runs_83 hfr Z X _ _ _ _ _ _ _ _ h hi he
set_option maxRecDepth 100000 in
set_option maxHeartbeats 4000000 in
theorem so_X12_runs_12 {fr : Nat} (hfr : 1 ≤ fr) (Z : AZ) (X : AX Z cX12_runs 6 RX12 (some .int) 1 fr) (x1 : Int32) (x3 : Int32) (x4 : Int32) (x5 : Int32) (s : Mem) (q : (Int32 × Int32 × Mem) ⊕ (Mem)) (h : st_X12_runs_12 x1 x3 x4 x5 s = some q) (hi : ∀ y : Int32 × Int32 × Mem, q = .inl y → AW Z y.2.2 12 [some (.ref (zr Z 0)), some (.int x1), none, some (.int x3), some (.int y.1), some (.int y.2.1)] []) (he : ∀ b : Mem, q = .inr b → AW Z b 176 [some (.ref (zr Z 0)), none, none, none, none, none] []) : AW Z s 12 [some (.ref (zr Z 0)), some (.int x1), none, some (.int x3), some (.int x4), some (.int x5)] [] := by
  unfold st_X12_runs_12 at h
  refine aw_iload X dX12_runs_12 rfl ?_
  refine aw_sipush (v := 400) X dX12_runs_14 (by decide) ?_
  refine aw_iload_n X dX12_runs_17 rfl ?_
  refine aw_imul X dX12_runs_18 ?_
  refine aw_iload_n X dX12_runs_19 rfl ?_
  refine aw_iadd X dX12_runs_20 ?_
  refine aw_icmp_ge (tgt := 176) X dX12_runs_21 (by decide) (fun c1 => ?_) (fun c1 => ?_)
  · rw [if_pos c1] at h
    cases h
    refine aw_msk [true, false, false, false, false, false] ?_
    exact he _ rfl
  · rw [if_neg c1] at h
    refine aw_aload_n X dX12_runs_24 rfl ?_
    refine aw_getr X dX12_runs_25 fl_RX12_43 iu_RX12 gu_RX12_20 ?_
    refine aw_iload X dX12_runs_28 rfl ?_
    obtain ⟨v2, ev2, h⟩ := bnd h
    refine aw_iald X dX12_runs_30 iu_RX12_20 ev2 ?_
    refine aw_if_eq (tgt := 45) X dX12_runs_31 (by decide) (fun c3 => ?_) (fun c3 => ?_)
    · rw [if_pos c3] at h
      refine aw_msk [true, true, false, true, true, true] ?_
      exact jo_X12_runs_45 hfr Z X _ _ _ _ _ _ h hi he
    · rw [if_neg c3] at h
      refine aw_aload_n X dX12_runs_34 rfl ?_
      refine aw_getr X dX12_runs_35 fl_RX12_43 iu_RX12 gu_RX12_20 ?_
      refine aw_iload X dX12_runs_38 rfl ?_
      obtain ⟨v10, ev10, h⟩ := bnd h
      refine aw_iald X dX12_runs_40 iu_RX12_20 ev10 ?_
      refine aw_iconst (v := 1) X dX12_runs_41 (by decide) ?_
      refine aw_icmp_ne (tgt := 93) X dX12_runs_42 (by decide) (fun c11 => ?_) (fun c11 => ?_)
      · rw [if_neg c11] at h
        refine aw_aload_n X dX12_runs_93 rfl ?_
        refine aw_getr X dX12_runs_94 fl_RX12_43 iu_RX12 gu_RX12_20 ?_
        refine aw_iload X dX12_runs_97 rfl ?_
        obtain ⟨v12, ev12, h⟩ := bnd h
        refine aw_iald X dX12_runs_99 iu_RX12_20 ev12 ?_
        refine aw_bipush (v := 9) X dX12_runs_100 (by decide) ?_
        refine aw_icmp_ne (tgt := 128) X dX12_runs_102 (by decide) (fun c13 => ?_) (fun c13 => ?_)
        · rw [if_neg c13] at h
          refine aw_iload X dX12_runs_128 rfl ?_
          refine aw_iconst (v := 1) X dX12_runs_130 (by decide) ?_
          refine aw_isub X dX12_runs_131 ?_
          refine aw_istore (L' := [some (.ref (zr Z 0)), some (.int x1), none, some (.int x3), some (.int (x4 - 1)), some (.int x5)]) X dX12_runs_132 (by decide) rfl ?_
          refine aw_aload_n X dX12_runs_134 rfl ?_
          refine aw_getr X dX12_runs_135 fl_RX12_71 iu_RX12 gu_RX12_39 ?_
          refine aw_iload X dX12_runs_138 rfl ?_
          refine aw_iconst (v := 1) X dX12_runs_140 (by decide) ?_
          refine aw_isub X dX12_runs_141 ?_
          refine aw_aload_n X dX12_runs_142 rfl ?_
          refine aw_aload_n X dX12_runs_143 rfl ?_
          refine aw_getr X dX12_runs_144 fl_RX12_43 iu_RX12 gu_RX12_20 ?_
          refine aw_iload X dX12_runs_147 rfl ?_
          obtain ⟨v14, ev14, h⟩ := bnd h
          refine aw_iald X dX12_runs_149 iu_RX12_20 ev14 ?_
          refine aw_aload_n X dX12_runs_150 rfl ?_
          refine aw_getr X dX12_runs_151 fl_RX12_71 iu_RX12 gu_RX12_39 ?_
          refine aw_iload X dX12_runs_154 rfl ?_
          refine aw_iconst (v := 1) X dX12_runs_156 (by decide) ?_
          refine aw_isub X dX12_runs_157 ?_
          obtain ⟨v15, ev15, h⟩ := bnd h
          refine aw_iald X dX12_runs_158 iu_RX12_39 ev15 ?_
          refine aw_aload_n X dX12_runs_159 rfl ?_
          refine aw_getr X dX12_runs_160 fl_RX12_71 iu_RX12 gu_RX12_39 ?_
          refine aw_iload X dX12_runs_163 rfl ?_
          obtain ⟨v16, ev16, h⟩ := bnd h
          refine aw_iald X dX12_runs_165 iu_RX12_39 ev16 ?_
          obtain ⟨r17, er17, h⟩ := bnd h
          refine aw_callV X dX12_runs_166 cv_RX12_302 (ok_X12_twoOf er17 _ _ _ _ _) iu_RX12 rfl (Nat.le_trans (by decide) hfr) (by decide) rfl rfl (Nat.le_of_ble_eq_true rfl) ?_
          obtain ⟨s18, es18, h⟩ := bnd h
          refine aw_iast X dX12_runs_169 iu_RX12_39 es18 ?_
          refine aw_iinc (v := (x5 + 1)) (L' := [some (.ref (zr Z 0)), some (.int x1), none, some (.int x3), some (.int (x4 - 1)), some (.int (x5 + 1))]) X dX12_runs_170 rfl rfl (by decide) rfl ?_
          refine aw_goto (tgt := 12) X dX12_runs_173 (by decide) ?_
          cases h
          refine aw_msk [true, true, false, true, true, true] ?_
          exact hi _ rfl
        · rw [if_pos c13] at h
          refine aw_aload_n X dX12_runs_105 rfl ?_
          refine aw_getr X dX12_runs_106 fl_RX12_71 iu_RX12 gu_RX12_39 ?_
          refine aw_iload X dX12_runs_109 rfl ?_
          refine aw_iconst (v := 1) X dX12_runs_111 (by decide) ?_
          refine aw_isub X dX12_runs_112 ?_
          refine aw_iconst (v := 1) X dX12_runs_113 (by decide) ?_
          refine aw_aload_n X dX12_runs_114 rfl ?_
          refine aw_getr X dX12_runs_115 fl_RX12_71 iu_RX12 gu_RX12_39 ?_
          refine aw_iload X dX12_runs_118 rfl ?_
          refine aw_iconst (v := 1) X dX12_runs_120 (by decide) ?_
          refine aw_isub X dX12_runs_121 ?_
          obtain ⟨v19, ev19, h⟩ := bnd h
          refine aw_iald X dX12_runs_122 iu_RX12_39 ev19 ?_
          refine aw_isub X dX12_runs_123 ?_
          obtain ⟨s20, es20, h⟩ := bnd h
          refine aw_iast X dX12_runs_124 iu_RX12_39 es20 ?_
          refine aw_goto (tgt := 170) X dX12_runs_125 (by decide) ?_
          refine aw_iinc (v := (x5 + 1)) (L' := [some (.ref (zr Z 0)), some (.int x1), none, some (.int x3), some (.int x4), some (.int (x5 + 1))]) X dX12_runs_170 rfl rfl (by decide) rfl ?_
          refine aw_goto (tgt := 12) X dX12_runs_173 (by decide) ?_
          cases h
          refine aw_msk [true, true, false, true, true, true] ?_
          exact hi _ rfl
      · rw [if_pos c11] at h
        refine aw_msk [true, true, false, true, true, true] ?_
        exact jo_X12_runs_45 hfr Z X _ _ _ _ _ _ h hi he
set_option maxRecDepth 100000 in
set_option maxHeartbeats 4000000 in
theorem w_X12_runs {fr : Nat} (hfr : 1 ≤ fr) (Z : AZ) (X : AX Z cX12_runs 6 RX12 (some .int) 1 fr) (x1 : Int32) (x2 : Int32) (x3 : Int32) (s : Mem) (r : Int32 × Mem) (hz : zres Z = (some (.int r.1), r.2)) (h : f_X12_runs x1 x2 x3 s = some r) : AW Z s 0 [some (.ref (zr Z 0)), some (.int x1), some (.int x2), some (.int x3), none, none] [] := by
  unfold f_X12_runs at h
  refine aw_iconst (v := 0) X dX12_runs_0 (by decide) ?_
  refine aw_istore (L' := [some (.ref (zr Z 0)), some (.int x1), some (.int x2), some (.int x3), some (.int 0), none]) X dX12_runs_1 (by decide) rfl ?_
  refine aw_sipush (v := 400) X dX12_runs_3 (by decide) ?_
  refine aw_iload_n X dX12_runs_6 rfl ?_
  refine aw_imul X dX12_runs_7 ?_
  refine aw_iload_n X dX12_runs_8 rfl ?_
  refine aw_iadd X dX12_runs_9 ?_
  refine aw_istore (L' := [some (.ref (zr Z 0)), some (.int x1), some (.int x2), some (.int x3), some (.int 0), some (.int ((400 * x1) + x2))]) X dX12_runs_10 (by decide) rfl ?_
  obtain ⟨r21, er21, h⟩ := bnd h
  refine aw_msk [true, true, false, true, true, true] ?_
  refine it_ok (P := fun y : Int32 × Int32 × Mem => AW Z y.2.2 12 [some (.ref (zr Z 0)), some (.int x1), none, some (.int x3), some (.int y.1), some (.int y.2.1)] []) (Q := fun b : Mem => AW Z b 176 [some (.ref (zr Z 0)), none, none, none, none, none] []) (fun y q hq hi he => so_X12_runs_12 hfr Z X x1 x3 y.1 y.2.1 y.2.2 q hq hi he) FUEL _ _ er21 ?_
  refine aw_aload_n X dX12_runs_176 rfl ?_
  refine aw_getr X dX12_runs_177 fl_RX12_71 iu_RX12 gu_RX12_39 ?_
  refine aw_iconst (v := 0) X dX12_runs_180 (by decide) ?_
  obtain ⟨v22, ev22, h⟩ := bnd h
  refine aw_iald X dX12_runs_181 iu_RX12_39 ev22 ?_
  cases h
  exact aw_iret X dX12_runs_182 rfl hz.symm
set_option maxRecDepth 100000 in
set_option maxHeartbeats 4000000 in
theorem ok_X12_runs {x1 x2 x3 : Int32} {s : Mem} {r : Int32 × Mem} (h : f_X12_runs x1 x2 x3 s = some r) (l : Launch) (D : va_G) (ρ : Nat → Nat) (cA : ClassId × ClassId × ClassId) (τ : AT) : AM l D ρ cA 1 τ yX12_runs cX12_runs 6 (some .int) 1 [.ref (ρ 0), .int x1, .int x2, .int x3] (some (.int r.1)) s r.2 := by
  refine AM_of (L := [some (.ref (ρ 0)), some (.int x1), some (.int x2), some (.int x3), none, none]) (by decide) (by simp [Value.category]) (Nat.le_of_ble_eq_true rfl) (fun j v q => ?_) (fun Z X hρ hz => ?_)
  · exact aL_ok (n := 2) [.ref (ρ 0), .int x1, .int x2, .int x3] j v q
  · subst hρ
    exact w_X12_runs (Nat.le_refl _) Z X x1 x2 x3 s r hz h
