/-! ===== walks: X12_reads .. X12_readTalkLine ===== -/
theorem dX12_reads_0 : decode cX12_reads 0 = .ok (.aload_n 0, 1) := by decide +kernel
theorem dX12_reads_1 : decode cX12_reads 1 = .ok (.aload_n 0, 1) := by decide +kernel
theorem dX12_reads_2 : decode cX12_reads 2 = .ok (.getfield 156, 3) := by decide +kernel
theorem dX12_reads_5 : decode cX12_reads 5 = .ok (.invokevirtual 159, 3) := by decide +kernel
theorem dX12_reads_8 : decode cX12_reads 8 = .ok (.bipush 32, 2) := by decide +kernel
theorem dX12_reads_10 : decode cX12_reads 10 = .ok (.if_icmp .eq 16, 3) := by decide +kernel
theorem dX12_reads_13 : decode cX12_reads 13 = .ok (.aload_n 0, 1) := by decide +kernel
theorem dX12_reads_14 : decode cX12_reads 14 = .ok (.aload_n 0, 1) := by decide +kernel
theorem dX12_reads_15 : decode cX12_reads 15 = .ok (.getfield 156, 3) := by decide +kernel
theorem dX12_reads_18 : decode cX12_reads 18 = .ok (.invokevirtual 159, 3) := by decide +kernel
theorem dX12_reads_21 : decode cX12_reads 21 = .ok (.bipush 10, 2) := by decide +kernel
theorem dX12_reads_23 : decode cX12_reads 23 = .ok (.if_icmp .ne 16, 3) := by decide +kernel
theorem dX12_reads_26 : decode cX12_reads 26 = .ok (.aload_n 0, 1) := by decide +kernel
theorem dX12_reads_27 : decode cX12_reads 27 = .ok (.aload_n 0, 1) := by decide +kernel
theorem dX12_reads_28 : decode cX12_reads 28 = .ok (.getfield 156, 3) := by decide +kernel
theorem dX12_reads_31 : decode cX12_reads 31 = .ok (.iconst 1, 1) := by decide +kernel
theorem dX12_reads_32 : decode cX12_reads 32 = .ok (.iadd, 1) := by decide +kernel
theorem dX12_reads_33 : decode cX12_reads 33 = .ok (.putfield 156, 3) := by decide +kernel
theorem dX12_reads_36 : decode cX12_reads 36 = .ok (.goto (-36), 3) := by decide +kernel
theorem dX12_reads_39 : decode cX12_reads 39 = .ok (.aload_n 0, 1) := by decide +kernel
theorem dX12_reads_40 : decode cX12_reads 40 = .ok (.aload_n 0, 1) := by decide +kernel
theorem dX12_reads_41 : decode cX12_reads 41 = .ok (.getfield 156, 3) := by decide +kernel
theorem dX12_reads_44 : decode cX12_reads 44 = .ok (.putfield 163, 3) := by decide +kernel
theorem dX12_reads_47 : decode cX12_reads 47 = .ok (.aload_n 0, 1) := by decide +kernel
theorem dX12_reads_48 : decode cX12_reads 48 = .ok (.iconst 1, 1) := by decide +kernel
theorem dX12_reads_49 : decode cX12_reads 49 = .ok (.putfield 166, 3) := by decide +kernel
theorem dX12_reads_52 : decode cX12_reads 52 = .ok (.aload_n 0, 1) := by decide +kernel
theorem dX12_reads_53 : decode cX12_reads 53 = .ok (.aload_n 0, 1) := by decide +kernel
theorem dX12_reads_54 : decode cX12_reads 54 = .ok (.getfield 156, 3) := by decide +kernel
theorem dX12_reads_57 : decode cX12_reads 57 = .ok (.invokevirtual 159, 3) := by decide +kernel
theorem dX12_reads_60 : decode cX12_reads 60 = .ok (.istore_n 1, 1) := by decide +kernel
theorem dX12_reads_61 : decode cX12_reads 61 = .ok (.iload_n 1, 1) := by decide +kernel
theorem dX12_reads_62 : decode cX12_reads 62 = .ok (.iconst (-1), 1) := by decide +kernel
theorem dX12_reads_63 : decode cX12_reads 63 = .ok (.if_icmp .ne 9, 3) := by decide +kernel
theorem dX12_reads_66 : decode cX12_reads 66 = .ok (.aload_n 0, 1) := by decide +kernel
theorem dX12_reads_67 : decode cX12_reads 67 = .ok (.iconst 0, 1) := by decide +kernel
theorem dX12_reads_68 : decode cX12_reads 68 = .ok (.putfield 166, 3) := by decide +kernel
theorem dX12_reads_71 : decode cX12_reads 71 = .ok (.return_, 1) := by decide +kernel
theorem dX12_reads_72 : decode cX12_reads 72 = .ok (.aload_n 0, 1) := by decide +kernel
theorem dX12_reads_73 : decode cX12_reads 73 = .ok (.aload_n 0, 1) := by decide +kernel
theorem dX12_reads_74 : decode cX12_reads 74 = .ok (.getfield 156, 3) := by decide +kernel
theorem dX12_reads_77 : decode cX12_reads 77 = .ok (.iconst 1, 1) := by decide +kernel
theorem dX12_reads_78 : decode cX12_reads 78 = .ok (.iadd, 1) := by decide +kernel
theorem dX12_reads_79 : decode cX12_reads 79 = .ok (.putfield 156, 3) := by decide +kernel
theorem dX12_reads_82 : decode cX12_reads 82 = .ok (.aload_n 0, 1) := by decide +kernel
theorem dX12_reads_83 : decode cX12_reads 83 = .ok (.iload_n 1, 1) := by decide +kernel
theorem dX12_reads_84 : decode cX12_reads 84 = .ok (.putfield 169, 3) := by decide +kernel
theorem dX12_reads_87 : decode cX12_reads 87 = .ok (.aload_n 0, 1) := by decide +kernel
theorem dX12_reads_88 : decode cX12_reads 88 = .ok (.iload_n 1, 1) := by decide +kernel
theorem dX12_reads_89 : decode cX12_reads 89 = .ok (.invokevirtual 172, 3) := by decide +kernel
theorem dX12_reads_92 : decode cX12_reads 92 = .ok (.ifCond .eq 63, 3) := by decide +kernel
theorem dX12_reads_95 : decode cX12_reads 95 = .ok (.aload_n 0, 1) := by decide +kernel
theorem dX12_reads_96 : decode cX12_reads 96 = .ok (.aload_n 0, 1) := by decide +kernel
theorem dX12_reads_97 : decode cX12_reads 97 = .ok (.aload_n 0, 1) := by decide +kernel
theorem dX12_reads_98 : decode cX12_reads 98 = .ok (.getfield 156, 3) := by decide +kernel
theorem dX12_reads_101 : decode cX12_reads 101 = .ok (.invokevirtual 159, 3) := by decide +kernel
theorem dX12_reads_104 : decode cX12_reads 104 = .ok (.invokevirtual 172, 3) := by decide +kernel
theorem dX12_reads_107 : decode cX12_reads 107 = .ok (.ifCond .eq 16, 3) := by decide +kernel
theorem dX12_reads_110 : decode cX12_reads 110 = .ok (.aload_n 0, 1) := by decide +kernel
theorem dX12_reads_111 : decode cX12_reads 111 = .ok (.aload_n 0, 1) := by decide +kernel
theorem dX12_reads_112 : decode cX12_reads 112 = .ok (.getfield 156, 3) := by decide +kernel
theorem dX12_reads_115 : decode cX12_reads 115 = .ok (.iconst 1, 1) := by decide +kernel
theorem dX12_reads_116 : decode cX12_reads 116 = .ok (.iadd, 1) := by decide +kernel
theorem dX12_reads_117 : decode cX12_reads 117 = .ok (.putfield 156, 3) := by decide +kernel
theorem dX12_reads_120 : decode cX12_reads 120 = .ok (.goto (-25), 3) := by decide +kernel
theorem dX12_reads_123 : decode cX12_reads 123 = .ok (.aload_n 0, 1) := by decide +kernel
theorem dX12_reads_124 : decode cX12_reads 124 = .ok (.aload_n 0, 1) := by decide +kernel
theorem dX12_reads_125 : decode cX12_reads 125 = .ok (.aload_n 0, 1) := by decide +kernel
theorem dX12_reads_126 : decode cX12_reads 126 = .ok (.getfield 163, 3) := by decide +kernel
theorem dX12_reads_129 : decode cX12_reads 129 = .ok (.aload_n 0, 1) := by decide +kernel
theorem dX12_reads_130 : decode cX12_reads 130 = .ok (.getfield 156, 3) := by decide +kernel
theorem dX12_reads_133 : decode cX12_reads 133 = .ok (.invokevirtual 175, 3) := by decide +kernel
theorem dX12_reads_136 : decode cX12_reads 136 = .ok (.putfield 169, 3) := by decide +kernel
theorem dX12_reads_139 : decode cX12_reads 139 = .ok (.aload_n 0, 1) := by decide +kernel
theorem dX12_reads_140 : decode cX12_reads 140 = .ok (.getfield 169, 3) := by decide +kernel
theorem dX12_reads_143 : decode cX12_reads 143 = .ok (.iconst (-1), 1) := by decide +kernel
theorem dX12_reads_144 : decode cX12_reads 144 = .ok (.if_icmp .eq 129, 3) := by decide +kernel
theorem dX12_reads_147 : decode cX12_reads 147 = .ok (.aload_n 0, 1) := by decide +kernel
theorem dX12_reads_148 : decode cX12_reads 148 = .ok (.iconst 2, 1) := by decide +kernel
theorem dX12_reads_149 : decode cX12_reads 149 = .ok (.putfield 166, 3) := by decide +kernel
theorem dX12_reads_152 : decode cX12_reads 152 = .ok (.goto 121, 3) := by decide +kernel
theorem dX12_reads_155 : decode cX12_reads 155 = .ok (.aload_n 0, 1) := by decide +kernel
theorem dX12_reads_156 : decode cX12_reads 156 = .ok (.iload_n 1, 1) := by decide +kernel
theorem dX12_reads_157 : decode cX12_reads 157 = .ok (.invokevirtual 179, 3) := by decide +kernel
theorem dX12_reads_160 : decode cX12_reads 160 = .ok (.ifCond .eq 100, 3) := by decide +kernel
theorem dX12_reads_163 : decode cX12_reads 163 = .ok (.aload_n 0, 1) := by decide +kernel
theorem dX12_reads_164 : decode cX12_reads 164 = .ok (.iload_n 1, 1) := by decide +kernel
theorem dX12_reads_165 : decode cX12_reads 165 = .ok (.bipush 48, 2) := by decide +kernel
theorem dX12_reads_167 : decode cX12_reads 167 = .ok (.isub, 1) := by decide +kernel
theorem dX12_reads_168 : decode cX12_reads 168 = .ok (.putfield 169, 3) := by decide +kernel
theorem dX12_reads_171 : decode cX12_reads 171 = .ok (.aload_n 0, 1) := by decide +kernel
theorem dX12_reads_172 : decode cX12_reads 172 = .ok (.aload_n 0, 1) := by decide +kernel
theorem dX12_reads_173 : decode cX12_reads 173 = .ok (.aload_n 0, 1) := by decide +kernel
theorem dX12_reads_174 : decode cX12_reads 174 = .ok (.getfield 156, 3) := by decide +kernel
theorem dX12_reads_177 : decode cX12_reads 177 = .ok (.invokevirtual 159, 3) := by decide +kernel
theorem dX12_reads_180 : decode cX12_reads 180 = .ok (.invokevirtual 179, 3) := by decide +kernel
theorem dX12_reads_183 : decode cX12_reads 183 = .ok (.ifCond .eq 56, 3) := by decide +kernel
theorem dX12_reads_186 : decode cX12_reads 186 = .ok (.aload_n 0, 1) := by decide +kernel
theorem dX12_reads_187 : decode cX12_reads 187 = .ok (.aload_n 0, 1) := by decide +kernel
theorem dX12_reads_188 : decode cX12_reads 188 = .ok (.getfield 169, 3) := by decide +kernel
theorem dX12_reads_191 : decode cX12_reads 191 = .ok (.sipush 10000, 3) := by decide +kernel
theorem dX12_reads_194 : decode cX12_reads 194 = .ok (.if_icmp .ge 25, 3) := by decide +kernel
theorem dX12_reads_197 : decode cX12_reads 197 = .ok (.bipush 10, 2) := by decide +kernel
theorem dX12_reads_199 : decode cX12_reads 199 = .ok (.aload_n 0, 1) := by decide +kernel
theorem dX12_reads_200 : decode cX12_reads 200 = .ok (.getfield 169, 3) := by decide +kernel
theorem dX12_reads_203 : decode cX12_reads 203 = .ok (.imul, 1) := by decide +kernel
theorem dX12_reads_204 : decode cX12_reads 204 = .ok (.aload_n 0, 1) := by decide +kernel
theorem dX12_reads_205 : decode cX12_reads 205 = .ok (.aload_n 0, 1) := by decide +kernel
theorem dX12_reads_206 : decode cX12_reads 206 = .ok (.getfield 156, 3) := by decide +kernel
theorem dX12_reads_209 : decode cX12_reads 209 = .ok (.invokevirtual 159, 3) := by decide +kernel
theorem dX12_reads_212 : decode cX12_reads 212 = .ok (.iadd, 1) := by decide +kernel
theorem dX12_reads_213 : decode cX12_reads 213 = .ok (.bipush 48, 2) := by decide +kernel
theorem dX12_reads_215 : decode cX12_reads 215 = .ok (.isub, 1) := by decide +kernel
theorem dX12_reads_216 : decode cX12_reads 216 = .ok (.goto 7, 3) := by decide +kernel
theorem dX12_reads_219 : decode cX12_reads 219 = .ok (.aload_n 0, 1) := by decide +kernel
theorem dX12_reads_220 : decode cX12_reads 220 = .ok (.getfield 169, 3) := by decide +kernel
theorem dX12_reads_223 : decode cX12_reads 223 = .ok (.putfield 169, 3) := by decide +kernel
theorem dX12_reads_226 : decode cX12_reads 226 = .ok (.aload_n 0, 1) := by decide +kernel
theorem dX12_reads_227 : decode cX12_reads 227 = .ok (.aload_n 0, 1) := by decide +kernel
theorem dX12_reads_228 : decode cX12_reads 228 = .ok (.getfield 156, 3) := by decide +kernel
theorem dX12_reads_231 : decode cX12_reads 231 = .ok (.iconst 1, 1) := by decide +kernel
theorem dX12_reads_232 : decode cX12_reads 232 = .ok (.iadd, 1) := by decide +kernel
theorem dX12_reads_233 : decode cX12_reads 233 = .ok (.putfield 156, 3) := by decide +kernel
theorem dX12_reads_236 : decode cX12_reads 236 = .ok (.goto (-65), 3) := by decide +kernel
theorem dX12_reads_239 : decode cX12_reads 239 = .ok (.aload_n 0, 1) := by decide +kernel
theorem dX12_reads_240 : decode cX12_reads 240 = .ok (.getfield 156, 3) := by decide +kernel
theorem dX12_reads_243 : decode cX12_reads 243 = .ok (.aload_n 0, 1) := by decide +kernel
theorem dX12_reads_244 : decode cX12_reads 244 = .ok (.getfield 163, 3) := by decide +kernel
theorem dX12_reads_247 : decode cX12_reads 247 = .ok (.isub, 1) := by decide +kernel
theorem dX12_reads_248 : decode cX12_reads 248 = .ok (.iconst 5, 1) := by decide +kernel
theorem dX12_reads_249 : decode cX12_reads 249 = .ok (.if_icmp .ge 24, 3) := by decide +kernel
theorem dX12_reads_252 : decode cX12_reads 252 = .ok (.aload_n 0, 1) := by decide +kernel
theorem dX12_reads_253 : decode cX12_reads 253 = .ok (.iconst 3, 1) := by decide +kernel
theorem dX12_reads_254 : decode cX12_reads 254 = .ok (.putfield 166, 3) := by decide +kernel
theorem dX12_reads_257 : decode cX12_reads 257 = .ok (.goto 16, 3) := by decide +kernel
theorem dX12_reads_260 : decode cX12_reads 260 = .ok (.aload_n 0, 1) := by decide +kernel
theorem dX12_reads_261 : decode cX12_reads 261 = .ok (.iload_n 1, 1) := by decide +kernel
theorem dX12_reads_262 : decode cX12_reads 262 = .ok (.invokevirtual 182, 3) := by decide +kernel
theorem dX12_reads_265 : decode cX12_reads 265 = .ok (.ifCond .eq 8, 3) := by decide +kernel
theorem dX12_reads_268 : decode cX12_reads 268 = .ok (.aload_n 0, 1) := by decide +kernel
theorem dX12_reads_269 : decode cX12_reads 269 = .ok (.iconst 4, 1) := by decide +kernel
theorem dX12_reads_270 : decode cX12_reads 270 = .ok (.putfield 166, 3) := by decide +kernel
theorem dX12_reads_273 : decode cX12_reads 273 = .ok (.return_, 1) := by decide +kernel
set_option maxRecDepth 100000 in
set_option maxHeartbeats 4000000 in
theorem jo_X12_reads_26 {fr : Nat} (hfr : 2 ≤ fr) (Z : AZ) (X : AX Z cX12_reads 2 RX12 none 1 fr) (s : Mem) (q : (Mem) ⊕ (Mem)) (h : jn_X12_reads_26 s = some q) (hi : ∀ y : Mem, q = .inl y → AW Z y 0 [some (.ref (zr Z 0)), none] []) (he : ∀ b : Mem, q = .inr b → AW Z b 39 [some (.ref (zr Z 0)), none] []) : AW Z s 26 [some (.ref (zr Z 0)), none] [] := by
  unfold jn_X12_reads_26 at h
  refine aw_aload_n X dX12_reads_26 rfl ?_
  refine aw_aload_n X dX12_reads_27 rfl ?_
  refine aw_geti X dX12_reads_28 fl_RX12_156 iu_RX12 gu_RX12_10 ?_
  refine aw_iconst (v := 1) X dX12_reads_31 (by decide) ?_
  refine aw_iadd X dX12_reads_32 ?_
  refine aw_put X dX12_reads_33 fp_RX12_156 iu_RX12 gu_RX12_10 rfl rfl ?_
  refine aw_goto (tgt := 0) X dX12_reads_36 (by decide) ?_
  cases h
  refine aw_msk [true, false] ?_
  exact hi _ rfl
set_option maxRecDepth 100000 in
set_option maxHeartbeats 4000000 in
theorem so_X12_reads_0 {fr : Nat} (hfr : 2 ≤ fr) (Z : AZ) (X : AX Z cX12_reads 2 RX12 none 1 fr) (s : Mem) (q : (Mem) ⊕ (Mem)) (h : st_X12_reads_0 s = some q) (hi : ∀ y : Mem, q = .inl y → AW Z y 0 [some (.ref (zr Z 0)), none] []) (he : ∀ b : Mem, q = .inr b → AW Z b 39 [some (.ref (zr Z 0)), none] []) : AW Z s 0 [some (.ref (zr Z 0)), none] [] := by
  unfold st_X12_reads_0 at h
  refine aw_aload_n X dX12_reads_0 rfl ?_
  refine aw_aload_n X dX12_reads_1 rfl ?_
  refine aw_geti X dX12_reads_2 fl_RX12_156 iu_RX12 gu_RX12_10 ?_
  obtain ⟨r1, er1, h⟩ := bnd h
  refine aw_callV X dX12_reads_5 cv_RX12_159 (ok_X12_raw er1 _ _ _ _ _) iu_RX12 rfl (Nat.le_trans (by decide) hfr) (by decide) rfl rfl (Nat.le_of_ble_eq_true rfl) ?_
  refine aw_bipush (v := 32) X dX12_reads_8 (by decide) ?_
  refine aw_icmp_eq (tgt := 26) X dX12_reads_10 (by decide) (fun c2 => ?_) (fun c2 => ?_)
  · rw [if_pos c2] at h
    refine aw_msk [true, false] ?_
    exact jo_X12_reads_26 hfr Z X _ _ h hi he
  · rw [if_neg c2] at h
    refine aw_aload_n X dX12_reads_13 rfl ?_
    refine aw_aload_n X dX12_reads_14 rfl ?_
    refine aw_geti X dX12_reads_15 fl_RX12_156 iu_RX12 gu_RX12_10 ?_
    obtain ⟨r3, er3, h⟩ := bnd h
    refine aw_callV X dX12_reads_18 cv_RX12_159 (ok_X12_raw er3 _ _ _ _ _) iu_RX12 rfl (Nat.le_trans (by decide) hfr) (by decide) rfl rfl (Nat.le_of_ble_eq_true rfl) ?_
    refine aw_bipush (v := 10) X dX12_reads_21 (by decide) ?_
    refine aw_icmp_ne (tgt := 39) X dX12_reads_23 (by decide) (fun c4 => ?_) (fun c4 => ?_)
    · rw [if_neg c4] at h
      cases h
      refine aw_msk [true, false] ?_
      exact he _ rfl
    · rw [if_pos c4] at h
      refine aw_msk [true, false] ?_
      exact jo_X12_reads_26 hfr Z X _ _ h hi he
set_option maxRecDepth 100000 in
set_option maxHeartbeats 4000000 in
theorem jo_X12_reads_223 {fr : Nat} (hfr : 2 ≤ fr) (Z : AZ) (X : AX Z cX12_reads 2 RX12 none 1 fr) (t1 : Int32) (s : Mem) (q : (Mem) ⊕ (Mem)) (h : jn_X12_reads_223 t1 s = some q) (hi : ∀ y : Mem, q = .inl y → AW Z y 171 [some (.ref (zr Z 0)), none] []) (he : ∀ b : Mem, q = .inr b → AW Z b 239 [some (.ref (zr Z 0)), none] []) : AW Z s 223 [some (.ref (zr Z 0)), none] [.int t1, .ref (zr Z 0)] := by
  unfold jn_X12_reads_223 at h
  refine aw_put X dX12_reads_223 fp_RX12_169 iu_RX12 gu_RX12_13 rfl rfl ?_
  refine aw_aload_n X dX12_reads_226 rfl ?_
  refine aw_aload_n X dX12_reads_227 rfl ?_
  refine aw_geti X dX12_reads_228 fl_RX12_156 iu_RX12 gu_RX12_10 ?_
  refine aw_iconst (v := 1) X dX12_reads_231 (by decide) ?_
  refine aw_iadd X dX12_reads_232 ?_
  refine aw_put X dX12_reads_233 fp_RX12_156 iu_RX12 gu_RX12_10 rfl rfl ?_
  refine aw_goto (tgt := 171) X dX12_reads_236 (by decide) ?_
  cases h
  refine aw_msk [true, false] ?_
  exact hi _ rfl
set_option maxRecDepth 100000 in
set_option maxHeartbeats 4000000 in
theorem so_X12_reads_171 {fr : Nat} (hfr : 2 ≤ fr) (Z : AZ) (X : AX Z cX12_reads 2 RX12 none 1 fr) (s : Mem) (q : (Mem) ⊕ (Mem)) (h : st_X12_reads_171 s = some q) (hi : ∀ y : Mem, q = .inl y → AW Z y 171 [some (.ref (zr Z 0)), none] []) (he : ∀ b : Mem, q = .inr b → AW Z b 239 [some (.ref (zr Z 0)), none] []) : AW Z s 171 [some (.ref (zr Z 0)), none] [] := by
  unfold st_X12_reads_171 at h
  refine aw_aload_n X dX12_reads_171 rfl ?_
  refine aw_aload_n X dX12_reads_172 rfl ?_
  refine aw_aload_n X dX12_reads_173 rfl ?_
  refine aw_geti X dX12_reads_174 fl_RX12_156 iu_RX12 gu_RX12_10 ?_
  obtain ⟨r14, er14, h⟩ := bnd h
  refine aw_callV X dX12_reads_177 cv_RX12_159 (ok_X12_raw er14 _ _ _ _ _) iu_RX12 rfl (Nat.le_trans (by decide) hfr) (by decide) rfl rfl (Nat.le_of_ble_eq_true rfl) ?_
  obtain ⟨r15, er15, h⟩ := bnd h
  refine aw_callV X dX12_reads_180 cv_RX12_179 (ok_X12_isDigit er15 _ _ _ _ _) iu_RX12 rfl (Nat.le_trans (by decide) hfr) (by decide) rfl rfl (Nat.le_of_ble_eq_true rfl) ?_
  refine aw_if_eq (tgt := 239) X dX12_reads_183 (by decide) (fun c16 => ?_) (fun c16 => ?_)
  · rw [if_pos c16] at h
    cases h
    refine aw_msk [true, false] ?_
    exact he _ rfl
  · rw [if_neg c16] at h
    refine aw_aload_n X dX12_reads_186 rfl ?_
    refine aw_aload_n X dX12_reads_187 rfl ?_
    refine aw_geti X dX12_reads_188 fl_RX12_169 iu_RX12 gu_RX12_13 ?_
    refine aw_sipush (v := 10000) X dX12_reads_191 (by decide) ?_
    refine aw_icmp_ge (tgt := 219) X dX12_reads_194 (by decide) (fun c17 => ?_) (fun c17 => ?_)
    · rw [if_pos c17] at h
      refine aw_aload_n X dX12_reads_219 rfl ?_
      refine aw_geti X dX12_reads_220 fl_RX12_169 iu_RX12 gu_RX12_13 ?_
      refine aw_msk [true, false] ?_
      exact jo_X12_reads_223 hfr Z X _ _ _ h hi he
    · rw [if_neg c17] at h
      refine aw_bipush (v := 10) X dX12_reads_197 (by decide) ?_
      refine aw_aload_n X dX12_reads_199 rfl ?_
      refine aw_geti X dX12_reads_200 fl_RX12_169 iu_RX12 gu_RX12_13 ?_
      refine aw_imul X dX12_reads_203 ?_
      refine aw_aload_n X dX12_reads_204 rfl ?_
      refine aw_aload_n X dX12_reads_205 rfl ?_
      refine aw_geti X dX12_reads_206 fl_RX12_156 iu_RX12 gu_RX12_10 ?_
      obtain ⟨r18, er18, h⟩ := bnd h
      refine aw_callV X dX12_reads_209 cv_RX12_159 (ok_X12_raw er18 _ _ _ _ _) iu_RX12 rfl (Nat.le_trans (by decide) hfr) (by decide) rfl rfl (Nat.le_of_ble_eq_true rfl) ?_
      refine aw_iadd X dX12_reads_212 ?_
      refine aw_bipush (v := 48) X dX12_reads_213 (by decide) ?_
      refine aw_isub X dX12_reads_215 ?_
      refine aw_goto (tgt := 223) X dX12_reads_216 (by decide) ?_
      refine aw_msk [true, false] ?_
      exact jo_X12_reads_223 hfr Z X _ _ _ h hi he
set_option maxRecDepth 100000 in
set_option maxHeartbeats 4000000 in
theorem so_X12_reads_95 {fr : Nat} (hfr : 2 ≤ fr) (Z : AZ) (X : AX Z cX12_reads 2 RX12 none 1 fr) (s : Mem) (q : (Mem) ⊕ (Mem)) (h : st_X12_reads_95 s = some q) (hi : ∀ y : Mem, q = .inl y → AW Z y 95 [some (.ref (zr Z 0)), none] []) (he : ∀ b : Mem, q = .inr b → AW Z b 123 [some (.ref (zr Z 0)), none] []) : AW Z s 95 [some (.ref (zr Z 0)), none] [] := by
  unfold st_X12_reads_95 at h
  refine aw_aload_n X dX12_reads_95 rfl ?_
  refine aw_aload_n X dX12_reads_96 rfl ?_
  refine aw_aload_n X dX12_reads_97 rfl ?_
  refine aw_geti X dX12_reads_98 fl_RX12_156 iu_RX12 gu_RX12_10 ?_
  obtain ⟨r21, er21, h⟩ := bnd h
  refine aw_callV X dX12_reads_101 cv_RX12_159 (ok_X12_raw er21 _ _ _ _ _) iu_RX12 rfl (Nat.le_trans (by decide) hfr) (by decide) rfl rfl (Nat.le_of_ble_eq_true rfl) ?_
  obtain ⟨r22, er22, h⟩ := bnd h
  refine aw_callV X dX12_reads_104 cv_RX12_172 (ok_X12_isLetter er22 _ _ _ _ _) iu_RX12 rfl (Nat.le_trans (by decide) hfr) (by decide) rfl rfl (Nat.le_of_ble_eq_true rfl) ?_
  refine aw_if_eq (tgt := 123) X dX12_reads_107 (by decide) (fun c23 => ?_) (fun c23 => ?_)
  · rw [if_pos c23] at h
    cases h
    refine aw_msk [true, false] ?_
    exact he _ rfl
  · rw [if_neg c23] at h
    refine aw_aload_n X dX12_reads_110 rfl ?_
    refine aw_aload_n X dX12_reads_111 rfl ?_
    refine aw_geti X dX12_reads_112 fl_RX12_156 iu_RX12 gu_RX12_10 ?_
    refine aw_iconst (v := 1) X dX12_reads_115 (by decide) ?_
    refine aw_iadd X dX12_reads_116 ?_
    refine aw_put X dX12_reads_117 fp_RX12_156 iu_RX12 gu_RX12_10 rfl rfl ?_
    refine aw_goto (tgt := 95) X dX12_reads_120 (by decide) ?_
    cases h
    refine aw_msk [true, false] ?_
    exact hi _ rfl
set_option maxRecDepth 100000 in
set_option maxHeartbeats 4000000 in
theorem w_X12_reads {fr : Nat} (hfr : 2 ≤ fr) (Z : AZ) (X : AX Z cX12_reads 2 RX12 none 1 fr) (s : Mem) (r : Mem) (hz : zres Z = (none, r)) (h : f_X12_reads s = some r) : AW Z s 0 [some (.ref (zr Z 0)), none] [] := by
  unfold f_X12_reads at h
  obtain ⟨r5, er5, h⟩ := bnd h
  refine aw_msk [true, false] ?_
  refine it_ok (P := fun y : Mem => AW Z y 0 [some (.ref (zr Z 0)), none] []) (Q := fun b : Mem => AW Z b 39 [some (.ref (zr Z 0)), none] []) (fun y q hq hi he => so_X12_reads_0 hfr Z X y q hq hi he) FUEL _ _ er5 ?_
  refine aw_aload_n X dX12_reads_39 rfl ?_
  refine aw_aload_n X dX12_reads_40 rfl ?_
  refine aw_geti X dX12_reads_41 fl_RX12_156 iu_RX12 gu_RX12_10 ?_
  refine aw_put X dX12_reads_44 fp_RX12_163 iu_RX12 gu_RX12_11 rfl rfl ?_
  refine aw_aload_n X dX12_reads_47 rfl ?_
  refine aw_iconst (v := 1) X dX12_reads_48 (by decide) ?_
  refine aw_put X dX12_reads_49 fp_RX12_166 iu_RX12 gu_RX12_12 rfl rfl ?_
  refine aw_aload_n X dX12_reads_52 rfl ?_
  refine aw_aload_n X dX12_reads_53 rfl ?_
  refine aw_geti X dX12_reads_54 fl_RX12_156 iu_RX12 gu_RX12_10 ?_
  obtain ⟨r6, er6, h⟩ := bnd h
  refine aw_callV X dX12_reads_57 cv_RX12_159 (ok_X12_raw er6 _ _ _ _ _) iu_RX12 rfl (Nat.le_trans (by decide) hfr) (by decide) rfl rfl (Nat.le_of_ble_eq_true rfl) ?_
  refine aw_istore_n (L' := [some (.ref (zr Z 0)), some (.int r6.1)]) X dX12_reads_60 (by decide) rfl ?_
  refine aw_iload_n X dX12_reads_61 rfl ?_
  refine aw_iconst (v := (-1)) X dX12_reads_62 (by decide) ?_
  refine aw_icmp_ne (tgt := 72) X dX12_reads_63 (by decide) (fun c7 => ?_) (fun c7 => ?_)
  · rw [if_neg c7] at h
    refine aw_aload_n X dX12_reads_72 rfl ?_
    refine aw_aload_n X dX12_reads_73 rfl ?_
    refine aw_geti X dX12_reads_74 fl_RX12_156 iu_RX12 gu_RX12_10 ?_
    refine aw_iconst (v := 1) X dX12_reads_77 (by decide) ?_
    refine aw_iadd X dX12_reads_78 ?_
    refine aw_put X dX12_reads_79 fp_RX12_156 iu_RX12 gu_RX12_10 rfl rfl ?_
    refine aw_aload_n X dX12_reads_82 rfl ?_
    refine aw_iload_n X dX12_reads_83 rfl ?_
    refine aw_put X dX12_reads_84 fp_RX12_169 iu_RX12 gu_RX12_13 rfl rfl ?_
    refine aw_aload_n X dX12_reads_87 rfl ?_
    refine aw_iload_n X dX12_reads_88 rfl ?_
    obtain ⟨r8, er8, h⟩ := bnd h
    refine aw_callV X dX12_reads_89 cv_RX12_172 (ok_X12_isLetter er8 _ _ _ _ _) iu_RX12 rfl (Nat.le_trans (by decide) hfr) (by decide) rfl rfl (Nat.le_of_ble_eq_true rfl) ?_
    refine aw_if_eq (tgt := 155) X dX12_reads_92 (by decide) (fun c9 => ?_) (fun c9 => ?_)
    · rw [if_pos c9] at h
      refine aw_aload_n X dX12_reads_155 rfl ?_
      refine aw_iload_n X dX12_reads_156 rfl ?_
      obtain ⟨r10, er10, h⟩ := bnd h
      refine aw_callV X dX12_reads_157 cv_RX12_179 (ok_X12_isDigit er10 _ _ _ _ _) iu_RX12 rfl (Nat.le_trans (by decide) hfr) (by decide) rfl rfl (Nat.le_of_ble_eq_true rfl) ?_
      refine aw_if_eq (tgt := 260) X dX12_reads_160 (by decide) (fun c11 => ?_) (fun c11 => ?_)
      · rw [if_pos c11] at h
        refine aw_aload_n X dX12_reads_260 rfl ?_
        refine aw_iload_n X dX12_reads_261 rfl ?_
        obtain ⟨r12, er12, h⟩ := bnd h
        refine aw_callV X dX12_reads_262 cv_RX12_182 (ok_X12_isMarkSign er12 _ _ _ _ _) iu_RX12 rfl (Nat.le_trans (by decide) hfr) (by decide) rfl rfl (Nat.le_of_ble_eq_true rfl) ?_
        refine aw_if_eq (tgt := 273) X dX12_reads_265 (by decide) (fun c13 => ?_) (fun c13 => ?_)
        · rw [if_pos c13] at h
          cases h
          exact aw_vret X dX12_reads_273 rfl hz.symm
        · rw [if_neg c13] at h
          refine aw_aload_n X dX12_reads_268 rfl ?_
          refine aw_iconst (v := 4) X dX12_reads_269 (by decide) ?_
          refine aw_put X dX12_reads_270 fp_RX12_166 iu_RX12 gu_RX12_12 rfl rfl ?_
          cases h
          exact aw_vret X dX12_reads_273 rfl hz.symm
      · rw [if_neg c11] at h
        refine aw_aload_n X dX12_reads_163 rfl ?_
        refine aw_iload_n X dX12_reads_164 rfl ?_
        refine aw_bipush (v := 48) X dX12_reads_165 (by decide) ?_
        refine aw_isub X dX12_reads_167 ?_
        refine aw_put X dX12_reads_168 fp_RX12_169 iu_RX12 gu_RX12_13 rfl rfl ?_
        obtain ⟨r19, er19, h⟩ := bnd h
        refine aw_msk [true, false] ?_
        refine it_ok (P := fun y : Mem => AW Z y 171 [some (.ref (zr Z 0)), none] []) (Q := fun b : Mem => AW Z b 239 [some (.ref (zr Z 0)), none] []) (fun y q hq hi he => so_X12_reads_171 hfr Z X y q hq hi he) FUEL _ _ er19 ?_
        refine aw_aload_n X dX12_reads_239 rfl ?_
        refine aw_geti X dX12_reads_240 fl_RX12_156 iu_RX12 gu_RX12_10 ?_
        refine aw_aload_n X dX12_reads_243 rfl ?_
        refine aw_geti X dX12_reads_244 fl_RX12_163 iu_RX12 gu_RX12_11 ?_
        refine aw_isub X dX12_reads_247 ?_
        refine aw_iconst (v := 5) X dX12_reads_248 (by decide) ?_
        refine aw_icmp_ge (tgt := 273) X dX12_reads_249 (by decide) (fun c20 => ?_) (fun c20 => ?_)
        · rw [if_pos c20] at h
          cases h
          exact aw_vret X dX12_reads_273 rfl hz.symm
        · rw [if_neg c20] at h
          refine aw_aload_n X dX12_reads_252 rfl ?_
          refine aw_iconst (v := 3) X dX12_reads_253 (by decide) ?_
          refine aw_put X dX12_reads_254 fp_RX12_166 iu_RX12 gu_RX12_12 rfl rfl ?_
          refine aw_goto (tgt := 273) X dX12_reads_257 (by decide) ?_
          cases h
          exact aw_vret X dX12_reads_273 rfl hz.symm
    · rw [if_neg c9] at h
      obtain ⟨r24, er24, h⟩ := bnd h
      refine aw_msk [true, false] ?_
      refine it_ok (P := fun y : Mem => AW Z y 95 [some (.ref (zr Z 0)), none] []) (Q := fun b : Mem => AW Z b 123 [some (.ref (zr Z 0)), none] []) (fun y q hq hi he => so_X12_reads_95 hfr Z X y q hq hi he) FUEL _ _ er24 ?_
      refine aw_aload_n X dX12_reads_123 rfl ?_
      refine aw_aload_n X dX12_reads_124 rfl ?_
      refine aw_aload_n X dX12_reads_125 rfl ?_
      refine aw_geti X dX12_reads_126 fl_RX12_163 iu_RX12 gu_RX12_11 ?_
      refine aw_aload_n X dX12_reads_129 rfl ?_
      refine aw_geti X dX12_reads_130 fl_RX12_156 iu_RX12 gu_RX12_10 ?_
      obtain ⟨r25, er25, h⟩ := bnd h
      refine aw_callV X dX12_reads_133 cv_RX12_175 (ok_X12_wordAt er25 _ _ _ _ _) iu_RX12 rfl (Nat.le_trans (by decide) hfr) (by decide) rfl rfl (Nat.le_of_ble_eq_true rfl) ?_
      refine aw_put X dX12_reads_136 fp_RX12_169 iu_RX12 gu_RX12_13 rfl rfl ?_
      refine aw_aload_n X dX12_reads_139 rfl ?_
      refine aw_geti X dX12_reads_140 fl_RX12_169 iu_RX12 gu_RX12_13 ?_
      refine aw_iconst (v := (-1)) X dX12_reads_143 (by decide) ?_
      refine aw_icmp_eq (tgt := 273) X dX12_reads_144 (by decide) (fun c26 => ?_) (fun c26 => ?_)
      · rw [if_pos c26] at h
        cases h
        exact aw_vret X dX12_reads_273 rfl hz.symm
      · rw [if_neg c26] at h
        refine aw_aload_n X dX12_reads_147 rfl ?_
        refine aw_iconst (v := 2) X dX12_reads_148 (by decide) ?_
        refine aw_put X dX12_reads_149 fp_RX12_166 iu_RX12 gu_RX12_12 rfl rfl ?_
        refine aw_goto (tgt := 273) X dX12_reads_152 (by decide) ?_
        cases h
        exact aw_vret X dX12_reads_273 rfl hz.symm
  · rw [if_pos c7] at h
    refine aw_aload_n X dX12_reads_66 rfl ?_
    refine aw_iconst (v := 0) X dX12_reads_67 (by decide) ?_
    refine aw_put X dX12_reads_68 fp_RX12_166 iu_RX12 gu_RX12_12 rfl rfl ?_
    cases h
    exact aw_vret X dX12_reads_71 rfl hz.symm
set_option maxRecDepth 100000 in
set_option maxHeartbeats 4000000 in
theorem ok_X12_reads {s : Mem} {r : Mem} (h : f_X12_reads s = some r) (l : Launch) (D : va_G) (ρ : Nat → Nat) (cA : ClassId × ClassId × ClassId) (τ : AT) : AM l D ρ cA 1 τ yX12_reads cX12_reads 2 none 2 [.ref (ρ 0)] none s r := by
  refine AM_of (L := [some (.ref (ρ 0)), none]) (by decide) (by simp [Value.category]) (Nat.le_of_ble_eq_true rfl) (fun j v q => ?_) (fun Z X hρ hz hτ => ?_)
  · exact aL_ok (n := 1) [.ref (ρ 0)] j v q
  · subst hρ
    subst hτ
    exact w_X12_reads (Nat.le_refl _) Z X s r hz h

theorem dX12_errs_0 : decode cX12_errs 0 = .ok (.aload_n 0, 1) := by decide +kernel
theorem dX12_errs_1 : decode cX12_errs 1 = .ok (.iload_n 1, 1) := by decide +kernel
theorem dX12_errs_2 : decode cX12_errs 2 = .ok (.putfield 185, 3) := by decide +kernel
theorem dX12_errs_5 : decode cX12_errs 5 = .ok (.aload_n 0, 1) := by decide +kernel
theorem dX12_errs_6 : decode cX12_errs 6 = .ok (.aload_n 0, 1) := by decide +kernel
theorem dX12_errs_7 : decode cX12_errs 7 = .ok (.getfield 163, 3) := by decide +kernel
theorem dX12_errs_10 : decode cX12_errs 10 = .ok (.putfield 188, 3) := by decide +kernel
theorem dX12_errs_13 : decode cX12_errs 13 = .ok (.iconst (-1), 1) := by decide +kernel
theorem dX12_errs_14 : decode cX12_errs 14 = .ok (.ireturn, 1) := by decide +kernel
set_option maxRecDepth 100000 in
set_option maxHeartbeats 4000000 in
theorem w_X12_errs {fr : Nat} (hfr : 0 ≤ fr) (Z : AZ) (X : AX Z cX12_errs 2 RX12 (some .int) 1 fr) (x1 : Int32) (s : Mem) (r : Int32 × Mem) (hz : zres Z = (some (.int r.1), r.2)) (h : f_X12_errs x1 s = some r) : AW Z s 0 [some (.ref (zr Z 0)), some (.int x1)] [] := by
  unfold f_X12_errs at h
  refine aw_aload_n X dX12_errs_0 rfl ?_
  refine aw_iload_n X dX12_errs_1 rfl ?_
  refine aw_put X dX12_errs_2 fp_RX12_185 iu_RX12 gu_RX12_27 rfl rfl ?_
  refine aw_aload_n X dX12_errs_5 rfl ?_
  refine aw_aload_n X dX12_errs_6 rfl ?_
  refine aw_geti X dX12_errs_7 fl_RX12_163 iu_RX12 gu_RX12_11 ?_
  refine aw_put X dX12_errs_10 fp_RX12_188 iu_RX12 gu_RX12_28 rfl rfl ?_
  refine aw_iconst (v := (-1)) X dX12_errs_13 (by decide) ?_
  cases h
  exact aw_iret X dX12_errs_14 rfl hz.symm
set_option maxRecDepth 100000 in
set_option maxHeartbeats 4000000 in
theorem ok_X12_errs {x1 : Int32} {s : Mem} {r : Int32 × Mem} (h : f_X12_errs x1 s = some r) (l : Launch) (D : va_G) (ρ : Nat → Nat) (cA : ClassId × ClassId × ClassId) (τ : AT) : AM l D ρ cA 1 τ yX12_errs cX12_errs 2 (some .int) 0 [.ref (ρ 0), .int x1] (some (.int r.1)) s r.2 := by
  refine AM_of (L := [some (.ref (ρ 0)), some (.int x1)]) (by decide) (by simp [Value.category]) (Nat.le_of_ble_eq_true rfl) (fun j v q => ?_) (fun Z X hρ hz hτ => ?_)
  · exact aL_ok (n := 0) [.ref (ρ 0), .int x1] j v q
  · subst hρ
    subst hτ
    exact w_X12_errs (Nat.le_refl _) Z X x1 s r hz h

theorem dX12_isWord_0 : decode cX12_isWord 0 = .ok (.aload_n 0, 1) := by decide +kernel
theorem dX12_isWord_1 : decode cX12_isWord 1 = .ok (.getfield 166, 3) := by decide +kernel
theorem dX12_isWord_4 : decode cX12_isWord 4 = .ok (.iconst 2, 1) := by decide +kernel
theorem dX12_isWord_5 : decode cX12_isWord 5 = .ok (.if_icmp .ne 15, 3) := by decide +kernel
theorem dX12_isWord_8 : decode cX12_isWord 8 = .ok (.aload_n 0, 1) := by decide +kernel
theorem dX12_isWord_9 : decode cX12_isWord 9 = .ok (.getfield 169, 3) := by decide +kernel
theorem dX12_isWord_12 : decode cX12_isWord 12 = .ok (.iload_n 1, 1) := by decide +kernel
theorem dX12_isWord_13 : decode cX12_isWord 13 = .ok (.if_icmp .ne 7, 3) := by decide +kernel
theorem dX12_isWord_16 : decode cX12_isWord 16 = .ok (.iconst 1, 1) := by decide +kernel
theorem dX12_isWord_17 : decode cX12_isWord 17 = .ok (.goto 4, 3) := by decide +kernel
theorem dX12_isWord_20 : decode cX12_isWord 20 = .ok (.iconst 0, 1) := by decide +kernel
theorem dX12_isWord_21 : decode cX12_isWord 21 = .ok (.ireturn, 1) := by decide +kernel
set_option maxRecDepth 100000 in
set_option maxHeartbeats 4000000 in
theorem w_X12_isWord {fr : Nat} (hfr : 0 ≤ fr) (Z : AZ) (X : AX Z cX12_isWord 2 RX12 (some .boolean) 1 fr) (x1 : Int32) (s : Mem) (r : Int32 × Mem) (hz : zres Z = (some (.int r.1), r.2)) (h : f_X12_isWord x1 s = some r) : AW Z s 0 [some (.ref (zr Z 0)), some (.int x1)] [] := by
  unfold f_X12_isWord at h
  refine aw_aload_n X dX12_isWord_0 rfl ?_
  refine aw_geti X dX12_isWord_1 fl_RX12_166 iu_RX12 gu_RX12_12 ?_
  refine aw_iconst (v := 2) X dX12_isWord_4 (by decide) ?_
  refine aw_icmp_ne (tgt := 20) X dX12_isWord_5 (by decide) (fun c1 => ?_) (fun c1 => ?_)
  · rw [if_neg c1] at h
    refine aw_iconst (v := 0) X dX12_isWord_20 (by decide) ?_
    cases h
    exact aw_zret X dX12_isWord_21 rfl rfl hz.symm
  · rw [if_pos c1] at h
    refine aw_aload_n X dX12_isWord_8 rfl ?_
    refine aw_geti X dX12_isWord_9 fl_RX12_169 iu_RX12 gu_RX12_13 ?_
    refine aw_iload_n X dX12_isWord_12 rfl ?_
    refine aw_icmp_ne (tgt := 20) X dX12_isWord_13 (by decide) (fun c2 => ?_) (fun c2 => ?_)
    · rw [if_neg c2] at h
      refine aw_iconst (v := 0) X dX12_isWord_20 (by decide) ?_
      cases h
      exact aw_zret X dX12_isWord_21 rfl rfl hz.symm
    · rw [if_pos c2] at h
      refine aw_iconst (v := 1) X dX12_isWord_16 (by decide) ?_
      refine aw_goto (tgt := 21) X dX12_isWord_17 (by decide) ?_
      cases h
      exact aw_zret X dX12_isWord_21 rfl rfl hz.symm
set_option maxRecDepth 100000 in
set_option maxHeartbeats 4000000 in
theorem ok_X12_isWord {x1 : Int32} {s : Mem} {r : Int32 × Mem} (h : f_X12_isWord x1 s = some r) (l : Launch) (D : va_G) (ρ : Nat → Nat) (cA : ClassId × ClassId × ClassId) (τ : AT) : AM l D ρ cA 1 τ yX12_isWord cX12_isWord 2 (some .boolean) 0 [.ref (ρ 0), .int x1] (some (.int r.1)) s r.2 := by
  refine AM_of (L := [some (.ref (ρ 0)), some (.int x1)]) (by decide) (by simp [Value.category]) (Nat.le_of_ble_eq_true rfl) (fun j v q => ?_) (fun Z X hρ hz hτ => ?_)
  · exact aL_ok (n := 0) [.ref (ρ 0), .int x1] j v q
  · subst hρ
    subst hτ
    exact w_X12_isWord (Nat.le_refl _) Z X x1 s r hz h

theorem dX12_isSign_0 : decode cX12_isSign 0 = .ok (.aload_n 0, 1) := by decide +kernel
theorem dX12_isSign_1 : decode cX12_isSign 1 = .ok (.getfield 166, 3) := by decide +kernel
theorem dX12_isSign_4 : decode cX12_isSign 4 = .ok (.iconst 4, 1) := by decide +kernel
theorem dX12_isSign_5 : decode cX12_isSign 5 = .ok (.if_icmp .ne 15, 3) := by decide +kernel
theorem dX12_isSign_8 : decode cX12_isSign 8 = .ok (.aload_n 0, 1) := by decide +kernel
theorem dX12_isSign_9 : decode cX12_isSign 9 = .ok (.getfield 169, 3) := by decide +kernel
theorem dX12_isSign_12 : decode cX12_isSign 12 = .ok (.iload_n 1, 1) := by decide +kernel
theorem dX12_isSign_13 : decode cX12_isSign 13 = .ok (.if_icmp .ne 7, 3) := by decide +kernel
theorem dX12_isSign_16 : decode cX12_isSign 16 = .ok (.iconst 1, 1) := by decide +kernel
theorem dX12_isSign_17 : decode cX12_isSign 17 = .ok (.goto 4, 3) := by decide +kernel
theorem dX12_isSign_20 : decode cX12_isSign 20 = .ok (.iconst 0, 1) := by decide +kernel
theorem dX12_isSign_21 : decode cX12_isSign 21 = .ok (.ireturn, 1) := by decide +kernel
set_option maxRecDepth 100000 in
set_option maxHeartbeats 4000000 in
theorem w_X12_isSign {fr : Nat} (hfr : 0 ≤ fr) (Z : AZ) (X : AX Z cX12_isSign 2 RX12 (some .boolean) 1 fr) (x1 : Int32) (s : Mem) (r : Int32 × Mem) (hz : zres Z = (some (.int r.1), r.2)) (h : f_X12_isSign x1 s = some r) : AW Z s 0 [some (.ref (zr Z 0)), some (.int x1)] [] := by
  unfold f_X12_isSign at h
  refine aw_aload_n X dX12_isSign_0 rfl ?_
  refine aw_geti X dX12_isSign_1 fl_RX12_166 iu_RX12 gu_RX12_12 ?_
  refine aw_iconst (v := 4) X dX12_isSign_4 (by decide) ?_
  refine aw_icmp_ne (tgt := 20) X dX12_isSign_5 (by decide) (fun c1 => ?_) (fun c1 => ?_)
  · rw [if_neg c1] at h
    refine aw_iconst (v := 0) X dX12_isSign_20 (by decide) ?_
    cases h
    exact aw_zret X dX12_isSign_21 rfl rfl hz.symm
  · rw [if_pos c1] at h
    refine aw_aload_n X dX12_isSign_8 rfl ?_
    refine aw_geti X dX12_isSign_9 fl_RX12_169 iu_RX12 gu_RX12_13 ?_
    refine aw_iload_n X dX12_isSign_12 rfl ?_
    refine aw_icmp_ne (tgt := 20) X dX12_isSign_13 (by decide) (fun c2 => ?_) (fun c2 => ?_)
    · rw [if_neg c2] at h
      refine aw_iconst (v := 0) X dX12_isSign_20 (by decide) ?_
      cases h
      exact aw_zret X dX12_isSign_21 rfl rfl hz.symm
    · rw [if_pos c2] at h
      refine aw_iconst (v := 1) X dX12_isSign_16 (by decide) ?_
      refine aw_goto (tgt := 21) X dX12_isSign_17 (by decide) ?_
      cases h
      exact aw_zret X dX12_isSign_21 rfl rfl hz.symm
set_option maxRecDepth 100000 in
set_option maxHeartbeats 4000000 in
theorem ok_X12_isSign {x1 : Int32} {s : Mem} {r : Int32 × Mem} (h : f_X12_isSign x1 s = some r) (l : Launch) (D : va_G) (ρ : Nat → Nat) (cA : ClassId × ClassId × ClassId) (τ : AT) : AM l D ρ cA 1 τ yX12_isSign cX12_isSign 2 (some .boolean) 0 [.ref (ρ 0), .int x1] (some (.int r.1)) s r.2 := by
  refine AM_of (L := [some (.ref (ρ 0)), some (.int x1)]) (by decide) (by simp [Value.category]) (Nat.le_of_ble_eq_true rfl) (fun j v q => ?_) (fun Z X hρ hz hτ => ?_)
  · exact aL_ok (n := 0) [.ref (ρ 0), .int x1] j v q
  · subst hρ
    subst hτ
    exact w_X12_isSign (Nat.le_refl _) Z X x1 s r hz h

theorem dX12_emits_0 : decode cX12_emits 0 = .ok (.aload_n 0, 1) := by decide +kernel
theorem dX12_emits_1 : decode cX12_emits 1 = .ok (.getfield 43, 3) := by decide +kernel
theorem dX12_emits_4 : decode cX12_emits 4 = .ok (.sipush 800, 3) := by decide +kernel
theorem dX12_emits_7 : decode cX12_emits 7 = .ok (.aload_n 0, 1) := by decide +kernel
theorem dX12_emits_8 : decode cX12_emits 8 = .ok (.getfield 191, 3) := by decide +kernel
theorem dX12_emits_11 : decode cX12_emits 11 = .ok (.iadd, 1) := by decide +kernel
theorem dX12_emits_12 : decode cX12_emits 12 = .ok (.iload_n 1, 1) := by decide +kernel
theorem dX12_emits_13 : decode cX12_emits 13 = .ok (.iastore, 1) := by decide +kernel
theorem dX12_emits_14 : decode cX12_emits 14 = .ok (.aload_n 0, 1) := by decide +kernel
theorem dX12_emits_15 : decode cX12_emits 15 = .ok (.getfield 46, 3) := by decide +kernel
theorem dX12_emits_18 : decode cX12_emits 18 = .ok (.sipush 800, 3) := by decide +kernel
theorem dX12_emits_21 : decode cX12_emits 21 = .ok (.aload_n 0, 1) := by decide +kernel
theorem dX12_emits_22 : decode cX12_emits 22 = .ok (.getfield 191, 3) := by decide +kernel
theorem dX12_emits_25 : decode cX12_emits 25 = .ok (.iadd, 1) := by decide +kernel
theorem dX12_emits_26 : decode cX12_emits 26 = .ok (.iload_n 2, 1) := by decide +kernel
theorem dX12_emits_27 : decode cX12_emits 27 = .ok (.iastore, 1) := by decide +kernel
theorem dX12_emits_28 : decode cX12_emits 28 = .ok (.aload_n 0, 1) := by decide +kernel
theorem dX12_emits_29 : decode cX12_emits 29 = .ok (.aload_n 0, 1) := by decide +kernel
theorem dX12_emits_30 : decode cX12_emits 30 = .ok (.getfield 191, 3) := by decide +kernel
theorem dX12_emits_33 : decode cX12_emits 33 = .ok (.iconst 1, 1) := by decide +kernel
theorem dX12_emits_34 : decode cX12_emits 34 = .ok (.iadd, 1) := by decide +kernel
theorem dX12_emits_35 : decode cX12_emits 35 = .ok (.putfield 191, 3) := by decide +kernel
theorem dX12_emits_38 : decode cX12_emits 38 = .ok (.return_, 1) := by decide +kernel
set_option maxRecDepth 100000 in
set_option maxHeartbeats 4000000 in
theorem w_X12_emits {fr : Nat} (hfr : 0 ≤ fr) (Z : AZ) (X : AX Z cX12_emits 3 RX12 none 1 fr) (x1 : Int32) (x2 : Int32) (s : Mem) (r : Mem) (hz : zres Z = (none, r)) (h : f_X12_emits x1 x2 s = some r) : AW Z s 0 [some (.ref (zr Z 0)), some (.int x1), some (.int x2)] [] := by
  unfold f_X12_emits at h
  refine aw_aload_n X dX12_emits_0 rfl ?_
  refine aw_getr X dX12_emits_1 fl_RX12_43 iu_RX12 gu_RX12_20 ?_
  refine aw_sipush (v := 800) X dX12_emits_4 (by decide) ?_
  refine aw_aload_n X dX12_emits_7 rfl ?_
  refine aw_geti X dX12_emits_8 fl_RX12_191 iu_RX12 gu_RX12_23 ?_
  refine aw_iadd X dX12_emits_11 ?_
  refine aw_iload_n X dX12_emits_12 rfl ?_
  obtain ⟨s1, es1, h⟩ := bnd h
  refine aw_iast X dX12_emits_13 iu_RX12_20 es1 ?_
  refine aw_aload_n X dX12_emits_14 rfl ?_
  refine aw_getr X dX12_emits_15 fl_RX12_46 iu_RX12 gu_RX12_21 ?_
  refine aw_sipush (v := 800) X dX12_emits_18 (by decide) ?_
  refine aw_aload_n X dX12_emits_21 rfl ?_
  refine aw_geti X dX12_emits_22 fl_RX12_191 iu_RX12 gu_RX12_23 ?_
  refine aw_iadd X dX12_emits_25 ?_
  refine aw_iload_n X dX12_emits_26 rfl ?_
  obtain ⟨s2, es2, h⟩ := bnd h
  refine aw_iast X dX12_emits_27 iu_RX12_21 es2 ?_
  refine aw_aload_n X dX12_emits_28 rfl ?_
  refine aw_aload_n X dX12_emits_29 rfl ?_
  refine aw_geti X dX12_emits_30 fl_RX12_191 iu_RX12 gu_RX12_23 ?_
  refine aw_iconst (v := 1) X dX12_emits_33 (by decide) ?_
  refine aw_iadd X dX12_emits_34 ?_
  refine aw_put X dX12_emits_35 fp_RX12_191 iu_RX12 gu_RX12_23 rfl rfl ?_
  cases h
  exact aw_vret X dX12_emits_38 rfl hz.symm
set_option maxRecDepth 100000 in
set_option maxHeartbeats 4000000 in
theorem ok_X12_emits {x1 x2 : Int32} {s : Mem} {r : Mem} (h : f_X12_emits x1 x2 s = some r) (l : Launch) (D : va_G) (ρ : Nat → Nat) (cA : ClassId × ClassId × ClassId) (τ : AT) : AM l D ρ cA 1 τ yX12_emits cX12_emits 3 none 0 [.ref (ρ 0), .int x1, .int x2] none s r := by
  refine AM_of (L := [some (.ref (ρ 0)), some (.int x1), some (.int x2)]) (by decide) (by simp [Value.category]) (Nat.le_of_ble_eq_true rfl) (fun j v q => ?_) (fun Z X hρ hz hτ => ?_)
  · exact aL_ok (n := 0) [.ref (ρ 0), .int x1, .int x2] j v q
  · subst hρ
    subst hτ
    exact w_X12_emits (Nat.le_refl _) Z X x1 x2 s r hz h

theorem dX12_canAsk_0 : decode cX12_canAsk 0 = .ok (.aload_n 0, 1) := by decide +kernel
theorem dX12_canAsk_1 : decode cX12_canAsk 1 = .ok (.iload_n 1, 1) := by decide +kernel
theorem dX12_canAsk_2 : decode cX12_canAsk 2 = .ok (.bipush 7, 2) := by decide +kernel
theorem dX12_canAsk_4 : decode cX12_canAsk 4 = .ok (.bipush 14, 2) := by decide +kernel
theorem dX12_canAsk_6 : decode cX12_canAsk 6 = .ok (.invokevirtual 137, 3) := by decide +kernel
theorem dX12_canAsk_9 : decode cX12_canAsk 9 = .ok (.ireturn, 1) := by decide +kernel
set_option maxRecDepth 100000 in
set_option maxHeartbeats 4000000 in
theorem w_X12_canAsk {fr : Nat} (hfr : 1 ≤ fr) (Z : AZ) (X : AX Z cX12_canAsk 2 RX12 (some .boolean) 1 fr) (x1 : Int32) (s : Mem) (r : Int32 × Mem) (hz : zres Z = (some (.int r.1), r.2)) (h : f_X12_canAsk x1 s = some r) : AW Z s 0 [some (.ref (zr Z 0)), some (.int x1)] [] := by
  unfold f_X12_canAsk at h
  refine aw_aload_n X dX12_canAsk_0 rfl ?_
  refine aw_iload_n X dX12_canAsk_1 rfl ?_
  refine aw_bipush (v := 7) X dX12_canAsk_2 (by decide) ?_
  refine aw_bipush (v := 14) X dX12_canAsk_4 (by decide) ?_
  obtain ⟨r1, er1, h⟩ := bnd h
  refine aw_callV X dX12_canAsk_6 cv_RX12_137 (ok_X12_isIn er1 _ _ _ _ _) iu_RX12 rfl (Nat.le_trans (by decide) hfr) (by decide) rfl rfl (Nat.le_of_ble_eq_true rfl) ?_
  by_cases c2 : ¬ (r1.1 = 0 ∨ r1.1 = 1)
  · rw [if_pos c2] at h
    cases h
  rw [if_neg c2] at h
  cases h
  exact aw_zret X dX12_canAsk_9 rfl (bz_n (Decidable.of_not_not c2)) hz.symm
set_option maxRecDepth 100000 in
set_option maxHeartbeats 4000000 in
theorem ok_X12_canAsk {x1 : Int32} {s : Mem} {r : Int32 × Mem} (h : f_X12_canAsk x1 s = some r) (l : Launch) (D : va_G) (ρ : Nat → Nat) (cA : ClassId × ClassId × ClassId) (τ : AT) : AM l D ρ cA 1 τ yX12_canAsk cX12_canAsk 2 (some .boolean) 1 [.ref (ρ 0), .int x1] (some (.int r.1)) s r.2 := by
  refine AM_of (L := [some (.ref (ρ 0)), some (.int x1)]) (by decide) (by simp [Value.category]) (Nat.le_of_ble_eq_true rfl) (fun j v q => ?_) (fun Z X hρ hz hτ => ?_)
  · exact aL_ok (n := 0) [.ref (ρ 0), .int x1] j v q
  · subst hρ
    subst hτ
    exact w_X12_canAsk (Nat.le_refl _) Z X x1 s r hz h

theorem dX12_readUnit_0 : decode cX12_readUnit 0 = .ok (.aload_n 0, 1) := by decide +kernel
theorem dX12_readUnit_1 : decode cX12_readUnit 1 = .ok (.getfield 166, 3) := by decide +kernel
theorem dX12_readUnit_4 : decode cX12_readUnit 4 = .ok (.iconst 2, 1) := by decide +kernel
theorem dX12_readUnit_5 : decode cX12_readUnit 5 = .ok (.if_icmp .ne 18, 3) := by decide +kernel
theorem dX12_readUnit_8 : decode cX12_readUnit 8 = .ok (.aload_n 0, 1) := by decide +kernel
theorem dX12_readUnit_9 : decode cX12_readUnit 9 = .ok (.aload_n 0, 1) := by decide +kernel
theorem dX12_readUnit_10 : decode cX12_readUnit 10 = .ok (.getfield 169, 3) := by decide +kernel
theorem dX12_readUnit_13 : decode cX12_readUnit 13 = .ok (.invokevirtual 194, 3) := by decide +kernel
theorem dX12_readUnit_16 : decode cX12_readUnit 16 = .ok (.ifCond .eq 7, 3) := by decide +kernel
theorem dX12_readUnit_19 : decode cX12_readUnit 19 = .ok (.iconst 1, 1) := by decide +kernel
theorem dX12_readUnit_20 : decode cX12_readUnit 20 = .ok (.goto 4, 3) := by decide +kernel
theorem dX12_readUnit_23 : decode cX12_readUnit 23 = .ok (.iconst 0, 1) := by decide +kernel
theorem dX12_readUnit_24 : decode cX12_readUnit 24 = .ok (.istore_n 1, 1) := by decide +kernel
theorem dX12_readUnit_25 : decode cX12_readUnit 25 = .ok (.iload_n 1, 1) := by decide +kernel
theorem dX12_readUnit_26 : decode cX12_readUnit 26 = .ok (.ifCond .ne 17, 3) := by decide +kernel
theorem dX12_readUnit_29 : decode cX12_readUnit 29 = .ok (.aload_n 0, 1) := by decide +kernel
theorem dX12_readUnit_30 : decode cX12_readUnit 30 = .ok (.getfield 166, 3) := by decide +kernel
theorem dX12_readUnit_33 : decode cX12_readUnit 33 = .ok (.iconst 3, 1) := by decide +kernel
theorem dX12_readUnit_34 : decode cX12_readUnit 34 = .ok (.if_icmp .eq 9, 3) := by decide +kernel
theorem dX12_readUnit_37 : decode cX12_readUnit 37 = .ok (.aload_n 0, 1) := by decide +kernel
theorem dX12_readUnit_38 : decode cX12_readUnit 38 = .ok (.iconst 1, 1) := by decide +kernel
theorem dX12_readUnit_39 : decode cX12_readUnit 39 = .ok (.invokevirtual 197, 3) := by decide +kernel
theorem dX12_readUnit_42 : decode cX12_readUnit 42 = .ok (.ireturn, 1) := by decide +kernel
theorem dX12_readUnit_43 : decode cX12_readUnit 43 = .ok (.aload_n 0, 1) := by decide +kernel
theorem dX12_readUnit_44 : decode cX12_readUnit 44 = .ok (.iload_n 1, 1) := by decide +kernel
theorem dX12_readUnit_45 : decode cX12_readUnit 45 = .ok (.ifCond .eq 7, 3) := by decide +kernel
theorem dX12_readUnit_48 : decode cX12_readUnit 48 = .ok (.iconst 1, 1) := by decide +kernel
theorem dX12_readUnit_49 : decode cX12_readUnit 49 = .ok (.goto 4, 3) := by decide +kernel
theorem dX12_readUnit_52 : decode cX12_readUnit 52 = .ok (.iconst 0, 1) := by decide +kernel
theorem dX12_readUnit_53 : decode cX12_readUnit 53 = .ok (.iload_n 1, 1) := by decide +kernel
theorem dX12_readUnit_54 : decode cX12_readUnit 54 = .ok (.ifCond .eq 13, 3) := by decide +kernel
theorem dX12_readUnit_57 : decode cX12_readUnit 57 = .ok (.aload_n 0, 1) := by decide +kernel
theorem dX12_readUnit_58 : decode cX12_readUnit 58 = .ok (.getfield 169, 3) := by decide +kernel
theorem dX12_readUnit_61 : decode cX12_readUnit 61 = .ok (.bipush 7, 2) := by decide +kernel
theorem dX12_readUnit_63 : decode cX12_readUnit 63 = .ok (.isub, 1) := by decide +kernel
theorem dX12_readUnit_64 : decode cX12_readUnit 64 = .ok (.goto 7, 3) := by decide +kernel
theorem dX12_readUnit_67 : decode cX12_readUnit 67 = .ok (.aload_n 0, 1) := by decide +kernel
theorem dX12_readUnit_68 : decode cX12_readUnit 68 = .ok (.getfield 169, 3) := by decide +kernel
theorem dX12_readUnit_71 : decode cX12_readUnit 71 = .ok (.invokevirtual 200, 3) := by decide +kernel
theorem dX12_readUnit_74 : decode cX12_readUnit 74 = .ok (.aload_n 0, 1) := by decide +kernel
theorem dX12_readUnit_75 : decode cX12_readUnit 75 = .ok (.invokevirtual 203, 3) := by decide +kernel
theorem dX12_readUnit_78 : decode cX12_readUnit 78 = .ok (.iconst 0, 1) := by decide +kernel
theorem dX12_readUnit_79 : decode cX12_readUnit 79 = .ok (.ireturn, 1) := by decide +kernel
set_option maxRecDepth 100000 in
set_option maxHeartbeats 4000000 in
theorem jo_X12_readUnit_71 {fr : Nat} (hfr : 3 ≤ fr) (Z : AZ) (X : AX Z cX12_readUnit 2 RX12 (some .int) 1 fr) (t1 : Int32) (t2 : Int32) (s : Mem) (r : Int32 × Mem) (hz : zres Z = (some (.int r.1), r.2)) (h : jn_X12_readUnit_71 t1 t2 s = some r) : AW Z s 71 [some (.ref (zr Z 0)), none] [.int t2, .int t1, .ref (zr Z 0)] := by
  unfold jn_X12_readUnit_71 at h
  obtain ⟨r5, er5, h⟩ := bnd h
  refine aw_callV X dX12_readUnit_71 cv_RX12_200 (ok_X12_emits er5 _ _ _ _ _) iu_RX12 rfl (Nat.le_trans (by decide) hfr) (by decide) rfl rfl (Nat.le_of_ble_eq_true rfl) ?_
  refine aw_aload_n X dX12_readUnit_74 rfl ?_
  obtain ⟨r6, er6, h⟩ := bnd h
  refine aw_callV X dX12_readUnit_75 cv_RX12_203 (ok_X12_reads er6 _ _ _ _ _) iu_RX12 rfl (Nat.le_trans (by decide) hfr) (by decide) rfl rfl (Nat.le_of_ble_eq_true rfl) ?_
  refine aw_iconst (v := 0) X dX12_readUnit_78 (by decide) ?_
  cases h
  exact aw_iret X dX12_readUnit_79 rfl hz.symm
set_option maxRecDepth 100000 in
set_option maxHeartbeats 4000000 in
theorem jo_X12_readUnit_53 {fr : Nat} (hfr : 3 ≤ fr) (Z : AZ) (X : AX Z cX12_readUnit 2 RX12 (some .int) 1 fr) (x1 : Int32) (t1 : Int32) (s : Mem) (r : Int32 × Mem) (hz : zres Z = (some (.int r.1), r.2)) (h : jn_X12_readUnit_53 x1 t1 s = some r) : AW Z s 53 [some (.ref (zr Z 0)), some (.int x1)] [.int t1, .ref (zr Z 0)] := by
  unfold jn_X12_readUnit_53 at h
  refine aw_iload_n X dX12_readUnit_53 rfl ?_
  refine aw_if_eq (tgt := 67) X dX12_readUnit_54 (by decide) (fun c4 => ?_) (fun c4 => ?_)
  · rw [if_pos c4] at h
    refine aw_aload_n X dX12_readUnit_67 rfl ?_
    refine aw_geti X dX12_readUnit_68 fl_RX12_169 iu_RX12 gu_RX12_13 ?_
    refine aw_msk [true, false] ?_
    exact jo_X12_readUnit_71 hfr Z X _ _ _ _ hz h
  · rw [if_neg c4] at h
    refine aw_aload_n X dX12_readUnit_57 rfl ?_
    refine aw_geti X dX12_readUnit_58 fl_RX12_169 iu_RX12 gu_RX12_13 ?_
    refine aw_bipush (v := 7) X dX12_readUnit_61 (by decide) ?_
    refine aw_isub X dX12_readUnit_63 ?_
    refine aw_goto (tgt := 71) X dX12_readUnit_64 (by decide) ?_
    refine aw_msk [true, false] ?_
    exact jo_X12_readUnit_71 hfr Z X _ _ _ _ hz h
set_option maxRecDepth 100000 in
set_option maxHeartbeats 4000000 in
theorem jo_X12_readUnit_43 {fr : Nat} (hfr : 3 ≤ fr) (Z : AZ) (X : AX Z cX12_readUnit 2 RX12 (some .int) 1 fr) (x1 : Int32) (s : Mem) (r : Int32 × Mem) (hz : zres Z = (some (.int r.1), r.2)) (h : jn_X12_readUnit_43 x1 s = some r) : AW Z s 43 [some (.ref (zr Z 0)), some (.int x1)] [] := by
  unfold jn_X12_readUnit_43 at h
  refine aw_aload_n X dX12_readUnit_43 rfl ?_
  refine aw_iload_n X dX12_readUnit_44 rfl ?_
  refine aw_if_eq (tgt := 52) X dX12_readUnit_45 (by decide) (fun c3 => ?_) (fun c3 => ?_)
  · rw [if_pos c3] at h
    refine aw_iconst (v := 0) X dX12_readUnit_52 (by decide) ?_
    refine aw_msk [true, true] ?_
    exact jo_X12_readUnit_53 hfr Z X _ _ _ _ hz h
  · rw [if_neg c3] at h
    refine aw_iconst (v := 1) X dX12_readUnit_48 (by decide) ?_
    refine aw_goto (tgt := 53) X dX12_readUnit_49 (by decide) ?_
    refine aw_msk [true, true] ?_
    exact jo_X12_readUnit_53 hfr Z X _ _ _ _ hz h
set_option maxRecDepth 100000 in
set_option maxHeartbeats 4000000 in
theorem jo_X12_readUnit_24 {fr : Nat} (hfr : 3 ≤ fr) (Z : AZ) (X : AX Z cX12_readUnit 2 RX12 (some .int) 1 fr) (t0 : Int32) (s : Mem) (r : Int32 × Mem) (hz : zres Z = (some (.int r.1), r.2)) (h : jn_X12_readUnit_24 t0 s = some r) : AW Z s 24 [some (.ref (zr Z 0)), none] [.int t0] := by
  unfold jn_X12_readUnit_24 at h
  refine aw_istore_n (L' := [some (.ref (zr Z 0)), some (.int t0)]) X dX12_readUnit_24 (by decide) rfl ?_
  refine aw_iload_n X dX12_readUnit_25 rfl ?_
  refine aw_if_ne (tgt := 43) X dX12_readUnit_26 (by decide) (fun c2 => ?_) (fun c2 => ?_)
  · rw [if_neg c2] at h
    refine aw_msk [true, true] ?_
    exact jo_X12_readUnit_43 hfr Z X _ _ _ hz h
  · rw [if_pos c2] at h
    refine aw_aload_n X dX12_readUnit_29 rfl ?_
    refine aw_geti X dX12_readUnit_30 fl_RX12_166 iu_RX12 gu_RX12_12 ?_
    refine aw_iconst (v := 3) X dX12_readUnit_33 (by decide) ?_
    refine aw_icmp_eq (tgt := 43) X dX12_readUnit_34 (by decide) (fun c7 => ?_) (fun c7 => ?_)
    · rw [if_pos c7] at h
      refine aw_msk [true, true] ?_
      exact jo_X12_readUnit_43 hfr Z X _ _ _ hz h
    · rw [if_neg c7] at h
      refine aw_aload_n X dX12_readUnit_37 rfl ?_
      refine aw_iconst (v := 1) X dX12_readUnit_38 (by decide) ?_
      obtain ⟨r8, er8, h⟩ := bnd h
      refine aw_callV X dX12_readUnit_39 cv_RX12_197 (ok_X12_errs er8 _ _ _ _ _) iu_RX12 rfl (Nat.le_trans (by decide) hfr) (by decide) rfl rfl (Nat.le_of_ble_eq_true rfl) ?_
      cases h
      exact aw_iret X dX12_readUnit_42 rfl hz.symm
set_option maxRecDepth 100000 in
set_option maxHeartbeats 4000000 in
theorem jo_X12_readUnit_23 {fr : Nat} (hfr : 3 ≤ fr) (Z : AZ) (X : AX Z cX12_readUnit 2 RX12 (some .int) 1 fr) (s : Mem) (r : Int32 × Mem) (hz : zres Z = (some (.int r.1), r.2)) (h : jn_X12_readUnit_23 s = some r) : AW Z s 23 [some (.ref (zr Z 0)), none] [] := by
  unfold jn_X12_readUnit_23 at h
  refine aw_iconst (v := 0) X dX12_readUnit_23 (by decide) ?_
  refine aw_msk [true, false] ?_
  exact jo_X12_readUnit_24 hfr Z X _ _ _ hz h
set_option maxRecDepth 100000 in
set_option maxHeartbeats 4000000 in
theorem w_X12_readUnit {fr : Nat} (hfr : 3 ≤ fr) (Z : AZ) (X : AX Z cX12_readUnit 2 RX12 (some .int) 1 fr) (s : Mem) (r : Int32 × Mem) (hz : zres Z = (some (.int r.1), r.2)) (h : f_X12_readUnit s = some r) : AW Z s 0 [some (.ref (zr Z 0)), none] [] := by
  unfold f_X12_readUnit at h
  refine aw_aload_n X dX12_readUnit_0 rfl ?_
  refine aw_geti X dX12_readUnit_1 fl_RX12_166 iu_RX12 gu_RX12_12 ?_
  refine aw_iconst (v := 2) X dX12_readUnit_4 (by decide) ?_
  refine aw_icmp_ne (tgt := 23) X dX12_readUnit_5 (by decide) (fun c1 => ?_) (fun c1 => ?_)
  · rw [if_neg c1] at h
    refine aw_msk [true, false] ?_
    exact jo_X12_readUnit_23 hfr Z X _ _ hz h
  · rw [if_pos c1] at h
    refine aw_aload_n X dX12_readUnit_8 rfl ?_
    refine aw_aload_n X dX12_readUnit_9 rfl ?_
    refine aw_geti X dX12_readUnit_10 fl_RX12_169 iu_RX12 gu_RX12_13 ?_
    obtain ⟨r9, er9, h⟩ := bnd h
    refine aw_callV X dX12_readUnit_13 cv_RX12_194 (ok_X12_canAsk er9 _ _ _ _ _) iu_RX12 rfl (Nat.le_trans (by decide) hfr) (by decide) rfl rfl (Nat.le_of_ble_eq_true rfl) ?_
    refine aw_if_eq (tgt := 23) X dX12_readUnit_16 (by decide) (fun c10 => ?_) (fun c10 => ?_)
    · rw [if_pos c10] at h
      refine aw_msk [true, false] ?_
      exact jo_X12_readUnit_23 hfr Z X _ _ hz h
    · rw [if_neg c10] at h
      refine aw_iconst (v := 1) X dX12_readUnit_19 (by decide) ?_
      refine aw_goto (tgt := 24) X dX12_readUnit_20 (by decide) ?_
      refine aw_msk [true, false] ?_
      exact jo_X12_readUnit_24 hfr Z X _ _ _ hz h
set_option maxRecDepth 100000 in
set_option maxHeartbeats 4000000 in
theorem ok_X12_readUnit {s : Mem} {r : Int32 × Mem} (h : f_X12_readUnit s = some r) (l : Launch) (D : va_G) (ρ : Nat → Nat) (cA : ClassId × ClassId × ClassId) (τ : AT) : AM l D ρ cA 1 τ yX12_readUnit cX12_readUnit 2 (some .int) 3 [.ref (ρ 0)] (some (.int r.1)) s r.2 := by
  refine AM_of (L := [some (.ref (ρ 0)), none]) (by decide) (by simp [Value.category]) (Nat.le_of_ble_eq_true rfl) (fun j v q => ?_) (fun Z X hρ hz hτ => ?_)
  · exact aL_ok (n := 1) [.ref (ρ 0)] j v q
  · subst hρ
    subst hτ
    exact w_X12_readUnit (Nat.le_refl _) Z X s r hz h

theorem dX12_readProduct_0 : decode cX12_readProduct 0 = .ok (.aload_n 0, 1) := by decide +kernel
theorem dX12_readProduct_1 : decode cX12_readProduct 1 = .ok (.invokevirtual 206, 3) := by decide +kernel
theorem dX12_readProduct_4 : decode cX12_readProduct 4 = .ok (.iconst (-1), 1) := by decide +kernel
theorem dX12_readProduct_5 : decode cX12_readProduct 5 = .ok (.if_icmp .ne 5, 3) := by decide +kernel
theorem dX12_readProduct_8 : decode cX12_readProduct 8 = .ok (.iconst (-1), 1) := by decide +kernel
theorem dX12_readProduct_9 : decode cX12_readProduct 9 = .ok (.ireturn, 1) := by decide +kernel
theorem dX12_readProduct_10 : decode cX12_readProduct 10 = .ok (.aload_n 0, 1) := by decide +kernel
theorem dX12_readProduct_11 : decode cX12_readProduct 11 = .ok (.bipush 42, 2) := by decide +kernel
theorem dX12_readProduct_13 : decode cX12_readProduct 13 = .ok (.invokevirtual 210, 3) := by decide +kernel
theorem dX12_readProduct_16 : decode cX12_readProduct 16 = .ok (.ifCond .ne 12, 3) := by decide +kernel
theorem dX12_readProduct_19 : decode cX12_readProduct 19 = .ok (.aload_n 0, 1) := by decide +kernel
theorem dX12_readProduct_20 : decode cX12_readProduct 20 = .ok (.bipush 47, 2) := by decide +kernel
theorem dX12_readProduct_22 : decode cX12_readProduct 22 = .ok (.invokevirtual 210, 3) := by decide +kernel
theorem dX12_readProduct_25 : decode cX12_readProduct 25 = .ok (.ifCond .eq 76, 3) := by decide +kernel
theorem dX12_readProduct_28 : decode cX12_readProduct 28 = .ok (.aload_n 0, 1) := by decide +kernel
theorem dX12_readProduct_29 : decode cX12_readProduct 29 = .ok (.bipush 42, 2) := by decide +kernel
theorem dX12_readProduct_31 : decode cX12_readProduct 31 = .ok (.invokevirtual 210, 3) := by decide +kernel
theorem dX12_readProduct_34 : decode cX12_readProduct 34 = .ok (.istore_n 1, 1) := by decide +kernel
theorem dX12_readProduct_35 : decode cX12_readProduct 35 = .ok (.aload_n 0, 1) := by decide +kernel
theorem dX12_readProduct_36 : decode cX12_readProduct 36 = .ok (.invokevirtual 203, 3) := by decide +kernel
theorem dX12_readProduct_39 : decode cX12_readProduct 39 = .ok (.iload_n 1, 1) := by decide +kernel
theorem dX12_readProduct_40 : decode cX12_readProduct 40 = .ok (.ifCond .ne 17, 3) := by decide +kernel
theorem dX12_readProduct_43 : decode cX12_readProduct 43 = .ok (.aload_n 0, 1) := by decide +kernel
theorem dX12_readProduct_44 : decode cX12_readProduct 44 = .ok (.getfield 166, 3) := by decide +kernel
theorem dX12_readProduct_47 : decode cX12_readProduct 47 = .ok (.iconst 3, 1) := by decide +kernel
theorem dX12_readProduct_48 : decode cX12_readProduct 48 = .ok (.if_icmp .eq 9, 3) := by decide +kernel
theorem dX12_readProduct_51 : decode cX12_readProduct 51 = .ok (.aload_n 0, 1) := by decide +kernel
theorem dX12_readProduct_52 : decode cX12_readProduct 52 = .ok (.iconst 1, 1) := by decide +kernel
theorem dX12_readProduct_53 : decode cX12_readProduct 53 = .ok (.invokevirtual 197, 3) := by decide +kernel
theorem dX12_readProduct_56 : decode cX12_readProduct 56 = .ok (.ireturn, 1) := by decide +kernel
theorem dX12_readProduct_57 : decode cX12_readProduct 57 = .ok (.iload_n 1, 1) := by decide +kernel
theorem dX12_readProduct_58 : decode cX12_readProduct 58 = .ok (.ifCond .ne 16, 3) := by decide +kernel
theorem dX12_readProduct_61 : decode cX12_readProduct 61 = .ok (.aload_n 0, 1) := by decide +kernel
theorem dX12_readProduct_62 : decode cX12_readProduct 62 = .ok (.getfield 169, 3) := by decide +kernel
theorem dX12_readProduct_65 : decode cX12_readProduct 65 = .ok (.ifCond .ne 9, 3) := by decide +kernel
theorem dX12_readProduct_68 : decode cX12_readProduct 68 = .ok (.aload_n 0, 1) := by decide +kernel
theorem dX12_readProduct_69 : decode cX12_readProduct 69 = .ok (.iconst 2, 1) := by decide +kernel
theorem dX12_readProduct_70 : decode cX12_readProduct 70 = .ok (.invokevirtual 197, 3) := by decide +kernel
theorem dX12_readProduct_73 : decode cX12_readProduct 73 = .ok (.ireturn, 1) := by decide +kernel
theorem dX12_readProduct_74 : decode cX12_readProduct 74 = .ok (.aload_n 0, 1) := by decide +kernel
theorem dX12_readProduct_75 : decode cX12_readProduct 75 = .ok (.invokevirtual 206, 3) := by decide +kernel
theorem dX12_readProduct_78 : decode cX12_readProduct 78 = .ok (.iconst (-1), 1) := by decide +kernel
theorem dX12_readProduct_79 : decode cX12_readProduct 79 = .ok (.if_icmp .ne 5, 3) := by decide +kernel
theorem dX12_readProduct_82 : decode cX12_readProduct 82 = .ok (.iconst (-1), 1) := by decide +kernel
theorem dX12_readProduct_83 : decode cX12_readProduct 83 = .ok (.ireturn, 1) := by decide +kernel
theorem dX12_readProduct_84 : decode cX12_readProduct 84 = .ok (.aload_n 0, 1) := by decide +kernel
theorem dX12_readProduct_85 : decode cX12_readProduct 85 = .ok (.iload_n 1, 1) := by decide +kernel
theorem dX12_readProduct_86 : decode cX12_readProduct 86 = .ok (.ifCond .eq 7, 3) := by decide +kernel
theorem dX12_readProduct_89 : decode cX12_readProduct 89 = .ok (.iconst 4, 1) := by decide +kernel
theorem dX12_readProduct_90 : decode cX12_readProduct 90 = .ok (.goto 4, 3) := by decide +kernel
theorem dX12_readProduct_93 : decode cX12_readProduct 93 = .ok (.iconst 5, 1) := by decide +kernel
theorem dX12_readProduct_94 : decode cX12_readProduct 94 = .ok (.iconst 0, 1) := by decide +kernel
theorem dX12_readProduct_95 : decode cX12_readProduct 95 = .ok (.invokevirtual 200, 3) := by decide +kernel
theorem dX12_readProduct_98 : decode cX12_readProduct 98 = .ok (.goto (-88), 3) := by decide +kernel
theorem dX12_readProduct_101 : decode cX12_readProduct 101 = .ok (.iconst 0, 1) := by decide +kernel
theorem dX12_readProduct_102 : decode cX12_readProduct 102 = .ok (.ireturn, 1) := by decide +kernel
set_option maxRecDepth 100000 in
set_option maxHeartbeats 4000000 in
theorem jo_X12_readProduct_94 {fr : Nat} (hfr : 4 ≤ fr) (Z : AZ) (X : AX Z cX12_readProduct 2 RX12 (some .int) 1 fr) (t1 : Int32) (s : Mem) (q : (Mem) ⊕ (Nat × Mem)) (h : jn_X12_readProduct_94 t1 s = some q) (hi : ∀ y : Mem, q = .inl y → AW Z y 10 [some (.ref (zr Z 0)), none] []) (he : ∀ b : Nat × Mem, q = .inr b → (b.1 = 0 → AW Z b.2 51 [some (.ref (zr Z 0)), none] []) ∧ (b.1 = 1 → AW Z b.2 68 [some (.ref (zr Z 0)), none] []) ∧ (b.1 = 2 → AW Z b.2 82 [none, none] []) ∧ (b.1 = 3 → AW Z b.2 101 [none, none] [])) : AW Z s 94 [some (.ref (zr Z 0)), none] [.int t1, .ref (zr Z 0)] := by
  unfold jn_X12_readProduct_94 at h
  refine aw_iconst (v := 0) X dX12_readProduct_94 (by decide) ?_
  obtain ⟨r12, er12, h⟩ := bnd h
  refine aw_callV X dX12_readProduct_95 cv_RX12_200 (ok_X12_emits er12 _ _ _ _ _) iu_RX12 rfl (Nat.le_trans (by decide) hfr) (by decide) rfl rfl (Nat.le_of_ble_eq_true rfl) ?_
  refine aw_goto (tgt := 10) X dX12_readProduct_98 (by decide) ?_
  cases h
  refine aw_msk [true, false] ?_
  exact hi _ rfl
set_option maxRecDepth 100000 in
set_option maxHeartbeats 4000000 in
theorem jo_X12_readProduct_74 {fr : Nat} (hfr : 4 ≤ fr) (Z : AZ) (X : AX Z cX12_readProduct 2 RX12 (some .int) 1 fr) (x1 : Int32) (s : Mem) (q : (Mem) ⊕ (Nat × Mem)) (h : jn_X12_readProduct_74 x1 s = some q) (hi : ∀ y : Mem, q = .inl y → AW Z y 10 [some (.ref (zr Z 0)), none] []) (he : ∀ b : Nat × Mem, q = .inr b → (b.1 = 0 → AW Z b.2 51 [some (.ref (zr Z 0)), none] []) ∧ (b.1 = 1 → AW Z b.2 68 [some (.ref (zr Z 0)), none] []) ∧ (b.1 = 2 → AW Z b.2 82 [none, none] []) ∧ (b.1 = 3 → AW Z b.2 101 [none, none] [])) : AW Z s 74 [some (.ref (zr Z 0)), some (.int x1)] [] := by
  unfold jn_X12_readProduct_74 at h
  refine aw_aload_n X dX12_readProduct_74 rfl ?_
  obtain ⟨r9, er9, h⟩ := bnd h
  refine aw_callV X dX12_readProduct_75 cv_RX12_206 (ok_X12_readUnit er9 _ _ _ _ _) iu_RX12 rfl (Nat.le_trans (by decide) hfr) (by decide) rfl rfl (Nat.le_of_ble_eq_true rfl) ?_
  refine aw_iconst (v := (-1)) X dX12_readProduct_78 (by decide) ?_
  refine aw_icmp_ne (tgt := 84) X dX12_readProduct_79 (by decide) (fun c10 => ?_) (fun c10 => ?_)
  · rw [if_neg c10] at h
    refine aw_aload_n X dX12_readProduct_84 rfl ?_
    refine aw_iload_n X dX12_readProduct_85 rfl ?_
    refine aw_if_eq (tgt := 93) X dX12_readProduct_86 (by decide) (fun c11 => ?_) (fun c11 => ?_)
    · rw [if_pos c11] at h
      refine aw_iconst (v := 5) X dX12_readProduct_93 (by decide) ?_
      refine aw_msk [true, false] ?_
      exact jo_X12_readProduct_94 hfr Z X _ _ _ h hi he
    · rw [if_neg c11] at h
      refine aw_iconst (v := 4) X dX12_readProduct_89 (by decide) ?_
      refine aw_goto (tgt := 94) X dX12_readProduct_90 (by decide) ?_
      refine aw_msk [true, false] ?_
      exact jo_X12_readProduct_94 hfr Z X _ _ _ h hi he
  · rw [if_pos c10] at h
    cases h
    refine aw_msk [false, false] ?_
    exact (he _ rfl).2.2.1 rfl
set_option maxRecDepth 100000 in
set_option maxHeartbeats 4000000 in
theorem jo_X12_readProduct_57 {fr : Nat} (hfr : 4 ≤ fr) (Z : AZ) (X : AX Z cX12_readProduct 2 RX12 (some .int) 1 fr) (x1 : Int32) (s : Mem) (q : (Mem) ⊕ (Nat × Mem)) (h : jn_X12_readProduct_57 x1 s = some q) (hi : ∀ y : Mem, q = .inl y → AW Z y 10 [some (.ref (zr Z 0)), none] []) (he : ∀ b : Nat × Mem, q = .inr b → (b.1 = 0 → AW Z b.2 51 [some (.ref (zr Z 0)), none] []) ∧ (b.1 = 1 → AW Z b.2 68 [some (.ref (zr Z 0)), none] []) ∧ (b.1 = 2 → AW Z b.2 82 [none, none] []) ∧ (b.1 = 3 → AW Z b.2 101 [none, none] [])) : AW Z s 57 [some (.ref (zr Z 0)), some (.int x1)] [] := by
  unfold jn_X12_readProduct_57 at h
  refine aw_iload_n X dX12_readProduct_57 rfl ?_
  refine aw_if_ne (tgt := 74) X dX12_readProduct_58 (by decide) (fun c8 => ?_) (fun c8 => ?_)
  · rw [if_neg c8] at h
    refine aw_msk [true, true] ?_
    exact jo_X12_readProduct_74 hfr Z X _ _ _ h hi he
  · rw [if_pos c8] at h
    refine aw_aload_n X dX12_readProduct_61 rfl ?_
    refine aw_geti X dX12_readProduct_62 fl_RX12_169 iu_RX12 gu_RX12_13 ?_
    refine aw_if_ne (tgt := 74) X dX12_readProduct_65 (by decide) (fun c13 => ?_) (fun c13 => ?_)
    · rw [if_neg c13] at h
      refine aw_msk [true, true] ?_
      exact jo_X12_readProduct_74 hfr Z X _ _ _ h hi he
    · rw [if_pos c13] at h
      cases h
      refine aw_msk [true, false] ?_
      exact (he _ rfl).2.1 rfl
set_option maxRecDepth 100000 in
set_option maxHeartbeats 4000000 in
theorem jo_X12_readProduct_28 {fr : Nat} (hfr : 4 ≤ fr) (Z : AZ) (X : AX Z cX12_readProduct 2 RX12 (some .int) 1 fr) (s : Mem) (q : (Mem) ⊕ (Nat × Mem)) (h : jn_X12_readProduct_28 s = some q) (hi : ∀ y : Mem, q = .inl y → AW Z y 10 [some (.ref (zr Z 0)), none] []) (he : ∀ b : Nat × Mem, q = .inr b → (b.1 = 0 → AW Z b.2 51 [some (.ref (zr Z 0)), none] []) ∧ (b.1 = 1 → AW Z b.2 68 [some (.ref (zr Z 0)), none] []) ∧ (b.1 = 2 → AW Z b.2 82 [none, none] []) ∧ (b.1 = 3 → AW Z b.2 101 [none, none] [])) : AW Z s 28 [some (.ref (zr Z 0)), none] [] := by
  unfold jn_X12_readProduct_28 at h
  refine aw_aload_n X dX12_readProduct_28 rfl ?_
  refine aw_bipush (v := 42) X dX12_readProduct_29 (by decide) ?_
  obtain ⟨r5, er5, h⟩ := bnd h
  refine aw_callV X dX12_readProduct_31 cv_RX12_210 (ok_X12_isSign er5 _ _ _ _ _) iu_RX12 rfl (Nat.le_trans (by decide) hfr) (by decide) rfl rfl (Nat.le_of_ble_eq_true rfl) ?_
  refine aw_istore_n (L' := [some (.ref (zr Z 0)), some (.int r5.1)]) X dX12_readProduct_34 (by decide) rfl ?_
  refine aw_aload_n X dX12_readProduct_35 rfl ?_
  obtain ⟨r6, er6, h⟩ := bnd h
  refine aw_callV X dX12_readProduct_36 cv_RX12_203 (ok_X12_reads er6 _ _ _ _ _) iu_RX12 rfl (Nat.le_trans (by decide) hfr) (by decide) rfl rfl (Nat.le_of_ble_eq_true rfl) ?_
  refine aw_iload_n X dX12_readProduct_39 rfl ?_
  refine aw_if_ne (tgt := 57) X dX12_readProduct_40 (by decide) (fun c7 => ?_) (fun c7 => ?_)
  · rw [if_neg c7] at h
    refine aw_msk [true, true] ?_
    exact jo_X12_readProduct_57 hfr Z X _ _ _ h hi he
  · rw [if_pos c7] at h
    refine aw_aload_n X dX12_readProduct_43 rfl ?_
    refine aw_geti X dX12_readProduct_44 fl_RX12_166 iu_RX12 gu_RX12_12 ?_
    refine aw_iconst (v := 3) X dX12_readProduct_47 (by decide) ?_
    refine aw_icmp_eq (tgt := 57) X dX12_readProduct_48 (by decide) (fun c14 => ?_) (fun c14 => ?_)
    · rw [if_pos c14] at h
      refine aw_msk [true, true] ?_
      exact jo_X12_readProduct_57 hfr Z X _ _ _ h hi he
    · rw [if_neg c14] at h
      cases h
      refine aw_msk [true, false] ?_
      exact (he _ rfl).1 rfl
set_option maxRecDepth 100000 in
set_option maxHeartbeats 4000000 in
theorem so_X12_readProduct_10 {fr : Nat} (hfr : 4 ≤ fr) (Z : AZ) (X : AX Z cX12_readProduct 2 RX12 (some .int) 1 fr) (s : Mem) (q : (Mem) ⊕ (Nat × Mem)) (h : st_X12_readProduct_10 s = some q) (hi : ∀ y : Mem, q = .inl y → AW Z y 10 [some (.ref (zr Z 0)), none] []) (he : ∀ b : Nat × Mem, q = .inr b → (b.1 = 0 → AW Z b.2 51 [some (.ref (zr Z 0)), none] []) ∧ (b.1 = 1 → AW Z b.2 68 [some (.ref (zr Z 0)), none] []) ∧ (b.1 = 2 → AW Z b.2 82 [none, none] []) ∧ (b.1 = 3 → AW Z b.2 101 [none, none] [])) : AW Z s 10 [some (.ref (zr Z 0)), none] [] := by
  unfold st_X12_readProduct_10 at h
  refine aw_aload_n X dX12_readProduct_10 rfl ?_
  refine aw_bipush (v := 42) X dX12_readProduct_11 (by decide) ?_
  obtain ⟨r3, er3, h⟩ := bnd h
  refine aw_callV X dX12_readProduct_13 cv_RX12_210 (ok_X12_isSign er3 _ _ _ _ _) iu_RX12 rfl (Nat.le_trans (by decide) hfr) (by decide) rfl rfl (Nat.le_of_ble_eq_true rfl) ?_
  refine aw_if_ne (tgt := 28) X dX12_readProduct_16 (by decide) (fun c4 => ?_) (fun c4 => ?_)
  · rw [if_neg c4] at h
    refine aw_msk [true, false] ?_
    exact jo_X12_readProduct_28 hfr Z X _ _ h hi he
  · rw [if_pos c4] at h
    refine aw_aload_n X dX12_readProduct_19 rfl ?_
    refine aw_bipush (v := 47) X dX12_readProduct_20 (by decide) ?_
    obtain ⟨r15, er15, h⟩ := bnd h
    refine aw_callV X dX12_readProduct_22 cv_RX12_210 (ok_X12_isSign er15 _ _ _ _ _) iu_RX12 rfl (Nat.le_trans (by decide) hfr) (by decide) rfl rfl (Nat.le_of_ble_eq_true rfl) ?_
    refine aw_if_eq (tgt := 101) X dX12_readProduct_25 (by decide) (fun c16 => ?_) (fun c16 => ?_)
    · rw [if_pos c16] at h
      cases h
      refine aw_msk [false, false] ?_
      exact (he _ rfl).2.2.2 rfl
    · rw [if_neg c16] at h
      refine aw_msk [true, false] ?_
      exact jo_X12_readProduct_28 hfr Z X _ _ h hi he
set_option maxRecDepth 100000 in
set_option maxHeartbeats 4000000 in
theorem w_X12_readProduct {fr : Nat} (hfr : 4 ≤ fr) (Z : AZ) (X : AX Z cX12_readProduct 2 RX12 (some .int) 1 fr) (s : Mem) (r : Int32 × Mem) (hz : zres Z = (some (.int r.1), r.2)) (h : f_X12_readProduct s = some r) : AW Z s 0 [some (.ref (zr Z 0)), none] [] := by
  unfold f_X12_readProduct at h
  refine aw_aload_n X dX12_readProduct_0 rfl ?_
  obtain ⟨r1, er1, h⟩ := bnd h
  refine aw_callV X dX12_readProduct_1 cv_RX12_206 (ok_X12_readUnit er1 _ _ _ _ _) iu_RX12 rfl (Nat.le_trans (by decide) hfr) (by decide) rfl rfl (Nat.le_of_ble_eq_true rfl) ?_
  refine aw_iconst (v := (-1)) X dX12_readProduct_4 (by decide) ?_
  refine aw_icmp_ne (tgt := 10) X dX12_readProduct_5 (by decide) (fun c2 => ?_) (fun c2 => ?_)
  · rw [if_neg c2] at h
    obtain ⟨r17, er17, h⟩ := bnd h
    refine aw_msk [true, false] ?_
    refine it_ok (P := fun y : Mem => AW Z y 10 [some (.ref (zr Z 0)), none] []) (Q := fun b : Nat × Mem => (b.1 = 0 → AW Z b.2 51 [some (.ref (zr Z 0)), none] []) ∧ (b.1 = 1 → AW Z b.2 68 [some (.ref (zr Z 0)), none] []) ∧ (b.1 = 2 → AW Z b.2 82 [none, none] []) ∧ (b.1 = 3 → AW Z b.2 101 [none, none] [])) (fun y q hq hi he => so_X12_readProduct_10 hfr Z X y q hq hi he) FUEL _ _ er17 ?_
    refine ⟨fun c0 => ?_, fun c1 => ?_, fun c2 => ?_, fun c3 => ?_⟩
    · rw [if_pos c0] at h
      refine aw_aload_n X dX12_readProduct_51 rfl ?_
      refine aw_iconst (v := 1) X dX12_readProduct_52 (by decide) ?_
      obtain ⟨r18, er18, h⟩ := bnd h
      refine aw_callV X dX12_readProduct_53 cv_RX12_197 (ok_X12_errs er18 _ _ _ _ _) iu_RX12 rfl (Nat.le_trans (by decide) hfr) (by decide) rfl rfl (Nat.le_of_ble_eq_true rfl) ?_
      cases h
      exact aw_iret X dX12_readProduct_56 rfl hz.symm
    · rw [if_neg (by rw [c1]; decide)] at h
      rw [if_pos c1] at h
      refine aw_aload_n X dX12_readProduct_68 rfl ?_
      refine aw_iconst (v := 2) X dX12_readProduct_69 (by decide) ?_
      obtain ⟨r19, er19, h⟩ := bnd h
      refine aw_callV X dX12_readProduct_70 cv_RX12_197 (ok_X12_errs er19 _ _ _ _ _) iu_RX12 rfl (Nat.le_trans (by decide) hfr) (by decide) rfl rfl (Nat.le_of_ble_eq_true rfl) ?_
      cases h
      exact aw_iret X dX12_readProduct_73 rfl hz.symm
    · rw [if_neg (by rw [c2]; decide)] at h
      rw [if_neg (by rw [c2]; decide)] at h
      rw [if_pos c2] at h
      refine aw_iconst (v := (-1)) X dX12_readProduct_82 (by decide) ?_
      cases h
      exact aw_iret X dX12_readProduct_83 rfl hz.symm
    · rw [if_neg (by rw [c3]; decide)] at h
      rw [if_neg (by rw [c3]; decide)] at h
      rw [if_neg (by rw [c3]; decide)] at h
      refine aw_iconst (v := 0) X dX12_readProduct_101 (by decide) ?_
      cases h
      exact aw_iret X dX12_readProduct_102 rfl hz.symm
  · rw [if_pos c2] at h
    refine aw_iconst (v := (-1)) X dX12_readProduct_8 (by decide) ?_
    cases h
    exact aw_iret X dX12_readProduct_9 rfl hz.symm
set_option maxRecDepth 100000 in
set_option maxHeartbeats 4000000 in
theorem ok_X12_readProduct {s : Mem} {r : Int32 × Mem} (h : f_X12_readProduct s = some r) (l : Launch) (D : va_G) (ρ : Nat → Nat) (cA : ClassId × ClassId × ClassId) (τ : AT) : AM l D ρ cA 1 τ yX12_readProduct cX12_readProduct 2 (some .int) 4 [.ref (ρ 0)] (some (.int r.1)) s r.2 := by
  refine AM_of (L := [some (.ref (ρ 0)), none]) (by decide) (by simp [Value.category]) (Nat.le_of_ble_eq_true rfl) (fun j v q => ?_) (fun Z X hρ hz hτ => ?_)
  · exact aL_ok (n := 1) [.ref (ρ 0)] j v q
  · subst hρ
    subst hτ
    exact w_X12_readProduct (Nat.le_refl _) Z X s r hz h

theorem dX12_readSum_0 : decode cX12_readSum 0 = .ok (.aload_n 0, 1) := by decide +kernel
theorem dX12_readSum_1 : decode cX12_readSum 1 = .ok (.invokevirtual 213, 3) := by decide +kernel
theorem dX12_readSum_4 : decode cX12_readSum 4 = .ok (.iconst (-1), 1) := by decide +kernel
theorem dX12_readSum_5 : decode cX12_readSum 5 = .ok (.if_icmp .ne 5, 3) := by decide +kernel
theorem dX12_readSum_8 : decode cX12_readSum 8 = .ok (.iconst (-1), 1) := by decide +kernel
theorem dX12_readSum_9 : decode cX12_readSum 9 = .ok (.ireturn, 1) := by decide +kernel
theorem dX12_readSum_10 : decode cX12_readSum 10 = .ok (.aload_n 0, 1) := by decide +kernel
theorem dX12_readSum_11 : decode cX12_readSum 11 = .ok (.bipush 43, 2) := by decide +kernel
theorem dX12_readSum_13 : decode cX12_readSum 13 = .ok (.invokevirtual 210, 3) := by decide +kernel
theorem dX12_readSum_16 : decode cX12_readSum 16 = .ok (.ifCond .ne 12, 3) := by decide +kernel
theorem dX12_readSum_19 : decode cX12_readSum 19 = .ok (.aload_n 0, 1) := by decide +kernel
theorem dX12_readSum_20 : decode cX12_readSum 20 = .ok (.bipush 45, 2) := by decide +kernel
theorem dX12_readSum_22 : decode cX12_readSum 22 = .ok (.invokevirtual 210, 3) := by decide +kernel
theorem dX12_readSum_25 : decode cX12_readSum 25 = .ok (.ifCond .eq 41, 3) := by decide +kernel
theorem dX12_readSum_28 : decode cX12_readSum 28 = .ok (.aload_n 0, 1) := by decide +kernel
theorem dX12_readSum_29 : decode cX12_readSum 29 = .ok (.getfield 169, 3) := by decide +kernel
theorem dX12_readSum_32 : decode cX12_readSum 32 = .ok (.bipush 43, 2) := by decide +kernel
theorem dX12_readSum_34 : decode cX12_readSum 34 = .ok (.if_icmp .ne 7, 3) := by decide +kernel
theorem dX12_readSum_37 : decode cX12_readSum 37 = .ok (.iconst 2, 1) := by decide +kernel
theorem dX12_readSum_38 : decode cX12_readSum 38 = .ok (.goto 4, 3) := by decide +kernel
theorem dX12_readSum_41 : decode cX12_readSum 41 = .ok (.iconst 3, 1) := by decide +kernel
theorem dX12_readSum_42 : decode cX12_readSum 42 = .ok (.istore_n 1, 1) := by decide +kernel
theorem dX12_readSum_43 : decode cX12_readSum 43 = .ok (.aload_n 0, 1) := by decide +kernel
theorem dX12_readSum_44 : decode cX12_readSum 44 = .ok (.invokevirtual 203, 3) := by decide +kernel
theorem dX12_readSum_47 : decode cX12_readSum 47 = .ok (.aload_n 0, 1) := by decide +kernel
theorem dX12_readSum_48 : decode cX12_readSum 48 = .ok (.invokevirtual 213, 3) := by decide +kernel
theorem dX12_readSum_51 : decode cX12_readSum 51 = .ok (.iconst (-1), 1) := by decide +kernel
theorem dX12_readSum_52 : decode cX12_readSum 52 = .ok (.if_icmp .ne 5, 3) := by decide +kernel
theorem dX12_readSum_55 : decode cX12_readSum 55 = .ok (.iconst (-1), 1) := by decide +kernel
theorem dX12_readSum_56 : decode cX12_readSum 56 = .ok (.ireturn, 1) := by decide +kernel
theorem dX12_readSum_57 : decode cX12_readSum 57 = .ok (.aload_n 0, 1) := by decide +kernel
theorem dX12_readSum_58 : decode cX12_readSum 58 = .ok (.iload_n 1, 1) := by decide +kernel
theorem dX12_readSum_59 : decode cX12_readSum 59 = .ok (.iconst 0, 1) := by decide +kernel
theorem dX12_readSum_60 : decode cX12_readSum 60 = .ok (.invokevirtual 200, 3) := by decide +kernel
theorem dX12_readSum_63 : decode cX12_readSum 63 = .ok (.goto (-53), 3) := by decide +kernel
theorem dX12_readSum_66 : decode cX12_readSum 66 = .ok (.iconst 0, 1) := by decide +kernel
theorem dX12_readSum_67 : decode cX12_readSum 67 = .ok (.ireturn, 1) := by decide +kernel
set_option maxRecDepth 100000 in
set_option maxHeartbeats 4000000 in
theorem jo_X12_readSum_42 {fr : Nat} (hfr : 5 ≤ fr) (Z : AZ) (X : AX Z cX12_readSum 2 RX12 (some .int) 1 fr) (t0 : Int32) (s : Mem) (q : (Mem) ⊕ (Nat × Mem)) (h : jn_X12_readSum_42 t0 s = some q) (hi : ∀ y : Mem, q = .inl y → AW Z y 10 [some (.ref (zr Z 0)), none] []) (he : ∀ b : Nat × Mem, q = .inr b → (b.1 = 0 → AW Z b.2 55 [none, none] []) ∧ (b.1 = 1 → AW Z b.2 66 [none, none] [])) : AW Z s 42 [some (.ref (zr Z 0)), none] [.int t0] := by
  unfold jn_X12_readSum_42 at h
  refine aw_istore_n (L' := [some (.ref (zr Z 0)), some (.int t0)]) X dX12_readSum_42 (by decide) rfl ?_
  refine aw_aload_n X dX12_readSum_43 rfl ?_
  obtain ⟨r6, er6, h⟩ := bnd h
  refine aw_callV X dX12_readSum_44 cv_RX12_203 (ok_X12_reads er6 _ _ _ _ _) iu_RX12 rfl (Nat.le_trans (by decide) hfr) (by decide) rfl rfl (Nat.le_of_ble_eq_true rfl) ?_
  refine aw_aload_n X dX12_readSum_47 rfl ?_
  obtain ⟨r7, er7, h⟩ := bnd h
  refine aw_callV X dX12_readSum_48 cv_RX12_213 (ok_X12_readProduct er7 _ _ _ _ _) iu_RX12 rfl (Nat.le_trans (by decide) hfr) (by decide) rfl rfl (Nat.le_of_ble_eq_true rfl) ?_
  refine aw_iconst (v := (-1)) X dX12_readSum_51 (by decide) ?_
  refine aw_icmp_ne (tgt := 57) X dX12_readSum_52 (by decide) (fun c8 => ?_) (fun c8 => ?_)
  · rw [if_neg c8] at h
    refine aw_aload_n X dX12_readSum_57 rfl ?_
    refine aw_iload_n X dX12_readSum_58 rfl ?_
    refine aw_iconst (v := 0) X dX12_readSum_59 (by decide) ?_
    obtain ⟨r9, er9, h⟩ := bnd h
    refine aw_callV X dX12_readSum_60 cv_RX12_200 (ok_X12_emits er9 _ _ _ _ _) iu_RX12 rfl (Nat.le_trans (by decide) hfr) (by decide) rfl rfl (Nat.le_of_ble_eq_true rfl) ?_
    refine aw_goto (tgt := 10) X dX12_readSum_63 (by decide) ?_
    cases h
    refine aw_msk [true, false] ?_
    exact hi _ rfl
  · rw [if_pos c8] at h
    cases h
    refine aw_msk [false, false] ?_
    exact (he _ rfl).1 rfl
set_option maxRecDepth 100000 in
set_option maxHeartbeats 4000000 in
theorem jo_X12_readSum_28 {fr : Nat} (hfr : 5 ≤ fr) (Z : AZ) (X : AX Z cX12_readSum 2 RX12 (some .int) 1 fr) (s : Mem) (q : (Mem) ⊕ (Nat × Mem)) (h : jn_X12_readSum_28 s = some q) (hi : ∀ y : Mem, q = .inl y → AW Z y 10 [some (.ref (zr Z 0)), none] []) (he : ∀ b : Nat × Mem, q = .inr b → (b.1 = 0 → AW Z b.2 55 [none, none] []) ∧ (b.1 = 1 → AW Z b.2 66 [none, none] [])) : AW Z s 28 [some (.ref (zr Z 0)), none] [] := by
  unfold jn_X12_readSum_28 at h
  refine aw_aload_n X dX12_readSum_28 rfl ?_
  refine aw_geti X dX12_readSum_29 fl_RX12_169 iu_RX12 gu_RX12_13 ?_
  refine aw_bipush (v := 43) X dX12_readSum_32 (by decide) ?_
  refine aw_icmp_ne (tgt := 41) X dX12_readSum_34 (by decide) (fun c5 => ?_) (fun c5 => ?_)
  · rw [if_neg c5] at h
    refine aw_iconst (v := 3) X dX12_readSum_41 (by decide) ?_
    refine aw_msk [true, false] ?_
    exact jo_X12_readSum_42 hfr Z X _ _ _ h hi he
  · rw [if_pos c5] at h
    refine aw_iconst (v := 2) X dX12_readSum_37 (by decide) ?_
    refine aw_goto (tgt := 42) X dX12_readSum_38 (by decide) ?_
    refine aw_msk [true, false] ?_
    exact jo_X12_readSum_42 hfr Z X _ _ _ h hi he
set_option maxRecDepth 100000 in
set_option maxHeartbeats 4000000 in
theorem so_X12_readSum_10 {fr : Nat} (hfr : 5 ≤ fr) (Z : AZ) (X : AX Z cX12_readSum 2 RX12 (some .int) 1 fr) (s : Mem) (q : (Mem) ⊕ (Nat × Mem)) (h : st_X12_readSum_10 s = some q) (hi : ∀ y : Mem, q = .inl y → AW Z y 10 [some (.ref (zr Z 0)), none] []) (he : ∀ b : Nat × Mem, q = .inr b → (b.1 = 0 → AW Z b.2 55 [none, none] []) ∧ (b.1 = 1 → AW Z b.2 66 [none, none] [])) : AW Z s 10 [some (.ref (zr Z 0)), none] [] := by
  unfold st_X12_readSum_10 at h
  refine aw_aload_n X dX12_readSum_10 rfl ?_
  refine aw_bipush (v := 43) X dX12_readSum_11 (by decide) ?_
  obtain ⟨r3, er3, h⟩ := bnd h
  refine aw_callV X dX12_readSum_13 cv_RX12_210 (ok_X12_isSign er3 _ _ _ _ _) iu_RX12 rfl (Nat.le_trans (by decide) hfr) (by decide) rfl rfl (Nat.le_of_ble_eq_true rfl) ?_
  refine aw_if_ne (tgt := 28) X dX12_readSum_16 (by decide) (fun c4 => ?_) (fun c4 => ?_)
  · rw [if_neg c4] at h
    refine aw_msk [true, false] ?_
    exact jo_X12_readSum_28 hfr Z X _ _ h hi he
  · rw [if_pos c4] at h
    refine aw_aload_n X dX12_readSum_19 rfl ?_
    refine aw_bipush (v := 45) X dX12_readSum_20 (by decide) ?_
    obtain ⟨r10, er10, h⟩ := bnd h
    refine aw_callV X dX12_readSum_22 cv_RX12_210 (ok_X12_isSign er10 _ _ _ _ _) iu_RX12 rfl (Nat.le_trans (by decide) hfr) (by decide) rfl rfl (Nat.le_of_ble_eq_true rfl) ?_
    refine aw_if_eq (tgt := 66) X dX12_readSum_25 (by decide) (fun c11 => ?_) (fun c11 => ?_)
    · rw [if_pos c11] at h
      cases h
      refine aw_msk [false, false] ?_
      exact (he _ rfl).2 rfl
    · rw [if_neg c11] at h
      refine aw_msk [true, false] ?_
      exact jo_X12_readSum_28 hfr Z X _ _ h hi he
set_option maxRecDepth 100000 in
set_option maxHeartbeats 4000000 in
theorem w_X12_readSum {fr : Nat} (hfr : 5 ≤ fr) (Z : AZ) (X : AX Z cX12_readSum 2 RX12 (some .int) 1 fr) (s : Mem) (r : Int32 × Mem) (hz : zres Z = (some (.int r.1), r.2)) (h : f_X12_readSum s = some r) : AW Z s 0 [some (.ref (zr Z 0)), none] [] := by
  unfold f_X12_readSum at h
  refine aw_aload_n X dX12_readSum_0 rfl ?_
  obtain ⟨r1, er1, h⟩ := bnd h
  refine aw_callV X dX12_readSum_1 cv_RX12_213 (ok_X12_readProduct er1 _ _ _ _ _) iu_RX12 rfl (Nat.le_trans (by decide) hfr) (by decide) rfl rfl (Nat.le_of_ble_eq_true rfl) ?_
  refine aw_iconst (v := (-1)) X dX12_readSum_4 (by decide) ?_
  refine aw_icmp_ne (tgt := 10) X dX12_readSum_5 (by decide) (fun c2 => ?_) (fun c2 => ?_)
  · rw [if_neg c2] at h
    obtain ⟨r12, er12, h⟩ := bnd h
    refine aw_msk [true, false] ?_
    refine it_ok (P := fun y : Mem => AW Z y 10 [some (.ref (zr Z 0)), none] []) (Q := fun b : Nat × Mem => (b.1 = 0 → AW Z b.2 55 [none, none] []) ∧ (b.1 = 1 → AW Z b.2 66 [none, none] [])) (fun y q hq hi he => so_X12_readSum_10 hfr Z X y q hq hi he) FUEL _ _ er12 ?_
    refine ⟨fun c0 => ?_, fun c1 => ?_⟩
    · rw [if_pos c0] at h
      refine aw_iconst (v := (-1)) X dX12_readSum_55 (by decide) ?_
      cases h
      exact aw_iret X dX12_readSum_56 rfl hz.symm
    · rw [if_neg (by rw [c1]; decide)] at h
      refine aw_iconst (v := 0) X dX12_readSum_66 (by decide) ?_
      cases h
      exact aw_iret X dX12_readSum_67 rfl hz.symm
  · rw [if_pos c2] at h
    refine aw_iconst (v := (-1)) X dX12_readSum_8 (by decide) ?_
    cases h
    exact aw_iret X dX12_readSum_9 rfl hz.symm
set_option maxRecDepth 100000 in
set_option maxHeartbeats 4000000 in
theorem ok_X12_readSum {s : Mem} {r : Int32 × Mem} (h : f_X12_readSum s = some r) (l : Launch) (D : va_G) (ρ : Nat → Nat) (cA : ClassId × ClassId × ClassId) (τ : AT) : AM l D ρ cA 1 τ yX12_readSum cX12_readSum 2 (some .int) 5 [.ref (ρ 0)] (some (.int r.1)) s r.2 := by
  refine AM_of (L := [some (.ref (ρ 0)), none]) (by decide) (by simp [Value.category]) (Nat.le_of_ble_eq_true rfl) (fun j v q => ?_) (fun Z X hρ hz hτ => ?_)
  · exact aL_ok (n := 1) [.ref (ρ 0)] j v q
  · subst hρ
    subst hτ
    exact w_X12_readSum (Nat.le_refl _) Z X s r hz h

theorem dX12_readCompared_0 : decode cX12_readCompared 0 = .ok (.aload_n 0, 1) := by decide +kernel
theorem dX12_readCompared_1 : decode cX12_readCompared 1 = .ok (.invokevirtual 216, 3) := by decide +kernel
theorem dX12_readCompared_4 : decode cX12_readCompared 4 = .ok (.iconst (-1), 1) := by decide +kernel
theorem dX12_readCompared_5 : decode cX12_readCompared 5 = .ok (.if_icmp .ne 5, 3) := by decide +kernel
theorem dX12_readCompared_8 : decode cX12_readCompared 8 = .ok (.iconst (-1), 1) := by decide +kernel
theorem dX12_readCompared_9 : decode cX12_readCompared 9 = .ok (.ireturn, 1) := by decide +kernel
theorem dX12_readCompared_10 : decode cX12_readCompared 10 = .ok (.aload_n 0, 1) := by decide +kernel
theorem dX12_readCompared_11 : decode cX12_readCompared 11 = .ok (.bipush 60, 2) := by decide +kernel
theorem dX12_readCompared_13 : decode cX12_readCompared 13 = .ok (.invokevirtual 210, 3) := by decide +kernel
theorem dX12_readCompared_16 : decode cX12_readCompared 16 = .ok (.ifCond .ne 27, 3) := by decide +kernel
theorem dX12_readCompared_19 : decode cX12_readCompared 19 = .ok (.aload_n 0, 1) := by decide +kernel
theorem dX12_readCompared_20 : decode cX12_readCompared 20 = .ok (.bipush 61, 2) := by decide +kernel
theorem dX12_readCompared_22 : decode cX12_readCompared 22 = .ok (.invokevirtual 210, 3) := by decide +kernel
theorem dX12_readCompared_25 : decode cX12_readCompared 25 = .ok (.ifCond .ne 18, 3) := by decide +kernel
theorem dX12_readCompared_28 : decode cX12_readCompared 28 = .ok (.aload_n 0, 1) := by decide +kernel
theorem dX12_readCompared_29 : decode cX12_readCompared 29 = .ok (.bipush 62, 2) := by decide +kernel
theorem dX12_readCompared_31 : decode cX12_readCompared 31 = .ok (.invokevirtual 210, 3) := by decide +kernel
theorem dX12_readCompared_34 : decode cX12_readCompared 34 = .ok (.ifCond .ne 9, 3) := by decide +kernel
theorem dX12_readCompared_37 : decode cX12_readCompared 37 = .ok (.aload_n 0, 1) := by decide +kernel
theorem dX12_readCompared_38 : decode cX12_readCompared 38 = .ok (.iconst 1, 1) := by decide +kernel
theorem dX12_readCompared_39 : decode cX12_readCompared 39 = .ok (.invokevirtual 197, 3) := by decide +kernel
theorem dX12_readCompared_42 : decode cX12_readCompared 42 = .ok (.ireturn, 1) := by decide +kernel
theorem dX12_readCompared_43 : decode cX12_readCompared 43 = .ok (.aload_n 0, 1) := by decide +kernel
theorem dX12_readCompared_44 : decode cX12_readCompared 44 = .ok (.getfield 169, 3) := by decide +kernel
theorem dX12_readCompared_47 : decode cX12_readCompared 47 = .ok (.bipush 60, 2) := by decide +kernel
theorem dX12_readCompared_49 : decode cX12_readCompared 49 = .ok (.if_icmp .ne 8, 3) := by decide +kernel
theorem dX12_readCompared_52 : decode cX12_readCompared 52 = .ok (.bipush 6, 2) := by decide +kernel
theorem dX12_readCompared_54 : decode cX12_readCompared 54 = .ok (.goto 19, 3) := by decide +kernel
theorem dX12_readCompared_57 : decode cX12_readCompared 57 = .ok (.aload_n 0, 1) := by decide +kernel
theorem dX12_readCompared_58 : decode cX12_readCompared 58 = .ok (.getfield 169, 3) := by decide +kernel
theorem dX12_readCompared_61 : decode cX12_readCompared 61 = .ok (.bipush 61, 2) := by decide +kernel
theorem dX12_readCompared_63 : decode cX12_readCompared 63 = .ok (.if_icmp .ne 8, 3) := by decide +kernel
theorem dX12_readCompared_66 : decode cX12_readCompared 66 = .ok (.bipush 7, 2) := by decide +kernel
theorem dX12_readCompared_68 : decode cX12_readCompared 68 = .ok (.goto 5, 3) := by decide +kernel
theorem dX12_readCompared_71 : decode cX12_readCompared 71 = .ok (.bipush 8, 2) := by decide +kernel
theorem dX12_readCompared_73 : decode cX12_readCompared 73 = .ok (.istore_n 1, 1) := by decide +kernel
theorem dX12_readCompared_74 : decode cX12_readCompared 74 = .ok (.aload_n 0, 1) := by decide +kernel
theorem dX12_readCompared_75 : decode cX12_readCompared 75 = .ok (.invokevirtual 203, 3) := by decide +kernel
theorem dX12_readCompared_78 : decode cX12_readCompared 78 = .ok (.aload_n 0, 1) := by decide +kernel
theorem dX12_readCompared_79 : decode cX12_readCompared 79 = .ok (.invokevirtual 216, 3) := by decide +kernel
theorem dX12_readCompared_82 : decode cX12_readCompared 82 = .ok (.iconst (-1), 1) := by decide +kernel
theorem dX12_readCompared_83 : decode cX12_readCompared 83 = .ok (.if_icmp .ne 5, 3) := by decide +kernel
theorem dX12_readCompared_86 : decode cX12_readCompared 86 = .ok (.iconst (-1), 1) := by decide +kernel
theorem dX12_readCompared_87 : decode cX12_readCompared 87 = .ok (.ireturn, 1) := by decide +kernel
theorem dX12_readCompared_88 : decode cX12_readCompared 88 = .ok (.aload_n 0, 1) := by decide +kernel
theorem dX12_readCompared_89 : decode cX12_readCompared 89 = .ok (.iload_n 1, 1) := by decide +kernel
theorem dX12_readCompared_90 : decode cX12_readCompared 90 = .ok (.iconst 0, 1) := by decide +kernel
theorem dX12_readCompared_91 : decode cX12_readCompared 91 = .ok (.invokevirtual 200, 3) := by decide +kernel
theorem dX12_readCompared_94 : decode cX12_readCompared 94 = .ok (.iconst 0, 1) := by decide +kernel
theorem dX12_readCompared_95 : decode cX12_readCompared 95 = .ok (.ireturn, 1) := by decide +kernel
set_option maxRecDepth 100000 in
set_option maxHeartbeats 4000000 in
theorem jo_X12_readCompared_73 {fr : Nat} (hfr : 6 ≤ fr) (Z : AZ) (X : AX Z cX12_readCompared 2 RX12 (some .int) 1 fr) (t0 : Int32) (s : Mem) (r : Int32 × Mem) (hz : zres Z = (some (.int r.1), r.2)) (h : jn_X12_readCompared_73 t0 s = some r) : AW Z s 73 [some (.ref (zr Z 0)), none] [.int t0] := by
  unfold jn_X12_readCompared_73 at h
  refine aw_istore_n (L' := [some (.ref (zr Z 0)), some (.int t0)]) X dX12_readCompared_73 (by decide) rfl ?_
  refine aw_aload_n X dX12_readCompared_74 rfl ?_
  obtain ⟨r7, er7, h⟩ := bnd h
  refine aw_callV X dX12_readCompared_75 cv_RX12_203 (ok_X12_reads er7 _ _ _ _ _) iu_RX12 rfl (Nat.le_trans (by decide) hfr) (by decide) rfl rfl (Nat.le_of_ble_eq_true rfl) ?_
  refine aw_aload_n X dX12_readCompared_78 rfl ?_
  obtain ⟨r8, er8, h⟩ := bnd h
  refine aw_callV X dX12_readCompared_79 cv_RX12_216 (ok_X12_readSum er8 _ _ _ _ _) iu_RX12 rfl (Nat.le_trans (by decide) hfr) (by decide) rfl rfl (Nat.le_of_ble_eq_true rfl) ?_
  refine aw_iconst (v := (-1)) X dX12_readCompared_82 (by decide) ?_
  refine aw_icmp_ne (tgt := 88) X dX12_readCompared_83 (by decide) (fun c9 => ?_) (fun c9 => ?_)
  · rw [if_neg c9] at h
    refine aw_aload_n X dX12_readCompared_88 rfl ?_
    refine aw_iload_n X dX12_readCompared_89 rfl ?_
    refine aw_iconst (v := 0) X dX12_readCompared_90 (by decide) ?_
    obtain ⟨r10, er10, h⟩ := bnd h
    refine aw_callV X dX12_readCompared_91 cv_RX12_200 (ok_X12_emits er10 _ _ _ _ _) iu_RX12 rfl (Nat.le_trans (by decide) hfr) (by decide) rfl rfl (Nat.le_of_ble_eq_true rfl) ?_
    refine aw_iconst (v := 0) X dX12_readCompared_94 (by decide) ?_
    cases h
    exact aw_iret X dX12_readCompared_95 rfl hz.symm
  · rw [if_pos c9] at h
    refine aw_iconst (v := (-1)) X dX12_readCompared_86 (by decide) ?_
    cases h
    exact aw_iret X dX12_readCompared_87 rfl hz.symm
set_option maxRecDepth 100000 in
set_option maxHeartbeats 4000000 in
theorem jo_X12_readCompared_43 {fr : Nat} (hfr : 6 ≤ fr) (Z : AZ) (X : AX Z cX12_readCompared 2 RX12 (some .int) 1 fr) (s : Mem) (r : Int32 × Mem) (hz : zres Z = (some (.int r.1), r.2)) (h : jn_X12_readCompared_43 s = some r) : AW Z s 43 [some (.ref (zr Z 0)), none] [] := by
  unfold jn_X12_readCompared_43 at h
  refine aw_aload_n X dX12_readCompared_43 rfl ?_
  refine aw_geti X dX12_readCompared_44 fl_RX12_169 iu_RX12 gu_RX12_13 ?_
  refine aw_bipush (v := 60) X dX12_readCompared_47 (by decide) ?_
  refine aw_icmp_ne (tgt := 57) X dX12_readCompared_49 (by decide) (fun c5 => ?_) (fun c5 => ?_)
  · rw [if_neg c5] at h
    refine aw_aload_n X dX12_readCompared_57 rfl ?_
    refine aw_geti X dX12_readCompared_58 fl_RX12_169 iu_RX12 gu_RX12_13 ?_
    refine aw_bipush (v := 61) X dX12_readCompared_61 (by decide) ?_
    refine aw_icmp_ne (tgt := 71) X dX12_readCompared_63 (by decide) (fun c6 => ?_) (fun c6 => ?_)
    · rw [if_neg c6] at h
      refine aw_bipush (v := 8) X dX12_readCompared_71 (by decide) ?_
      refine aw_msk [true, false] ?_
      exact jo_X12_readCompared_73 hfr Z X _ _ _ hz h
    · rw [if_pos c6] at h
      refine aw_bipush (v := 7) X dX12_readCompared_66 (by decide) ?_
      refine aw_goto (tgt := 73) X dX12_readCompared_68 (by decide) ?_
      refine aw_msk [true, false] ?_
      exact jo_X12_readCompared_73 hfr Z X _ _ _ hz h
  · rw [if_pos c5] at h
    refine aw_bipush (v := 6) X dX12_readCompared_52 (by decide) ?_
    refine aw_goto (tgt := 73) X dX12_readCompared_54 (by decide) ?_
    refine aw_msk [true, false] ?_
    exact jo_X12_readCompared_73 hfr Z X _ _ _ hz h
set_option maxRecDepth 100000 in
set_option maxHeartbeats 4000000 in
theorem w_X12_readCompared {fr : Nat} (hfr : 6 ≤ fr) (Z : AZ) (X : AX Z cX12_readCompared 2 RX12 (some .int) 1 fr) (s : Mem) (r : Int32 × Mem) (hz : zres Z = (some (.int r.1), r.2)) (h : f_X12_readCompared s = some r) : AW Z s 0 [some (.ref (zr Z 0)), none] [] := by
  unfold f_X12_readCompared at h
  refine aw_aload_n X dX12_readCompared_0 rfl ?_
  obtain ⟨r1, er1, h⟩ := bnd h
  refine aw_callV X dX12_readCompared_1 cv_RX12_216 (ok_X12_readSum er1 _ _ _ _ _) iu_RX12 rfl (Nat.le_trans (by decide) hfr) (by decide) rfl rfl (Nat.le_of_ble_eq_true rfl) ?_
  refine aw_iconst (v := (-1)) X dX12_readCompared_4 (by decide) ?_
  refine aw_icmp_ne (tgt := 10) X dX12_readCompared_5 (by decide) (fun c2 => ?_) (fun c2 => ?_)
  · rw [if_neg c2] at h
    refine aw_aload_n X dX12_readCompared_10 rfl ?_
    refine aw_bipush (v := 60) X dX12_readCompared_11 (by decide) ?_
    obtain ⟨r3, er3, h⟩ := bnd h
    refine aw_callV X dX12_readCompared_13 cv_RX12_210 (ok_X12_isSign er3 _ _ _ _ _) iu_RX12 rfl (Nat.le_trans (by decide) hfr) (by decide) rfl rfl (Nat.le_of_ble_eq_true rfl) ?_
    refine aw_if_ne (tgt := 43) X dX12_readCompared_16 (by decide) (fun c4 => ?_) (fun c4 => ?_)
    · rw [if_neg c4] at h
      refine aw_msk [true, false] ?_
      exact jo_X12_readCompared_43 hfr Z X _ _ hz h
    · rw [if_pos c4] at h
      refine aw_aload_n X dX12_readCompared_19 rfl ?_
      refine aw_bipush (v := 61) X dX12_readCompared_20 (by decide) ?_
      obtain ⟨r11, er11, h⟩ := bnd h
      refine aw_callV X dX12_readCompared_22 cv_RX12_210 (ok_X12_isSign er11 _ _ _ _ _) iu_RX12 rfl (Nat.le_trans (by decide) hfr) (by decide) rfl rfl (Nat.le_of_ble_eq_true rfl) ?_
      refine aw_if_ne (tgt := 43) X dX12_readCompared_25 (by decide) (fun c12 => ?_) (fun c12 => ?_)
      · rw [if_neg c12] at h
        refine aw_msk [true, false] ?_
        exact jo_X12_readCompared_43 hfr Z X _ _ hz h
      · rw [if_pos c12] at h
        refine aw_aload_n X dX12_readCompared_28 rfl ?_
        refine aw_bipush (v := 62) X dX12_readCompared_29 (by decide) ?_
        obtain ⟨r13, er13, h⟩ := bnd h
        refine aw_callV X dX12_readCompared_31 cv_RX12_210 (ok_X12_isSign er13 _ _ _ _ _) iu_RX12 rfl (Nat.le_trans (by decide) hfr) (by decide) rfl rfl (Nat.le_of_ble_eq_true rfl) ?_
        refine aw_if_ne (tgt := 43) X dX12_readCompared_34 (by decide) (fun c14 => ?_) (fun c14 => ?_)
        · rw [if_neg c14] at h
          refine aw_msk [true, false] ?_
          exact jo_X12_readCompared_43 hfr Z X _ _ hz h
        · rw [if_pos c14] at h
          refine aw_aload_n X dX12_readCompared_37 rfl ?_
          refine aw_iconst (v := 1) X dX12_readCompared_38 (by decide) ?_
          obtain ⟨r15, er15, h⟩ := bnd h
          refine aw_callV X dX12_readCompared_39 cv_RX12_197 (ok_X12_errs er15 _ _ _ _ _) iu_RX12 rfl (Nat.le_trans (by decide) hfr) (by decide) rfl rfl (Nat.le_of_ble_eq_true rfl) ?_
          cases h
          exact aw_iret X dX12_readCompared_42 rfl hz.symm
  · rw [if_pos c2] at h
    refine aw_iconst (v := (-1)) X dX12_readCompared_8 (by decide) ?_
    cases h
    exact aw_iret X dX12_readCompared_9 rfl hz.symm
set_option maxRecDepth 100000 in
set_option maxHeartbeats 4000000 in
theorem ok_X12_readCompared {s : Mem} {r : Int32 × Mem} (h : f_X12_readCompared s = some r) (l : Launch) (D : va_G) (ρ : Nat → Nat) (cA : ClassId × ClassId × ClassId) (τ : AT) : AM l D ρ cA 1 τ yX12_readCompared cX12_readCompared 2 (some .int) 6 [.ref (ρ 0)] (some (.int r.1)) s r.2 := by
  refine AM_of (L := [some (.ref (ρ 0)), none]) (by decide) (by simp [Value.category]) (Nat.le_of_ble_eq_true rfl) (fun j v q => ?_) (fun Z X hρ hz hτ => ?_)
  · exact aL_ok (n := 1) [.ref (ρ 0)] j v q
  · subst hρ
    subst hτ
    exact w_X12_readCompared (Nat.le_refl _) Z X s r hz h

theorem dX12_waits_0 : decode cX12_waits 0 = .ok (.aload_n 0, 1) := by decide +kernel
theorem dX12_waits_1 : decode cX12_waits 1 = .ok (.getfield 49, 3) := by decide +kernel
theorem dX12_waits_4 : decode cX12_waits 4 = .ok (.aload_n 0, 1) := by decide +kernel
theorem dX12_waits_5 : decode cX12_waits 5 = .ok (.getfield 219, 3) := by decide +kernel
theorem dX12_waits_8 : decode cX12_waits 8 = .ok (.iload_n 1, 1) := by decide +kernel
theorem dX12_waits_9 : decode cX12_waits 9 = .ok (.iastore, 1) := by decide +kernel
theorem dX12_waits_10 : decode cX12_waits 10 = .ok (.aload_n 0, 1) := by decide +kernel
theorem dX12_waits_11 : decode cX12_waits 11 = .ok (.aload_n 0, 1) := by decide +kernel
theorem dX12_waits_12 : decode cX12_waits 12 = .ok (.getfield 219, 3) := by decide +kernel
theorem dX12_waits_15 : decode cX12_waits 15 = .ok (.iconst 1, 1) := by decide +kernel
theorem dX12_waits_16 : decode cX12_waits 16 = .ok (.iadd, 1) := by decide +kernel
theorem dX12_waits_17 : decode cX12_waits 17 = .ok (.putfield 219, 3) := by decide +kernel
theorem dX12_waits_20 : decode cX12_waits 20 = .ok (.return_, 1) := by decide +kernel
set_option maxRecDepth 100000 in
set_option maxHeartbeats 4000000 in
theorem w_X12_waits {fr : Nat} (hfr : 0 ≤ fr) (Z : AZ) (X : AX Z cX12_waits 2 RX12 none 1 fr) (x1 : Int32) (s : Mem) (r : Mem) (hz : zres Z = (none, r)) (h : f_X12_waits x1 s = some r) : AW Z s 0 [some (.ref (zr Z 0)), some (.int x1)] [] := by
  unfold f_X12_waits at h
  refine aw_aload_n X dX12_waits_0 rfl ?_
  refine aw_getr X dX12_waits_1 fl_RX12_49 iu_RX12 gu_RX12_25 ?_
  refine aw_aload_n X dX12_waits_4 rfl ?_
  refine aw_geti X dX12_waits_5 fl_RX12_219 iu_RX12 gu_RX12_26 ?_
  refine aw_iload_n X dX12_waits_8 rfl ?_
  obtain ⟨s1, es1, h⟩ := bnd h
  refine aw_iast X dX12_waits_9 iu_RX12_25 es1 ?_
  refine aw_aload_n X dX12_waits_10 rfl ?_
  refine aw_aload_n X dX12_waits_11 rfl ?_
  refine aw_geti X dX12_waits_12 fl_RX12_219 iu_RX12 gu_RX12_26 ?_
  refine aw_iconst (v := 1) X dX12_waits_15 (by decide) ?_
  refine aw_iadd X dX12_waits_16 ?_
  refine aw_put X dX12_waits_17 fp_RX12_219 iu_RX12 gu_RX12_26 rfl rfl ?_
  cases h
  exact aw_vret X dX12_waits_20 rfl hz.symm
set_option maxRecDepth 100000 in
set_option maxHeartbeats 4000000 in
theorem ok_X12_waits {x1 : Int32} {s : Mem} {r : Mem} (h : f_X12_waits x1 s = some r) (l : Launch) (D : va_G) (ρ : Nat → Nat) (cA : ClassId × ClassId × ClassId) (τ : AT) : AM l D ρ cA 1 τ yX12_waits cX12_waits 2 none 0 [.ref (ρ 0), .int x1] none s r := by
  refine AM_of (L := [some (.ref (ρ 0)), some (.int x1)]) (by decide) (by simp [Value.category]) (Nat.le_of_ble_eq_true rfl) (fun j v q => ?_) (fun Z X hρ hz hτ => ?_)
  · exact aL_ok (n := 0) [.ref (ρ 0), .int x1] j v q
  · subst hρ
    subst hτ
    exact w_X12_waits (Nat.le_refl _) Z X x1 s r hz h

theorem dX12_settles_0 : decode cX12_settles 0 = .ok (.aload_n 0, 1) := by decide +kernel
theorem dX12_settles_1 : decode cX12_settles 1 = .ok (.getfield 219, 3) := by decide +kernel
theorem dX12_settles_4 : decode cX12_settles 4 = .ok (.ifCond .le 53, 3) := by decide +kernel
theorem dX12_settles_7 : decode cX12_settles 7 = .ok (.aload_n 0, 1) := by decide +kernel
theorem dX12_settles_8 : decode cX12_settles 8 = .ok (.getfield 49, 3) := by decide +kernel
theorem dX12_settles_11 : decode cX12_settles 11 = .ok (.aload_n 0, 1) := by decide +kernel
theorem dX12_settles_12 : decode cX12_settles 12 = .ok (.getfield 219, 3) := by decide +kernel
theorem dX12_settles_15 : decode cX12_settles 15 = .ok (.iconst 1, 1) := by decide +kernel
theorem dX12_settles_16 : decode cX12_settles 16 = .ok (.isub, 1) := by decide +kernel
theorem dX12_settles_17 : decode cX12_settles 17 = .ok (.iaload, 1) := by decide +kernel
theorem dX12_settles_18 : decode cX12_settles 18 = .ok (.iload_n 1, 1) := by decide +kernel
theorem dX12_settles_19 : decode cX12_settles 19 = .ok (.if_icmp .ne 38, 3) := by decide +kernel
theorem dX12_settles_22 : decode cX12_settles 22 = .ok (.aload_n 0, 1) := by decide +kernel
theorem dX12_settles_23 : decode cX12_settles 23 = .ok (.aload_n 0, 1) := by decide +kernel
theorem dX12_settles_24 : decode cX12_settles 24 = .ok (.getfield 219, 3) := by decide +kernel
theorem dX12_settles_27 : decode cX12_settles 27 = .ok (.iconst 1, 1) := by decide +kernel
theorem dX12_settles_28 : decode cX12_settles 28 = .ok (.isub, 1) := by decide +kernel
theorem dX12_settles_29 : decode cX12_settles 29 = .ok (.putfield 219, 3) := by decide +kernel
theorem dX12_settles_32 : decode cX12_settles 32 = .ok (.aload_n 0, 1) := by decide +kernel
theorem dX12_settles_33 : decode cX12_settles 33 = .ok (.iload_n 1, 1) := by decide +kernel
theorem dX12_settles_34 : decode cX12_settles 34 = .ok (.iconst 0, 1) := by decide +kernel
theorem dX12_settles_35 : decode cX12_settles 35 = .ok (.invokevirtual 200, 3) := by decide +kernel
theorem dX12_settles_38 : decode cX12_settles 38 = .ok (.iload_n 1, 1) := by decide +kernel
theorem dX12_settles_39 : decode cX12_settles 39 = .ok (.bipush 9, 2) := by decide +kernel
theorem dX12_settles_41 : decode cX12_settles 41 = .ok (.if_icmp .ne (-41), 3) := by decide +kernel
theorem dX12_settles_44 : decode cX12_settles 44 = .ok (.aload_n 0, 1) := by decide +kernel
theorem dX12_settles_45 : decode cX12_settles 45 = .ok (.aload_n 0, 1) := by decide +kernel
theorem dX12_settles_46 : decode cX12_settles 46 = .ok (.getfield 222, 3) := by decide +kernel
theorem dX12_settles_49 : decode cX12_settles 49 = .ok (.iconst 1, 1) := by decide +kernel
theorem dX12_settles_50 : decode cX12_settles 50 = .ok (.isub, 1) := by decide +kernel
theorem dX12_settles_51 : decode cX12_settles 51 = .ok (.putfield 222, 3) := by decide +kernel
theorem dX12_settles_54 : decode cX12_settles 54 = .ok (.goto (-54), 3) := by decide +kernel
theorem dX12_settles_57 : decode cX12_settles 57 = .ok (.return_, 1) := by decide +kernel
set_option maxRecDepth 100000 in
set_option maxHeartbeats 4000000 in
theorem so_X12_settles_0 {fr : Nat} (hfr : 1 ≤ fr) (Z : AZ) (X : AX Z cX12_settles 2 RX12 none 1 fr) (x1 : Int32) (s : Mem) (q : (Mem) ⊕ (Mem)) (h : st_X12_settles_0 x1 s = some q) (hi : ∀ y : Mem, q = .inl y → AW Z y 0 [some (.ref (zr Z 0)), some (.int x1)] []) (he : ∀ b : Mem, q = .inr b → AW Z b 57 [none, none] []) : AW Z s 0 [some (.ref (zr Z 0)), some (.int x1)] [] := by
  unfold st_X12_settles_0 at h
  refine aw_aload_n X dX12_settles_0 rfl ?_
  refine aw_geti X dX12_settles_1 fl_RX12_219 iu_RX12 gu_RX12_26 ?_
  refine aw_if_le (tgt := 57) X dX12_settles_4 (by decide) (fun c1 => ?_) (fun c1 => ?_)
  · rw [if_pos c1] at h
    cases h
    refine aw_msk [false, false] ?_
    exact he _ rfl
  · rw [if_neg c1] at h
    refine aw_aload_n X dX12_settles_7 rfl ?_
    refine aw_getr X dX12_settles_8 fl_RX12_49 iu_RX12 gu_RX12_25 ?_
    refine aw_aload_n X dX12_settles_11 rfl ?_
    refine aw_geti X dX12_settles_12 fl_RX12_219 iu_RX12 gu_RX12_26 ?_
    refine aw_iconst (v := 1) X dX12_settles_15 (by decide) ?_
    refine aw_isub X dX12_settles_16 ?_
    obtain ⟨v2, ev2, h⟩ := bnd h
    refine aw_iald X dX12_settles_17 iu_RX12_25 ev2 ?_
    refine aw_iload_n X dX12_settles_18 rfl ?_
    refine aw_icmp_ne (tgt := 57) X dX12_settles_19 (by decide) (fun c3 => ?_) (fun c3 => ?_)
    · rw [if_neg c3] at h
      cases h
      refine aw_msk [false, false] ?_
      exact he _ rfl
    · rw [if_pos c3] at h
      refine aw_aload_n X dX12_settles_22 rfl ?_
      refine aw_aload_n X dX12_settles_23 rfl ?_
      refine aw_geti X dX12_settles_24 fl_RX12_219 iu_RX12 gu_RX12_26 ?_
      refine aw_iconst (v := 1) X dX12_settles_27 (by decide) ?_
      refine aw_isub X dX12_settles_28 ?_
      refine aw_put X dX12_settles_29 fp_RX12_219 iu_RX12 gu_RX12_26 rfl rfl ?_
      refine aw_aload_n X dX12_settles_32 rfl ?_
      refine aw_iload_n X dX12_settles_33 rfl ?_
      refine aw_iconst (v := 0) X dX12_settles_34 (by decide) ?_
      obtain ⟨r4, er4, h⟩ := bnd h
      refine aw_callV X dX12_settles_35 cv_RX12_200 (ok_X12_emits er4 _ _ _ _ _) iu_RX12 rfl (Nat.le_trans (by decide) hfr) (by decide) rfl rfl (Nat.le_of_ble_eq_true rfl) ?_
      refine aw_iload_n X dX12_settles_38 rfl ?_
      refine aw_bipush (v := 9) X dX12_settles_39 (by decide) ?_
      refine aw_icmp_ne (tgt := 0) X dX12_settles_41 (by decide) (fun c5 => ?_) (fun c5 => ?_)
      · rw [if_neg c5] at h
        cases h
        refine aw_msk [true, true] ?_
        exact hi _ rfl
      · rw [if_pos c5] at h
        refine aw_aload_n X dX12_settles_44 rfl ?_
        refine aw_aload_n X dX12_settles_45 rfl ?_
        refine aw_geti X dX12_settles_46 fl_RX12_222 iu_RX12 gu_RX12_24 ?_
        refine aw_iconst (v := 1) X dX12_settles_49 (by decide) ?_
        refine aw_isub X dX12_settles_50 ?_
        refine aw_put X dX12_settles_51 fp_RX12_222 iu_RX12 gu_RX12_24 rfl rfl ?_
        refine aw_goto (tgt := 0) X dX12_settles_54 (by decide) ?_
        cases h
        refine aw_msk [true, true] ?_
        exact hi _ rfl
set_option maxRecDepth 100000 in
set_option maxHeartbeats 4000000 in
theorem w_X12_settles {fr : Nat} (hfr : 1 ≤ fr) (Z : AZ) (X : AX Z cX12_settles 2 RX12 none 1 fr) (x1 : Int32) (s : Mem) (r : Mem) (hz : zres Z = (none, r)) (h : f_X12_settles x1 s = some r) : AW Z s 0 [some (.ref (zr Z 0)), some (.int x1)] [] := by
  unfold f_X12_settles at h
  obtain ⟨r6, er6, h⟩ := bnd h
  refine aw_msk [true, true] ?_
  refine it_ok (P := fun y : Mem => AW Z y 0 [some (.ref (zr Z 0)), some (.int x1)] []) (Q := fun b : Mem => AW Z b 57 [none, none] []) (fun y q hq hi he => so_X12_settles_0 hfr Z X x1 y q hq hi he) FUEL _ _ er6 ?_
  cases h
  exact aw_vret X dX12_settles_57 rfl hz.symm
set_option maxRecDepth 100000 in
set_option maxHeartbeats 4000000 in
theorem ok_X12_settles {x1 : Int32} {s : Mem} {r : Mem} (h : f_X12_settles x1 s = some r) (l : Launch) (D : va_G) (ρ : Nat → Nat) (cA : ClassId × ClassId × ClassId) (τ : AT) : AM l D ρ cA 1 τ yX12_settles cX12_settles 2 none 1 [.ref (ρ 0), .int x1] none s r := by
  refine AM_of (L := [some (.ref (ρ 0)), some (.int x1)]) (by decide) (by simp [Value.category]) (Nat.le_of_ble_eq_true rfl) (fun j v q => ?_) (fun Z X hρ hz hτ => ?_)
  · exact aL_ok (n := 0) [.ref (ρ 0), .int x1] j v q
  · subst hρ
    subst hτ
    exact w_X12_settles (Nat.le_refl _) Z X x1 s r hz h

theorem dX12_readAny_0 : decode cX12_readAny 0 = .ok (.iconst 0, 1) := by decide +kernel
theorem dX12_readAny_1 : decode cX12_readAny 1 = .ok (.istore_n 1, 1) := by decide +kernel
theorem dX12_readAny_2 : decode cX12_readAny 2 = .ok (.aload_n 0, 1) := by decide +kernel
theorem dX12_readAny_3 : decode cX12_readAny 3 = .ok (.iconst 0, 1) := by decide +kernel
theorem dX12_readAny_4 : decode cX12_readAny 4 = .ok (.putfield 219, 3) := by decide +kernel
theorem dX12_readAny_7 : decode cX12_readAny 7 = .ok (.iconst 1, 1) := by decide +kernel
theorem dX12_readAny_8 : decode cX12_readAny 8 = .ok (.istore_n 2, 1) := by decide +kernel
theorem dX12_readAny_9 : decode cX12_readAny 9 = .ok (.iload_n 2, 1) := by decide +kernel
theorem dX12_readAny_10 : decode cX12_readAny 10 = .ok (.ifCond .eq 99, 3) := by decide +kernel
theorem dX12_readAny_13 : decode cX12_readAny 13 = .ok (.aload_n 0, 1) := by decide +kernel
theorem dX12_readAny_14 : decode cX12_readAny 14 = .ok (.bipush 6, 2) := by decide +kernel
theorem dX12_readAny_16 : decode cX12_readAny 16 = .ok (.invokevirtual 225, 3) := by decide +kernel
theorem dX12_readAny_19 : decode cX12_readAny 19 = .ok (.istore_n 3, 1) := by decide +kernel
theorem dX12_readAny_20 : decode cX12_readAny 20 = .ok (.iload_n 3, 1) := by decide +kernel
theorem dX12_readAny_21 : decode cX12_readAny 21 = .ok (.ifCond .ne 12, 3) := by decide +kernel
theorem dX12_readAny_24 : decode cX12_readAny 24 = .ok (.aload_n 0, 1) := by decide +kernel
theorem dX12_readAny_25 : decode cX12_readAny 25 = .ok (.bipush 40, 2) := by decide +kernel
theorem dX12_readAny_27 : decode cX12_readAny 27 = .ok (.invokevirtual 210, 3) := by decide +kernel
theorem dX12_readAny_30 : decode cX12_readAny 30 = .ok (.ifCond .eq 58, 3) := by decide +kernel
theorem dX12_readAny_33 : decode cX12_readAny 33 = .ok (.aload_n 0, 1) := by decide +kernel
theorem dX12_readAny_34 : decode cX12_readAny 34 = .ok (.getfield 222, 3) := by decide +kernel
theorem dX12_readAny_37 : decode cX12_readAny 37 = .ok (.bipush 8, 2) := by decide +kernel
theorem dX12_readAny_39 : decode cX12_readAny 39 = .ok (.if_icmp .ne 9, 3) := by decide +kernel
theorem dX12_readAny_42 : decode cX12_readAny 42 = .ok (.aload_n 0, 1) := by decide +kernel
theorem dX12_readAny_43 : decode cX12_readAny 43 = .ok (.iconst 3, 1) := by decide +kernel
theorem dX12_readAny_44 : decode cX12_readAny 44 = .ok (.invokevirtual 197, 3) := by decide +kernel
theorem dX12_readAny_47 : decode cX12_readAny 47 = .ok (.ireturn, 1) := by decide +kernel
theorem dX12_readAny_48 : decode cX12_readAny 48 = .ok (.aload_n 0, 1) := by decide +kernel
theorem dX12_readAny_49 : decode cX12_readAny 49 = .ok (.aload_n 0, 1) := by decide +kernel
theorem dX12_readAny_50 : decode cX12_readAny 50 = .ok (.getfield 222, 3) := by decide +kernel
theorem dX12_readAny_53 : decode cX12_readAny 53 = .ok (.iconst 1, 1) := by decide +kernel
theorem dX12_readAny_54 : decode cX12_readAny 54 = .ok (.iadd, 1) := by decide +kernel
theorem dX12_readAny_55 : decode cX12_readAny 55 = .ok (.putfield 222, 3) := by decide +kernel
theorem dX12_readAny_58 : decode cX12_readAny 58 = .ok (.iload_n 3, 1) := by decide +kernel
theorem dX12_readAny_59 : decode cX12_readAny 59 = .ok (.ifCond .ne 7, 3) := by decide +kernel
theorem dX12_readAny_62 : decode cX12_readAny 62 = .ok (.iload_n 1, 1) := by decide +kernel
theorem dX12_readAny_63 : decode cX12_readAny 63 = .ok (.iconst 1, 1) := by decide +kernel
theorem dX12_readAny_64 : decode cX12_readAny 64 = .ok (.iadd, 1) := by decide +kernel
theorem dX12_readAny_65 : decode cX12_readAny 65 = .ok (.istore_n 1, 1) := by decide +kernel
theorem dX12_readAny_66 : decode cX12_readAny 66 = .ok (.aload_n 0, 1) := by decide +kernel
theorem dX12_readAny_67 : decode cX12_readAny 67 = .ok (.iload_n 3, 1) := by decide +kernel
theorem dX12_readAny_68 : decode cX12_readAny 68 = .ok (.ifCond .eq 8, 3) := by decide +kernel
theorem dX12_readAny_71 : decode cX12_readAny 71 = .ok (.bipush 9, 2) := by decide +kernel
theorem dX12_readAny_73 : decode cX12_readAny 73 = .ok (.goto 5, 3) := by decide +kernel
theorem dX12_readAny_76 : decode cX12_readAny 76 = .ok (.bipush 12, 2) := by decide +kernel
theorem dX12_readAny_78 : decode cX12_readAny 78 = .ok (.invokevirtual 228, 3) := by decide +kernel
theorem dX12_readAny_81 : decode cX12_readAny 81 = .ok (.aload_n 0, 1) := by decide +kernel
theorem dX12_readAny_82 : decode cX12_readAny 82 = .ok (.invokevirtual 203, 3) := by decide +kernel
theorem dX12_readAny_85 : decode cX12_readAny 85 = .ok (.goto (-76), 3) := by decide +kernel
theorem dX12_readAny_88 : decode cX12_readAny 88 = .ok (.aload_n 0, 1) := by decide +kernel
theorem dX12_readAny_89 : decode cX12_readAny 89 = .ok (.invokevirtual 231, 3) := by decide +kernel
theorem dX12_readAny_92 : decode cX12_readAny 92 = .ok (.iconst (-1), 1) := by decide +kernel
theorem dX12_readAny_93 : decode cX12_readAny 93 = .ok (.if_icmp .ne 5, 3) := by decide +kernel
theorem dX12_readAny_96 : decode cX12_readAny 96 = .ok (.iconst (-1), 1) := by decide +kernel
theorem dX12_readAny_97 : decode cX12_readAny 97 = .ok (.ireturn, 1) := by decide +kernel
theorem dX12_readAny_98 : decode cX12_readAny 98 = .ok (.aload_n 0, 1) := by decide +kernel
theorem dX12_readAny_99 : decode cX12_readAny 99 = .ok (.bipush 9, 2) := by decide +kernel
theorem dX12_readAny_101 : decode cX12_readAny 101 = .ok (.invokevirtual 234, 3) := by decide +kernel
theorem dX12_readAny_104 : decode cX12_readAny 104 = .ok (.iconst 0, 1) := by decide +kernel
theorem dX12_readAny_105 : decode cX12_readAny 105 = .ok (.istore_n 2, 1) := by decide +kernel
theorem dX12_readAny_106 : decode cX12_readAny 106 = .ok (.goto (-97), 3) := by decide +kernel
theorem dX12_readAny_109 : decode cX12_readAny 109 = .ok (.aload_n 0, 1) := by decide +kernel
theorem dX12_readAny_110 : decode cX12_readAny 110 = .ok (.iconst 5, 1) := by decide +kernel
theorem dX12_readAny_111 : decode cX12_readAny 111 = .ok (.invokevirtual 225, 3) := by decide +kernel
theorem dX12_readAny_114 : decode cX12_readAny 114 = .ok (.ifCond .eq 24, 3) := by decide +kernel
theorem dX12_readAny_117 : decode cX12_readAny 117 = .ok (.aload_n 0, 1) := by decide +kernel
theorem dX12_readAny_118 : decode cX12_readAny 118 = .ok (.bipush 10, 2) := by decide +kernel
theorem dX12_readAny_120 : decode cX12_readAny 120 = .ok (.invokevirtual 234, 3) := by decide +kernel
theorem dX12_readAny_123 : decode cX12_readAny 123 = .ok (.aload_n 0, 1) := by decide +kernel
theorem dX12_readAny_124 : decode cX12_readAny 124 = .ok (.bipush 10, 2) := by decide +kernel
theorem dX12_readAny_126 : decode cX12_readAny 126 = .ok (.invokevirtual 228, 3) := by decide +kernel
theorem dX12_readAny_129 : decode cX12_readAny 129 = .ok (.aload_n 0, 1) := by decide +kernel
theorem dX12_readAny_130 : decode cX12_readAny 130 = .ok (.invokevirtual 203, 3) := by decide +kernel
theorem dX12_readAny_133 : decode cX12_readAny 133 = .ok (.iconst 1, 1) := by decide +kernel
theorem dX12_readAny_134 : decode cX12_readAny 134 = .ok (.istore_n 2, 1) := by decide +kernel
theorem dX12_readAny_135 : decode cX12_readAny 135 = .ok (.goto (-126), 3) := by decide +kernel
theorem dX12_readAny_138 : decode cX12_readAny 138 = .ok (.aload_n 0, 1) := by decide +kernel
theorem dX12_readAny_139 : decode cX12_readAny 139 = .ok (.iconst 4, 1) := by decide +kernel
theorem dX12_readAny_140 : decode cX12_readAny 140 = .ok (.invokevirtual 225, 3) := by decide +kernel
theorem dX12_readAny_143 : decode cX12_readAny 143 = .ok (.ifCond .eq 30, 3) := by decide +kernel
theorem dX12_readAny_146 : decode cX12_readAny 146 = .ok (.aload_n 0, 1) := by decide +kernel
theorem dX12_readAny_147 : decode cX12_readAny 147 = .ok (.bipush 10, 2) := by decide +kernel
theorem dX12_readAny_149 : decode cX12_readAny 149 = .ok (.invokevirtual 234, 3) := by decide +kernel
theorem dX12_readAny_152 : decode cX12_readAny 152 = .ok (.aload_n 0, 1) := by decide +kernel
theorem dX12_readAny_153 : decode cX12_readAny 153 = .ok (.bipush 11, 2) := by decide +kernel
theorem dX12_readAny_155 : decode cX12_readAny 155 = .ok (.invokevirtual 234, 3) := by decide +kernel
theorem dX12_readAny_158 : decode cX12_readAny 158 = .ok (.aload_n 0, 1) := by decide +kernel
theorem dX12_readAny_159 : decode cX12_readAny 159 = .ok (.bipush 11, 2) := by decide +kernel
theorem dX12_readAny_161 : decode cX12_readAny 161 = .ok (.invokevirtual 228, 3) := by decide +kernel
theorem dX12_readAny_164 : decode cX12_readAny 164 = .ok (.aload_n 0, 1) := by decide +kernel
theorem dX12_readAny_165 : decode cX12_readAny 165 = .ok (.invokevirtual 203, 3) := by decide +kernel
theorem dX12_readAny_168 : decode cX12_readAny 168 = .ok (.iconst 1, 1) := by decide +kernel
theorem dX12_readAny_169 : decode cX12_readAny 169 = .ok (.istore_n 2, 1) := by decide +kernel
theorem dX12_readAny_170 : decode cX12_readAny 170 = .ok (.goto (-161), 3) := by decide +kernel
theorem dX12_readAny_173 : decode cX12_readAny 173 = .ok (.aload_n 0, 1) := by decide +kernel
theorem dX12_readAny_174 : decode cX12_readAny 174 = .ok (.bipush 10, 2) := by decide +kernel
theorem dX12_readAny_176 : decode cX12_readAny 176 = .ok (.invokevirtual 234, 3) := by decide +kernel
theorem dX12_readAny_179 : decode cX12_readAny 179 = .ok (.aload_n 0, 1) := by decide +kernel
theorem dX12_readAny_180 : decode cX12_readAny 180 = .ok (.bipush 11, 2) := by decide +kernel
theorem dX12_readAny_182 : decode cX12_readAny 182 = .ok (.invokevirtual 234, 3) := by decide +kernel
theorem dX12_readAny_185 : decode cX12_readAny 185 = .ok (.iload_n 1, 1) := by decide +kernel
theorem dX12_readAny_186 : decode cX12_readAny 186 = .ok (.ifCond .ne 5, 3) := by decide +kernel
theorem dX12_readAny_189 : decode cX12_readAny 189 = .ok (.iconst 0, 1) := by decide +kernel
theorem dX12_readAny_190 : decode cX12_readAny 190 = .ok (.ireturn, 1) := by decide +kernel
theorem dX12_readAny_191 : decode cX12_readAny 191 = .ok (.aload_n 0, 1) := by decide +kernel
theorem dX12_readAny_192 : decode cX12_readAny 192 = .ok (.bipush 41, 2) := by decide +kernel
theorem dX12_readAny_194 : decode cX12_readAny 194 = .ok (.invokevirtual 210, 3) := by decide +kernel
theorem dX12_readAny_197 : decode cX12_readAny 197 = .ok (.ifCond .ne 9, 3) := by decide +kernel
theorem dX12_readAny_200 : decode cX12_readAny 200 = .ok (.aload_n 0, 1) := by decide +kernel
theorem dX12_readAny_201 : decode cX12_readAny 201 = .ok (.iconst 1, 1) := by decide +kernel
theorem dX12_readAny_202 : decode cX12_readAny 202 = .ok (.invokevirtual 197, 3) := by decide +kernel
theorem dX12_readAny_205 : decode cX12_readAny 205 = .ok (.ireturn, 1) := by decide +kernel
theorem dX12_readAny_206 : decode cX12_readAny 206 = .ok (.aload_n 0, 1) := by decide +kernel
theorem dX12_readAny_207 : decode cX12_readAny 207 = .ok (.aload_n 0, 1) := by decide +kernel
theorem dX12_readAny_208 : decode cX12_readAny 208 = .ok (.getfield 219, 3) := by decide +kernel
theorem dX12_readAny_211 : decode cX12_readAny 211 = .ok (.iconst 1, 1) := by decide +kernel
theorem dX12_readAny_212 : decode cX12_readAny 212 = .ok (.isub, 1) := by decide +kernel
theorem dX12_readAny_213 : decode cX12_readAny 213 = .ok (.putfield 219, 3) := by decide +kernel
theorem dX12_readAny_216 : decode cX12_readAny 216 = .ok (.iload_n 1, 1) := by decide +kernel
theorem dX12_readAny_217 : decode cX12_readAny 217 = .ok (.iconst 1, 1) := by decide +kernel
theorem dX12_readAny_218 : decode cX12_readAny 218 = .ok (.isub, 1) := by decide +kernel
theorem dX12_readAny_219 : decode cX12_readAny 219 = .ok (.istore_n 1, 1) := by decide +kernel
theorem dX12_readAny_220 : decode cX12_readAny 220 = .ok (.aload_n 0, 1) := by decide +kernel
theorem dX12_readAny_221 : decode cX12_readAny 221 = .ok (.aload_n 0, 1) := by decide +kernel
theorem dX12_readAny_222 : decode cX12_readAny 222 = .ok (.getfield 222, 3) := by decide +kernel
theorem dX12_readAny_225 : decode cX12_readAny 225 = .ok (.iconst 1, 1) := by decide +kernel
theorem dX12_readAny_226 : decode cX12_readAny 226 = .ok (.isub, 1) := by decide +kernel
theorem dX12_readAny_227 : decode cX12_readAny 227 = .ok (.putfield 222, 3) := by decide +kernel
theorem dX12_readAny_230 : decode cX12_readAny 230 = .ok (.aload_n 0, 1) := by decide +kernel
theorem dX12_readAny_231 : decode cX12_readAny 231 = .ok (.bipush 9, 2) := by decide +kernel
theorem dX12_readAny_233 : decode cX12_readAny 233 = .ok (.invokevirtual 234, 3) := by decide +kernel
theorem dX12_readAny_236 : decode cX12_readAny 236 = .ok (.aload_n 0, 1) := by decide +kernel
theorem dX12_readAny_237 : decode cX12_readAny 237 = .ok (.invokevirtual 203, 3) := by decide +kernel
theorem dX12_readAny_240 : decode cX12_readAny 240 = .ok (.goto (-231), 3) := by decide +kernel
set_option maxRecDepth 100000 in
set_option maxHeartbeats 4000000 in
theorem jo_X12_readAny_78 {fr : Nat} (hfr : 7 ≤ fr) (Z : AZ) (X : AX Z cX12_readAny 4 RX12 (some .int) 1 fr) (x1 : Int32) (x2 : Int32) (t1 : Int32) (s : Mem) (q : (Int32 × Int32 × Mem) ⊕ (Nat × Mem)) (h : jn_X12_readAny_78 x1 x2 t1 s = some q) (hi : ∀ y : Int32 × Int32 × Mem, q = .inl y → AW Z y.2.2 9 [some (.ref (zr Z 0)), some (.int y.1), some (.int y.2.1), none] []) (he : ∀ b : Nat × Mem, q = .inr b → (b.1 = 0 → AW Z b.2 42 [some (.ref (zr Z 0)), none, none, none] []) ∧ (b.1 = 1 → AW Z b.2 96 [none, none, none, none] []) ∧ (b.1 = 2 → AW Z b.2 189 [none, none, none, none] []) ∧ (b.1 = 3 → AW Z b.2 200 [some (.ref (zr Z 0)), none, none, none] [])) : AW Z s 78 [some (.ref (zr Z 0)), some (.int x1), some (.int x2), none] [.int t1, .ref (zr Z 0)] := by
  unfold jn_X12_readAny_78 at h
  obtain ⟨r25, er25, h⟩ := bnd h
  refine aw_callV X dX12_readAny_78 cv_RX12_228 (ok_X12_waits er25 _ _ _ _ _) iu_RX12 rfl (Nat.le_trans (by decide) hfr) (by decide) rfl rfl (Nat.le_of_ble_eq_true rfl) ?_
  refine aw_aload_n X dX12_readAny_81 rfl ?_
  obtain ⟨r26, er26, h⟩ := bnd h
  refine aw_callV X dX12_readAny_82 cv_RX12_203 (ok_X12_reads er26 _ _ _ _ _) iu_RX12 rfl (Nat.le_trans (by decide) hfr) (by decide) rfl rfl (Nat.le_of_ble_eq_true rfl) ?_
  refine aw_goto (tgt := 9) X dX12_readAny_85 (by decide) ?_
  cases h
  refine aw_msk [true, true, true, false] ?_
  exact hi _ rfl
set_option maxRecDepth 100000 in
set_option maxHeartbeats 4000000 in
theorem jo_X12_readAny_66 {fr : Nat} (hfr : 7 ≤ fr) (Z : AZ) (X : AX Z cX12_readAny 4 RX12 (some .int) 1 fr) (x1 : Int32) (x2 : Int32) (x3 : Int32) (s : Mem) (q : (Int32 × Int32 × Mem) ⊕ (Nat × Mem)) (h : jn_X12_readAny_66 x1 x2 x3 s = some q) (hi : ∀ y : Int32 × Int32 × Mem, q = .inl y → AW Z y.2.2 9 [some (.ref (zr Z 0)), some (.int y.1), some (.int y.2.1), none] []) (he : ∀ b : Nat × Mem, q = .inr b → (b.1 = 0 → AW Z b.2 42 [some (.ref (zr Z 0)), none, none, none] []) ∧ (b.1 = 1 → AW Z b.2 96 [none, none, none, none] []) ∧ (b.1 = 2 → AW Z b.2 189 [none, none, none, none] []) ∧ (b.1 = 3 → AW Z b.2 200 [some (.ref (zr Z 0)), none, none, none] [])) : AW Z s 66 [some (.ref (zr Z 0)), some (.int x1), some (.int x2), some (.int x3)] [] := by
  unfold jn_X12_readAny_66 at h
  refine aw_aload_n X dX12_readAny_66 rfl ?_
  refine aw_iload_n X dX12_readAny_67 rfl ?_
  refine aw_if_eq (tgt := 76) X dX12_readAny_68 (by decide) (fun c24 => ?_) (fun c24 => ?_)
  · rw [if_pos c24] at h
    refine aw_bipush (v := 12) X dX12_readAny_76 (by decide) ?_
    refine aw_msk [true, true, true, false] ?_
    exact jo_X12_readAny_78 hfr Z X _ _ _ _ _ h hi he
  · rw [if_neg c24] at h
    refine aw_bipush (v := 9) X dX12_readAny_71 (by decide) ?_
    refine aw_goto (tgt := 78) X dX12_readAny_73 (by decide) ?_
    refine aw_msk [true, true, true, false] ?_
    exact jo_X12_readAny_78 hfr Z X _ _ _ _ _ h hi he
set_option maxRecDepth 100000 in
set_option maxHeartbeats 4000000 in
theorem jo_X12_readAny_33 {fr : Nat} (hfr : 7 ≤ fr) (Z : AZ) (X : AX Z cX12_readAny 4 RX12 (some .int) 1 fr) (x1 : Int32) (x2 : Int32) (x3 : Int32) (s : Mem) (q : (Int32 × Int32 × Mem) ⊕ (Nat × Mem)) (h : jn_X12_readAny_33 x1 x2 x3 s = some q) (hi : ∀ y : Int32 × Int32 × Mem, q = .inl y → AW Z y.2.2 9 [some (.ref (zr Z 0)), some (.int y.1), some (.int y.2.1), none] []) (he : ∀ b : Nat × Mem, q = .inr b → (b.1 = 0 → AW Z b.2 42 [some (.ref (zr Z 0)), none, none, none] []) ∧ (b.1 = 1 → AW Z b.2 96 [none, none, none, none] []) ∧ (b.1 = 2 → AW Z b.2 189 [none, none, none, none] []) ∧ (b.1 = 3 → AW Z b.2 200 [some (.ref (zr Z 0)), none, none, none] [])) : AW Z s 33 [some (.ref (zr Z 0)), some (.int x1), some (.int x2), some (.int x3)] [] := by
  unfold jn_X12_readAny_33 at h
  refine aw_aload_n X dX12_readAny_33 rfl ?_
  refine aw_geti X dX12_readAny_34 fl_RX12_222 iu_RX12 gu_RX12_24 ?_
  refine aw_bipush (v := 8) X dX12_readAny_37 (by decide) ?_
  refine aw_icmp_ne (tgt := 48) X dX12_readAny_39 (by decide) (fun c22 => ?_) (fun c22 => ?_)
  · rw [if_neg c22] at h
    refine aw_aload_n X dX12_readAny_48 rfl ?_
    refine aw_aload_n X dX12_readAny_49 rfl ?_
    refine aw_geti X dX12_readAny_50 fl_RX12_222 iu_RX12 gu_RX12_24 ?_
    refine aw_iconst (v := 1) X dX12_readAny_53 (by decide) ?_
    refine aw_iadd X dX12_readAny_54 ?_
    refine aw_put X dX12_readAny_55 fp_RX12_222 iu_RX12 gu_RX12_24 rfl rfl ?_
    refine aw_iload_n X dX12_readAny_58 rfl ?_
    refine aw_if_ne (tgt := 66) X dX12_readAny_59 (by decide) (fun c23 => ?_) (fun c23 => ?_)
    · rw [if_neg c23] at h
      refine aw_msk [true, true, true, true] ?_
      exact jo_X12_readAny_66 hfr Z X _ _ _ _ _ h hi he
    · rw [if_pos c23] at h
      refine aw_iload_n X dX12_readAny_62 rfl ?_
      refine aw_iconst (v := 1) X dX12_readAny_63 (by decide) ?_
      refine aw_iadd X dX12_readAny_64 ?_
      refine aw_istore_n (L' := [some (.ref (zr Z 0)), some (.int (x1 + 1)), some (.int x2), some (.int x3)]) X dX12_readAny_65 (by decide) rfl ?_
      refine aw_msk [true, true, true, true] ?_
      exact jo_X12_readAny_66 hfr Z X _ _ _ _ _ h hi he
  · rw [if_pos c22] at h
    cases h
    refine aw_msk [true, false, false, false] ?_
    exact (he _ rfl).1 rfl
set_option maxRecDepth 100000 in
set_option maxHeartbeats 4000000 in
theorem so_X12_readAny_9 {fr : Nat} (hfr : 7 ≤ fr) (Z : AZ) (X : AX Z cX12_readAny 4 RX12 (some .int) 1 fr) (x1 : Int32) (x2 : Int32) (s : Mem) (q : (Int32 × Int32 × Mem) ⊕ (Nat × Mem)) (h : st_X12_readAny_9 x1 x2 s = some q) (hi : ∀ y : Int32 × Int32 × Mem, q = .inl y → AW Z y.2.2 9 [some (.ref (zr Z 0)), some (.int y.1), some (.int y.2.1), none] []) (he : ∀ b : Nat × Mem, q = .inr b → (b.1 = 0 → AW Z b.2 42 [some (.ref (zr Z 0)), none, none, none] []) ∧ (b.1 = 1 → AW Z b.2 96 [none, none, none, none] []) ∧ (b.1 = 2 → AW Z b.2 189 [none, none, none, none] []) ∧ (b.1 = 3 → AW Z b.2 200 [some (.ref (zr Z 0)), none, none, none] [])) : AW Z s 9 [some (.ref (zr Z 0)), some (.int x1), some (.int x2), none] [] := by
  unfold st_X12_readAny_9 at h
  refine aw_iload_n X dX12_readAny_9 rfl ?_
  refine aw_if_eq (tgt := 109) X dX12_readAny_10 (by decide) (fun c1 => ?_) (fun c1 => ?_)
  · rw [if_pos c1] at h
    refine aw_aload_n X dX12_readAny_109 rfl ?_
    refine aw_iconst (v := 5) X dX12_readAny_110 (by decide) ?_
    obtain ⟨r2, er2, h⟩ := bnd h
    refine aw_callV X dX12_readAny_111 cv_RX12_225 (ok_X12_isWord er2 _ _ _ _ _) iu_RX12 rfl (Nat.le_trans (by decide) hfr) (by decide) rfl rfl (Nat.le_of_ble_eq_true rfl) ?_
    refine aw_if_eq (tgt := 138) X dX12_readAny_114 (by decide) (fun c3 => ?_) (fun c3 => ?_)
    · rw [if_pos c3] at h
      refine aw_aload_n X dX12_readAny_138 rfl ?_
      refine aw_iconst (v := 4) X dX12_readAny_139 (by decide) ?_
      obtain ⟨r4, er4, h⟩ := bnd h
      refine aw_callV X dX12_readAny_140 cv_RX12_225 (ok_X12_isWord er4 _ _ _ _ _) iu_RX12 rfl (Nat.le_trans (by decide) hfr) (by decide) rfl rfl (Nat.le_of_ble_eq_true rfl) ?_
      refine aw_if_eq (tgt := 173) X dX12_readAny_143 (by decide) (fun c5 => ?_) (fun c5 => ?_)
      · rw [if_pos c5] at h
        refine aw_aload_n X dX12_readAny_173 rfl ?_
        refine aw_bipush (v := 10) X dX12_readAny_174 (by decide) ?_
        obtain ⟨r6, er6, h⟩ := bnd h
        refine aw_callV X dX12_readAny_176 cv_RX12_234 (ok_X12_settles er6 _ _ _ _ _) iu_RX12 rfl (Nat.le_trans (by decide) hfr) (by decide) rfl rfl (Nat.le_of_ble_eq_true rfl) ?_
        refine aw_aload_n X dX12_readAny_179 rfl ?_
        refine aw_bipush (v := 11) X dX12_readAny_180 (by decide) ?_
        obtain ⟨r7, er7, h⟩ := bnd h
        refine aw_callV X dX12_readAny_182 cv_RX12_234 (ok_X12_settles er7 _ _ _ _ _) iu_RX12 rfl (Nat.le_trans (by decide) hfr) (by decide) rfl rfl (Nat.le_of_ble_eq_true rfl) ?_
        refine aw_iload_n X dX12_readAny_185 rfl ?_
        refine aw_if_ne (tgt := 191) X dX12_readAny_186 (by decide) (fun c8 => ?_) (fun c8 => ?_)
        · rw [if_neg c8] at h
          refine aw_aload_n X dX12_readAny_191 rfl ?_
          refine aw_bipush (v := 41) X dX12_readAny_192 (by decide) ?_
          obtain ⟨r9, er9, h⟩ := bnd h
          refine aw_callV X dX12_readAny_194 cv_RX12_210 (ok_X12_isSign er9 _ _ _ _ _) iu_RX12 rfl (Nat.le_trans (by decide) hfr) (by decide) rfl rfl (Nat.le_of_ble_eq_true rfl) ?_
          refine aw_if_ne (tgt := 206) X dX12_readAny_197 (by decide) (fun c10 => ?_) (fun c10 => ?_)
          · rw [if_neg c10] at h
            refine aw_aload_n X dX12_readAny_206 rfl ?_
            refine aw_aload_n X dX12_readAny_207 rfl ?_
            refine aw_geti X dX12_readAny_208 fl_RX12_219 iu_RX12 gu_RX12_26 ?_
            refine aw_iconst (v := 1) X dX12_readAny_211 (by decide) ?_
            refine aw_isub X dX12_readAny_212 ?_
            refine aw_put X dX12_readAny_213 fp_RX12_219 iu_RX12 gu_RX12_26 rfl rfl ?_
            refine aw_iload_n X dX12_readAny_216 rfl ?_
            refine aw_iconst (v := 1) X dX12_readAny_217 (by decide) ?_
            refine aw_isub X dX12_readAny_218 ?_
            refine aw_istore_n (L' := [some (.ref (zr Z 0)), some (.int (x1 - 1)), some (.int x2), none]) X dX12_readAny_219 (by decide) rfl ?_
            refine aw_aload_n X dX12_readAny_220 rfl ?_
            refine aw_aload_n X dX12_readAny_221 rfl ?_
            refine aw_geti X dX12_readAny_222 fl_RX12_222 iu_RX12 gu_RX12_24 ?_
            refine aw_iconst (v := 1) X dX12_readAny_225 (by decide) ?_
            refine aw_isub X dX12_readAny_226 ?_
            refine aw_put X dX12_readAny_227 fp_RX12_222 iu_RX12 gu_RX12_24 rfl rfl ?_
            refine aw_aload_n X dX12_readAny_230 rfl ?_
            refine aw_bipush (v := 9) X dX12_readAny_231 (by decide) ?_
            obtain ⟨r11, er11, h⟩ := bnd h
            refine aw_callV X dX12_readAny_233 cv_RX12_234 (ok_X12_settles er11 _ _ _ _ _) iu_RX12 rfl (Nat.le_trans (by decide) hfr) (by decide) rfl rfl (Nat.le_of_ble_eq_true rfl) ?_
            refine aw_aload_n X dX12_readAny_236 rfl ?_
            obtain ⟨r12, er12, h⟩ := bnd h
            refine aw_callV X dX12_readAny_237 cv_RX12_203 (ok_X12_reads er12 _ _ _ _ _) iu_RX12 rfl (Nat.le_trans (by decide) hfr) (by decide) rfl rfl (Nat.le_of_ble_eq_true rfl) ?_
            refine aw_goto (tgt := 9) X dX12_readAny_240 (by decide) ?_
            cases h
            refine aw_msk [true, true, true, false] ?_
            exact hi _ rfl
          · rw [if_pos c10] at h
            cases h
            refine aw_msk [true, false, false, false] ?_
            exact (he _ rfl).2.2.2 rfl
        · rw [if_pos c8] at h
          cases h
          refine aw_msk [false, false, false, false] ?_
          exact (he _ rfl).2.2.1 rfl
      · rw [if_neg c5] at h
        refine aw_aload_n X dX12_readAny_146 rfl ?_
        refine aw_bipush (v := 10) X dX12_readAny_147 (by decide) ?_
        obtain ⟨r13, er13, h⟩ := bnd h
        refine aw_callV X dX12_readAny_149 cv_RX12_234 (ok_X12_settles er13 _ _ _ _ _) iu_RX12 rfl (Nat.le_trans (by decide) hfr) (by decide) rfl rfl (Nat.le_of_ble_eq_true rfl) ?_
        refine aw_aload_n X dX12_readAny_152 rfl ?_
        refine aw_bipush (v := 11) X dX12_readAny_153 (by decide) ?_
        obtain ⟨r14, er14, h⟩ := bnd h
        refine aw_callV X dX12_readAny_155 cv_RX12_234 (ok_X12_settles er14 _ _ _ _ _) iu_RX12 rfl (Nat.le_trans (by decide) hfr) (by decide) rfl rfl (Nat.le_of_ble_eq_true rfl) ?_
        refine aw_aload_n X dX12_readAny_158 rfl ?_
        refine aw_bipush (v := 11) X dX12_readAny_159 (by decide) ?_
        obtain ⟨r15, er15, h⟩ := bnd h
        refine aw_callV X dX12_readAny_161 cv_RX12_228 (ok_X12_waits er15 _ _ _ _ _) iu_RX12 rfl (Nat.le_trans (by decide) hfr) (by decide) rfl rfl (Nat.le_of_ble_eq_true rfl) ?_
        refine aw_aload_n X dX12_readAny_164 rfl ?_
        obtain ⟨r16, er16, h⟩ := bnd h
        refine aw_callV X dX12_readAny_165 cv_RX12_203 (ok_X12_reads er16 _ _ _ _ _) iu_RX12 rfl (Nat.le_trans (by decide) hfr) (by decide) rfl rfl (Nat.le_of_ble_eq_true rfl) ?_
        refine aw_iconst (v := 1) X dX12_readAny_168 (by decide) ?_
        refine aw_istore_n (L' := [some (.ref (zr Z 0)), some (.int x1), some (.int 1), none]) X dX12_readAny_169 (by decide) rfl ?_
        refine aw_goto (tgt := 9) X dX12_readAny_170 (by decide) ?_
        cases h
        refine aw_msk [true, true, true, false] ?_
        exact hi _ rfl
    · rw [if_neg c3] at h
      refine aw_aload_n X dX12_readAny_117 rfl ?_
      refine aw_bipush (v := 10) X dX12_readAny_118 (by decide) ?_
      obtain ⟨r17, er17, h⟩ := bnd h
      refine aw_callV X dX12_readAny_120 cv_RX12_234 (ok_X12_settles er17 _ _ _ _ _) iu_RX12 rfl (Nat.le_trans (by decide) hfr) (by decide) rfl rfl (Nat.le_of_ble_eq_true rfl) ?_
      refine aw_aload_n X dX12_readAny_123 rfl ?_
      refine aw_bipush (v := 10) X dX12_readAny_124 (by decide) ?_
      obtain ⟨r18, er18, h⟩ := bnd h
      refine aw_callV X dX12_readAny_126 cv_RX12_228 (ok_X12_waits er18 _ _ _ _ _) iu_RX12 rfl (Nat.le_trans (by decide) hfr) (by decide) rfl rfl (Nat.le_of_ble_eq_true rfl) ?_
      refine aw_aload_n X dX12_readAny_129 rfl ?_
      obtain ⟨r19, er19, h⟩ := bnd h
      refine aw_callV X dX12_readAny_130 cv_RX12_203 (ok_X12_reads er19 _ _ _ _ _) iu_RX12 rfl (Nat.le_trans (by decide) hfr) (by decide) rfl rfl (Nat.le_of_ble_eq_true rfl) ?_
      refine aw_iconst (v := 1) X dX12_readAny_133 (by decide) ?_
      refine aw_istore_n (L' := [some (.ref (zr Z 0)), some (.int x1), some (.int 1), none]) X dX12_readAny_134 (by decide) rfl ?_
      refine aw_goto (tgt := 9) X dX12_readAny_135 (by decide) ?_
      cases h
      refine aw_msk [true, true, true, false] ?_
      exact hi _ rfl
  · rw [if_neg c1] at h
    refine aw_aload_n X dX12_readAny_13 rfl ?_
    refine aw_bipush (v := 6) X dX12_readAny_14 (by decide) ?_
    obtain ⟨r20, er20, h⟩ := bnd h
    refine aw_callV X dX12_readAny_16 cv_RX12_225 (ok_X12_isWord er20 _ _ _ _ _) iu_RX12 rfl (Nat.le_trans (by decide) hfr) (by decide) rfl rfl (Nat.le_of_ble_eq_true rfl) ?_
    refine aw_istore_n (L' := [some (.ref (zr Z 0)), some (.int x1), some (.int x2), some (.int r20.1)]) X dX12_readAny_19 (by decide) rfl ?_
    refine aw_iload_n X dX12_readAny_20 rfl ?_
    refine aw_if_ne (tgt := 33) X dX12_readAny_21 (by decide) (fun c21 => ?_) (fun c21 => ?_)
    · rw [if_neg c21] at h
      refine aw_msk [true, true, true, true] ?_
      exact jo_X12_readAny_33 hfr Z X _ _ _ _ _ h hi he
    · rw [if_pos c21] at h
      refine aw_aload_n X dX12_readAny_24 rfl ?_
      refine aw_bipush (v := 40) X dX12_readAny_25 (by decide) ?_
      obtain ⟨r27, er27, h⟩ := bnd h
      refine aw_callV X dX12_readAny_27 cv_RX12_210 (ok_X12_isSign er27 _ _ _ _ _) iu_RX12 rfl (Nat.le_trans (by decide) hfr) (by decide) rfl rfl (Nat.le_of_ble_eq_true rfl) ?_
      refine aw_if_eq (tgt := 88) X dX12_readAny_30 (by decide) (fun c28 => ?_) (fun c28 => ?_)
      · rw [if_pos c28] at h
        refine aw_aload_n X dX12_readAny_88 rfl ?_
        obtain ⟨r29, er29, h⟩ := bnd h
        refine aw_callV X dX12_readAny_89 cv_RX12_231 (ok_X12_readCompared er29 _ _ _ _ _) iu_RX12 rfl (Nat.le_trans (by decide) hfr) (by decide) rfl rfl (Nat.le_of_ble_eq_true rfl) ?_
        refine aw_iconst (v := (-1)) X dX12_readAny_92 (by decide) ?_
        refine aw_icmp_ne (tgt := 98) X dX12_readAny_93 (by decide) (fun c30 => ?_) (fun c30 => ?_)
        · rw [if_neg c30] at h
          refine aw_aload_n X dX12_readAny_98 rfl ?_
          refine aw_bipush (v := 9) X dX12_readAny_99 (by decide) ?_
          obtain ⟨r31, er31, h⟩ := bnd h
          refine aw_callV X dX12_readAny_101 cv_RX12_234 (ok_X12_settles er31 _ _ _ _ _) iu_RX12 rfl (Nat.le_trans (by decide) hfr) (by decide) rfl rfl (Nat.le_of_ble_eq_true rfl) ?_
          refine aw_iconst (v := 0) X dX12_readAny_104 (by decide) ?_
          refine aw_istore_n (L' := [some (.ref (zr Z 0)), some (.int x1), some (.int 0), some (.int r20.1)]) X dX12_readAny_105 (by decide) rfl ?_
          refine aw_goto (tgt := 9) X dX12_readAny_106 (by decide) ?_
          cases h
          refine aw_msk [true, true, true, false] ?_
          exact hi _ rfl
        · rw [if_pos c30] at h
          cases h
          refine aw_msk [false, false, false, false] ?_
          exact (he _ rfl).2.1 rfl
      · rw [if_neg c28] at h
        refine aw_msk [true, true, true, true] ?_
        exact jo_X12_readAny_33 hfr Z X _ _ _ _ _ h hi he
set_option maxRecDepth 100000 in
set_option maxHeartbeats 4000000 in
theorem w_X12_readAny {fr : Nat} (hfr : 7 ≤ fr) (Z : AZ) (X : AX Z cX12_readAny 4 RX12 (some .int) 1 fr) (s : Mem) (r : Int32 × Mem) (hz : zres Z = (some (.int r.1), r.2)) (h : f_X12_readAny s = some r) : AW Z s 0 [some (.ref (zr Z 0)), none, none, none] [] := by
  unfold f_X12_readAny at h
  refine aw_iconst (v := 0) X dX12_readAny_0 (by decide) ?_
  refine aw_istore_n (L' := [some (.ref (zr Z 0)), some (.int 0), none, none]) X dX12_readAny_1 (by decide) rfl ?_
  refine aw_aload_n X dX12_readAny_2 rfl ?_
  refine aw_iconst (v := 0) X dX12_readAny_3 (by decide) ?_
  refine aw_put X dX12_readAny_4 fp_RX12_219 iu_RX12 gu_RX12_26 rfl rfl ?_
  refine aw_iconst (v := 1) X dX12_readAny_7 (by decide) ?_
  refine aw_istore_n (L' := [some (.ref (zr Z 0)), some (.int 0), some (.int 1), none]) X dX12_readAny_8 (by decide) rfl ?_
  obtain ⟨r32, er32, h⟩ := bnd h
  refine aw_msk [true, true, true, false] ?_
  refine it_ok (P := fun y : Int32 × Int32 × Mem => AW Z y.2.2 9 [some (.ref (zr Z 0)), some (.int y.1), some (.int y.2.1), none] []) (Q := fun b : Nat × Mem => (b.1 = 0 → AW Z b.2 42 [some (.ref (zr Z 0)), none, none, none] []) ∧ (b.1 = 1 → AW Z b.2 96 [none, none, none, none] []) ∧ (b.1 = 2 → AW Z b.2 189 [none, none, none, none] []) ∧ (b.1 = 3 → AW Z b.2 200 [some (.ref (zr Z 0)), none, none, none] [])) (fun y q hq hi he => so_X12_readAny_9 hfr Z X y.1 y.2.1 y.2.2 q hq hi he) FUEL _ _ er32 ?_
  refine ⟨fun c0 => ?_, fun c1 => ?_, fun c2 => ?_, fun c3 => ?_⟩
  · rw [if_pos c0] at h
    refine aw_aload_n X dX12_readAny_42 rfl ?_
    refine aw_iconst (v := 3) X dX12_readAny_43 (by decide) ?_
    obtain ⟨r33, er33, h⟩ := bnd h
    refine aw_callV X dX12_readAny_44 cv_RX12_197 (ok_X12_errs er33 _ _ _ _ _) iu_RX12 rfl (Nat.le_trans (by decide) hfr) (by decide) rfl rfl (Nat.le_of_ble_eq_true rfl) ?_
    cases h
    exact aw_iret X dX12_readAny_47 rfl hz.symm
  · rw [if_neg (by rw [c1]; decide)] at h
    rw [if_pos c1] at h
    refine aw_iconst (v := (-1)) X dX12_readAny_96 (by decide) ?_
    cases h
    exact aw_iret X dX12_readAny_97 rfl hz.symm
  · rw [if_neg (by rw [c2]; decide)] at h
    rw [if_neg (by rw [c2]; decide)] at h
    rw [if_pos c2] at h
    refine aw_iconst (v := 0) X dX12_readAny_189 (by decide) ?_
    cases h
    exact aw_iret X dX12_readAny_190 rfl hz.symm
  · rw [if_neg (by rw [c3]; decide)] at h
    rw [if_neg (by rw [c3]; decide)] at h
    rw [if_neg (by rw [c3]; decide)] at h
    refine aw_aload_n X dX12_readAny_200 rfl ?_
    refine aw_iconst (v := 1) X dX12_readAny_201 (by decide) ?_
    obtain ⟨r34, er34, h⟩ := bnd h
    refine aw_callV X dX12_readAny_202 cv_RX12_197 (ok_X12_errs er34 _ _ _ _ _) iu_RX12 rfl (Nat.le_trans (by decide) hfr) (by decide) rfl rfl (Nat.le_of_ble_eq_true rfl) ?_
    cases h
    exact aw_iret X dX12_readAny_205 rfl hz.symm
set_option maxRecDepth 100000 in
set_option maxHeartbeats 4000000 in
theorem ok_X12_readAny {s : Mem} {r : Int32 × Mem} (h : f_X12_readAny s = some r) (l : Launch) (D : va_G) (ρ : Nat → Nat) (cA : ClassId × ClassId × ClassId) (τ : AT) : AM l D ρ cA 1 τ yX12_readAny cX12_readAny 4 (some .int) 7 [.ref (ρ 0)] (some (.int r.1)) s r.2 := by
  refine AM_of (L := [some (.ref (ρ 0)), none, none, none]) (by decide) (by simp [Value.category]) (Nat.le_of_ble_eq_true rfl) (fun j v q => ?_) (fun Z X hρ hz hτ => ?_)
  · exact aL_ok (n := 3) [.ref (ρ 0)] j v q
  · subst hρ
    subst hτ
    exact w_X12_readAny (Nat.le_refl _) Z X s r hz h

theorem dX12_isLineWord_0 : decode cX12_isLineWord 0 = .ok (.aload_n 0, 1) := by decide +kernel
theorem dX12_isLineWord_1 : decode cX12_isLineWord 1 = .ok (.getfield 166, 3) := by decide +kernel
theorem dX12_isLineWord_4 : decode cX12_isLineWord 4 = .ok (.iconst 2, 1) := by decide +kernel
theorem dX12_isLineWord_5 : decode cX12_isLineWord 5 = .ok (.if_icmp .ne 20, 3) := by decide +kernel
theorem dX12_isLineWord_8 : decode cX12_isLineWord 8 = .ok (.aload_n 0, 1) := by decide +kernel
theorem dX12_isLineWord_9 : decode cX12_isLineWord 9 = .ok (.aload_n 0, 1) := by decide +kernel
theorem dX12_isLineWord_10 : decode cX12_isLineWord 10 = .ok (.getfield 169, 3) := by decide +kernel
theorem dX12_isLineWord_13 : decode cX12_isLineWord 13 = .ok (.iconst 0, 1) := by decide +kernel
theorem dX12_isLineWord_14 : decode cX12_isLineWord 14 = .ok (.iconst 2, 1) := by decide +kernel
theorem dX12_isLineWord_15 : decode cX12_isLineWord 15 = .ok (.invokevirtual 137, 3) := by decide +kernel
theorem dX12_isLineWord_18 : decode cX12_isLineWord 18 = .ok (.ifCond .eq 7, 3) := by decide +kernel
theorem dX12_isLineWord_21 : decode cX12_isLineWord 21 = .ok (.iconst 1, 1) := by decide +kernel
theorem dX12_isLineWord_22 : decode cX12_isLineWord 22 = .ok (.goto 4, 3) := by decide +kernel
theorem dX12_isLineWord_25 : decode cX12_isLineWord 25 = .ok (.iconst 0, 1) := by decide +kernel
theorem dX12_isLineWord_26 : decode cX12_isLineWord 26 = .ok (.ireturn, 1) := by decide +kernel
set_option maxRecDepth 100000 in
set_option maxHeartbeats 4000000 in
theorem w_X12_isLineWord {fr : Nat} (hfr : 1 ≤ fr) (Z : AZ) (X : AX Z cX12_isLineWord 1 RX12 (some .boolean) 1 fr) (s : Mem) (r : Int32 × Mem) (hz : zres Z = (some (.int r.1), r.2)) (h : f_X12_isLineWord s = some r) : AW Z s 0 [some (.ref (zr Z 0))] [] := by
  unfold f_X12_isLineWord at h
  refine aw_aload_n X dX12_isLineWord_0 rfl ?_
  refine aw_geti X dX12_isLineWord_1 fl_RX12_166 iu_RX12 gu_RX12_12 ?_
  refine aw_iconst (v := 2) X dX12_isLineWord_4 (by decide) ?_
  refine aw_icmp_ne (tgt := 25) X dX12_isLineWord_5 (by decide) (fun c1 => ?_) (fun c1 => ?_)
  · rw [if_neg c1] at h
    refine aw_iconst (v := 0) X dX12_isLineWord_25 (by decide) ?_
    cases h
    exact aw_zret X dX12_isLineWord_26 rfl rfl hz.symm
  · rw [if_pos c1] at h
    refine aw_aload_n X dX12_isLineWord_8 rfl ?_
    refine aw_aload_n X dX12_isLineWord_9 rfl ?_
    refine aw_geti X dX12_isLineWord_10 fl_RX12_169 iu_RX12 gu_RX12_13 ?_
    refine aw_iconst (v := 0) X dX12_isLineWord_13 (by decide) ?_
    refine aw_iconst (v := 2) X dX12_isLineWord_14 (by decide) ?_
    obtain ⟨r2, er2, h⟩ := bnd h
    refine aw_callV X dX12_isLineWord_15 cv_RX12_137 (ok_X12_isIn er2 _ _ _ _ _) iu_RX12 rfl (Nat.le_trans (by decide) hfr) (by decide) rfl rfl (Nat.le_of_ble_eq_true rfl) ?_
    refine aw_if_eq (tgt := 25) X dX12_isLineWord_18 (by decide) (fun c3 => ?_) (fun c3 => ?_)
    · rw [if_pos c3] at h
      refine aw_iconst (v := 0) X dX12_isLineWord_25 (by decide) ?_
      cases h
      exact aw_zret X dX12_isLineWord_26 rfl rfl hz.symm
    · rw [if_neg c3] at h
      refine aw_iconst (v := 1) X dX12_isLineWord_21 (by decide) ?_
      refine aw_goto (tgt := 26) X dX12_isLineWord_22 (by decide) ?_
      cases h
      exact aw_zret X dX12_isLineWord_26 rfl rfl hz.symm
set_option maxRecDepth 100000 in
set_option maxHeartbeats 4000000 in
theorem ok_X12_isLineWord {s : Mem} {r : Int32 × Mem} (h : f_X12_isLineWord s = some r) (l : Launch) (D : va_G) (ρ : Nat → Nat) (cA : ClassId × ClassId × ClassId) (τ : AT) : AM l D ρ cA 1 τ yX12_isLineWord cX12_isLineWord 1 (some .boolean) 1 [.ref (ρ 0)] (some (.int r.1)) s r.2 := by
  refine AM_of (L := [some (.ref (ρ 0))]) (by decide) (by simp [Value.category]) (Nat.le_of_ble_eq_true rfl) (fun j v q => ?_) (fun Z X hρ hz hτ => ?_)
  · exact aL_ok (n := 0) [.ref (ρ 0)] j v q
  · subst hρ
    subst hτ
    exact w_X12_isLineWord (Nat.le_refl _) Z X s r hz h

theorem dX12_readLaw_0 : decode cX12_readLaw 0 = .ok (.iconst 0, 1) := by decide +kernel
theorem dX12_readLaw_1 : decode cX12_readLaw 1 = .ok (.istore_n 1, 1) := by decide +kernel
theorem dX12_readLaw_2 : decode cX12_readLaw 2 = .ok (.aload_n 0, 1) := by decide +kernel
theorem dX12_readLaw_3 : decode cX12_readLaw 3 = .ok (.invokevirtual 237, 3) := by decide +kernel
theorem dX12_readLaw_6 : decode cX12_readLaw 6 = .ok (.ifCond .eq 122, 3) := by decide +kernel
theorem dX12_readLaw_9 : decode cX12_readLaw 9 = .ok (.iload_n 1, 1) := by decide +kernel
theorem dX12_readLaw_10 : decode cX12_readLaw 10 = .ok (.bipush 16, 2) := by decide +kernel
theorem dX12_readLaw_12 : decode cX12_readLaw 12 = .ok (.if_icmp .ne 9, 3) := by decide +kernel
theorem dX12_readLaw_15 : decode cX12_readLaw 15 = .ok (.aload_n 0, 1) := by decide +kernel
theorem dX12_readLaw_16 : decode cX12_readLaw 16 = .ok (.iconst 3, 1) := by decide +kernel
theorem dX12_readLaw_17 : decode cX12_readLaw 17 = .ok (.invokevirtual 197, 3) := by decide +kernel
theorem dX12_readLaw_20 : decode cX12_readLaw 20 = .ok (.ireturn, 1) := by decide +kernel
theorem dX12_readLaw_21 : decode cX12_readLaw 21 = .ok (.bipush 32, 2) := by decide +kernel
theorem dX12_readLaw_23 : decode cX12_readLaw 23 = .ok (.iload_n 1, 1) := by decide +kernel
theorem dX12_readLaw_24 : decode cX12_readLaw 24 = .ok (.iadd, 1) := by decide +kernel
theorem dX12_readLaw_25 : decode cX12_readLaw 25 = .ok (.istore_n 2, 1) := by decide +kernel
theorem dX12_readLaw_26 : decode cX12_readLaw 26 = .ok (.aload_n 0, 1) := by decide +kernel
theorem dX12_readLaw_27 : decode cX12_readLaw 27 = .ok (.getfield 31, 3) := by decide +kernel
theorem dX12_readLaw_30 : decode cX12_readLaw 30 = .ok (.iload_n 2, 1) := by decide +kernel
theorem dX12_readLaw_31 : decode cX12_readLaw 31 = .ok (.aload_n 0, 1) := by decide +kernel
theorem dX12_readLaw_32 : decode cX12_readLaw 32 = .ok (.getfield 169, 3) := by decide +kernel
theorem dX12_readLaw_35 : decode cX12_readLaw 35 = .ok (.iastore, 1) := by decide +kernel
theorem dX12_readLaw_36 : decode cX12_readLaw 36 = .ok (.aload_n 0, 1) := by decide +kernel
theorem dX12_readLaw_37 : decode cX12_readLaw 37 = .ok (.invokevirtual 203, 3) := by decide +kernel
theorem dX12_readLaw_40 : decode cX12_readLaw 40 = .ok (.aload_n 0, 1) := by decide +kernel
theorem dX12_readLaw_41 : decode cX12_readLaw 41 = .ok (.getfield 34, 3) := by decide +kernel
theorem dX12_readLaw_44 : decode cX12_readLaw 44 = .ok (.iload_n 2, 1) := by decide +kernel
theorem dX12_readLaw_45 : decode cX12_readLaw 45 = .ok (.aload_n 0, 1) := by decide +kernel
theorem dX12_readLaw_46 : decode cX12_readLaw 46 = .ok (.getfield 191, 3) := by decide +kernel
theorem dX12_readLaw_49 : decode cX12_readLaw 49 = .ok (.iastore, 1) := by decide +kernel
theorem dX12_readLaw_50 : decode cX12_readLaw 50 = .ok (.aload_n 0, 1) := by decide +kernel
theorem dX12_readLaw_51 : decode cX12_readLaw 51 = .ok (.invokevirtual 216, 3) := by decide +kernel
theorem dX12_readLaw_54 : decode cX12_readLaw 54 = .ok (.iconst (-1), 1) := by decide +kernel
theorem dX12_readLaw_55 : decode cX12_readLaw 55 = .ok (.if_icmp .ne 5, 3) := by decide +kernel
theorem dX12_readLaw_58 : decode cX12_readLaw 58 = .ok (.iconst (-1), 1) := by decide +kernel
theorem dX12_readLaw_59 : decode cX12_readLaw 59 = .ok (.ireturn, 1) := by decide +kernel
theorem dX12_readLaw_60 : decode cX12_readLaw 60 = .ok (.aload_n 0, 1) := by decide +kernel
theorem dX12_readLaw_61 : decode cX12_readLaw 61 = .ok (.getfield 37, 3) := by decide +kernel
theorem dX12_readLaw_64 : decode cX12_readLaw 64 = .ok (.iload_n 2, 1) := by decide +kernel
theorem dX12_readLaw_65 : decode cX12_readLaw 65 = .ok (.aload_n 0, 1) := by decide +kernel
theorem dX12_readLaw_66 : decode cX12_readLaw 66 = .ok (.getfield 191, 3) := by decide +kernel
theorem dX12_readLaw_69 : decode cX12_readLaw 69 = .ok (.iastore, 1) := by decide +kernel
theorem dX12_readLaw_70 : decode cX12_readLaw 70 = .ok (.aload_n 0, 1) := by decide +kernel
theorem dX12_readLaw_71 : decode cX12_readLaw 71 = .ok (.iconst 3, 1) := by decide +kernel
theorem dX12_readLaw_72 : decode cX12_readLaw 72 = .ok (.invokevirtual 225, 3) := by decide +kernel
theorem dX12_readLaw_75 : decode cX12_readLaw 75 = .ok (.ifCond .eq 17, 3) := by decide +kernel
theorem dX12_readLaw_78 : decode cX12_readLaw 78 = .ok (.aload_n 0, 1) := by decide +kernel
theorem dX12_readLaw_79 : decode cX12_readLaw 79 = .ok (.invokevirtual 203, 3) := by decide +kernel
theorem dX12_readLaw_82 : decode cX12_readLaw 82 = .ok (.aload_n 0, 1) := by decide +kernel
theorem dX12_readLaw_83 : decode cX12_readLaw 83 = .ok (.invokevirtual 241, 3) := by decide +kernel
theorem dX12_readLaw_86 : decode cX12_readLaw 86 = .ok (.iconst (-1), 1) := by decide +kernel
theorem dX12_readLaw_87 : decode cX12_readLaw 87 = .ok (.if_icmp .ne 5, 3) := by decide +kernel
theorem dX12_readLaw_90 : decode cX12_readLaw 90 = .ok (.iconst (-1), 1) := by decide +kernel
theorem dX12_readLaw_91 : decode cX12_readLaw 91 = .ok (.ireturn, 1) := by decide +kernel
theorem dX12_readLaw_92 : decode cX12_readLaw 92 = .ok (.aload_n 0, 1) := by decide +kernel
theorem dX12_readLaw_93 : decode cX12_readLaw 93 = .ok (.getfield 40, 3) := by decide +kernel
theorem dX12_readLaw_96 : decode cX12_readLaw 96 = .ok (.iload_n 2, 1) := by decide +kernel
theorem dX12_readLaw_97 : decode cX12_readLaw 97 = .ok (.aload_n 0, 1) := by decide +kernel
theorem dX12_readLaw_98 : decode cX12_readLaw 98 = .ok (.getfield 191, 3) := by decide +kernel
theorem dX12_readLaw_101 : decode cX12_readLaw 101 = .ok (.iastore, 1) := by decide +kernel
theorem dX12_readLaw_102 : decode cX12_readLaw 102 = .ok (.aload_n 0, 1) := by decide +kernel
theorem dX12_readLaw_103 : decode cX12_readLaw 103 = .ok (.bipush 59, 2) := by decide +kernel
theorem dX12_readLaw_105 : decode cX12_readLaw 105 = .ok (.invokevirtual 210, 3) := by decide +kernel
theorem dX12_readLaw_108 : decode cX12_readLaw 108 = .ok (.ifCond .ne 9, 3) := by decide +kernel
theorem dX12_readLaw_111 : decode cX12_readLaw 111 = .ok (.aload_n 0, 1) := by decide +kernel
theorem dX12_readLaw_112 : decode cX12_readLaw 112 = .ok (.iconst 1, 1) := by decide +kernel
theorem dX12_readLaw_113 : decode cX12_readLaw 113 = .ok (.invokevirtual 197, 3) := by decide +kernel
theorem dX12_readLaw_116 : decode cX12_readLaw 116 = .ok (.ireturn, 1) := by decide +kernel
theorem dX12_readLaw_117 : decode cX12_readLaw 117 = .ok (.aload_n 0, 1) := by decide +kernel
theorem dX12_readLaw_118 : decode cX12_readLaw 118 = .ok (.invokevirtual 203, 3) := by decide +kernel
theorem dX12_readLaw_121 : decode cX12_readLaw 121 = .ok (.iload_n 1, 1) := by decide +kernel
theorem dX12_readLaw_122 : decode cX12_readLaw 122 = .ok (.iconst 1, 1) := by decide +kernel
theorem dX12_readLaw_123 : decode cX12_readLaw 123 = .ok (.iadd, 1) := by decide +kernel
theorem dX12_readLaw_124 : decode cX12_readLaw 124 = .ok (.istore_n 1, 1) := by decide +kernel
theorem dX12_readLaw_125 : decode cX12_readLaw 125 = .ok (.goto (-123), 3) := by decide +kernel
theorem dX12_readLaw_128 : decode cX12_readLaw 128 = .ok (.aload_n 0, 1) := by decide +kernel
theorem dX12_readLaw_129 : decode cX12_readLaw 129 = .ok (.getfield 166, 3) := by decide +kernel
theorem dX12_readLaw_132 : decode cX12_readLaw 132 = .ok (.ifCond .ne 7, 3) := by decide +kernel
theorem dX12_readLaw_135 : decode cX12_readLaw 135 = .ok (.iload_n 1, 1) := by decide +kernel
theorem dX12_readLaw_136 : decode cX12_readLaw 136 = .ok (.goto 8, 3) := by decide +kernel
theorem dX12_readLaw_139 : decode cX12_readLaw 139 = .ok (.aload_n 0, 1) := by decide +kernel
theorem dX12_readLaw_140 : decode cX12_readLaw 140 = .ok (.iconst 1, 1) := by decide +kernel
theorem dX12_readLaw_141 : decode cX12_readLaw 141 = .ok (.invokevirtual 197, 3) := by decide +kernel
theorem dX12_readLaw_144 : decode cX12_readLaw 144 = .ok (.ireturn, 1) := by decide +kernel
set_option maxRecDepth 100000 in
set_option maxHeartbeats 4000000 in
theorem jo_X12_readLaw_92 {fr : Nat} (hfr : 8 ≤ fr) (Z : AZ) (X : AX Z cX12_readLaw 3 RX12 (some .int) 1 fr) (x1 : Int32) (x2 : Int32) (s : Mem) (q : (Int32 × Mem) ⊕ (Nat × Int32 × Mem)) (h : jn_X12_readLaw_92 x1 x2 s = some q) (hi : ∀ y : Int32 × Mem, q = .inl y → AW Z y.2 2 [some (.ref (zr Z 0)), some (.int y.1), none] []) (he : ∀ b : Nat × Int32 × Mem, q = .inr b → (b.1 = 0 → AW Z b.2.2 15 [some (.ref (zr Z 0)), none, none] []) ∧ (b.1 = 1 → AW Z b.2.2 58 [none, none, none] []) ∧ (b.1 = 2 → AW Z b.2.2 90 [none, none, none] []) ∧ (b.1 = 3 → AW Z b.2.2 111 [some (.ref (zr Z 0)), none, none] []) ∧ (b.1 = 4 → AW Z b.2.2 128 [some (.ref (zr Z 0)), some (.int b.2.1), none] [])) : AW Z s 92 [some (.ref (zr Z 0)), some (.int x1), some (.int x2)] [] := by
  unfold jn_X12_readLaw_92 at h
  refine aw_aload_n X dX12_readLaw_92 rfl ?_
  refine aw_getr X dX12_readLaw_93 fl_RX12_40 iu_RX12 gu_RX12_19 ?_
  refine aw_iload_n X dX12_readLaw_96 rfl ?_
  refine aw_aload_n X dX12_readLaw_97 rfl ?_
  refine aw_geti X dX12_readLaw_98 fl_RX12_191 iu_RX12 gu_RX12_23 ?_
  obtain ⟨s12, es12, h⟩ := bnd h
  refine aw_iast X dX12_readLaw_101 iu_RX12_19 es12 ?_
  refine aw_aload_n X dX12_readLaw_102 rfl ?_
  refine aw_bipush (v := 59) X dX12_readLaw_103 (by decide) ?_
  obtain ⟨r13, er13, h⟩ := bnd h
  refine aw_callV X dX12_readLaw_105 cv_RX12_210 (ok_X12_isSign er13 _ _ _ _ _) iu_RX12 rfl (Nat.le_trans (by decide) hfr) (by decide) rfl rfl (Nat.le_of_ble_eq_true rfl) ?_
  refine aw_if_ne (tgt := 117) X dX12_readLaw_108 (by decide) (fun c14 => ?_) (fun c14 => ?_)
  · rw [if_neg c14] at h
    refine aw_aload_n X dX12_readLaw_117 rfl ?_
    obtain ⟨r15, er15, h⟩ := bnd h
    refine aw_callV X dX12_readLaw_118 cv_RX12_203 (ok_X12_reads er15 _ _ _ _ _) iu_RX12 rfl (Nat.le_trans (by decide) hfr) (by decide) rfl rfl (Nat.le_of_ble_eq_true rfl) ?_
    refine aw_iload_n X dX12_readLaw_121 rfl ?_
    refine aw_iconst (v := 1) X dX12_readLaw_122 (by decide) ?_
    refine aw_iadd X dX12_readLaw_123 ?_
    refine aw_istore_n (L' := [some (.ref (zr Z 0)), some (.int (x1 + 1)), some (.int x2)]) X dX12_readLaw_124 (by decide) rfl ?_
    refine aw_goto (tgt := 2) X dX12_readLaw_125 (by decide) ?_
    cases h
    refine aw_msk [true, true, false] ?_
    exact hi _ rfl
  · rw [if_pos c14] at h
    cases h
    refine aw_msk [true, false, false] ?_
    exact (he _ rfl).2.2.2.1 rfl
set_option maxRecDepth 100000 in
set_option maxHeartbeats 4000000 in
theorem so_X12_readLaw_2 {fr : Nat} (hfr : 8 ≤ fr) (Z : AZ) (X : AX Z cX12_readLaw 3 RX12 (some .int) 1 fr) (x1 : Int32) (s : Mem) (q : (Int32 × Mem) ⊕ (Nat × Int32 × Mem)) (h : st_X12_readLaw_2 x1 s = some q) (hi : ∀ y : Int32 × Mem, q = .inl y → AW Z y.2 2 [some (.ref (zr Z 0)), some (.int y.1), none] []) (he : ∀ b : Nat × Int32 × Mem, q = .inr b → (b.1 = 0 → AW Z b.2.2 15 [some (.ref (zr Z 0)), none, none] []) ∧ (b.1 = 1 → AW Z b.2.2 58 [none, none, none] []) ∧ (b.1 = 2 → AW Z b.2.2 90 [none, none, none] []) ∧ (b.1 = 3 → AW Z b.2.2 111 [some (.ref (zr Z 0)), none, none] []) ∧ (b.1 = 4 → AW Z b.2.2 128 [some (.ref (zr Z 0)), some (.int b.2.1), none] [])) : AW Z s 2 [some (.ref (zr Z 0)), some (.int x1), none] [] := by
  unfold st_X12_readLaw_2 at h
  refine aw_aload_n X dX12_readLaw_2 rfl ?_
  obtain ⟨r1, er1, h⟩ := bnd h
  refine aw_callV X dX12_readLaw_3 cv_RX12_237 (ok_X12_isLineWord er1 _ _ _ _ _) iu_RX12 rfl (Nat.le_trans (by decide) hfr) (by decide) rfl rfl (Nat.le_of_ble_eq_true rfl) ?_
  refine aw_if_eq (tgt := 128) X dX12_readLaw_6 (by decide) (fun c2 => ?_) (fun c2 => ?_)
  · rw [if_pos c2] at h
    cases h
    refine aw_msk [true, true, false] ?_
    exact (he _ rfl).2.2.2.2 rfl
  · rw [if_neg c2] at h
    refine aw_iload_n X dX12_readLaw_9 rfl ?_
    refine aw_bipush (v := 16) X dX12_readLaw_10 (by decide) ?_
    refine aw_icmp_ne (tgt := 21) X dX12_readLaw_12 (by decide) (fun c3 => ?_) (fun c3 => ?_)
    · rw [if_neg c3] at h
      refine aw_bipush (v := 32) X dX12_readLaw_21 (by decide) ?_
      refine aw_iload_n X dX12_readLaw_23 rfl ?_
      refine aw_iadd X dX12_readLaw_24 ?_
      refine aw_istore_n (L' := [some (.ref (zr Z 0)), some (.int x1), some (.int (32 + x1))]) X dX12_readLaw_25 (by decide) rfl ?_
      refine aw_aload_n X dX12_readLaw_26 rfl ?_
      refine aw_getr X dX12_readLaw_27 fl_RX12_31 iu_RX12 gu_RX12_16 ?_
      refine aw_iload_n X dX12_readLaw_30 rfl ?_
      refine aw_aload_n X dX12_readLaw_31 rfl ?_
      refine aw_geti X dX12_readLaw_32 fl_RX12_169 iu_RX12 gu_RX12_13 ?_
      obtain ⟨s4, es4, h⟩ := bnd h
      refine aw_iast X dX12_readLaw_35 iu_RX12_16 es4 ?_
      refine aw_aload_n X dX12_readLaw_36 rfl ?_
      obtain ⟨r5, er5, h⟩ := bnd h
      refine aw_callV X dX12_readLaw_37 cv_RX12_203 (ok_X12_reads er5 _ _ _ _ _) iu_RX12 rfl (Nat.le_trans (by decide) hfr) (by decide) rfl rfl (Nat.le_of_ble_eq_true rfl) ?_
      refine aw_aload_n X dX12_readLaw_40 rfl ?_
      refine aw_getr X dX12_readLaw_41 fl_RX12_34 iu_RX12 gu_RX12_17 ?_
      refine aw_iload_n X dX12_readLaw_44 rfl ?_
      refine aw_aload_n X dX12_readLaw_45 rfl ?_
      refine aw_geti X dX12_readLaw_46 fl_RX12_191 iu_RX12 gu_RX12_23 ?_
      obtain ⟨s6, es6, h⟩ := bnd h
      refine aw_iast X dX12_readLaw_49 iu_RX12_17 es6 ?_
      refine aw_aload_n X dX12_readLaw_50 rfl ?_
      obtain ⟨r7, er7, h⟩ := bnd h
      refine aw_callV X dX12_readLaw_51 cv_RX12_216 (ok_X12_readSum er7 _ _ _ _ _) iu_RX12 rfl (Nat.le_trans (by decide) hfr) (by decide) rfl rfl (Nat.le_of_ble_eq_true rfl) ?_
      refine aw_iconst (v := (-1)) X dX12_readLaw_54 (by decide) ?_
      refine aw_icmp_ne (tgt := 60) X dX12_readLaw_55 (by decide) (fun c8 => ?_) (fun c8 => ?_)
      · rw [if_neg c8] at h
        refine aw_aload_n X dX12_readLaw_60 rfl ?_
        refine aw_getr X dX12_readLaw_61 fl_RX12_37 iu_RX12 gu_RX12_18 ?_
        refine aw_iload_n X dX12_readLaw_64 rfl ?_
        refine aw_aload_n X dX12_readLaw_65 rfl ?_
        refine aw_geti X dX12_readLaw_66 fl_RX12_191 iu_RX12 gu_RX12_23 ?_
        obtain ⟨s9, es9, h⟩ := bnd h
        refine aw_iast X dX12_readLaw_69 iu_RX12_18 es9 ?_
        refine aw_aload_n X dX12_readLaw_70 rfl ?_
        refine aw_iconst (v := 3) X dX12_readLaw_71 (by decide) ?_
        obtain ⟨r10, er10, h⟩ := bnd h
        refine aw_callV X dX12_readLaw_72 cv_RX12_225 (ok_X12_isWord er10 _ _ _ _ _) iu_RX12 rfl (Nat.le_trans (by decide) hfr) (by decide) rfl rfl (Nat.le_of_ble_eq_true rfl) ?_
        refine aw_if_eq (tgt := 92) X dX12_readLaw_75 (by decide) (fun c11 => ?_) (fun c11 => ?_)
        · rw [if_pos c11] at h
          refine aw_msk [true, true, true] ?_
          exact jo_X12_readLaw_92 hfr Z X _ _ _ _ h hi he
        · rw [if_neg c11] at h
          refine aw_aload_n X dX12_readLaw_78 rfl ?_
          obtain ⟨r16, er16, h⟩ := bnd h
          refine aw_callV X dX12_readLaw_79 cv_RX12_203 (ok_X12_reads er16 _ _ _ _ _) iu_RX12 rfl (Nat.le_trans (by decide) hfr) (by decide) rfl rfl (Nat.le_of_ble_eq_true rfl) ?_
          refine aw_aload_n X dX12_readLaw_82 rfl ?_
          obtain ⟨r17, er17, h⟩ := bnd h
          refine aw_callV X dX12_readLaw_83 cv_RX12_241 (ok_X12_readAny er17 _ _ _ _ _) iu_RX12 rfl (Nat.le_trans (by decide) hfr) (by decide) rfl rfl (Nat.le_of_ble_eq_true rfl) ?_
          refine aw_iconst (v := (-1)) X dX12_readLaw_86 (by decide) ?_
          refine aw_icmp_ne (tgt := 92) X dX12_readLaw_87 (by decide) (fun c18 => ?_) (fun c18 => ?_)
          · rw [if_neg c18] at h
            refine aw_msk [true, true, true] ?_
            exact jo_X12_readLaw_92 hfr Z X _ _ _ _ h hi he
          · rw [if_pos c18] at h
            cases h
            refine aw_msk [false, false, false] ?_
            exact (he _ rfl).2.2.1 rfl
      · rw [if_pos c8] at h
        cases h
        refine aw_msk [false, false, false] ?_
        exact (he _ rfl).2.1 rfl
    · rw [if_pos c3] at h
      cases h
      refine aw_msk [true, false, false] ?_
      exact (he _ rfl).1 rfl
set_option maxRecDepth 100000 in
set_option maxHeartbeats 4000000 in
theorem w_X12_readLaw {fr : Nat} (hfr : 8 ≤ fr) (Z : AZ) (X : AX Z cX12_readLaw 3 RX12 (some .int) 1 fr) (s : Mem) (r : Int32 × Mem) (hz : zres Z = (some (.int r.1), r.2)) (h : f_X12_readLaw s = some r) : AW Z s 0 [some (.ref (zr Z 0)), none, none] [] := by
  unfold f_X12_readLaw at h
  refine aw_iconst (v := 0) X dX12_readLaw_0 (by decide) ?_
  refine aw_istore_n (L' := [some (.ref (zr Z 0)), some (.int 0), none]) X dX12_readLaw_1 (by decide) rfl ?_
  obtain ⟨r19, er19, h⟩ := bnd h
  refine aw_msk [true, true, false] ?_
  refine it_ok (P := fun y : Int32 × Mem => AW Z y.2 2 [some (.ref (zr Z 0)), some (.int y.1), none] []) (Q := fun b : Nat × Int32 × Mem => (b.1 = 0 → AW Z b.2.2 15 [some (.ref (zr Z 0)), none, none] []) ∧ (b.1 = 1 → AW Z b.2.2 58 [none, none, none] []) ∧ (b.1 = 2 → AW Z b.2.2 90 [none, none, none] []) ∧ (b.1 = 3 → AW Z b.2.2 111 [some (.ref (zr Z 0)), none, none] []) ∧ (b.1 = 4 → AW Z b.2.2 128 [some (.ref (zr Z 0)), some (.int b.2.1), none] [])) (fun y q hq hi he => so_X12_readLaw_2 hfr Z X y.1 y.2 q hq hi he) FUEL _ _ er19 ?_
  refine ⟨fun c0 => ?_, fun c1 => ?_, fun c2 => ?_, fun c3 => ?_, fun c4 => ?_⟩
  · rw [if_pos c0] at h
    refine aw_aload_n X dX12_readLaw_15 rfl ?_
    refine aw_iconst (v := 3) X dX12_readLaw_16 (by decide) ?_
    obtain ⟨r20, er20, h⟩ := bnd h
    refine aw_callV X dX12_readLaw_17 cv_RX12_197 (ok_X12_errs er20 _ _ _ _ _) iu_RX12 rfl (Nat.le_trans (by decide) hfr) (by decide) rfl rfl (Nat.le_of_ble_eq_true rfl) ?_
    cases h
    exact aw_iret X dX12_readLaw_20 rfl hz.symm
  · rw [if_neg (by rw [c1]; decide)] at h
    rw [if_pos c1] at h
    refine aw_iconst (v := (-1)) X dX12_readLaw_58 (by decide) ?_
    cases h
    exact aw_iret X dX12_readLaw_59 rfl hz.symm
  · rw [if_neg (by rw [c2]; decide)] at h
    rw [if_neg (by rw [c2]; decide)] at h
    rw [if_pos c2] at h
    refine aw_iconst (v := (-1)) X dX12_readLaw_90 (by decide) ?_
    cases h
    exact aw_iret X dX12_readLaw_91 rfl hz.symm
  · rw [if_neg (by rw [c3]; decide)] at h
    rw [if_neg (by rw [c3]; decide)] at h
    rw [if_neg (by rw [c3]; decide)] at h
    rw [if_pos c3] at h
    refine aw_aload_n X dX12_readLaw_111 rfl ?_
    refine aw_iconst (v := 1) X dX12_readLaw_112 (by decide) ?_
    obtain ⟨r21, er21, h⟩ := bnd h
    refine aw_callV X dX12_readLaw_113 cv_RX12_197 (ok_X12_errs er21 _ _ _ _ _) iu_RX12 rfl (Nat.le_trans (by decide) hfr) (by decide) rfl rfl (Nat.le_of_ble_eq_true rfl) ?_
    cases h
    exact aw_iret X dX12_readLaw_116 rfl hz.symm
  · rw [if_neg (by rw [c4]; decide)] at h
    rw [if_neg (by rw [c4]; decide)] at h
    rw [if_neg (by rw [c4]; decide)] at h
    rw [if_neg (by rw [c4]; decide)] at h
    refine aw_aload_n X dX12_readLaw_128 rfl ?_
    refine aw_geti X dX12_readLaw_129 fl_RX12_166 iu_RX12 gu_RX12_12 ?_
    refine aw_if_ne (tgt := 139) X dX12_readLaw_132 (by decide) (fun c22 => ?_) (fun c22 => ?_)
    · rw [if_neg c22] at h
      refine aw_aload_n X dX12_readLaw_139 rfl ?_
      refine aw_iconst (v := 1) X dX12_readLaw_140 (by decide) ?_
      obtain ⟨r23, er23, h⟩ := bnd h
      refine aw_callV X dX12_readLaw_141 cv_RX12_197 (ok_X12_errs er23 _ _ _ _ _) iu_RX12 rfl (Nat.le_trans (by decide) hfr) (by decide) rfl rfl (Nat.le_of_ble_eq_true rfl) ?_
      cases h
      exact aw_iret X dX12_readLaw_144 rfl hz.symm
    · rw [if_pos c22] at h
      refine aw_iload_n X dX12_readLaw_135 rfl ?_
      refine aw_goto (tgt := 144) X dX12_readLaw_136 (by decide) ?_
      cases h
      exact aw_iret X dX12_readLaw_144 rfl hz.symm
set_option maxRecDepth 100000 in
set_option maxHeartbeats 4000000 in
theorem ok_X12_readLaw {s : Mem} {r : Int32 × Mem} (h : f_X12_readLaw s = some r) (l : Launch) (D : va_G) (ρ : Nat → Nat) (cA : ClassId × ClassId × ClassId) (τ : AT) : AM l D ρ cA 1 τ yX12_readLaw cX12_readLaw 3 (some .int) 8 [.ref (ρ 0)] (some (.int r.1)) s r.2 := by
  refine AM_of (L := [some (.ref (ρ 0)), none, none]) (by decide) (by simp [Value.category]) (Nat.le_of_ble_eq_true rfl) (fun j v q => ?_) (fun Z X hρ hz hτ => ?_)
  · exact aL_ok (n := 2) [.ref (ρ 0)] j v q
  · subst hρ
    subst hτ
    exact w_X12_readLaw (Nat.le_refl _) Z X s r hz h

theorem dX12_takesLaw_0 : decode cX12_takesLaw 0 = .ok (.iconst 0, 1) := by decide +kernel
theorem dX12_takesLaw_1 : decode cX12_takesLaw 1 = .ok (.istore_n 2, 1) := by decide +kernel
theorem dX12_takesLaw_2 : decode cX12_takesLaw 2 = .ok (.iload_n 2, 1) := by decide +kernel
theorem dX12_takesLaw_3 : decode cX12_takesLaw 3 = .ok (.iload_n 1, 1) := by decide +kernel
theorem dX12_takesLaw_4 : decode cX12_takesLaw 4 = .ok (.if_icmp .ge 101, 3) := by decide +kernel
theorem dX12_takesLaw_7 : decode cX12_takesLaw 7 = .ok (.aload_n 0, 1) := by decide +kernel
theorem dX12_takesLaw_8 : decode cX12_takesLaw 8 = .ok (.getfield 31, 3) := by decide +kernel
theorem dX12_takesLaw_11 : decode cX12_takesLaw 11 = .ok (.bipush 16, 2) := by decide +kernel
theorem dX12_takesLaw_13 : decode cX12_takesLaw 13 = .ok (.aload_n 0, 1) := by decide +kernel
theorem dX12_takesLaw_14 : decode cX12_takesLaw 14 = .ok (.getfield 244, 3) := by decide +kernel
theorem dX12_takesLaw_17 : decode cX12_takesLaw 17 = .ok (.imul, 1) := by decide +kernel
theorem dX12_takesLaw_18 : decode cX12_takesLaw 18 = .ok (.iload_n 2, 1) := by decide +kernel
theorem dX12_takesLaw_19 : decode cX12_takesLaw 19 = .ok (.iadd, 1) := by decide +kernel
theorem dX12_takesLaw_20 : decode cX12_takesLaw 20 = .ok (.aload_n 0, 1) := by decide +kernel
theorem dX12_takesLaw_21 : decode cX12_takesLaw 21 = .ok (.getfield 31, 3) := by decide +kernel
theorem dX12_takesLaw_24 : decode cX12_takesLaw 24 = .ok (.bipush 32, 2) := by decide +kernel
theorem dX12_takesLaw_26 : decode cX12_takesLaw 26 = .ok (.iload_n 2, 1) := by decide +kernel
theorem dX12_takesLaw_27 : decode cX12_takesLaw 27 = .ok (.iadd, 1) := by decide +kernel
theorem dX12_takesLaw_28 : decode cX12_takesLaw 28 = .ok (.iaload, 1) := by decide +kernel
theorem dX12_takesLaw_29 : decode cX12_takesLaw 29 = .ok (.iastore, 1) := by decide +kernel
theorem dX12_takesLaw_30 : decode cX12_takesLaw 30 = .ok (.aload_n 0, 1) := by decide +kernel
theorem dX12_takesLaw_31 : decode cX12_takesLaw 31 = .ok (.getfield 34, 3) := by decide +kernel
theorem dX12_takesLaw_34 : decode cX12_takesLaw 34 = .ok (.bipush 16, 2) := by decide +kernel
theorem dX12_takesLaw_36 : decode cX12_takesLaw 36 = .ok (.aload_n 0, 1) := by decide +kernel
theorem dX12_takesLaw_37 : decode cX12_takesLaw 37 = .ok (.getfield 244, 3) := by decide +kernel
theorem dX12_takesLaw_40 : decode cX12_takesLaw 40 = .ok (.imul, 1) := by decide +kernel
theorem dX12_takesLaw_41 : decode cX12_takesLaw 41 = .ok (.iload_n 2, 1) := by decide +kernel
theorem dX12_takesLaw_42 : decode cX12_takesLaw 42 = .ok (.iadd, 1) := by decide +kernel
theorem dX12_takesLaw_43 : decode cX12_takesLaw 43 = .ok (.aload_n 0, 1) := by decide +kernel
theorem dX12_takesLaw_44 : decode cX12_takesLaw 44 = .ok (.getfield 34, 3) := by decide +kernel
theorem dX12_takesLaw_47 : decode cX12_takesLaw 47 = .ok (.bipush 32, 2) := by decide +kernel
theorem dX12_takesLaw_49 : decode cX12_takesLaw 49 = .ok (.iload_n 2, 1) := by decide +kernel
theorem dX12_takesLaw_50 : decode cX12_takesLaw 50 = .ok (.iadd, 1) := by decide +kernel
theorem dX12_takesLaw_51 : decode cX12_takesLaw 51 = .ok (.iaload, 1) := by decide +kernel
theorem dX12_takesLaw_52 : decode cX12_takesLaw 52 = .ok (.iastore, 1) := by decide +kernel
theorem dX12_takesLaw_53 : decode cX12_takesLaw 53 = .ok (.aload_n 0, 1) := by decide +kernel
theorem dX12_takesLaw_54 : decode cX12_takesLaw 54 = .ok (.getfield 37, 3) := by decide +kernel
theorem dX12_takesLaw_57 : decode cX12_takesLaw 57 = .ok (.bipush 16, 2) := by decide +kernel
theorem dX12_takesLaw_59 : decode cX12_takesLaw 59 = .ok (.aload_n 0, 1) := by decide +kernel
theorem dX12_takesLaw_60 : decode cX12_takesLaw 60 = .ok (.getfield 244, 3) := by decide +kernel
theorem dX12_takesLaw_63 : decode cX12_takesLaw 63 = .ok (.imul, 1) := by decide +kernel
theorem dX12_takesLaw_64 : decode cX12_takesLaw 64 = .ok (.iload_n 2, 1) := by decide +kernel
theorem dX12_takesLaw_65 : decode cX12_takesLaw 65 = .ok (.iadd, 1) := by decide +kernel
theorem dX12_takesLaw_66 : decode cX12_takesLaw 66 = .ok (.aload_n 0, 1) := by decide +kernel
theorem dX12_takesLaw_67 : decode cX12_takesLaw 67 = .ok (.getfield 37, 3) := by decide +kernel
theorem dX12_takesLaw_70 : decode cX12_takesLaw 70 = .ok (.bipush 32, 2) := by decide +kernel
theorem dX12_takesLaw_72 : decode cX12_takesLaw 72 = .ok (.iload_n 2, 1) := by decide +kernel
theorem dX12_takesLaw_73 : decode cX12_takesLaw 73 = .ok (.iadd, 1) := by decide +kernel
theorem dX12_takesLaw_74 : decode cX12_takesLaw 74 = .ok (.iaload, 1) := by decide +kernel
theorem dX12_takesLaw_75 : decode cX12_takesLaw 75 = .ok (.iastore, 1) := by decide +kernel
theorem dX12_takesLaw_76 : decode cX12_takesLaw 76 = .ok (.aload_n 0, 1) := by decide +kernel
theorem dX12_takesLaw_77 : decode cX12_takesLaw 77 = .ok (.getfield 40, 3) := by decide +kernel
theorem dX12_takesLaw_80 : decode cX12_takesLaw 80 = .ok (.bipush 16, 2) := by decide +kernel
theorem dX12_takesLaw_82 : decode cX12_takesLaw 82 = .ok (.aload_n 0, 1) := by decide +kernel
theorem dX12_takesLaw_83 : decode cX12_takesLaw 83 = .ok (.getfield 244, 3) := by decide +kernel
theorem dX12_takesLaw_86 : decode cX12_takesLaw 86 = .ok (.imul, 1) := by decide +kernel
theorem dX12_takesLaw_87 : decode cX12_takesLaw 87 = .ok (.iload_n 2, 1) := by decide +kernel
theorem dX12_takesLaw_88 : decode cX12_takesLaw 88 = .ok (.iadd, 1) := by decide +kernel
theorem dX12_takesLaw_89 : decode cX12_takesLaw 89 = .ok (.aload_n 0, 1) := by decide +kernel
theorem dX12_takesLaw_90 : decode cX12_takesLaw 90 = .ok (.getfield 40, 3) := by decide +kernel
theorem dX12_takesLaw_93 : decode cX12_takesLaw 93 = .ok (.bipush 32, 2) := by decide +kernel
theorem dX12_takesLaw_95 : decode cX12_takesLaw 95 = .ok (.iload_n 2, 1) := by decide +kernel
theorem dX12_takesLaw_96 : decode cX12_takesLaw 96 = .ok (.iadd, 1) := by decide +kernel
theorem dX12_takesLaw_97 : decode cX12_takesLaw 97 = .ok (.iaload, 1) := by decide +kernel
theorem dX12_takesLaw_98 : decode cX12_takesLaw 98 = .ok (.iastore, 1) := by decide +kernel
theorem dX12_takesLaw_99 : decode cX12_takesLaw 99 = .ok (.iinc 2 1, 3) := by decide +kernel
theorem dX12_takesLaw_102 : decode cX12_takesLaw 102 = .ok (.goto (-100), 3) := by decide +kernel
theorem dX12_takesLaw_105 : decode cX12_takesLaw 105 = .ok (.iconst 0, 1) := by decide +kernel
theorem dX12_takesLaw_106 : decode cX12_takesLaw 106 = .ok (.istore_n 2, 1) := by decide +kernel
theorem dX12_takesLaw_107 : decode cX12_takesLaw 107 = .ok (.iload_n 2, 1) := by decide +kernel
theorem dX12_takesLaw_108 : decode cX12_takesLaw 108 = .ok (.aload_n 0, 1) := by decide +kernel
theorem dX12_takesLaw_109 : decode cX12_takesLaw 109 = .ok (.getfield 191, 3) := by decide +kernel
theorem dX12_takesLaw_112 : decode cX12_takesLaw 112 = .ok (.if_icmp .ge 59, 3) := by decide +kernel
theorem dX12_takesLaw_115 : decode cX12_takesLaw 115 = .ok (.aload_n 0, 1) := by decide +kernel
theorem dX12_takesLaw_116 : decode cX12_takesLaw 116 = .ok (.getfield 43, 3) := by decide +kernel
theorem dX12_takesLaw_119 : decode cX12_takesLaw 119 = .ok (.sipush 400, 3) := by decide +kernel
theorem dX12_takesLaw_122 : decode cX12_takesLaw 122 = .ok (.aload_n 0, 1) := by decide +kernel
theorem dX12_takesLaw_123 : decode cX12_takesLaw 123 = .ok (.getfield 244, 3) := by decide +kernel
theorem dX12_takesLaw_126 : decode cX12_takesLaw 126 = .ok (.imul, 1) := by decide +kernel
theorem dX12_takesLaw_127 : decode cX12_takesLaw 127 = .ok (.iload_n 2, 1) := by decide +kernel
theorem dX12_takesLaw_128 : decode cX12_takesLaw 128 = .ok (.iadd, 1) := by decide +kernel
theorem dX12_takesLaw_129 : decode cX12_takesLaw 129 = .ok (.aload_n 0, 1) := by decide +kernel
theorem dX12_takesLaw_130 : decode cX12_takesLaw 130 = .ok (.getfield 43, 3) := by decide +kernel
theorem dX12_takesLaw_133 : decode cX12_takesLaw 133 = .ok (.sipush 800, 3) := by decide +kernel
theorem dX12_takesLaw_136 : decode cX12_takesLaw 136 = .ok (.iload_n 2, 1) := by decide +kernel
theorem dX12_takesLaw_137 : decode cX12_takesLaw 137 = .ok (.iadd, 1) := by decide +kernel
theorem dX12_takesLaw_138 : decode cX12_takesLaw 138 = .ok (.iaload, 1) := by decide +kernel
theorem dX12_takesLaw_139 : decode cX12_takesLaw 139 = .ok (.iastore, 1) := by decide +kernel
theorem dX12_takesLaw_140 : decode cX12_takesLaw 140 = .ok (.aload_n 0, 1) := by decide +kernel
theorem dX12_takesLaw_141 : decode cX12_takesLaw 141 = .ok (.getfield 46, 3) := by decide +kernel
theorem dX12_takesLaw_144 : decode cX12_takesLaw 144 = .ok (.sipush 400, 3) := by decide +kernel
theorem dX12_takesLaw_147 : decode cX12_takesLaw 147 = .ok (.aload_n 0, 1) := by decide +kernel
theorem dX12_takesLaw_148 : decode cX12_takesLaw 148 = .ok (.getfield 244, 3) := by decide +kernel
theorem dX12_takesLaw_151 : decode cX12_takesLaw 151 = .ok (.imul, 1) := by decide +kernel
theorem dX12_takesLaw_152 : decode cX12_takesLaw 152 = .ok (.iload_n 2, 1) := by decide +kernel
theorem dX12_takesLaw_153 : decode cX12_takesLaw 153 = .ok (.iadd, 1) := by decide +kernel
theorem dX12_takesLaw_154 : decode cX12_takesLaw 154 = .ok (.aload_n 0, 1) := by decide +kernel
theorem dX12_takesLaw_155 : decode cX12_takesLaw 155 = .ok (.getfield 46, 3) := by decide +kernel
theorem dX12_takesLaw_158 : decode cX12_takesLaw 158 = .ok (.sipush 800, 3) := by decide +kernel
theorem dX12_takesLaw_161 : decode cX12_takesLaw 161 = .ok (.iload_n 2, 1) := by decide +kernel
theorem dX12_takesLaw_162 : decode cX12_takesLaw 162 = .ok (.iadd, 1) := by decide +kernel
theorem dX12_takesLaw_163 : decode cX12_takesLaw 163 = .ok (.iaload, 1) := by decide +kernel
theorem dX12_takesLaw_164 : decode cX12_takesLaw 164 = .ok (.iastore, 1) := by decide +kernel
theorem dX12_takesLaw_165 : decode cX12_takesLaw 165 = .ok (.iinc 2 1, 3) := by decide +kernel
theorem dX12_takesLaw_168 : decode cX12_takesLaw 168 = .ok (.goto (-61), 3) := by decide +kernel
theorem dX12_takesLaw_171 : decode cX12_takesLaw 171 = .ok (.aload_n 0, 1) := by decide +kernel
theorem dX12_takesLaw_172 : decode cX12_takesLaw 172 = .ok (.getfield 28, 3) := by decide +kernel
theorem dX12_takesLaw_175 : decode cX12_takesLaw 175 = .ok (.aload_n 0, 1) := by decide +kernel
theorem dX12_takesLaw_176 : decode cX12_takesLaw 176 = .ok (.getfield 244, 3) := by decide +kernel
theorem dX12_takesLaw_179 : decode cX12_takesLaw 179 = .ok (.iload_n 1, 1) := by decide +kernel
theorem dX12_takesLaw_180 : decode cX12_takesLaw 180 = .ok (.iastore, 1) := by decide +kernel
theorem dX12_takesLaw_181 : decode cX12_takesLaw 181 = .ok (.return_, 1) := by decide +kernel
set_option maxRecDepth 100000 in
set_option maxHeartbeats 4000000 in
theorem so_X12_takesLaw_2 {fr : Nat} (hfr : 0 ≤ fr) (Z : AZ) (X : AX Z cX12_takesLaw 3 RX12 none 1 fr) (x1 : Int32) (x2 : Int32) (s : Mem) (q : (Int32 × Mem) ⊕ (Mem)) (h : st_X12_takesLaw_2 x1 x2 s = some q) (hi : ∀ y : Int32 × Mem, q = .inl y → AW Z y.2 2 [some (.ref (zr Z 0)), some (.int x1), some (.int y.1)] []) (he : ∀ b : Mem, q = .inr b → AW Z b 105 [some (.ref (zr Z 0)), some (.int x1), none] []) : AW Z s 2 [some (.ref (zr Z 0)), some (.int x1), some (.int x2)] [] := by
  unfold st_X12_takesLaw_2 at h
  refine aw_iload_n X dX12_takesLaw_2 rfl ?_
  refine aw_iload_n X dX12_takesLaw_3 rfl ?_
  refine aw_icmp_ge (tgt := 105) X dX12_takesLaw_4 (by decide) (fun c1 => ?_) (fun c1 => ?_)
  · rw [if_pos c1] at h
    cases h
    refine aw_msk [true, true, false] ?_
    exact he _ rfl
  · rw [if_neg c1] at h
    refine aw_aload_n X dX12_takesLaw_7 rfl ?_
    refine aw_getr X dX12_takesLaw_8 fl_RX12_31 iu_RX12 gu_RX12_16 ?_
    refine aw_bipush (v := 16) X dX12_takesLaw_11 (by decide) ?_
    refine aw_aload_n X dX12_takesLaw_13 rfl ?_
    refine aw_geti X dX12_takesLaw_14 fl_RX12_244 iu_RX12 gu_RX12_22 ?_
    refine aw_imul X dX12_takesLaw_17 ?_
    refine aw_iload_n X dX12_takesLaw_18 rfl ?_
    refine aw_iadd X dX12_takesLaw_19 ?_
    refine aw_aload_n X dX12_takesLaw_20 rfl ?_
    refine aw_getr X dX12_takesLaw_21 fl_RX12_31 iu_RX12 gu_RX12_16 ?_
    refine aw_bipush (v := 32) X dX12_takesLaw_24 (by decide) ?_
    refine aw_iload_n X dX12_takesLaw_26 rfl ?_
    refine aw_iadd X dX12_takesLaw_27 ?_
    obtain ⟨v2, ev2, h⟩ := bnd h
    refine aw_iald X dX12_takesLaw_28 iu_RX12_16 ev2 ?_
    obtain ⟨s3, es3, h⟩ := bnd h
    refine aw_iast X dX12_takesLaw_29 iu_RX12_16 es3 ?_
    refine aw_aload_n X dX12_takesLaw_30 rfl ?_
    refine aw_getr X dX12_takesLaw_31 fl_RX12_34 iu_RX12 gu_RX12_17 ?_
    refine aw_bipush (v := 16) X dX12_takesLaw_34 (by decide) ?_
    refine aw_aload_n X dX12_takesLaw_36 rfl ?_
    refine aw_geti X dX12_takesLaw_37 fl_RX12_244 iu_RX12 gu_RX12_22 ?_
    refine aw_imul X dX12_takesLaw_40 ?_
    refine aw_iload_n X dX12_takesLaw_41 rfl ?_
    refine aw_iadd X dX12_takesLaw_42 ?_
    refine aw_aload_n X dX12_takesLaw_43 rfl ?_
    refine aw_getr X dX12_takesLaw_44 fl_RX12_34 iu_RX12 gu_RX12_17 ?_
    refine aw_bipush (v := 32) X dX12_takesLaw_47 (by decide) ?_
    refine aw_iload_n X dX12_takesLaw_49 rfl ?_
    refine aw_iadd X dX12_takesLaw_50 ?_
    obtain ⟨v4, ev4, h⟩ := bnd h
    refine aw_iald X dX12_takesLaw_51 iu_RX12_17 ev4 ?_
    obtain ⟨s5, es5, h⟩ := bnd h
    refine aw_iast X dX12_takesLaw_52 iu_RX12_17 es5 ?_
    refine aw_aload_n X dX12_takesLaw_53 rfl ?_
    refine aw_getr X dX12_takesLaw_54 fl_RX12_37 iu_RX12 gu_RX12_18 ?_
    refine aw_bipush (v := 16) X dX12_takesLaw_57 (by decide) ?_
    refine aw_aload_n X dX12_takesLaw_59 rfl ?_
    refine aw_geti X dX12_takesLaw_60 fl_RX12_244 iu_RX12 gu_RX12_22 ?_
    refine aw_imul X dX12_takesLaw_63 ?_
    refine aw_iload_n X dX12_takesLaw_64 rfl ?_
    refine aw_iadd X dX12_takesLaw_65 ?_
    refine aw_aload_n X dX12_takesLaw_66 rfl ?_
    refine aw_getr X dX12_takesLaw_67 fl_RX12_37 iu_RX12 gu_RX12_18 ?_
    refine aw_bipush (v := 32) X dX12_takesLaw_70 (by decide) ?_
    refine aw_iload_n X dX12_takesLaw_72 rfl ?_
    refine aw_iadd X dX12_takesLaw_73 ?_
    obtain ⟨v6, ev6, h⟩ := bnd h
    refine aw_iald X dX12_takesLaw_74 iu_RX12_18 ev6 ?_
    obtain ⟨s7, es7, h⟩ := bnd h
    refine aw_iast X dX12_takesLaw_75 iu_RX12_18 es7 ?_
    refine aw_aload_n X dX12_takesLaw_76 rfl ?_
    refine aw_getr X dX12_takesLaw_77 fl_RX12_40 iu_RX12 gu_RX12_19 ?_
    refine aw_bipush (v := 16) X dX12_takesLaw_80 (by decide) ?_
    refine aw_aload_n X dX12_takesLaw_82 rfl ?_
    refine aw_geti X dX12_takesLaw_83 fl_RX12_244 iu_RX12 gu_RX12_22 ?_
    refine aw_imul X dX12_takesLaw_86 ?_
    refine aw_iload_n X dX12_takesLaw_87 rfl ?_
    refine aw_iadd X dX12_takesLaw_88 ?_
    refine aw_aload_n X dX12_takesLaw_89 rfl ?_
    refine aw_getr X dX12_takesLaw_90 fl_RX12_40 iu_RX12 gu_RX12_19 ?_
    refine aw_bipush (v := 32) X dX12_takesLaw_93 (by decide) ?_
    refine aw_iload_n X dX12_takesLaw_95 rfl ?_
    refine aw_iadd X dX12_takesLaw_96 ?_
    obtain ⟨v8, ev8, h⟩ := bnd h
    refine aw_iald X dX12_takesLaw_97 iu_RX12_19 ev8 ?_
    obtain ⟨s9, es9, h⟩ := bnd h
    refine aw_iast X dX12_takesLaw_98 iu_RX12_19 es9 ?_
    refine aw_iinc (v := (x2 + 1)) (L' := [some (.ref (zr Z 0)), some (.int x1), some (.int (x2 + 1))]) X dX12_takesLaw_99 rfl rfl (by decide) rfl ?_
    refine aw_goto (tgt := 2) X dX12_takesLaw_102 (by decide) ?_
    cases h
    refine aw_msk [true, true, true] ?_
    exact hi _ rfl
set_option maxRecDepth 100000 in
set_option maxHeartbeats 4000000 in
theorem so_X12_takesLaw_107 {fr : Nat} (hfr : 0 ≤ fr) (Z : AZ) (X : AX Z cX12_takesLaw 3 RX12 none 1 fr) (x1 : Int32) (x2 : Int32) (s : Mem) (q : (Int32 × Mem) ⊕ (Mem)) (h : st_X12_takesLaw_107 x1 x2 s = some q) (hi : ∀ y : Int32 × Mem, q = .inl y → AW Z y.2 107 [some (.ref (zr Z 0)), some (.int x1), some (.int y.1)] []) (he : ∀ b : Mem, q = .inr b → AW Z b 171 [some (.ref (zr Z 0)), some (.int x1), none] []) : AW Z s 107 [some (.ref (zr Z 0)), some (.int x1), some (.int x2)] [] := by
  unfold st_X12_takesLaw_107 at h
  refine aw_iload_n X dX12_takesLaw_107 rfl ?_
  refine aw_aload_n X dX12_takesLaw_108 rfl ?_
  refine aw_geti X dX12_takesLaw_109 fl_RX12_191 iu_RX12 gu_RX12_23 ?_
  refine aw_icmp_ge (tgt := 171) X dX12_takesLaw_112 (by decide) (fun c11 => ?_) (fun c11 => ?_)
  · rw [if_pos c11] at h
    cases h
    refine aw_msk [true, true, false] ?_
    exact he _ rfl
  · rw [if_neg c11] at h
    refine aw_aload_n X dX12_takesLaw_115 rfl ?_
    refine aw_getr X dX12_takesLaw_116 fl_RX12_43 iu_RX12 gu_RX12_20 ?_
    refine aw_sipush (v := 400) X dX12_takesLaw_119 (by decide) ?_
    refine aw_aload_n X dX12_takesLaw_122 rfl ?_
    refine aw_geti X dX12_takesLaw_123 fl_RX12_244 iu_RX12 gu_RX12_22 ?_
    refine aw_imul X dX12_takesLaw_126 ?_
    refine aw_iload_n X dX12_takesLaw_127 rfl ?_
    refine aw_iadd X dX12_takesLaw_128 ?_
    refine aw_aload_n X dX12_takesLaw_129 rfl ?_
    refine aw_getr X dX12_takesLaw_130 fl_RX12_43 iu_RX12 gu_RX12_20 ?_
    refine aw_sipush (v := 800) X dX12_takesLaw_133 (by decide) ?_
    refine aw_iload_n X dX12_takesLaw_136 rfl ?_
    refine aw_iadd X dX12_takesLaw_137 ?_
    obtain ⟨v12, ev12, h⟩ := bnd h
    refine aw_iald X dX12_takesLaw_138 iu_RX12_20 ev12 ?_
    obtain ⟨s13, es13, h⟩ := bnd h
    refine aw_iast X dX12_takesLaw_139 iu_RX12_20 es13 ?_
    refine aw_aload_n X dX12_takesLaw_140 rfl ?_
    refine aw_getr X dX12_takesLaw_141 fl_RX12_46 iu_RX12 gu_RX12_21 ?_
    refine aw_sipush (v := 400) X dX12_takesLaw_144 (by decide) ?_
    refine aw_aload_n X dX12_takesLaw_147 rfl ?_
    refine aw_geti X dX12_takesLaw_148 fl_RX12_244 iu_RX12 gu_RX12_22 ?_
    refine aw_imul X dX12_takesLaw_151 ?_
    refine aw_iload_n X dX12_takesLaw_152 rfl ?_
    refine aw_iadd X dX12_takesLaw_153 ?_
    refine aw_aload_n X dX12_takesLaw_154 rfl ?_
    refine aw_getr X dX12_takesLaw_155 fl_RX12_46 iu_RX12 gu_RX12_21 ?_
    refine aw_sipush (v := 800) X dX12_takesLaw_158 (by decide) ?_
    refine aw_iload_n X dX12_takesLaw_161 rfl ?_
    refine aw_iadd X dX12_takesLaw_162 ?_
    obtain ⟨v14, ev14, h⟩ := bnd h
    refine aw_iald X dX12_takesLaw_163 iu_RX12_21 ev14 ?_
    obtain ⟨s15, es15, h⟩ := bnd h
    refine aw_iast X dX12_takesLaw_164 iu_RX12_21 es15 ?_
    refine aw_iinc (v := (x2 + 1)) (L' := [some (.ref (zr Z 0)), some (.int x1), some (.int (x2 + 1))]) X dX12_takesLaw_165 rfl rfl (by decide) rfl ?_
    refine aw_goto (tgt := 107) X dX12_takesLaw_168 (by decide) ?_
    cases h
    refine aw_msk [true, true, true] ?_
    exact hi _ rfl
set_option maxRecDepth 100000 in
set_option maxHeartbeats 4000000 in
theorem w_X12_takesLaw {fr : Nat} (hfr : 0 ≤ fr) (Z : AZ) (X : AX Z cX12_takesLaw 3 RX12 none 1 fr) (x1 : Int32) (s : Mem) (r : Mem) (hz : zres Z = (none, r)) (h : f_X12_takesLaw x1 s = some r) : AW Z s 0 [some (.ref (zr Z 0)), some (.int x1), none] [] := by
  unfold f_X12_takesLaw at h
  refine aw_iconst (v := 0) X dX12_takesLaw_0 (by decide) ?_
  refine aw_istore_n (L' := [some (.ref (zr Z 0)), some (.int x1), some (.int 0)]) X dX12_takesLaw_1 (by decide) rfl ?_
  obtain ⟨r10, er10, h⟩ := bnd h
  refine aw_msk [true, true, true] ?_
  refine it_ok (P := fun y : Int32 × Mem => AW Z y.2 2 [some (.ref (zr Z 0)), some (.int x1), some (.int y.1)] []) (Q := fun b : Mem => AW Z b 105 [some (.ref (zr Z 0)), some (.int x1), none] []) (fun y q hq hi he => so_X12_takesLaw_2 hfr Z X x1 y.1 y.2 q hq hi he) FUEL _ _ er10 ?_
  refine aw_iconst (v := 0) X dX12_takesLaw_105 (by decide) ?_
  refine aw_istore_n (L' := [some (.ref (zr Z 0)), some (.int x1), some (.int 0)]) X dX12_takesLaw_106 (by decide) rfl ?_
  obtain ⟨r16, er16, h⟩ := bnd h
  refine aw_msk [true, true, true] ?_
  refine it_ok (P := fun y : Int32 × Mem => AW Z y.2 107 [some (.ref (zr Z 0)), some (.int x1), some (.int y.1)] []) (Q := fun b : Mem => AW Z b 171 [some (.ref (zr Z 0)), some (.int x1), none] []) (fun y q hq hi he => so_X12_takesLaw_107 hfr Z X x1 y.1 y.2 q hq hi he) FUEL _ _ er16 ?_
  refine aw_aload_n X dX12_takesLaw_171 rfl ?_
  refine aw_getr X dX12_takesLaw_172 fl_RX12_28 iu_RX12 gu_RX12_15 ?_
  refine aw_aload_n X dX12_takesLaw_175 rfl ?_
  refine aw_geti X dX12_takesLaw_176 fl_RX12_244 iu_RX12 gu_RX12_22 ?_
  refine aw_iload_n X dX12_takesLaw_179 rfl ?_
  obtain ⟨s17, es17, h⟩ := bnd h
  refine aw_iast X dX12_takesLaw_180 iu_RX12_15 es17 ?_
  cases h
  exact aw_vret X dX12_takesLaw_181 rfl hz.symm
set_option maxRecDepth 100000 in
set_option maxHeartbeats 4000000 in
theorem ok_X12_takesLaw {x1 : Int32} {s : Mem} {r : Mem} (h : f_X12_takesLaw x1 s = some r) (l : Launch) (D : va_G) (ρ : Nat → Nat) (cA : ClassId × ClassId × ClassId) (τ : AT) : AM l D ρ cA 1 τ yX12_takesLaw cX12_takesLaw 3 none 0 [.ref (ρ 0), .int x1] none s r := by
  refine AM_of (L := [some (.ref (ρ 0)), some (.int x1), none]) (by decide) (by simp [Value.category]) (Nat.le_of_ble_eq_true rfl) (fun j v q => ?_) (fun Z X hρ hz hτ => ?_)
  · exact aL_ok (n := 1) [.ref (ρ 0), .int x1] j v q
  · subst hρ
    subst hτ
    exact w_X12_takesLaw (Nat.le_refl _) Z X x1 s r hz h

theorem dX12_readNumber_0 : decode cX12_readNumber 0 = .ok (.aload_n 0, 1) := by decide +kernel
theorem dX12_readNumber_1 : decode cX12_readNumber 1 = .ok (.getfield 166, 3) := by decide +kernel
theorem dX12_readNumber_4 : decode cX12_readNumber 4 = .ok (.iconst 3, 1) := by decide +kernel
theorem dX12_readNumber_5 : decode cX12_readNumber 5 = .ok (.if_icmp .eq 9, 3) := by decide +kernel
theorem dX12_readNumber_8 : decode cX12_readNumber 8 = .ok (.aload_n 0, 1) := by decide +kernel
theorem dX12_readNumber_9 : decode cX12_readNumber 9 = .ok (.iconst 1, 1) := by decide +kernel
theorem dX12_readNumber_10 : decode cX12_readNumber 10 = .ok (.invokevirtual 197, 3) := by decide +kernel
theorem dX12_readNumber_13 : decode cX12_readNumber 13 = .ok (.ireturn, 1) := by decide +kernel
theorem dX12_readNumber_14 : decode cX12_readNumber 14 = .ok (.aload_n 0, 1) := by decide +kernel
theorem dX12_readNumber_15 : decode cX12_readNumber 15 = .ok (.aload_n 0, 1) := by decide +kernel
theorem dX12_readNumber_16 : decode cX12_readNumber 16 = .ok (.getfield 169, 3) := by decide +kernel
theorem dX12_readNumber_19 : decode cX12_readNumber 19 = .ok (.iload_n 1, 1) := by decide +kernel
theorem dX12_readNumber_20 : decode cX12_readNumber 20 = .ok (.iload_n 2, 1) := by decide +kernel
theorem dX12_readNumber_21 : decode cX12_readNumber 21 = .ok (.invokevirtual 137, 3) := by decide +kernel
theorem dX12_readNumber_24 : decode cX12_readNumber 24 = .ok (.ifCond .ne 9, 3) := by decide +kernel
theorem dX12_readNumber_27 : decode cX12_readNumber 27 = .ok (.aload_n 0, 1) := by decide +kernel
theorem dX12_readNumber_28 : decode cX12_readNumber 28 = .ok (.iconst 2, 1) := by decide +kernel
theorem dX12_readNumber_29 : decode cX12_readNumber 29 = .ok (.invokevirtual 197, 3) := by decide +kernel
theorem dX12_readNumber_32 : decode cX12_readNumber 32 = .ok (.ireturn, 1) := by decide +kernel
theorem dX12_readNumber_33 : decode cX12_readNumber 33 = .ok (.aload_n 0, 1) := by decide +kernel
theorem dX12_readNumber_34 : decode cX12_readNumber 34 = .ok (.getfield 169, 3) := by decide +kernel
theorem dX12_readNumber_37 : decode cX12_readNumber 37 = .ok (.istore_n 3, 1) := by decide +kernel
theorem dX12_readNumber_38 : decode cX12_readNumber 38 = .ok (.aload_n 0, 1) := by decide +kernel
theorem dX12_readNumber_39 : decode cX12_readNumber 39 = .ok (.invokevirtual 203, 3) := by decide +kernel
theorem dX12_readNumber_42 : decode cX12_readNumber 42 = .ok (.iload_n 3, 1) := by decide +kernel
theorem dX12_readNumber_43 : decode cX12_readNumber 43 = .ok (.ireturn, 1) := by decide +kernel
set_option maxRecDepth 100000 in
set_option maxHeartbeats 4000000 in
theorem w_X12_readNumber {fr : Nat} (hfr : 3 ≤ fr) (Z : AZ) (X : AX Z cX12_readNumber 4 RX12 (some .int) 1 fr) (x1 : Int32) (x2 : Int32) (s : Mem) (r : Int32 × Mem) (hz : zres Z = (some (.int r.1), r.2)) (h : f_X12_readNumber x1 x2 s = some r) : AW Z s 0 [some (.ref (zr Z 0)), some (.int x1), some (.int x2), none] [] := by
  unfold f_X12_readNumber at h
  refine aw_aload_n X dX12_readNumber_0 rfl ?_
  refine aw_geti X dX12_readNumber_1 fl_RX12_166 iu_RX12 gu_RX12_12 ?_
  refine aw_iconst (v := 3) X dX12_readNumber_4 (by decide) ?_
  refine aw_icmp_eq (tgt := 14) X dX12_readNumber_5 (by decide) (fun c1 => ?_) (fun c1 => ?_)
  · rw [if_pos c1] at h
    refine aw_aload_n X dX12_readNumber_14 rfl ?_
    refine aw_aload_n X dX12_readNumber_15 rfl ?_
    refine aw_geti X dX12_readNumber_16 fl_RX12_169 iu_RX12 gu_RX12_13 ?_
    refine aw_iload_n X dX12_readNumber_19 rfl ?_
    refine aw_iload_n X dX12_readNumber_20 rfl ?_
    obtain ⟨r2, er2, h⟩ := bnd h
    refine aw_callV X dX12_readNumber_21 cv_RX12_137 (ok_X12_isIn er2 _ _ _ _ _) iu_RX12 rfl (Nat.le_trans (by decide) hfr) (by decide) rfl rfl (Nat.le_of_ble_eq_true rfl) ?_
    refine aw_if_ne (tgt := 33) X dX12_readNumber_24 (by decide) (fun c3 => ?_) (fun c3 => ?_)
    · rw [if_neg c3] at h
      refine aw_aload_n X dX12_readNumber_33 rfl ?_
      refine aw_geti X dX12_readNumber_34 fl_RX12_169 iu_RX12 gu_RX12_13 ?_
      refine aw_istore_n (L' := [some (.ref (zr Z 0)), some (.int x1), some (.int x2), some (.int (r2.2 0 13))]) X dX12_readNumber_37 (by decide) rfl ?_
      refine aw_aload_n X dX12_readNumber_38 rfl ?_
      obtain ⟨r4, er4, h⟩ := bnd h
      refine aw_callV X dX12_readNumber_39 cv_RX12_203 (ok_X12_reads er4 _ _ _ _ _) iu_RX12 rfl (Nat.le_trans (by decide) hfr) (by decide) rfl rfl (Nat.le_of_ble_eq_true rfl) ?_
      refine aw_iload_n X dX12_readNumber_42 rfl ?_
      cases h
      exact aw_iret X dX12_readNumber_43 rfl hz.symm
    · rw [if_pos c3] at h
      refine aw_aload_n X dX12_readNumber_27 rfl ?_
      refine aw_iconst (v := 2) X dX12_readNumber_28 (by decide) ?_
      obtain ⟨r5, er5, h⟩ := bnd h
      refine aw_callV X dX12_readNumber_29 cv_RX12_197 (ok_X12_errs er5 _ _ _ _ _) iu_RX12 rfl (Nat.le_trans (by decide) hfr) (by decide) rfl rfl (Nat.le_of_ble_eq_true rfl) ?_
      cases h
      exact aw_iret X dX12_readNumber_32 rfl hz.symm
  · rw [if_neg c1] at h
    refine aw_aload_n X dX12_readNumber_8 rfl ?_
    refine aw_iconst (v := 1) X dX12_readNumber_9 (by decide) ?_
    obtain ⟨r6, er6, h⟩ := bnd h
    refine aw_callV X dX12_readNumber_10 cv_RX12_197 (ok_X12_errs er6 _ _ _ _ _) iu_RX12 rfl (Nat.le_trans (by decide) hfr) (by decide) rfl rfl (Nat.le_of_ble_eq_true rfl) ?_
    cases h
    exact aw_iret X dX12_readNumber_13 rfl hz.symm
set_option maxRecDepth 100000 in
set_option maxHeartbeats 4000000 in
theorem ok_X12_readNumber {x1 x2 : Int32} {s : Mem} {r : Int32 × Mem} (h : f_X12_readNumber x1 x2 s = some r) (l : Launch) (D : va_G) (ρ : Nat → Nat) (cA : ClassId × ClassId × ClassId) (τ : AT) : AM l D ρ cA 1 τ yX12_readNumber cX12_readNumber 4 (some .int) 3 [.ref (ρ 0), .int x1, .int x2] (some (.int r.1)) s r.2 := by
  refine AM_of (L := [some (.ref (ρ 0)), some (.int x1), some (.int x2), none]) (by decide) (by simp [Value.category]) (Nat.le_of_ble_eq_true rfl) (fun j v q => ?_) (fun Z X hρ hz hτ => ?_)
  · exact aL_ok (n := 1) [.ref (ρ 0), .int x1, .int x2] j v q
  · subst hρ
    subst hτ
    exact w_X12_readNumber (Nat.le_refl _) Z X x1 x2 s r hz h

theorem dX12_readMark_0 : decode cX12_readMark 0 = .ok (.aload_n 0, 1) := by decide +kernel
theorem dX12_readMark_1 : decode cX12_readMark 1 = .ok (.iload_n 1, 1) := by decide +kernel
theorem dX12_readMark_2 : decode cX12_readMark 2 = .ok (.invokevirtual 210, 3) := by decide +kernel
theorem dX12_readMark_5 : decode cX12_readMark 5 = .ok (.ifCond .ne 9, 3) := by decide +kernel
theorem dX12_readMark_8 : decode cX12_readMark 8 = .ok (.aload_n 0, 1) := by decide +kernel
theorem dX12_readMark_9 : decode cX12_readMark 9 = .ok (.iconst 1, 1) := by decide +kernel
theorem dX12_readMark_10 : decode cX12_readMark 10 = .ok (.invokevirtual 197, 3) := by decide +kernel
theorem dX12_readMark_13 : decode cX12_readMark 13 = .ok (.ireturn, 1) := by decide +kernel
theorem dX12_readMark_14 : decode cX12_readMark 14 = .ok (.aload_n 0, 1) := by decide +kernel
theorem dX12_readMark_15 : decode cX12_readMark 15 = .ok (.invokevirtual 203, 3) := by decide +kernel
theorem dX12_readMark_18 : decode cX12_readMark 18 = .ok (.iconst 0, 1) := by decide +kernel
theorem dX12_readMark_19 : decode cX12_readMark 19 = .ok (.ireturn, 1) := by decide +kernel
set_option maxRecDepth 100000 in
set_option maxHeartbeats 4000000 in
theorem w_X12_readMark {fr : Nat} (hfr : 3 ≤ fr) (Z : AZ) (X : AX Z cX12_readMark 2 RX12 (some .int) 1 fr) (x1 : Int32) (s : Mem) (r : Int32 × Mem) (hz : zres Z = (some (.int r.1), r.2)) (h : f_X12_readMark x1 s = some r) : AW Z s 0 [some (.ref (zr Z 0)), some (.int x1)] [] := by
  unfold f_X12_readMark at h
  refine aw_aload_n X dX12_readMark_0 rfl ?_
  refine aw_iload_n X dX12_readMark_1 rfl ?_
  obtain ⟨r1, er1, h⟩ := bnd h
  refine aw_callV X dX12_readMark_2 cv_RX12_210 (ok_X12_isSign er1 _ _ _ _ _) iu_RX12 rfl (Nat.le_trans (by decide) hfr) (by decide) rfl rfl (Nat.le_of_ble_eq_true rfl) ?_
  refine aw_if_ne (tgt := 14) X dX12_readMark_5 (by decide) (fun c2 => ?_) (fun c2 => ?_)
  · rw [if_neg c2] at h
    refine aw_aload_n X dX12_readMark_14 rfl ?_
    obtain ⟨r3, er3, h⟩ := bnd h
    refine aw_callV X dX12_readMark_15 cv_RX12_203 (ok_X12_reads er3 _ _ _ _ _) iu_RX12 rfl (Nat.le_trans (by decide) hfr) (by decide) rfl rfl (Nat.le_of_ble_eq_true rfl) ?_
    refine aw_iconst (v := 0) X dX12_readMark_18 (by decide) ?_
    cases h
    exact aw_iret X dX12_readMark_19 rfl hz.symm
  · rw [if_pos c2] at h
    refine aw_aload_n X dX12_readMark_8 rfl ?_
    refine aw_iconst (v := 1) X dX12_readMark_9 (by decide) ?_
    obtain ⟨r4, er4, h⟩ := bnd h
    refine aw_callV X dX12_readMark_10 cv_RX12_197 (ok_X12_errs er4 _ _ _ _ _) iu_RX12 rfl (Nat.le_trans (by decide) hfr) (by decide) rfl rfl (Nat.le_of_ble_eq_true rfl) ?_
    cases h
    exact aw_iret X dX12_readMark_13 rfl hz.symm
set_option maxRecDepth 100000 in
set_option maxHeartbeats 4000000 in
theorem ok_X12_readMark {x1 : Int32} {s : Mem} {r : Int32 × Mem} (h : f_X12_readMark x1 s = some r) (l : Launch) (D : va_G) (ρ : Nat → Nat) (cA : ClassId × ClassId × ClassId) (τ : AT) : AM l D ρ cA 1 τ yX12_readMark cX12_readMark 2 (some .int) 3 [.ref (ρ 0), .int x1] (some (.int r.1)) s r.2 := by
  refine AM_of (L := [some (.ref (ρ 0)), some (.int x1)]) (by decide) (by simp [Value.category]) (Nat.le_of_ble_eq_true rfl) (fun j v q => ?_) (fun Z X hρ hz hτ => ?_)
  · exact aL_ok (n := 0) [.ref (ρ 0), .int x1] j v q
  · subst hρ
    subst hτ
    exact w_X12_readMark (Nat.le_refl _) Z X x1 s r hz h

theorem dX12_readTold_0 : decode cX12_readTold 0 = .ok (.aload_n 0, 1) := by decide +kernel
theorem dX12_readTold_1 : decode cX12_readTold 1 = .ok (.iload_n 1, 1) := by decide +kernel
theorem dX12_readTold_2 : decode cX12_readTold 2 = .ok (.invokevirtual 225, 3) := by decide +kernel
theorem dX12_readTold_5 : decode cX12_readTold 5 = .ok (.ifCond .ne 9, 3) := by decide +kernel
theorem dX12_readTold_8 : decode cX12_readTold 8 = .ok (.aload_n 0, 1) := by decide +kernel
theorem dX12_readTold_9 : decode cX12_readTold 9 = .ok (.iconst 1, 1) := by decide +kernel
theorem dX12_readTold_10 : decode cX12_readTold 10 = .ok (.invokevirtual 197, 3) := by decide +kernel
theorem dX12_readTold_13 : decode cX12_readTold 13 = .ok (.ireturn, 1) := by decide +kernel
theorem dX12_readTold_14 : decode cX12_readTold 14 = .ok (.aload_n 0, 1) := by decide +kernel
theorem dX12_readTold_15 : decode cX12_readTold 15 = .ok (.invokevirtual 203, 3) := by decide +kernel
theorem dX12_readTold_18 : decode cX12_readTold 18 = .ok (.aload_n 0, 1) := by decide +kernel
theorem dX12_readTold_19 : decode cX12_readTold 19 = .ok (.iload_n 2, 1) := by decide +kernel
theorem dX12_readTold_20 : decode cX12_readTold 20 = .ok (.iload_n 3, 1) := by decide +kernel
theorem dX12_readTold_21 : decode cX12_readTold 21 = .ok (.invokevirtual 247, 3) := by decide +kernel
theorem dX12_readTold_24 : decode cX12_readTold 24 = .ok (.ireturn, 1) := by decide +kernel
set_option maxRecDepth 100000 in
set_option maxHeartbeats 4000000 in
theorem w_X12_readTold {fr : Nat} (hfr : 4 ≤ fr) (Z : AZ) (X : AX Z cX12_readTold 4 RX12 (some .int) 1 fr) (x1 : Int32) (x2 : Int32) (x3 : Int32) (s : Mem) (r : Int32 × Mem) (hz : zres Z = (some (.int r.1), r.2)) (h : f_X12_readTold x1 x2 x3 s = some r) : AW Z s 0 [some (.ref (zr Z 0)), some (.int x1), some (.int x2), some (.int x3)] [] := by
  unfold f_X12_readTold at h
  refine aw_aload_n X dX12_readTold_0 rfl ?_
  refine aw_iload_n X dX12_readTold_1 rfl ?_
  obtain ⟨r1, er1, h⟩ := bnd h
  refine aw_callV X dX12_readTold_2 cv_RX12_225 (ok_X12_isWord er1 _ _ _ _ _) iu_RX12 rfl (Nat.le_trans (by decide) hfr) (by decide) rfl rfl (Nat.le_of_ble_eq_true rfl) ?_
  refine aw_if_ne (tgt := 14) X dX12_readTold_5 (by decide) (fun c2 => ?_) (fun c2 => ?_)
  · rw [if_neg c2] at h
    refine aw_aload_n X dX12_readTold_14 rfl ?_
    obtain ⟨r3, er3, h⟩ := bnd h
    refine aw_callV X dX12_readTold_15 cv_RX12_203 (ok_X12_reads er3 _ _ _ _ _) iu_RX12 rfl (Nat.le_trans (by decide) hfr) (by decide) rfl rfl (Nat.le_of_ble_eq_true rfl) ?_
    refine aw_aload_n X dX12_readTold_18 rfl ?_
    refine aw_iload_n X dX12_readTold_19 rfl ?_
    refine aw_iload_n X dX12_readTold_20 rfl ?_
    obtain ⟨r4, er4, h⟩ := bnd h
    refine aw_callV X dX12_readTold_21 cv_RX12_247 (ok_X12_readNumber er4 _ _ _ _ _) iu_RX12 rfl (Nat.le_trans (by decide) hfr) (by decide) rfl rfl (Nat.le_of_ble_eq_true rfl) ?_
    cases h
    exact aw_iret X dX12_readTold_24 rfl hz.symm
  · rw [if_pos c2] at h
    refine aw_aload_n X dX12_readTold_8 rfl ?_
    refine aw_iconst (v := 1) X dX12_readTold_9 (by decide) ?_
    obtain ⟨r5, er5, h⟩ := bnd h
    refine aw_callV X dX12_readTold_10 cv_RX12_197 (ok_X12_errs er5 _ _ _ _ _) iu_RX12 rfl (Nat.le_trans (by decide) hfr) (by decide) rfl rfl (Nat.le_of_ble_eq_true rfl) ?_
    cases h
    exact aw_iret X dX12_readTold_13 rfl hz.symm
set_option maxRecDepth 100000 in
set_option maxHeartbeats 4000000 in
theorem ok_X12_readTold {x1 x2 x3 : Int32} {s : Mem} {r : Int32 × Mem} (h : f_X12_readTold x1 x2 x3 s = some r) (l : Launch) (D : va_G) (ρ : Nat → Nat) (cA : ClassId × ClassId × ClassId) (τ : AT) : AM l D ρ cA 1 τ yX12_readTold cX12_readTold 4 (some .int) 4 [.ref (ρ 0), .int x1, .int x2, .int x3] (some (.int r.1)) s r.2 := by
  refine AM_of (L := [some (.ref (ρ 0)), some (.int x1), some (.int x2), some (.int x3)]) (by decide) (by simp [Value.category]) (Nat.le_of_ble_eq_true rfl) (fun j v q => ?_) (fun Z X hρ hz hτ => ?_)
  · exact aL_ok (n := 0) [.ref (ρ 0), .int x1, .int x2, .int x3] j v q
  · subst hρ
    subst hτ
    exact w_X12_readTold (Nat.le_refl _) Z X x1 x2 x3 s r hz h

theorem dX12_readOther_0 : decode cX12_readOther 0 = .ok (.aload_n 0, 1) := by decide +kernel
theorem dX12_readOther_1 : decode cX12_readOther 1 = .ok (.getfield 166, 3) := by decide +kernel
theorem dX12_readOther_4 : decode cX12_readOther 4 = .ok (.iconst 3, 1) := by decide +kernel
theorem dX12_readOther_5 : decode cX12_readOther 5 = .ok (.if_icmp .ne 17, 3) := by decide +kernel
theorem dX12_readOther_8 : decode cX12_readOther 8 = .ok (.aload_n 0, 1) := by decide +kernel
theorem dX12_readOther_9 : decode cX12_readOther 9 = .ok (.getfield 169, 3) := by decide +kernel
theorem dX12_readOther_12 : decode cX12_readOther 12 = .ok (.iload_n 1, 1) := by decide +kernel
theorem dX12_readOther_13 : decode cX12_readOther 13 = .ok (.if_icmp .ne 9, 3) := by decide +kernel
theorem dX12_readOther_16 : decode cX12_readOther 16 = .ok (.aload_n 0, 1) := by decide +kernel
theorem dX12_readOther_17 : decode cX12_readOther 17 = .ok (.iconst 2, 1) := by decide +kernel
theorem dX12_readOther_18 : decode cX12_readOther 18 = .ok (.invokevirtual 197, 3) := by decide +kernel
theorem dX12_readOther_21 : decode cX12_readOther 21 = .ok (.ireturn, 1) := by decide +kernel
theorem dX12_readOther_22 : decode cX12_readOther 22 = .ok (.aload_n 0, 1) := by decide +kernel
theorem dX12_readOther_23 : decode cX12_readOther 23 = .ok (.iconst 0, 1) := by decide +kernel
theorem dX12_readOther_24 : decode cX12_readOther 24 = .ok (.aload_n 0, 1) := by decide +kernel
theorem dX12_readOther_25 : decode cX12_readOther 25 = .ok (.getfield 134, 3) := by decide +kernel
theorem dX12_readOther_28 : decode cX12_readOther 28 = .ok (.iconst 1, 1) := by decide +kernel
theorem dX12_readOther_29 : decode cX12_readOther 29 = .ok (.isub, 1) := by decide +kernel
theorem dX12_readOther_30 : decode cX12_readOther 30 = .ok (.invokevirtual 247, 3) := by decide +kernel
theorem dX12_readOther_33 : decode cX12_readOther 33 = .ok (.ireturn, 1) := by decide +kernel
set_option maxRecDepth 100000 in
set_option maxHeartbeats 4000000 in
theorem jo_X12_readOther_22 {fr : Nat} (hfr : 4 ≤ fr) (Z : AZ) (X : AX Z cX12_readOther 2 RX12 (some .int) 1 fr) (s : Mem) (r : Int32 × Mem) (hz : zres Z = (some (.int r.1), r.2)) (h : jn_X12_readOther_22 s = some r) : AW Z s 22 [some (.ref (zr Z 0)), none] [] := by
  unfold jn_X12_readOther_22 at h
  refine aw_aload_n X dX12_readOther_22 rfl ?_
  refine aw_iconst (v := 0) X dX12_readOther_23 (by decide) ?_
  refine aw_aload_n X dX12_readOther_24 rfl ?_
  refine aw_geti X dX12_readOther_25 fl_RX12_134 iu_RX12 gu_RX12_6 ?_
  refine aw_iconst (v := 1) X dX12_readOther_28 (by decide) ?_
  refine aw_isub X dX12_readOther_29 ?_
  obtain ⟨r2, er2, h⟩ := bnd h
  refine aw_callV X dX12_readOther_30 cv_RX12_247 (ok_X12_readNumber er2 _ _ _ _ _) iu_RX12 rfl (Nat.le_trans (by decide) hfr) (by decide) rfl rfl (Nat.le_of_ble_eq_true rfl) ?_
  cases h
  exact aw_iret X dX12_readOther_33 rfl hz.symm
set_option maxRecDepth 100000 in
set_option maxHeartbeats 4000000 in
theorem w_X12_readOther {fr : Nat} (hfr : 4 ≤ fr) (Z : AZ) (X : AX Z cX12_readOther 2 RX12 (some .int) 1 fr) (x1 : Int32) (s : Mem) (r : Int32 × Mem) (hz : zres Z = (some (.int r.1), r.2)) (h : f_X12_readOther x1 s = some r) : AW Z s 0 [some (.ref (zr Z 0)), some (.int x1)] [] := by
  unfold f_X12_readOther at h
  refine aw_aload_n X dX12_readOther_0 rfl ?_
  refine aw_geti X dX12_readOther_1 fl_RX12_166 iu_RX12 gu_RX12_12 ?_
  refine aw_iconst (v := 3) X dX12_readOther_4 (by decide) ?_
  refine aw_icmp_ne (tgt := 22) X dX12_readOther_5 (by decide) (fun c1 => ?_) (fun c1 => ?_)
  · rw [if_neg c1] at h
    refine aw_msk [true, false] ?_
    exact jo_X12_readOther_22 hfr Z X _ _ hz h
  · rw [if_pos c1] at h
    refine aw_aload_n X dX12_readOther_8 rfl ?_
    refine aw_geti X dX12_readOther_9 fl_RX12_169 iu_RX12 gu_RX12_13 ?_
    refine aw_iload_n X dX12_readOther_12 rfl ?_
    refine aw_icmp_ne (tgt := 22) X dX12_readOther_13 (by decide) (fun c3 => ?_) (fun c3 => ?_)
    · rw [if_neg c3] at h
      refine aw_msk [true, false] ?_
      exact jo_X12_readOther_22 hfr Z X _ _ hz h
    · rw [if_pos c3] at h
      refine aw_aload_n X dX12_readOther_16 rfl ?_
      refine aw_iconst (v := 2) X dX12_readOther_17 (by decide) ?_
      obtain ⟨r4, er4, h⟩ := bnd h
      refine aw_callV X dX12_readOther_18 cv_RX12_197 (ok_X12_errs er4 _ _ _ _ _) iu_RX12 rfl (Nat.le_trans (by decide) hfr) (by decide) rfl rfl (Nat.le_of_ble_eq_true rfl) ?_
      cases h
      exact aw_iret X dX12_readOther_21 rfl hz.symm
set_option maxRecDepth 100000 in
set_option maxHeartbeats 4000000 in
theorem ok_X12_readOther {x1 : Int32} {s : Mem} {r : Int32 × Mem} (h : f_X12_readOther x1 s = some r) (l : Launch) (D : va_G) (ρ : Nat → Nat) (cA : ClassId × ClassId × ClassId) (τ : AT) : AM l D ρ cA 1 τ yX12_readOther cX12_readOther 2 (some .int) 4 [.ref (ρ 0), .int x1] (some (.int r.1)) s r.2 := by
  refine AM_of (L := [some (.ref (ρ 0)), some (.int x1)]) (by decide) (by simp [Value.category]) (Nat.le_of_ble_eq_true rfl) (fun j v q => ?_) (fun Z X hρ hz hτ => ?_)
  · exact aL_ok (n := 0) [.ref (ρ 0), .int x1] j v q
  · subst hρ
    subst hτ
    exact w_X12_readOther (Nat.le_refl _) Z X x1 s r hz h

theorem dX12_readTalkLine_0 : decode cX12_readTalkLine 0 = .ok (.aload_n 0, 1) := by decide +kernel
theorem dX12_readTalkLine_1 : decode cX12_readTalkLine 1 = .ok (.getfield 56, 3) := by decide +kernel
theorem dX12_readTalkLine_4 : decode cX12_readTalkLine 4 = .ok (.iload_n 1, 1) := by decide +kernel
theorem dX12_readTalkLine_5 : decode cX12_readTalkLine 5 = .ok (.aload_n 0, 1) := by decide +kernel
theorem dX12_readTalkLine_6 : decode cX12_readTalkLine 6 = .ok (.bipush 15, 2) := by decide +kernel
theorem dX12_readTalkLine_8 : decode cX12_readTalkLine 8 = .ok (.iconst 0, 1) := by decide +kernel
theorem dX12_readTalkLine_9 : decode cX12_readTalkLine 9 = .ok (.sipush 999, 3) := by decide +kernel
theorem dX12_readTalkLine_12 : decode cX12_readTalkLine 12 = .ok (.invokevirtual 250, 3) := by decide +kernel
theorem dX12_readTalkLine_15 : decode cX12_readTalkLine 15 = .ok (.iastore, 1) := by decide +kernel
theorem dX12_readTalkLine_16 : decode cX12_readTalkLine 16 = .ok (.aload_n 0, 1) := by decide +kernel
theorem dX12_readTalkLine_17 : decode cX12_readTalkLine 17 = .ok (.getfield 56, 3) := by decide +kernel
theorem dX12_readTalkLine_20 : decode cX12_readTalkLine 20 = .ok (.iload_n 1, 1) := by decide +kernel
theorem dX12_readTalkLine_21 : decode cX12_readTalkLine 21 = .ok (.iaload, 1) := by decide +kernel
theorem dX12_readTalkLine_22 : decode cX12_readTalkLine 22 = .ok (.iconst (-1), 1) := by decide +kernel
theorem dX12_readTalkLine_23 : decode cX12_readTalkLine 23 = .ok (.if_icmp .ne 5, 3) := by decide +kernel
theorem dX12_readTalkLine_26 : decode cX12_readTalkLine 26 = .ok (.iconst (-1), 1) := by decide +kernel
theorem dX12_readTalkLine_27 : decode cX12_readTalkLine 27 = .ok (.ireturn, 1) := by decide +kernel
theorem dX12_readTalkLine_28 : decode cX12_readTalkLine 28 = .ok (.aload_n 0, 1) := by decide +kernel
theorem dX12_readTalkLine_29 : decode cX12_readTalkLine 29 = .ok (.getfield 56, 3) := by decide +kernel
theorem dX12_readTalkLine_32 : decode cX12_readTalkLine 32 = .ok (.iload_n 1, 1) := by decide +kernel
theorem dX12_readTalkLine_33 : decode cX12_readTalkLine 33 = .ok (.iconst 1, 1) := by decide +kernel
theorem dX12_readTalkLine_34 : decode cX12_readTalkLine 34 = .ok (.iadd, 1) := by decide +kernel
theorem dX12_readTalkLine_35 : decode cX12_readTalkLine 35 = .ok (.aload_n 0, 1) := by decide +kernel
theorem dX12_readTalkLine_36 : decode cX12_readTalkLine 36 = .ok (.bipush 16, 2) := by decide +kernel
theorem dX12_readTalkLine_38 : decode cX12_readTalkLine 38 = .ok (.iconst 0, 1) := by decide +kernel
theorem dX12_readTalkLine_39 : decode cX12_readTalkLine 39 = .ok (.aload_n 0, 1) := by decide +kernel
theorem dX12_readTalkLine_40 : decode cX12_readTalkLine 40 = .ok (.getfield 134, 3) := by decide +kernel
theorem dX12_readTalkLine_43 : decode cX12_readTalkLine 43 = .ok (.iconst 1, 1) := by decide +kernel
theorem dX12_readTalkLine_44 : decode cX12_readTalkLine 44 = .ok (.isub, 1) := by decide +kernel
theorem dX12_readTalkLine_45 : decode cX12_readTalkLine 45 = .ok (.invokevirtual 250, 3) := by decide +kernel
theorem dX12_readTalkLine_48 : decode cX12_readTalkLine 48 = .ok (.iastore, 1) := by decide +kernel
theorem dX12_readTalkLine_49 : decode cX12_readTalkLine 49 = .ok (.aload_n 0, 1) := by decide +kernel
theorem dX12_readTalkLine_50 : decode cX12_readTalkLine 50 = .ok (.getfield 56, 3) := by decide +kernel
theorem dX12_readTalkLine_53 : decode cX12_readTalkLine 53 = .ok (.iload_n 1, 1) := by decide +kernel
theorem dX12_readTalkLine_54 : decode cX12_readTalkLine 54 = .ok (.iconst 1, 1) := by decide +kernel
theorem dX12_readTalkLine_55 : decode cX12_readTalkLine 55 = .ok (.iadd, 1) := by decide +kernel
theorem dX12_readTalkLine_56 : decode cX12_readTalkLine 56 = .ok (.iaload, 1) := by decide +kernel
theorem dX12_readTalkLine_57 : decode cX12_readTalkLine 57 = .ok (.iconst (-1), 1) := by decide +kernel
theorem dX12_readTalkLine_58 : decode cX12_readTalkLine 58 = .ok (.if_icmp .ne 5, 3) := by decide +kernel
theorem dX12_readTalkLine_61 : decode cX12_readTalkLine 61 = .ok (.iconst (-1), 1) := by decide +kernel
theorem dX12_readTalkLine_62 : decode cX12_readTalkLine 62 = .ok (.ireturn, 1) := by decide +kernel
theorem dX12_readTalkLine_63 : decode cX12_readTalkLine 63 = .ok (.aload_n 0, 1) := by decide +kernel
theorem dX12_readTalkLine_64 : decode cX12_readTalkLine 64 = .ok (.bipush 17, 2) := by decide +kernel
theorem dX12_readTalkLine_66 : decode cX12_readTalkLine 66 = .ok (.invokevirtual 225, 3) := by decide +kernel
theorem dX12_readTalkLine_69 : decode cX12_readTalkLine 69 = .ok (.ifCond .ne 9, 3) := by decide +kernel
theorem dX12_readTalkLine_72 : decode cX12_readTalkLine 72 = .ok (.aload_n 0, 1) := by decide +kernel
theorem dX12_readTalkLine_73 : decode cX12_readTalkLine 73 = .ok (.iconst 1, 1) := by decide +kernel
theorem dX12_readTalkLine_74 : decode cX12_readTalkLine 74 = .ok (.invokevirtual 197, 3) := by decide +kernel
theorem dX12_readTalkLine_77 : decode cX12_readTalkLine 77 = .ok (.ireturn, 1) := by decide +kernel
theorem dX12_readTalkLine_78 : decode cX12_readTalkLine 78 = .ok (.aload_n 0, 1) := by decide +kernel
theorem dX12_readTalkLine_79 : decode cX12_readTalkLine 79 = .ok (.invokevirtual 203, 3) := by decide +kernel
theorem dX12_readTalkLine_82 : decode cX12_readTalkLine 82 = .ok (.aload_n 0, 1) := by decide +kernel
theorem dX12_readTalkLine_83 : decode cX12_readTalkLine 83 = .ok (.getfield 56, 3) := by decide +kernel
theorem dX12_readTalkLine_86 : decode cX12_readTalkLine 86 = .ok (.iload_n 1, 1) := by decide +kernel
theorem dX12_readTalkLine_87 : decode cX12_readTalkLine 87 = .ok (.iconst 2, 1) := by decide +kernel
theorem dX12_readTalkLine_88 : decode cX12_readTalkLine 88 = .ok (.iadd, 1) := by decide +kernel
theorem dX12_readTalkLine_89 : decode cX12_readTalkLine 89 = .ok (.aload_n 0, 1) := by decide +kernel
theorem dX12_readTalkLine_90 : decode cX12_readTalkLine 90 = .ok (.aload_n 0, 1) := by decide +kernel
theorem dX12_readTalkLine_91 : decode cX12_readTalkLine 91 = .ok (.getfield 56, 3) := by decide +kernel
theorem dX12_readTalkLine_94 : decode cX12_readTalkLine 94 = .ok (.iload_n 1, 1) := by decide +kernel
theorem dX12_readTalkLine_95 : decode cX12_readTalkLine 95 = .ok (.iconst 1, 1) := by decide +kernel
theorem dX12_readTalkLine_96 : decode cX12_readTalkLine 96 = .ok (.iadd, 1) := by decide +kernel
theorem dX12_readTalkLine_97 : decode cX12_readTalkLine 97 = .ok (.iaload, 1) := by decide +kernel
theorem dX12_readTalkLine_98 : decode cX12_readTalkLine 98 = .ok (.invokevirtual 254, 3) := by decide +kernel
theorem dX12_readTalkLine_101 : decode cX12_readTalkLine 101 = .ok (.iastore, 1) := by decide +kernel
theorem dX12_readTalkLine_102 : decode cX12_readTalkLine 102 = .ok (.aload_n 0, 1) := by decide +kernel
theorem dX12_readTalkLine_103 : decode cX12_readTalkLine 103 = .ok (.getfield 56, 3) := by decide +kernel
theorem dX12_readTalkLine_106 : decode cX12_readTalkLine 106 = .ok (.iload_n 1, 1) := by decide +kernel
theorem dX12_readTalkLine_107 : decode cX12_readTalkLine 107 = .ok (.iconst 2, 1) := by decide +kernel
theorem dX12_readTalkLine_108 : decode cX12_readTalkLine 108 = .ok (.iadd, 1) := by decide +kernel
theorem dX12_readTalkLine_109 : decode cX12_readTalkLine 109 = .ok (.iaload, 1) := by decide +kernel
theorem dX12_readTalkLine_110 : decode cX12_readTalkLine 110 = .ok (.iconst (-1), 1) := by decide +kernel
theorem dX12_readTalkLine_111 : decode cX12_readTalkLine 111 = .ok (.if_icmp .ne 7, 3) := by decide +kernel
theorem dX12_readTalkLine_114 : decode cX12_readTalkLine 114 = .ok (.iconst (-1), 1) := by decide +kernel
theorem dX12_readTalkLine_115 : decode cX12_readTalkLine 115 = .ok (.goto 9, 3) := by decide +kernel
theorem dX12_readTalkLine_118 : decode cX12_readTalkLine 118 = .ok (.aload_n 0, 1) := by decide +kernel
theorem dX12_readTalkLine_119 : decode cX12_readTalkLine 119 = .ok (.bipush 59, 2) := by decide +kernel
theorem dX12_readTalkLine_121 : decode cX12_readTalkLine 121 = .ok (.invokevirtual 257, 3) := by decide +kernel
theorem dX12_readTalkLine_124 : decode cX12_readTalkLine 124 = .ok (.ireturn, 1) := by decide +kernel
set_option maxRecDepth 100000 in
set_option maxHeartbeats 4000000 in
theorem w_X12_readTalkLine {fr : Nat} (hfr : 5 ≤ fr) (Z : AZ) (X : AX Z cX12_readTalkLine 2 RX12 (some .int) 1 fr) (x1 : Int32) (s : Mem) (r : Int32 × Mem) (hz : zres Z = (some (.int r.1), r.2)) (h : f_X12_readTalkLine x1 s = some r) : AW Z s 0 [some (.ref (zr Z 0)), some (.int x1)] [] := by
  unfold f_X12_readTalkLine at h
  refine aw_aload_n X dX12_readTalkLine_0 rfl ?_
  refine aw_getr X dX12_readTalkLine_1 fl_RX12_56 iu_RX12 gu_RX12_32 ?_
  refine aw_iload_n X dX12_readTalkLine_4 rfl ?_
  refine aw_aload_n X dX12_readTalkLine_5 rfl ?_
  refine aw_bipush (v := 15) X dX12_readTalkLine_6 (by decide) ?_
  refine aw_iconst (v := 0) X dX12_readTalkLine_8 (by decide) ?_
  refine aw_sipush (v := 999) X dX12_readTalkLine_9 (by decide) ?_
  obtain ⟨r1, er1, h⟩ := bnd h
  refine aw_callV X dX12_readTalkLine_12 cv_RX12_250 (ok_X12_readTold er1 _ _ _ _ _) iu_RX12 rfl (Nat.le_trans (by decide) hfr) (by decide) rfl rfl (Nat.le_of_ble_eq_true rfl) ?_
  obtain ⟨s2, es2, h⟩ := bnd h
  refine aw_iast X dX12_readTalkLine_15 iu_RX12_32 es2 ?_
  refine aw_aload_n X dX12_readTalkLine_16 rfl ?_
  refine aw_getr X dX12_readTalkLine_17 fl_RX12_56 iu_RX12 gu_RX12_32 ?_
  refine aw_iload_n X dX12_readTalkLine_20 rfl ?_
  obtain ⟨v3, ev3, h⟩ := bnd h
  refine aw_iald X dX12_readTalkLine_21 iu_RX12_32 ev3 ?_
  refine aw_iconst (v := (-1)) X dX12_readTalkLine_22 (by decide) ?_
  refine aw_icmp_ne (tgt := 28) X dX12_readTalkLine_23 (by decide) (fun c4 => ?_) (fun c4 => ?_)
  · rw [if_neg c4] at h
    refine aw_aload_n X dX12_readTalkLine_28 rfl ?_
    refine aw_getr X dX12_readTalkLine_29 fl_RX12_56 iu_RX12 gu_RX12_32 ?_
    refine aw_iload_n X dX12_readTalkLine_32 rfl ?_
    refine aw_iconst (v := 1) X dX12_readTalkLine_33 (by decide) ?_
    refine aw_iadd X dX12_readTalkLine_34 ?_
    refine aw_aload_n X dX12_readTalkLine_35 rfl ?_
    refine aw_bipush (v := 16) X dX12_readTalkLine_36 (by decide) ?_
    refine aw_iconst (v := 0) X dX12_readTalkLine_38 (by decide) ?_
    refine aw_aload_n X dX12_readTalkLine_39 rfl ?_
    refine aw_geti X dX12_readTalkLine_40 fl_RX12_134 iu_RX12 gu_RX12_6 ?_
    refine aw_iconst (v := 1) X dX12_readTalkLine_43 (by decide) ?_
    refine aw_isub X dX12_readTalkLine_44 ?_
    obtain ⟨r5, er5, h⟩ := bnd h
    refine aw_callV X dX12_readTalkLine_45 cv_RX12_250 (ok_X12_readTold er5 _ _ _ _ _) iu_RX12 rfl (Nat.le_trans (by decide) hfr) (by decide) rfl rfl (Nat.le_of_ble_eq_true rfl) ?_
    obtain ⟨s6, es6, h⟩ := bnd h
    refine aw_iast X dX12_readTalkLine_48 iu_RX12_32 es6 ?_
    refine aw_aload_n X dX12_readTalkLine_49 rfl ?_
    refine aw_getr X dX12_readTalkLine_50 fl_RX12_56 iu_RX12 gu_RX12_32 ?_
    refine aw_iload_n X dX12_readTalkLine_53 rfl ?_
    refine aw_iconst (v := 1) X dX12_readTalkLine_54 (by decide) ?_
    refine aw_iadd X dX12_readTalkLine_55 ?_
    obtain ⟨v7, ev7, h⟩ := bnd h
    refine aw_iald X dX12_readTalkLine_56 iu_RX12_32 ev7 ?_
    refine aw_iconst (v := (-1)) X dX12_readTalkLine_57 (by decide) ?_
    refine aw_icmp_ne (tgt := 63) X dX12_readTalkLine_58 (by decide) (fun c8 => ?_) (fun c8 => ?_)
    · rw [if_neg c8] at h
      refine aw_aload_n X dX12_readTalkLine_63 rfl ?_
      refine aw_bipush (v := 17) X dX12_readTalkLine_64 (by decide) ?_
      obtain ⟨r9, er9, h⟩ := bnd h
      refine aw_callV X dX12_readTalkLine_66 cv_RX12_225 (ok_X12_isWord er9 _ _ _ _ _) iu_RX12 rfl (Nat.le_trans (by decide) hfr) (by decide) rfl rfl (Nat.le_of_ble_eq_true rfl) ?_
      refine aw_if_ne (tgt := 78) X dX12_readTalkLine_69 (by decide) (fun c10 => ?_) (fun c10 => ?_)
      · rw [if_neg c10] at h
        refine aw_aload_n X dX12_readTalkLine_78 rfl ?_
        obtain ⟨r11, er11, h⟩ := bnd h
        refine aw_callV X dX12_readTalkLine_79 cv_RX12_203 (ok_X12_reads er11 _ _ _ _ _) iu_RX12 rfl (Nat.le_trans (by decide) hfr) (by decide) rfl rfl (Nat.le_of_ble_eq_true rfl) ?_
        refine aw_aload_n X dX12_readTalkLine_82 rfl ?_
        refine aw_getr X dX12_readTalkLine_83 fl_RX12_56 iu_RX12 gu_RX12_32 ?_
        refine aw_iload_n X dX12_readTalkLine_86 rfl ?_
        refine aw_iconst (v := 2) X dX12_readTalkLine_87 (by decide) ?_
        refine aw_iadd X dX12_readTalkLine_88 ?_
        refine aw_aload_n X dX12_readTalkLine_89 rfl ?_
        refine aw_aload_n X dX12_readTalkLine_90 rfl ?_
        refine aw_getr X dX12_readTalkLine_91 fl_RX12_56 iu_RX12 gu_RX12_32 ?_
        refine aw_iload_n X dX12_readTalkLine_94 rfl ?_
        refine aw_iconst (v := 1) X dX12_readTalkLine_95 (by decide) ?_
        refine aw_iadd X dX12_readTalkLine_96 ?_
        obtain ⟨v12, ev12, h⟩ := bnd h
        refine aw_iald X dX12_readTalkLine_97 iu_RX12_32 ev12 ?_
        obtain ⟨r13, er13, h⟩ := bnd h
        refine aw_callV X dX12_readTalkLine_98 cv_RX12_254 (ok_X12_readOther er13 _ _ _ _ _) iu_RX12 rfl (Nat.le_trans (by decide) hfr) (by decide) rfl rfl (Nat.le_of_ble_eq_true rfl) ?_
        obtain ⟨s14, es14, h⟩ := bnd h
        refine aw_iast X dX12_readTalkLine_101 iu_RX12_32 es14 ?_
        refine aw_aload_n X dX12_readTalkLine_102 rfl ?_
        refine aw_getr X dX12_readTalkLine_103 fl_RX12_56 iu_RX12 gu_RX12_32 ?_
        refine aw_iload_n X dX12_readTalkLine_106 rfl ?_
        refine aw_iconst (v := 2) X dX12_readTalkLine_107 (by decide) ?_
        refine aw_iadd X dX12_readTalkLine_108 ?_
        obtain ⟨v15, ev15, h⟩ := bnd h
        refine aw_iald X dX12_readTalkLine_109 iu_RX12_32 ev15 ?_
        refine aw_iconst (v := (-1)) X dX12_readTalkLine_110 (by decide) ?_
        refine aw_icmp_ne (tgt := 118) X dX12_readTalkLine_111 (by decide) (fun c16 => ?_) (fun c16 => ?_)
        · rw [if_neg c16] at h
          refine aw_aload_n X dX12_readTalkLine_118 rfl ?_
          refine aw_bipush (v := 59) X dX12_readTalkLine_119 (by decide) ?_
          obtain ⟨r17, er17, h⟩ := bnd h
          refine aw_callV X dX12_readTalkLine_121 cv_RX12_257 (ok_X12_readMark er17 _ _ _ _ _) iu_RX12 rfl (Nat.le_trans (by decide) hfr) (by decide) rfl rfl (Nat.le_of_ble_eq_true rfl) ?_
          cases h
          exact aw_iret X dX12_readTalkLine_124 rfl hz.symm
        · rw [if_pos c16] at h
          refine aw_iconst (v := (-1)) X dX12_readTalkLine_114 (by decide) ?_
          refine aw_goto (tgt := 124) X dX12_readTalkLine_115 (by decide) ?_
          cases h
          exact aw_iret X dX12_readTalkLine_124 rfl hz.symm
      · rw [if_pos c10] at h
        refine aw_aload_n X dX12_readTalkLine_72 rfl ?_
        refine aw_iconst (v := 1) X dX12_readTalkLine_73 (by decide) ?_
        obtain ⟨r18, er18, h⟩ := bnd h
        refine aw_callV X dX12_readTalkLine_74 cv_RX12_197 (ok_X12_errs er18 _ _ _ _ _) iu_RX12 rfl (Nat.le_trans (by decide) hfr) (by decide) rfl rfl (Nat.le_of_ble_eq_true rfl) ?_
        cases h
        exact aw_iret X dX12_readTalkLine_77 rfl hz.symm
    · rw [if_pos c8] at h
      refine aw_iconst (v := (-1)) X dX12_readTalkLine_61 (by decide) ?_
      cases h
      exact aw_iret X dX12_readTalkLine_62 rfl hz.symm
  · rw [if_pos c4] at h
    refine aw_iconst (v := (-1)) X dX12_readTalkLine_26 (by decide) ?_
    cases h
    exact aw_iret X dX12_readTalkLine_27 rfl hz.symm
set_option maxRecDepth 100000 in
set_option maxHeartbeats 4000000 in
theorem ok_X12_readTalkLine {x1 : Int32} {s : Mem} {r : Int32 × Mem} (h : f_X12_readTalkLine x1 s = some r) (l : Launch) (D : va_G) (ρ : Nat → Nat) (cA : ClassId × ClassId × ClassId) (τ : AT) : AM l D ρ cA 1 τ yX12_readTalkLine cX12_readTalkLine 2 (some .int) 5 [.ref (ρ 0), .int x1] (some (.int r.1)) s r.2 := by
  refine AM_of (L := [some (.ref (ρ 0)), some (.int x1)]) (by decide) (by simp [Value.category]) (Nat.le_of_ble_eq_true rfl) (fun j v q => ?_) (fun Z X hρ hz hτ => ?_)
  · exact aL_ok (n := 0) [.ref (ρ 0), .int x1] j v q
  · subst hρ
    subst hτ
    exact w_X12_readTalkLine (Nat.le_refl _) Z X x1 s r hz h
