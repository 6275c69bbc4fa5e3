/-! ===== the law's loop ===== -/
theorem dL_law_0 : decode code 0 = .ok (.new 7, 3) := by decide +kernel
theorem dL_law_3 : decode code 3 = .ok (.dup, 1) := by decide +kernel
theorem dL_law_4 : decode code 4 = .ok (.invokespecial 9, 3) := by decide +kernel
theorem dL_law_7 : decode code 7 = .ok (.astore_n 1, 1) := by decide +kernel
theorem dL_law_8 : decode code 8 = .ok (.new 10, 3) := by decide +kernel
theorem dL_law_11 : decode code 11 = .ok (.dup, 1) := by decide +kernel
theorem dL_law_12 : decode code 12 = .ok (.invokespecial 12, 3) := by decide +kernel
theorem dL_law_15 : decode code 15 = .ok (.astore_n 2, 1) := by decide +kernel
theorem dL_law_16 : decode code 16 = .ok (.iconst 0, 1) := by decide +kernel
theorem dL_law_17 : decode code 17 = .ok (.istore_n 3, 1) := by decide +kernel
theorem dL_law_18 : decode code 18 = .ok (.iload_n 3, 1) := by decide +kernel
theorem dL_law_19 : decode code 19 = .ok (.aload_n 0, 1) := by decide +kernel
theorem dL_law_20 : decode code 20 = .ok (.arraylength, 1) := by decide +kernel
theorem dL_law_21 : decode code 21 = .ok (.bipush 6, 2) := by decide +kernel
theorem dL_law_23 : decode code 23 = .ok (.isub, 1) := by decide +kernel
theorem dL_law_24 : decode code 24 = .ok (.if_icmp .gt 1389, 3) := by decide +kernel
theorem dL_law_27 : decode code 27 = .ok (.aload_n 0, 1) := by decide +kernel
theorem dL_law_28 : decode code 28 = .ok (.iload_n 3, 1) := by decide +kernel
theorem dL_law_29 : decode code 29 = .ok (.iaload, 1) := by decide +kernel
theorem dL_law_30 : decode code 30 = .ok (.bipush 63, 2) := by decide +kernel
theorem dL_law_32 : decode code 32 = .ok (.iand, 1) := by decide +kernel
theorem dL_law_33 : decode code 33 = .ok (.tableswitch 1374 0 38 #[171, 194, 217, 260, 303, 326, 389, 412, 435, 458, 491, 524, 557, 570, 593, 616, 639, 672, 705, 738, 771, 814, 837, 880, 923, 966, 999, 1032, 1055, 1098, 1131, 1154, 1197, 1220, 1263, 1286, 1299, 1312, 1351], 171) := by decide +kernel
theorem dL_law_1407 : decode code 1407 = .ok (.iinc 3 6, 3) := by decide +kernel
theorem dL_law_1410 : decode code 1410 = .ok (.goto (-1392), 3) := by decide +kernel
theorem dL_law_1413 : decode code 1413 = .ok (.iconst 1, 1) := by decide +kernel
theorem dL_law_1414 : decode code 1414 = .ok (.ireturn, 1) := by decide +kernel
theorem and63 (x : Int32) : ∃ k, k < 64 ∧ x &&& 63 = Int32.ofNat k := by
  refine ⟨(x.toBitVec &&& 63#32).toNat, ?_, ?_⟩
  · rw [BitVec.toNat_and]
    exact Nat.lt_of_le_of_lt Nat.and_le_right (by decide)
  · apply Int32.toBitVec_inj.mp
    rw [Int32.toBitVec_and]
    have e : (63 : Int32).toBitVec = 63#32 := rfl
    rw [e]
    show _ = BitVec.ofNat 32 _
    rw [BitVec.ofNat_toNat, BitVec.setWidth_eq]
theorem lenCmp {N i : Nat} (hN : N ≤ 3072) (hi : i ≤ 3072) : Int32.ofNat N - 6 < Int32.ofNat i ↔ N < i + 6 := by
  rw [Int32.lt_iff_toInt_lt, Int32.toInt_sub, N_toInt (a := N) (by omega), N_toInt (a := i) (by omega), show (6 : Int32).toInt = 6 from by decide, Int.bmod_eq_of_le (by omega) (by omega)]
  omega
section LWL
variable {Z : LZ} {σ τ : Mem} {i : Nat}
theorem lw_tab {k tgt : Nat} {st : List Value} {L : List (Option Value)} (X : LX Z) (h : ¬ (Int32.ofNat k).toInt < 0 ∧ ¬ 38 < (Int32.ofNat k).toInt ∧ ((#[171, 194, 217, 260, 303, 326, 389, 412, 435, 458, 491, 524, 557, 570, 593, 616, 639, 672, 705, 738, 771, 814, 837, 880, 923, 966, 999, 1032, 1055, 1098, 1131, 1154, 1197, 1220, 1263, 1286, 1299, 1312, 1351] : Array Int)[((Int32.ofNat k).toInt - 0).toNat]?).map (fun o => ((33 : Nat) : Int) + o) = some (tgt : Int)) (K : LW Z σ τ tgt L st) : LW Z σ τ 33 L (.int (Int32.ofNat k) :: st) :=
  fun H locs ls h0 h1 hS hv => by
    obtain ⟨o, ho, ht⟩ := Option.map_eq_some_iff.mp h.2.2
    exact lv_tableIn X.1.1 X.1.2.1 dL_law_33 h.1 h.2.1 ho ht (K H locs ls h0 h1 hS hv)
theorem lw_tabd {k : Nat} {st : List Value} {L : List (Option Value)} (X : LX Z) (hk : 39 ≤ k) (hk2 : k < 64) (K : LW Z σ τ 1407 L st) : LW Z σ τ 33 L (.int (Int32.ofNat k) :: st) :=
  fun H locs ls h0 h1 hS hv => by
    refine lv_tableOut (tgt := 1407) X.1.1 X.1.2.1 dL_law_33 (Or.inr ?_) (by decide) (K H locs ls h0 h1 hS hv)
    rw [N_toInt (by omega)]
    omega
theorem lw_case (X : LX Z) (hi : i + 6 ≤ Z.2.2.1.2.1) (h : GR σ τ) (K : ∀ σ' τ', GR σ' τ' → LW Z σ' τ' 1407 (LL Z i) []) : ∀ k, k < 64 → LW Z σ τ 33 (LL Z i) [.int (Int32.ofNat k)]
  | 0, _ => lw_tab X (by decide) (lw_c0 X hi h K)
  | 1, _ => lw_tab X (by decide) (lw_c1 X hi h K)
  | 2, _ => lw_tab X (by decide) (lw_c2 X hi h K)
  | 3, _ => lw_tab X (by decide) (lw_c3 X hi h K)
  | 4, _ => lw_tab X (by decide) (lw_c4 X hi h K)
  | 5, _ => lw_tab X (by decide) (lw_c5 X hi h K)
  | 6, _ => lw_tab X (by decide) (lw_c6 X hi h K)
  | 7, _ => lw_tab X (by decide) (lw_c7 X hi h K)
  | 8, _ => lw_tab X (by decide) (lw_c8 X hi h K)
  | 9, _ => lw_tab X (by decide) (lw_c9 X hi h K)
  | 10, _ => lw_tab X (by decide) (lw_c10 X hi h K)
  | 11, _ => lw_tab X (by decide) (lw_c11 X hi h K)
  | 12, _ => lw_tab X (by decide) (lw_c12 X hi h K)
  | 13, _ => lw_tab X (by decide) (lw_c13 X hi h K)
  | 14, _ => lw_tab X (by decide) (lw_c14 X hi h K)
  | 15, _ => lw_tab X (by decide) (lw_c15 X hi h K)
  | 16, _ => lw_tab X (by decide) (lw_c16 X hi h K)
  | 17, _ => lw_tab X (by decide) (lw_c17 X hi h K)
  | 18, _ => lw_tab X (by decide) (lw_c18 X hi h K)
  | 19, _ => lw_tab X (by decide) (lw_c19 X hi h K)
  | 20, _ => lw_tab X (by decide) (lw_c20 X hi h K)
  | 21, _ => lw_tab X (by decide) (lw_c21 X hi h K)
  | 22, _ => lw_tab X (by decide) (lw_c22 X hi h K)
  | 23, _ => lw_tab X (by decide) (lw_c23 X hi h K)
  | 24, _ => lw_tab X (by decide) (lw_c24 X hi h K)
  | 25, _ => lw_tab X (by decide) (lw_c25 X hi h K)
  | 26, _ => lw_tab X (by decide) (lw_c26 X hi h K)
  | 27, _ => lw_tab X (by decide) (lw_c27 X hi h K)
  | 28, _ => lw_tab X (by decide) (lw_c28 X hi h K)
  | 29, _ => lw_tab X (by decide) (lw_c29 X hi h K)
  | 30, _ => lw_tab X (by decide) (lw_c30 X hi h K)
  | 31, _ => lw_tab X (by decide) (lw_c31 X hi h K)
  | 32, _ => lw_tab X (by decide) (lw_c32 X hi h K)
  | 33, _ => lw_tab X (by decide) (lw_c33 X hi h K)
  | 34, _ => lw_tab X (by decide) (lw_c34 X hi h K)
  | 35, _ => lw_tab X (by decide) (lw_c35 X hi h K)
  | 36, _ => lw_tab X (by decide) (lw_c36 X hi h K)
  | 37, _ => lw_tab X (by decide) (lw_c37 X hi h K)
  | 38, _ => lw_tab X (by decide) (lw_c38 X hi h K)
  | k + 39, q => lw_tabd X (by omega) q (K _ _ h)
theorem lw_exit (X : LX Z) : LW Z σ τ 1413 (LL Z i) [] := by
  intro H locs ls h0 h1 hS hv
  refine lv_iconst X.1.1 X.1.2.1 dL_law_1413 (v := 1) rfl ?_
  refine va_forget (fun q hq => hS.2.2 q hq) ?_
  obtain ⟨-, h3072, hK, hinj, hr, hdis, hE, hce, hsl⟩ := id X
  refine W.widen (k := 600000) (n := 7302250) hce hsl ?_
  exact lw_ret X.1.1 X.1.2.1 X.1.2.2.1 X.1.2.2.2.2.2.2.2.2.1 dL_law_1414
theorem lw_loop (X : LX Z) : ∀ (r i : Nat) (σ τ : Mem), Z.2.2.1.2.1 ≤ i + r → i ≤ Z.2.2.1.2.1 → GR σ τ → LW Z σ τ 18 (LL Z i) [] := by
  have h3 : Z.2.2.1.2.1 ≤ 3072 := X.2.1
  intro r
  induction r with
  | zero =>
    intro i σ τ h1 h2 h
    refine lw_iload (k := 3) X dL_law_18 rfl ?_
    refine lw_aload (k := 0) X dL_law_19 rfl ?_
    refine lw_slen X dL_law_20 ?_
    refine lw_bipush X dL_law_21 (v := 6) (by decide) ?_
    refine lw_isub X dL_law_23 ?_
    refine lw_icmpgt (tgt := 1413) X dL_law_24 (by decide) (fun _ => lw_exit X) (fun q => ?_)
    rw [lenCmp h3 (by omega)] at q
    omega
  | succ r ih =>
    intro i σ τ h1 h2 h
    refine lw_iload (k := 3) X dL_law_18 rfl ?_
    refine lw_aload (k := 0) X dL_law_19 rfl ?_
    refine lw_slen X dL_law_20 ?_
    refine lw_bipush X dL_law_21 (v := 6) (by decide) ?_
    refine lw_isub X dL_law_23 ?_
    refine lw_icmpgt (tgt := 1413) X dL_law_24 (by decide) (fun _ => lw_exit X) (fun q => ?_)
    rw [lenCmp h3 (by omega)] at q
    refine lw_aload (k := 0) X dL_law_27 rfl ?_
    refine lw_iload (k := 3) X dL_law_28 rfl ?_
    refine lw_sld X dL_law_29 (by omega) ?_
    refine lw_bipush X dL_law_30 (v := 63) (by decide) ?_
    refine lw_iand X dL_law_32 ?_
    obtain ⟨k, hk, e⟩ := and63 (Z.2.2.1.2.2 i)
    rw [e]
    refine lw_case X (by omega) h (fun σ' τ' h' => ?_) k hk
    refine lw_iinc (L' := LL Z (i + 6)) (v := Int32.ofNat (i + 6)) X dL_law_1407 rfl ?_ (by decide) rfl ?_
    · rw [show Int32.ofInt 6 = Int32.ofNat 6 from rfl, N_add]
    · exact lw_goto (tgt := 18) X dL_law_1410 (by decide) (ih (i + 6) σ' τ' (by omega) (by omega) h')
end LWL
