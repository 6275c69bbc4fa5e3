/-! ===== constructors of the class ===== -/
def e_RX0 (B : Nat) (x1 : Int32) : va_E := .inr (0, [.int x1, .int 0, .ref (B + 0), .ref (B + 1), .ref (B + 2), .ref (B + 3), .ref (B + 4), .ref (B + 5), .ref (B + 6), .int 0, .int 0, .int 0, .int 0])
def t_RX0 (cA : ClassId × ClassId × ClassId) (B : Nat) (x1 : Int32) : CH := [.inl (cA.1, 14, .inl (fun _ => 0)), .inl (cA.1, 14, .inl (fun _ => 0)), .inl (cA.1, 14, .inl (fun _ => 0)), .inl (cA.1, 14, .inl (fun _ => 0)), .inl (cA.1, 14, .inl (fun _ => 0)), .inl (cA.1, 14, .inl (fun _ => 0)), .inl (cA.1, 14, .inl (fun _ => 0))]
theorem dX0_init_0 : decode cX0_init 0 = .ok (.aload_n 0, 1) := by decide +kernel
theorem dX0_init_1 : decode cX0_init 1 = .ok (.invokespecial 3, 3) := by decide +kernel
theorem dX0_init_4 : decode cX0_init 4 = .ok (.aload_n 0, 1) := by decide +kernel
theorem dX0_init_5 : decode cX0_init 5 = .ok (.iload_n 1, 1) := by decide +kernel
theorem dX0_init_6 : decode cX0_init 6 = .ok (.putfield 9, 3) := by decide +kernel
theorem dX0_init_9 : decode cX0_init 9 = .ok (.aload_n 0, 1) := by decide +kernel
theorem dX0_init_10 : decode cX0_init 10 = .ok (.iconst 0, 1) := by decide +kernel
theorem dX0_init_11 : decode cX0_init 11 = .ok (.putfield 15, 3) := by decide +kernel
theorem dX0_init_14 : decode cX0_init 14 = .ok (.aload_n 0, 1) := by decide +kernel
theorem dX0_init_15 : decode cX0_init 15 = .ok (.bipush 14, 2) := by decide +kernel
theorem dX0_init_17 : decode cX0_init 17 = .ok (.newarray .int, 2) := by decide +kernel
theorem dX0_init_19 : decode cX0_init 19 = .ok (.putfield 19, 3) := by decide +kernel
theorem dX0_init_22 : decode cX0_init 22 = .ok (.aload_n 0, 1) := by decide +kernel
theorem dX0_init_23 : decode cX0_init 23 = .ok (.bipush 14, 2) := by decide +kernel
theorem dX0_init_25 : decode cX0_init 25 = .ok (.newarray .int, 2) := by decide +kernel
theorem dX0_init_27 : decode cX0_init 27 = .ok (.putfield 23, 3) := by decide +kernel
theorem dX0_init_30 : decode cX0_init 30 = .ok (.aload_n 0, 1) := by decide +kernel
theorem dX0_init_31 : decode cX0_init 31 = .ok (.bipush 14, 2) := by decide +kernel
theorem dX0_init_33 : decode cX0_init 33 = .ok (.newarray .int, 2) := by decide +kernel
theorem dX0_init_35 : decode cX0_init 35 = .ok (.putfield 26, 3) := by decide +kernel
theorem dX0_init_38 : decode cX0_init 38 = .ok (.aload_n 0, 1) := by decide +kernel
theorem dX0_init_39 : decode cX0_init 39 = .ok (.bipush 14, 2) := by decide +kernel
theorem dX0_init_41 : decode cX0_init 41 = .ok (.newarray .int, 2) := by decide +kernel
theorem dX0_init_43 : decode cX0_init 43 = .ok (.putfield 29, 3) := by decide +kernel
theorem dX0_init_46 : decode cX0_init 46 = .ok (.aload_n 0, 1) := by decide +kernel
theorem dX0_init_47 : decode cX0_init 47 = .ok (.bipush 14, 2) := by decide +kernel
theorem dX0_init_49 : decode cX0_init 49 = .ok (.newarray .int, 2) := by decide +kernel
theorem dX0_init_51 : decode cX0_init 51 = .ok (.putfield 32, 3) := by decide +kernel
theorem dX0_init_54 : decode cX0_init 54 = .ok (.aload_n 0, 1) := by decide +kernel
theorem dX0_init_55 : decode cX0_init 55 = .ok (.bipush 14, 2) := by decide +kernel
theorem dX0_init_57 : decode cX0_init 57 = .ok (.newarray .int, 2) := by decide +kernel
theorem dX0_init_59 : decode cX0_init 59 = .ok (.putfield 35, 3) := by decide +kernel
theorem dX0_init_62 : decode cX0_init 62 = .ok (.aload_n 0, 1) := by decide +kernel
theorem dX0_init_63 : decode cX0_init 63 = .ok (.bipush 14, 2) := by decide +kernel
theorem dX0_init_65 : decode cX0_init 65 = .ok (.newarray .int, 2) := by decide +kernel
theorem dX0_init_67 : decode cX0_init 67 = .ok (.putfield 38, 3) := by decide +kernel
theorem dX0_init_70 : decode cX0_init 70 = .ok (.aload_n 0, 1) := by decide +kernel
theorem dX0_init_71 : decode cX0_init 71 = .ok (.iconst 0, 1) := by decide +kernel
theorem dX0_init_72 : decode cX0_init 72 = .ok (.putfield 41, 3) := by decide +kernel
theorem dX0_init_75 : decode cX0_init 75 = .ok (.aload_n 0, 1) := by decide +kernel
theorem dX0_init_76 : decode cX0_init 76 = .ok (.iconst 0, 1) := by decide +kernel
theorem dX0_init_77 : decode cX0_init 77 = .ok (.putfield 44, 3) := by decide +kernel
theorem dX0_init_80 : decode cX0_init 80 = .ok (.aload_n 0, 1) := by decide +kernel
theorem dX0_init_81 : decode cX0_init 81 = .ok (.iconst 0, 1) := by decide +kernel
theorem dX0_init_82 : decode cX0_init 82 = .ok (.putfield 47, 3) := by decide +kernel
theorem dX0_init_85 : decode cX0_init 85 = .ok (.aload_n 0, 1) := by decide +kernel
theorem dX0_init_86 : decode cX0_init 86 = .ok (.iconst 0, 1) := by decide +kernel
theorem dX0_init_87 : decode cX0_init 87 = .ok (.putfield 50, 3) := by decide +kernel
theorem dX0_init_90 : decode cX0_init 90 = .ok (.return_, 1) := by decide +kernel
set_option maxRecDepth 100000 in
set_option maxHeartbeats 4000000 in
theorem ok_X0_init (x1 : Int32) (hx1 : x1 = 0 ∨ x1 = 1) (l : Launch) (D : va_G) (cA : ClassId × ClassId × ClassId) (q B : Nat) : CM l D cA yX0_init cX0_init 2 1 7 98 [.int x1] q B (.inr (0, [.int 0, .int 0, .null, .null, .null, .null, .null, .null, .null, .int 0, .int 0, .int 0, .int 0])) (e_RX0 B x1) (t_RX0 cA B x1) := by
  refine CM_of (L := [some (.ref q), some (.int x1)]) (by decide) rfl (by simp [Value.category]) (Nat.le_of_ble_eq_true rfl) (fun j v z => ?_) (fun Z X hq hB hA he hT => ?_)
  · exact aL_ok (n := 0) (.ref q :: [.int x1]) j v z
  subst hq hB hA
  refine ac_aload_n X dX0_init_0 rfl ?_
  refine ac_obji X (Nat.le_of_ble_eq_true rfl) oi_RX0_3 dX0_init_1 ?_
  refine ac_aload_n X dX0_init_4 rfl ?_
  refine ac_iload_n X dX0_init_5 rfl ?_
  refine ac_putF (fs' := [.int x1, .int 0, .null, .null, .null, .null, .null, .null, .null, .int 0, .int 0, .int 0, .int 0]) X dX0_init_6 pf_RX0_9 (bz_n hx1) (bz_f hx1) (Nat.le_of_ble_eq_true rfl) rfl ?_
  refine ac_aload_n X dX0_init_9 rfl ?_
  refine ac_iconst (v := 0) X dX0_init_10 (by decide) ?_
  refine ac_put (fs' := [.int x1, .int 0, .null, .null, .null, .null, .null, .null, .null, .int 0, .int 0, .int 0, .int 0]) X dX0_init_11 pf_RX0_15 rfl rfl (Nat.le_of_ble_eq_true rfl) rfl ?_
  refine ac_aload_n X dX0_init_14 rfl ?_
  refine ac_bipush (v := 14) X dX0_init_15 (by decide) ?_
  refine ac_newaiM (k := 14) (m := 0) (c' := 1) (n' := 14) rfl rfl rfl X dX0_init_17 aw_ci (by decide) (Nat.le_of_ble_eq_true rfl) (Nat.le_of_ble_eq_true rfl) ?_
  refine ac_putF (fs' := [.int x1, .int 0, .ref (cB Z + 0), .null, .null, .null, .null, .null, .null, .int 0, .int 0, .int 0, .int 0]) X dX0_init_19 pf_RX0_19 rfl rfl (Nat.le_of_ble_eq_true rfl) rfl ?_
  refine ac_aload_n X dX0_init_22 rfl ?_
  refine ac_bipush (v := 14) X dX0_init_23 (by decide) ?_
  refine ac_newaiM (k := 14) (m := 1) (c' := 2) (n' := 28) rfl rfl rfl X dX0_init_25 aw_ci (by decide) (Nat.le_of_ble_eq_true rfl) (Nat.le_of_ble_eq_true rfl) ?_
  refine ac_putF (fs' := [.int x1, .int 0, .ref (cB Z + 0), .ref (cB Z + 1), .null, .null, .null, .null, .null, .int 0, .int 0, .int 0, .int 0]) X dX0_init_27 pf_RX0_23 rfl rfl (Nat.le_of_ble_eq_true rfl) rfl ?_
  refine ac_aload_n X dX0_init_30 rfl ?_
  refine ac_bipush (v := 14) X dX0_init_31 (by decide) ?_
  refine ac_newaiM (k := 14) (m := 2) (c' := 3) (n' := 42) rfl rfl rfl X dX0_init_33 aw_ci (by decide) (Nat.le_of_ble_eq_true rfl) (Nat.le_of_ble_eq_true rfl) ?_
  refine ac_putF (fs' := [.int x1, .int 0, .ref (cB Z + 0), .ref (cB Z + 1), .ref (cB Z + 2), .null, .null, .null, .null, .int 0, .int 0, .int 0, .int 0]) X dX0_init_35 pf_RX0_26 rfl rfl (Nat.le_of_ble_eq_true rfl) rfl ?_
  refine ac_aload_n X dX0_init_38 rfl ?_
  refine ac_bipush (v := 14) X dX0_init_39 (by decide) ?_
  refine ac_newaiM (k := 14) (m := 3) (c' := 4) (n' := 56) rfl rfl rfl X dX0_init_41 aw_ci (by decide) (Nat.le_of_ble_eq_true rfl) (Nat.le_of_ble_eq_true rfl) ?_
  refine ac_putF (fs' := [.int x1, .int 0, .ref (cB Z + 0), .ref (cB Z + 1), .ref (cB Z + 2), .ref (cB Z + 3), .null, .null, .null, .int 0, .int 0, .int 0, .int 0]) X dX0_init_43 pf_RX0_29 rfl rfl (Nat.le_of_ble_eq_true rfl) rfl ?_
  refine ac_aload_n X dX0_init_46 rfl ?_
  refine ac_bipush (v := 14) X dX0_init_47 (by decide) ?_
  refine ac_newaiM (k := 14) (m := 4) (c' := 5) (n' := 70) rfl rfl rfl X dX0_init_49 aw_ci (by decide) (Nat.le_of_ble_eq_true rfl) (Nat.le_of_ble_eq_true rfl) ?_
  refine ac_putF (fs' := [.int x1, .int 0, .ref (cB Z + 0), .ref (cB Z + 1), .ref (cB Z + 2), .ref (cB Z + 3), .ref (cB Z + 4), .null, .null, .int 0, .int 0, .int 0, .int 0]) X dX0_init_51 pf_RX0_32 rfl rfl (Nat.le_of_ble_eq_true rfl) rfl ?_
  refine ac_aload_n X dX0_init_54 rfl ?_
  refine ac_bipush (v := 14) X dX0_init_55 (by decide) ?_
  refine ac_newaiM (k := 14) (m := 5) (c' := 6) (n' := 84) rfl rfl rfl X dX0_init_57 aw_ci (by decide) (Nat.le_of_ble_eq_true rfl) (Nat.le_of_ble_eq_true rfl) ?_
  refine ac_putF (fs' := [.int x1, .int 0, .ref (cB Z + 0), .ref (cB Z + 1), .ref (cB Z + 2), .ref (cB Z + 3), .ref (cB Z + 4), .ref (cB Z + 5), .null, .int 0, .int 0, .int 0, .int 0]) X dX0_init_59 pf_RX0_35 rfl rfl (Nat.le_of_ble_eq_true rfl) rfl ?_
  refine ac_aload_n X dX0_init_62 rfl ?_
  refine ac_bipush (v := 14) X dX0_init_63 (by decide) ?_
  refine ac_newaiM (k := 14) (m := 6) (c' := 7) (n' := 98) rfl rfl rfl X dX0_init_65 aw_ci (by decide) (Nat.le_of_ble_eq_true rfl) (Nat.le_of_ble_eq_true rfl) ?_
  refine ac_putF (fs' := [.int x1, .int 0, .ref (cB Z + 0), .ref (cB Z + 1), .ref (cB Z + 2), .ref (cB Z + 3), .ref (cB Z + 4), .ref (cB Z + 5), .ref (cB Z + 6), .int 0, .int 0, .int 0, .int 0]) X dX0_init_67 pf_RX0_38 rfl rfl (Nat.le_of_ble_eq_true rfl) rfl ?_
  refine ac_aload_n X dX0_init_70 rfl ?_
  refine ac_iconst (v := 0) X dX0_init_71 (by decide) ?_
  refine ac_put (fs' := [.int x1, .int 0, .ref (cB Z + 0), .ref (cB Z + 1), .ref (cB Z + 2), .ref (cB Z + 3), .ref (cB Z + 4), .ref (cB Z + 5), .ref (cB Z + 6), .int 0, .int 0, .int 0, .int 0]) X dX0_init_72 pf_RX0_41 rfl rfl (Nat.le_of_ble_eq_true rfl) rfl ?_
  refine ac_aload_n X dX0_init_75 rfl ?_
  refine ac_iconst (v := 0) X dX0_init_76 (by decide) ?_
  refine ac_put (fs' := [.int x1, .int 0, .ref (cB Z + 0), .ref (cB Z + 1), .ref (cB Z + 2), .ref (cB Z + 3), .ref (cB Z + 4), .ref (cB Z + 5), .ref (cB Z + 6), .int 0, .int 0, .int 0, .int 0]) X dX0_init_77 pf_RX0_44 rfl rfl (Nat.le_of_ble_eq_true rfl) rfl ?_
  refine ac_aload_n X dX0_init_80 rfl ?_
  refine ac_iconst (v := 0) X dX0_init_81 (by decide) ?_
  refine ac_put (fs' := [.int x1, .int 0, .ref (cB Z + 0), .ref (cB Z + 1), .ref (cB Z + 2), .ref (cB Z + 3), .ref (cB Z + 4), .ref (cB Z + 5), .ref (cB Z + 6), .int 0, .int 0, .int 0, .int 0]) X dX0_init_82 pf_RX0_47 rfl rfl (Nat.le_of_ble_eq_true rfl) rfl ?_
  refine ac_aload_n X dX0_init_85 rfl ?_
  refine ac_iconst (v := 0) X dX0_init_86 (by decide) ?_
  refine ac_put (fs' := [.int x1, .int 0, .ref (cB Z + 0), .ref (cB Z + 1), .ref (cB Z + 2), .ref (cB Z + 3), .ref (cB Z + 4), .ref (cB Z + 5), .ref (cB Z + 6), .int 0, .int 0, .int 0, .int 0]) X dX0_init_87 pf_RX0_50 rfl rfl (Nat.le_of_ble_eq_true rfl) rfl ?_
  exact ac_vret X dX0_init_90 (Eq.trans rfl he.symm) (Eq.trans rfl hT.symm) (by decide) (by decide)
def e_RX1 (B : Nat) : va_E := .inr (1, [.int 0, .int 0, .ref (B + 0), .ref (B + 1), .ref (B + 2), .ref (B + 3), .ref (B + 4), .ref (B + 5)])
def t_RX1 (cA : ClassId × ClassId × ClassId) (B : Nat) : CH := [.inl (cA.1, 16, .inl (fun _ => 0)), .inl (cA.1, 16, .inl (fun _ => 0)), .inl (cA.1, 16, .inl (fun _ => 0)), .inl (cA.1, 16, .inl (fun _ => 0)), .inl (cA.1, 400, .inl (fun _ => 0)), .inl (cA.1, 64, .inl (fun _ => 0))]
theorem dX1_init_0 : decode cX1_init 0 = .ok (.aload_n 0, 1) := by decide +kernel
theorem dX1_init_1 : decode cX1_init 1 = .ok (.invokespecial 3, 3) := by decide +kernel
theorem dX1_init_4 : decode cX1_init 4 = .ok (.aload_n 0, 1) := by decide +kernel
theorem dX1_init_5 : decode cX1_init 5 = .ok (.iconst 0, 1) := by decide +kernel
theorem dX1_init_6 : decode cX1_init 6 = .ok (.putfield 9, 3) := by decide +kernel
theorem dX1_init_9 : decode cX1_init 9 = .ok (.aload_n 0, 1) := by decide +kernel
theorem dX1_init_10 : decode cX1_init 10 = .ok (.iconst 0, 1) := by decide +kernel
theorem dX1_init_11 : decode cX1_init 11 = .ok (.putfield 15, 3) := by decide +kernel
theorem dX1_init_14 : decode cX1_init 14 = .ok (.aload_n 0, 1) := by decide +kernel
theorem dX1_init_15 : decode cX1_init 15 = .ok (.bipush 16, 2) := by decide +kernel
theorem dX1_init_17 : decode cX1_init 17 = .ok (.newarray .int, 2) := by decide +kernel
theorem dX1_init_19 : decode cX1_init 19 = .ok (.putfield 18, 3) := by decide +kernel
theorem dX1_init_22 : decode cX1_init 22 = .ok (.aload_n 0, 1) := by decide +kernel
theorem dX1_init_23 : decode cX1_init 23 = .ok (.bipush 16, 2) := by decide +kernel
theorem dX1_init_25 : decode cX1_init 25 = .ok (.newarray .int, 2) := by decide +kernel
theorem dX1_init_27 : decode cX1_init 27 = .ok (.putfield 22, 3) := by decide +kernel
theorem dX1_init_30 : decode cX1_init 30 = .ok (.aload_n 0, 1) := by decide +kernel
theorem dX1_init_31 : decode cX1_init 31 = .ok (.bipush 16, 2) := by decide +kernel
theorem dX1_init_33 : decode cX1_init 33 = .ok (.newarray .int, 2) := by decide +kernel
theorem dX1_init_35 : decode cX1_init 35 = .ok (.putfield 25, 3) := by decide +kernel
theorem dX1_init_38 : decode cX1_init 38 = .ok (.aload_n 0, 1) := by decide +kernel
theorem dX1_init_39 : decode cX1_init 39 = .ok (.bipush 16, 2) := by decide +kernel
theorem dX1_init_41 : decode cX1_init 41 = .ok (.newarray .int, 2) := by decide +kernel
theorem dX1_init_43 : decode cX1_init 43 = .ok (.putfield 28, 3) := by decide +kernel
theorem dX1_init_46 : decode cX1_init 46 = .ok (.aload_n 0, 1) := by decide +kernel
theorem dX1_init_47 : decode cX1_init 47 = .ok (.sipush 400, 3) := by decide +kernel
theorem dX1_init_50 : decode cX1_init 50 = .ok (.newarray .int, 2) := by decide +kernel
theorem dX1_init_52 : decode cX1_init 52 = .ok (.putfield 31, 3) := by decide +kernel
theorem dX1_init_55 : decode cX1_init 55 = .ok (.aload_n 0, 1) := by decide +kernel
theorem dX1_init_56 : decode cX1_init 56 = .ok (.bipush 64, 2) := by decide +kernel
theorem dX1_init_58 : decode cX1_init 58 = .ok (.newarray .int, 2) := by decide +kernel
theorem dX1_init_60 : decode cX1_init 60 = .ok (.putfield 34, 3) := by decide +kernel
theorem dX1_init_63 : decode cX1_init 63 = .ok (.return_, 1) := by decide +kernel
set_option maxRecDepth 100000 in
set_option maxHeartbeats 4000000 in
theorem ok_X1_init (l : Launch) (D : va_G) (cA : ClassId × ClassId × ClassId) (q B : Nat) : CM l D cA yX1_init cX1_init 1 1 6 528 [] q B (.inr (1, [.int 0, .int 0, .null, .null, .null, .null, .null, .null])) (e_RX1 B) (t_RX1 cA B) := by
  refine CM_of (L := [some (.ref q)]) (by decide) rfl (by simp [Value.category]) (Nat.le_of_ble_eq_true rfl) (fun j v z => ?_) (fun Z X hq hB hA he hT => ?_)
  · exact aL_ok (n := 0) (.ref q :: []) j v z
  subst hq hB hA
  refine ac_aload_n X dX1_init_0 rfl ?_
  refine ac_obji X (Nat.le_of_ble_eq_true rfl) oi_RX1_3 dX1_init_1 ?_
  refine ac_aload_n X dX1_init_4 rfl ?_
  refine ac_iconst (v := 0) X dX1_init_5 (by decide) ?_
  refine ac_put (fs' := [.int 0, .int 0, .null, .null, .null, .null, .null, .null]) X dX1_init_6 pf_RX1_9 rfl rfl (Nat.le_of_ble_eq_true rfl) rfl ?_
  refine ac_aload_n X dX1_init_9 rfl ?_
  refine ac_iconst (v := 0) X dX1_init_10 (by decide) ?_
  refine ac_put (fs' := [.int 0, .int 0, .null, .null, .null, .null, .null, .null]) X dX1_init_11 pf_RX1_15 rfl rfl (Nat.le_of_ble_eq_true rfl) rfl ?_
  refine ac_aload_n X dX1_init_14 rfl ?_
  refine ac_bipush (v := 16) X dX1_init_15 (by decide) ?_
  refine ac_newaiM (k := 16) (m := 0) (c' := 1) (n' := 16) rfl rfl rfl X dX1_init_17 aw_ci (by decide) (Nat.le_of_ble_eq_true rfl) (Nat.le_of_ble_eq_true rfl) ?_
  refine ac_putF (fs' := [.int 0, .int 0, .ref (cB Z + 0), .null, .null, .null, .null, .null]) X dX1_init_19 pf_RX1_18 rfl rfl (Nat.le_of_ble_eq_true rfl) rfl ?_
  refine ac_aload_n X dX1_init_22 rfl ?_
  refine ac_bipush (v := 16) X dX1_init_23 (by decide) ?_
  refine ac_newaiM (k := 16) (m := 1) (c' := 2) (n' := 32) rfl rfl rfl X dX1_init_25 aw_ci (by decide) (Nat.le_of_ble_eq_true rfl) (Nat.le_of_ble_eq_true rfl) ?_
  refine ac_putF (fs' := [.int 0, .int 0, .ref (cB Z + 0), .ref (cB Z + 1), .null, .null, .null, .null]) X dX1_init_27 pf_RX1_22 rfl rfl (Nat.le_of_ble_eq_true rfl) rfl ?_
  refine ac_aload_n X dX1_init_30 rfl ?_
  refine ac_bipush (v := 16) X dX1_init_31 (by decide) ?_
  refine ac_newaiM (k := 16) (m := 2) (c' := 3) (n' := 48) rfl rfl rfl X dX1_init_33 aw_ci (by decide) (Nat.le_of_ble_eq_true rfl) (Nat.le_of_ble_eq_true rfl) ?_
  refine ac_putF (fs' := [.int 0, .int 0, .ref (cB Z + 0), .ref (cB Z + 1), .ref (cB Z + 2), .null, .null, .null]) X dX1_init_35 pf_RX1_25 rfl rfl (Nat.le_of_ble_eq_true rfl) rfl ?_
  refine ac_aload_n X dX1_init_38 rfl ?_
  refine ac_bipush (v := 16) X dX1_init_39 (by decide) ?_
  refine ac_newaiM (k := 16) (m := 3) (c' := 4) (n' := 64) rfl rfl rfl X dX1_init_41 aw_ci (by decide) (Nat.le_of_ble_eq_true rfl) (Nat.le_of_ble_eq_true rfl) ?_
  refine ac_putF (fs' := [.int 0, .int 0, .ref (cB Z + 0), .ref (cB Z + 1), .ref (cB Z + 2), .ref (cB Z + 3), .null, .null]) X dX1_init_43 pf_RX1_28 rfl rfl (Nat.le_of_ble_eq_true rfl) rfl ?_
  refine ac_aload_n X dX1_init_46 rfl ?_
  refine ac_sipush (v := 400) X dX1_init_47 (by decide) ?_
  refine ac_newaiM (k := 400) (m := 4) (c' := 5) (n' := 464) rfl rfl rfl X dX1_init_50 aw_ci (by decide) (Nat.le_of_ble_eq_true rfl) (Nat.le_of_ble_eq_true rfl) ?_
  refine ac_putF (fs' := [.int 0, .int 0, .ref (cB Z + 0), .ref (cB Z + 1), .ref (cB Z + 2), .ref (cB Z + 3), .ref (cB Z + 4), .null]) X dX1_init_52 pf_RX1_31 rfl rfl (Nat.le_of_ble_eq_true rfl) rfl ?_
  refine ac_aload_n X dX1_init_55 rfl ?_
  refine ac_bipush (v := 64) X dX1_init_56 (by decide) ?_
  refine ac_newaiM (k := 64) (m := 5) (c' := 6) (n' := 528) rfl rfl rfl X dX1_init_58 aw_ci (by decide) (Nat.le_of_ble_eq_true rfl) (Nat.le_of_ble_eq_true rfl) ?_
  refine ac_putF (fs' := [.int 0, .int 0, .ref (cB Z + 0), .ref (cB Z + 1), .ref (cB Z + 2), .ref (cB Z + 3), .ref (cB Z + 4), .ref (cB Z + 5)]) X dX1_init_60 pf_RX1_34 rfl rfl (Nat.le_of_ble_eq_true rfl) rfl ?_
  exact ac_vret X dX1_init_63 (Eq.trans rfl he.symm) (Eq.trans rfl hT.symm) (by decide) (by decide)
def e_RX3 (B : Nat) : va_E := .inr (2, [.int 0, .ref (B + 0), .ref (B + 1), .ref (B + 2), .ref (B + 3)])
def t_RX3 (cA : ClassId × ClassId × ClassId) (B : Nat) : CH := [.inl (cA.1, 16, .inl (fun _ => 0)), .inl (cA.1, 16, .inl (fun _ => 0)), .inl (cA.1, 96, .inl (fun _ => 0)), .inl (cA.1, 14, .inl (fun _ => 0))]
theorem dX3_init_0 : decode cX3_init 0 = .ok (.aload_n 0, 1) := by decide +kernel
theorem dX3_init_1 : decode cX3_init 1 = .ok (.invokespecial 3, 3) := by decide +kernel
theorem dX3_init_4 : decode cX3_init 4 = .ok (.aload_n 0, 1) := by decide +kernel
theorem dX3_init_5 : decode cX3_init 5 = .ok (.iconst 0, 1) := by decide +kernel
theorem dX3_init_6 : decode cX3_init 6 = .ok (.putfield 9, 3) := by decide +kernel
theorem dX3_init_9 : decode cX3_init 9 = .ok (.aload_n 0, 1) := by decide +kernel
theorem dX3_init_10 : decode cX3_init 10 = .ok (.bipush 16, 2) := by decide +kernel
theorem dX3_init_12 : decode cX3_init 12 = .ok (.newarray .int, 2) := by decide +kernel
theorem dX3_init_14 : decode cX3_init 14 = .ok (.putfield 15, 3) := by decide +kernel
theorem dX3_init_17 : decode cX3_init 17 = .ok (.aload_n 0, 1) := by decide +kernel
theorem dX3_init_18 : decode cX3_init 18 = .ok (.bipush 16, 2) := by decide +kernel
theorem dX3_init_20 : decode cX3_init 20 = .ok (.newarray .int, 2) := by decide +kernel
theorem dX3_init_22 : decode cX3_init 22 = .ok (.putfield 19, 3) := by decide +kernel
theorem dX3_init_25 : decode cX3_init 25 = .ok (.aload_n 0, 1) := by decide +kernel
theorem dX3_init_26 : decode cX3_init 26 = .ok (.bipush 96, 2) := by decide +kernel
theorem dX3_init_28 : decode cX3_init 28 = .ok (.newarray .int, 2) := by decide +kernel
theorem dX3_init_30 : decode cX3_init 30 = .ok (.putfield 22, 3) := by decide +kernel
theorem dX3_init_33 : decode cX3_init 33 = .ok (.aload_n 0, 1) := by decide +kernel
theorem dX3_init_34 : decode cX3_init 34 = .ok (.bipush 14, 2) := by decide +kernel
theorem dX3_init_36 : decode cX3_init 36 = .ok (.newarray .int, 2) := by decide +kernel
theorem dX3_init_38 : decode cX3_init 38 = .ok (.putfield 25, 3) := by decide +kernel
theorem dX3_init_41 : decode cX3_init 41 = .ok (.return_, 1) := by decide +kernel
set_option maxRecDepth 100000 in
set_option maxHeartbeats 4000000 in
theorem ok_X3_init (l : Launch) (D : va_G) (cA : ClassId × ClassId × ClassId) (q B : Nat) : CM l D cA yX3_init cX3_init 1 1 4 142 [] q B (.inr (2, [.int 0, .null, .null, .null, .null])) (e_RX3 B) (t_RX3 cA B) := by
  refine CM_of (L := [some (.ref q)]) (by decide) rfl (by simp [Value.category]) (Nat.le_of_ble_eq_true rfl) (fun j v z => ?_) (fun Z X hq hB hA he hT => ?_)
  · exact aL_ok (n := 0) (.ref q :: []) j v z
  subst hq hB hA
  refine ac_aload_n X dX3_init_0 rfl ?_
  refine ac_obji X (Nat.le_of_ble_eq_true rfl) oi_RX3_3 dX3_init_1 ?_
  refine ac_aload_n X dX3_init_4 rfl ?_
  refine ac_iconst (v := 0) X dX3_init_5 (by decide) ?_
  refine ac_put (fs' := [.int 0, .null, .null, .null, .null]) X dX3_init_6 pf_RX3_9 rfl rfl (Nat.le_of_ble_eq_true rfl) rfl ?_
  refine ac_aload_n X dX3_init_9 rfl ?_
  refine ac_bipush (v := 16) X dX3_init_10 (by decide) ?_
  refine ac_newaiM (k := 16) (m := 0) (c' := 1) (n' := 16) rfl rfl rfl X dX3_init_12 aw_ci (by decide) (Nat.le_of_ble_eq_true rfl) (Nat.le_of_ble_eq_true rfl) ?_
  refine ac_putF (fs' := [.int 0, .ref (cB Z + 0), .null, .null, .null]) X dX3_init_14 pf_RX3_15 rfl rfl (Nat.le_of_ble_eq_true rfl) rfl ?_
  refine ac_aload_n X dX3_init_17 rfl ?_
  refine ac_bipush (v := 16) X dX3_init_18 (by decide) ?_
  refine ac_newaiM (k := 16) (m := 1) (c' := 2) (n' := 32) rfl rfl rfl X dX3_init_20 aw_ci (by decide) (Nat.le_of_ble_eq_true rfl) (Nat.le_of_ble_eq_true rfl) ?_
  refine ac_putF (fs' := [.int 0, .ref (cB Z + 0), .ref (cB Z + 1), .null, .null]) X dX3_init_22 pf_RX3_19 rfl rfl (Nat.le_of_ble_eq_true rfl) rfl ?_
  refine ac_aload_n X dX3_init_25 rfl ?_
  refine ac_bipush (v := 96) X dX3_init_26 (by decide) ?_
  refine ac_newaiM (k := 96) (m := 2) (c' := 3) (n' := 128) rfl rfl rfl X dX3_init_28 aw_ci (by decide) (Nat.le_of_ble_eq_true rfl) (Nat.le_of_ble_eq_true rfl) ?_
  refine ac_putF (fs' := [.int 0, .ref (cB Z + 0), .ref (cB Z + 1), .ref (cB Z + 2), .null]) X dX3_init_30 pf_RX3_22 rfl rfl (Nat.le_of_ble_eq_true rfl) rfl ?_
  refine ac_aload_n X dX3_init_33 rfl ?_
  refine ac_bipush (v := 14) X dX3_init_34 (by decide) ?_
  refine ac_newaiM (k := 14) (m := 3) (c' := 4) (n' := 142) rfl rfl rfl X dX3_init_36 aw_ci (by decide) (Nat.le_of_ble_eq_true rfl) (Nat.le_of_ble_eq_true rfl) ?_
  refine ac_putF (fs' := [.int 0, .ref (cB Z + 0), .ref (cB Z + 1), .ref (cB Z + 2), .ref (cB Z + 3)]) X dX3_init_38 pf_RX3_25 rfl rfl (Nat.le_of_ble_eq_true rfl) rfl ?_
  exact ac_vret X dX3_init_41 (Eq.trans rfl he.symm) (Eq.trans rfl hT.symm) (by decide) (by decide)
def e_RX5 (B : Nat) : va_E := .inr (4, [.int 0, .ref (B + 0), .ref (B + 1), .ref (B + 2), .ref (B + 3)])
def t_RX5 (cA : ClassId × ClassId × ClassId) (B : Nat) : CH := [.inl (cA.1, 16, .inl (fun _ => 0)), .inl (cA.1, 16, .inl (fun _ => 0)), .inl (cA.1, 16, .inl (fun _ => 0)), .inl (cA.1, 16, .inl (fun _ => 0))]
theorem dX5_init_0 : decode cX5_init 0 = .ok (.aload_n 0, 1) := by decide +kernel
theorem dX5_init_1 : decode cX5_init 1 = .ok (.invokespecial 3, 3) := by decide +kernel
theorem dX5_init_4 : decode cX5_init 4 = .ok (.aload_n 0, 1) := by decide +kernel
theorem dX5_init_5 : decode cX5_init 5 = .ok (.iconst 0, 1) := by decide +kernel
theorem dX5_init_6 : decode cX5_init 6 = .ok (.putfield 9, 3) := by decide +kernel
theorem dX5_init_9 : decode cX5_init 9 = .ok (.aload_n 0, 1) := by decide +kernel
theorem dX5_init_10 : decode cX5_init 10 = .ok (.bipush 16, 2) := by decide +kernel
theorem dX5_init_12 : decode cX5_init 12 = .ok (.newarray .int, 2) := by decide +kernel
theorem dX5_init_14 : decode cX5_init 14 = .ok (.putfield 15, 3) := by decide +kernel
theorem dX5_init_17 : decode cX5_init 17 = .ok (.aload_n 0, 1) := by decide +kernel
theorem dX5_init_18 : decode cX5_init 18 = .ok (.bipush 16, 2) := by decide +kernel
theorem dX5_init_20 : decode cX5_init 20 = .ok (.newarray .int, 2) := by decide +kernel
theorem dX5_init_22 : decode cX5_init 22 = .ok (.putfield 19, 3) := by decide +kernel
theorem dX5_init_25 : decode cX5_init 25 = .ok (.aload_n 0, 1) := by decide +kernel
theorem dX5_init_26 : decode cX5_init 26 = .ok (.bipush 16, 2) := by decide +kernel
theorem dX5_init_28 : decode cX5_init 28 = .ok (.newarray .int, 2) := by decide +kernel
theorem dX5_init_30 : decode cX5_init 30 = .ok (.putfield 22, 3) := by decide +kernel
theorem dX5_init_33 : decode cX5_init 33 = .ok (.aload_n 0, 1) := by decide +kernel
theorem dX5_init_34 : decode cX5_init 34 = .ok (.bipush 16, 2) := by decide +kernel
theorem dX5_init_36 : decode cX5_init 36 = .ok (.newarray .int, 2) := by decide +kernel
theorem dX5_init_38 : decode cX5_init 38 = .ok (.putfield 25, 3) := by decide +kernel
theorem dX5_init_41 : decode cX5_init 41 = .ok (.return_, 1) := by decide +kernel
set_option maxRecDepth 100000 in
set_option maxHeartbeats 4000000 in
theorem ok_X5_init (l : Launch) (D : va_G) (cA : ClassId × ClassId × ClassId) (q B : Nat) : CM l D cA yX5_init cX5_init 1 1 4 64 [] q B (.inr (4, [.int 0, .null, .null, .null, .null])) (e_RX5 B) (t_RX5 cA B) := by
  refine CM_of (L := [some (.ref q)]) (by decide) rfl (by simp [Value.category]) (Nat.le_of_ble_eq_true rfl) (fun j v z => ?_) (fun Z X hq hB hA he hT => ?_)
  · exact aL_ok (n := 0) (.ref q :: []) j v z
  subst hq hB hA
  refine ac_aload_n X dX5_init_0 rfl ?_
  refine ac_obji X (Nat.le_of_ble_eq_true rfl) oi_RX5_3 dX5_init_1 ?_
  refine ac_aload_n X dX5_init_4 rfl ?_
  refine ac_iconst (v := 0) X dX5_init_5 (by decide) ?_
  refine ac_put (fs' := [.int 0, .null, .null, .null, .null]) X dX5_init_6 pf_RX5_9 rfl rfl (Nat.le_of_ble_eq_true rfl) rfl ?_
  refine ac_aload_n X dX5_init_9 rfl ?_
  refine ac_bipush (v := 16) X dX5_init_10 (by decide) ?_
  refine ac_newaiM (k := 16) (m := 0) (c' := 1) (n' := 16) rfl rfl rfl X dX5_init_12 aw_ci (by decide) (Nat.le_of_ble_eq_true rfl) (Nat.le_of_ble_eq_true rfl) ?_
  refine ac_putF (fs' := [.int 0, .ref (cB Z + 0), .null, .null, .null]) X dX5_init_14 pf_RX5_15 rfl rfl (Nat.le_of_ble_eq_true rfl) rfl ?_
  refine ac_aload_n X dX5_init_17 rfl ?_
  refine ac_bipush (v := 16) X dX5_init_18 (by decide) ?_
  refine ac_newaiM (k := 16) (m := 1) (c' := 2) (n' := 32) rfl rfl rfl X dX5_init_20 aw_ci (by decide) (Nat.le_of_ble_eq_true rfl) (Nat.le_of_ble_eq_true rfl) ?_
  refine ac_putF (fs' := [.int 0, .ref (cB Z + 0), .ref (cB Z + 1), .null, .null]) X dX5_init_22 pf_RX5_19 rfl rfl (Nat.le_of_ble_eq_true rfl) rfl ?_
  refine ac_aload_n X dX5_init_25 rfl ?_
  refine ac_bipush (v := 16) X dX5_init_26 (by decide) ?_
  refine ac_newaiM (k := 16) (m := 2) (c' := 3) (n' := 48) rfl rfl rfl X dX5_init_28 aw_ci (by decide) (Nat.le_of_ble_eq_true rfl) (Nat.le_of_ble_eq_true rfl) ?_
  refine ac_putF (fs' := [.int 0, .ref (cB Z + 0), .ref (cB Z + 1), .ref (cB Z + 2), .null]) X dX5_init_30 pf_RX5_22 rfl rfl (Nat.le_of_ble_eq_true rfl) rfl ?_
  refine ac_aload_n X dX5_init_33 rfl ?_
  refine ac_bipush (v := 16) X dX5_init_34 (by decide) ?_
  refine ac_newaiM (k := 16) (m := 3) (c' := 4) (n' := 64) rfl rfl rfl X dX5_init_36 aw_ci (by decide) (Nat.le_of_ble_eq_true rfl) (Nat.le_of_ble_eq_true rfl) ?_
  refine ac_putF (fs' := [.int 0, .ref (cB Z + 0), .ref (cB Z + 1), .ref (cB Z + 2), .ref (cB Z + 3)]) X dX5_init_38 pf_RX5_25 rfl rfl (Nat.le_of_ble_eq_true rfl) rfl ?_
  exact ac_vret X dX5_init_41 (Eq.trans rfl he.symm) (Eq.trans rfl hT.symm) (by decide) (by decide)
def e_RX6 (B : Nat) : va_E := .inr (5, [.int 0, .int 0, .int 0, .int 0, .int 0, .int 0, .ref (B + 0), .ref (B + 1), .ref (B + 2), .ref (B + 3)])
def t_RX6 (cA : ClassId × ClassId × ClassId) (B : Nat) : CH := [.inl (cA.1, 400, .inl (fun _ => 0)), .inl (cA.1, 400, .inl (fun _ => 0)), .inl (cA.1, 400, .inl (fun _ => 0)), .inl (cA.1, 400, .inl (fun _ => 0))]
theorem dX6_init_0 : decode cX6_init 0 = .ok (.aload_n 0, 1) := by decide +kernel
theorem dX6_init_1 : decode cX6_init 1 = .ok (.invokespecial 3, 3) := by decide +kernel
theorem dX6_init_4 : decode cX6_init 4 = .ok (.aload_n 0, 1) := by decide +kernel
theorem dX6_init_5 : decode cX6_init 5 = .ok (.iconst 0, 1) := by decide +kernel
theorem dX6_init_6 : decode cX6_init 6 = .ok (.putfield 9, 3) := by decide +kernel
theorem dX6_init_9 : decode cX6_init 9 = .ok (.aload_n 0, 1) := by decide +kernel
theorem dX6_init_10 : decode cX6_init 10 = .ok (.iconst 0, 1) := by decide +kernel
theorem dX6_init_11 : decode cX6_init 11 = .ok (.putfield 15, 3) := by decide +kernel
theorem dX6_init_14 : decode cX6_init 14 = .ok (.aload_n 0, 1) := by decide +kernel
theorem dX6_init_15 : decode cX6_init 15 = .ok (.iconst 0, 1) := by decide +kernel
theorem dX6_init_16 : decode cX6_init 16 = .ok (.putfield 18, 3) := by decide +kernel
theorem dX6_init_19 : decode cX6_init 19 = .ok (.aload_n 0, 1) := by decide +kernel
theorem dX6_init_20 : decode cX6_init 20 = .ok (.iconst 0, 1) := by decide +kernel
theorem dX6_init_21 : decode cX6_init 21 = .ok (.putfield 21, 3) := by decide +kernel
theorem dX6_init_24 : decode cX6_init 24 = .ok (.aload_n 0, 1) := by decide +kernel
theorem dX6_init_25 : decode cX6_init 25 = .ok (.iconst 0, 1) := by decide +kernel
theorem dX6_init_26 : decode cX6_init 26 = .ok (.putfield 24, 3) := by decide +kernel
theorem dX6_init_29 : decode cX6_init 29 = .ok (.aload_n 0, 1) := by decide +kernel
theorem dX6_init_30 : decode cX6_init 30 = .ok (.iconst 0, 1) := by decide +kernel
theorem dX6_init_31 : decode cX6_init 31 = .ok (.putfield 27, 3) := by decide +kernel
theorem dX6_init_34 : decode cX6_init 34 = .ok (.aload_n 0, 1) := by decide +kernel
theorem dX6_init_35 : decode cX6_init 35 = .ok (.sipush 400, 3) := by decide +kernel
theorem dX6_init_38 : decode cX6_init 38 = .ok (.newarray .int, 2) := by decide +kernel
theorem dX6_init_40 : decode cX6_init 40 = .ok (.putfield 30, 3) := by decide +kernel
theorem dX6_init_43 : decode cX6_init 43 = .ok (.aload_n 0, 1) := by decide +kernel
theorem dX6_init_44 : decode cX6_init 44 = .ok (.sipush 400, 3) := by decide +kernel
theorem dX6_init_47 : decode cX6_init 47 = .ok (.newarray .int, 2) := by decide +kernel
theorem dX6_init_49 : decode cX6_init 49 = .ok (.putfield 34, 3) := by decide +kernel
theorem dX6_init_52 : decode cX6_init 52 = .ok (.aload_n 0, 1) := by decide +kernel
theorem dX6_init_53 : decode cX6_init 53 = .ok (.sipush 400, 3) := by decide +kernel
theorem dX6_init_56 : decode cX6_init 56 = .ok (.newarray .int, 2) := by decide +kernel
theorem dX6_init_58 : decode cX6_init 58 = .ok (.putfield 37, 3) := by decide +kernel
theorem dX6_init_61 : decode cX6_init 61 = .ok (.aload_n 0, 1) := by decide +kernel
theorem dX6_init_62 : decode cX6_init 62 = .ok (.sipush 400, 3) := by decide +kernel
theorem dX6_init_65 : decode cX6_init 65 = .ok (.newarray .int, 2) := by decide +kernel
theorem dX6_init_67 : decode cX6_init 67 = .ok (.putfield 40, 3) := by decide +kernel
theorem dX6_init_70 : decode cX6_init 70 = .ok (.return_, 1) := by decide +kernel
set_option maxRecDepth 100000 in
set_option maxHeartbeats 4000000 in
theorem ok_X6_init (l : Launch) (D : va_G) (cA : ClassId × ClassId × ClassId) (q B : Nat) : CM l D cA yX6_init cX6_init 1 1 4 1600 [] q B (.inr (5, [.int 0, .int 0, .int 0, .int 0, .int 0, .int 0, .null, .null, .null, .null])) (e_RX6 B) (t_RX6 cA B) := by
  refine CM_of (L := [some (.ref q)]) (by decide) rfl (by simp [Value.category]) (Nat.le_of_ble_eq_true rfl) (fun j v z => ?_) (fun Z X hq hB hA he hT => ?_)
  · exact aL_ok (n := 0) (.ref q :: []) j v z
  subst hq hB hA
  refine ac_aload_n X dX6_init_0 rfl ?_
  refine ac_obji X (Nat.le_of_ble_eq_true rfl) oi_RX6_3 dX6_init_1 ?_
  refine ac_aload_n X dX6_init_4 rfl ?_
  refine ac_iconst (v := 0) X dX6_init_5 (by decide) ?_
  refine ac_put (fs' := [.int 0, .int 0, .int 0, .int 0, .int 0, .int 0, .null, .null, .null, .null]) X dX6_init_6 pf_RX6_9 rfl rfl (Nat.le_of_ble_eq_true rfl) rfl ?_
  refine ac_aload_n X dX6_init_9 rfl ?_
  refine ac_iconst (v := 0) X dX6_init_10 (by decide) ?_
  refine ac_put (fs' := [.int 0, .int 0, .int 0, .int 0, .int 0, .int 0, .null, .null, .null, .null]) X dX6_init_11 pf_RX6_15 rfl rfl (Nat.le_of_ble_eq_true rfl) rfl ?_
  refine ac_aload_n X dX6_init_14 rfl ?_
  refine ac_iconst (v := 0) X dX6_init_15 (by decide) ?_
  refine ac_put (fs' := [.int 0, .int 0, .int 0, .int 0, .int 0, .int 0, .null, .null, .null, .null]) X dX6_init_16 pf_RX6_18 rfl rfl (Nat.le_of_ble_eq_true rfl) rfl ?_
  refine ac_aload_n X dX6_init_19 rfl ?_
  refine ac_iconst (v := 0) X dX6_init_20 (by decide) ?_
  refine ac_put (fs' := [.int 0, .int 0, .int 0, .int 0, .int 0, .int 0, .null, .null, .null, .null]) X dX6_init_21 pf_RX6_21 rfl rfl (Nat.le_of_ble_eq_true rfl) rfl ?_
  refine ac_aload_n X dX6_init_24 rfl ?_
  refine ac_iconst (v := 0) X dX6_init_25 (by decide) ?_
  refine ac_put (fs' := [.int 0, .int 0, .int 0, .int 0, .int 0, .int 0, .null, .null, .null, .null]) X dX6_init_26 pf_RX6_24 rfl rfl (Nat.le_of_ble_eq_true rfl) rfl ?_
  refine ac_aload_n X dX6_init_29 rfl ?_
  refine ac_iconst (v := 0) X dX6_init_30 (by decide) ?_
  refine ac_put (fs' := [.int 0, .int 0, .int 0, .int 0, .int 0, .int 0, .null, .null, .null, .null]) X dX6_init_31 pf_RX6_27 rfl rfl (Nat.le_of_ble_eq_true rfl) rfl ?_
  refine ac_aload_n X dX6_init_34 rfl ?_
  refine ac_sipush (v := 400) X dX6_init_35 (by decide) ?_
  refine ac_newaiM (k := 400) (m := 0) (c' := 1) (n' := 400) rfl rfl rfl X dX6_init_38 aw_ci (by decide) (Nat.le_of_ble_eq_true rfl) (Nat.le_of_ble_eq_true rfl) ?_
  refine ac_putF (fs' := [.int 0, .int 0, .int 0, .int 0, .int 0, .int 0, .ref (cB Z + 0), .null, .null, .null]) X dX6_init_40 pf_RX6_30 rfl rfl (Nat.le_of_ble_eq_true rfl) rfl ?_
  refine ac_aload_n X dX6_init_43 rfl ?_
  refine ac_sipush (v := 400) X dX6_init_44 (by decide) ?_
  refine ac_newaiM (k := 400) (m := 1) (c' := 2) (n' := 800) rfl rfl rfl X dX6_init_47 aw_ci (by decide) (Nat.le_of_ble_eq_true rfl) (Nat.le_of_ble_eq_true rfl) ?_
  refine ac_putF (fs' := [.int 0, .int 0, .int 0, .int 0, .int 0, .int 0, .ref (cB Z + 0), .ref (cB Z + 1), .null, .null]) X dX6_init_49 pf_RX6_34 rfl rfl (Nat.le_of_ble_eq_true rfl) rfl ?_
  refine ac_aload_n X dX6_init_52 rfl ?_
  refine ac_sipush (v := 400) X dX6_init_53 (by decide) ?_
  refine ac_newaiM (k := 400) (m := 2) (c' := 3) (n' := 1200) rfl rfl rfl X dX6_init_56 aw_ci (by decide) (Nat.le_of_ble_eq_true rfl) (Nat.le_of_ble_eq_true rfl) ?_
  refine ac_putF (fs' := [.int 0, .int 0, .int 0, .int 0, .int 0, .int 0, .ref (cB Z + 0), .ref (cB Z + 1), .ref (cB Z + 2), .null]) X dX6_init_58 pf_RX6_37 rfl rfl (Nat.le_of_ble_eq_true rfl) rfl ?_
  refine ac_aload_n X dX6_init_61 rfl ?_
  refine ac_sipush (v := 400) X dX6_init_62 (by decide) ?_
  refine ac_newaiM (k := 400) (m := 3) (c' := 4) (n' := 1600) rfl rfl rfl X dX6_init_65 aw_ci (by decide) (Nat.le_of_ble_eq_true rfl) (Nat.le_of_ble_eq_true rfl) ?_
  refine ac_putF (fs' := [.int 0, .int 0, .int 0, .int 0, .int 0, .int 0, .ref (cB Z + 0), .ref (cB Z + 1), .ref (cB Z + 2), .ref (cB Z + 3)]) X dX6_init_67 pf_RX6_40 rfl rfl (Nat.le_of_ble_eq_true rfl) rfl ?_
  exact ac_vret X dX6_init_70 (Eq.trans rfl he.symm) (Eq.trans rfl hT.symm) (by decide) (by decide)
def e_RX7 (B : Nat) (x1 : Int32) : va_E := .inr (6, [.ref (B + 0), .int 0])
def t_RX7 (cA : ClassId × ClassId × ClassId) (B : Nat) (x1 : Int32) (m : Nat) : CH := [.inl (cA.1, m, .inl (fun _ => 0))]
theorem dX7_init_0 : decode cX7_init 0 = .ok (.aload_n 0, 1) := by decide +kernel
theorem dX7_init_1 : decode cX7_init 1 = .ok (.invokespecial 1, 3) := by decide +kernel
theorem dX7_init_4 : decode cX7_init 4 = .ok (.aload_n 0, 1) := by decide +kernel
theorem dX7_init_5 : decode cX7_init 5 = .ok (.iconst 0, 1) := by decide +kernel
theorem dX7_init_6 : decode cX7_init 6 = .ok (.iload_n 1, 1) := by decide +kernel
theorem dX7_init_7 : decode cX7_init 7 = .ok (.invokestatic 7, 3) := by decide +kernel
theorem dX7_init_10 : decode cX7_init 10 = .ok (.newarray .int, 2) := by decide +kernel
theorem dX7_init_12 : decode cX7_init 12 = .ok (.putfield 13, 3) := by decide +kernel
theorem dX7_init_15 : decode cX7_init 15 = .ok (.aload_n 0, 1) := by decide +kernel
theorem dX7_init_16 : decode cX7_init 16 = .ok (.iconst 0, 1) := by decide +kernel
theorem dX7_init_17 : decode cX7_init 17 = .ok (.putfield 19, 3) := by decide +kernel
theorem dX7_init_20 : decode cX7_init 20 = .ok (.return_, 1) := by decide +kernel
set_option maxRecDepth 100000 in
set_option maxHeartbeats 4000000 in
theorem ok_X7_init (x1 : Int32) (m : Nat) (hm : ¬ jmmax 0 x1 < 0 ∧ (jmmax 0 x1).toNatClampNeg = m ∧ m * componentBytes .int ≤ 536870912) (l : Launch) (D : va_G) (cA : ClassId × ClassId × ClassId) (q B : Nat) : CM l D cA yX7_init cX7_init 2 1 1 m [.int x1] q B (.inr (6, [.null, .int 0])) (e_RX7 B x1) (t_RX7 cA B x1 m) := by
  refine CM_of (L := [some (.ref q), some (.int x1)]) (by decide) rfl (by simp [Value.category]) (Nat.le_of_ble_eq_true rfl) (fun j v z => ?_) (fun Z X hq hB hA he hT => ?_)
  · exact aL_ok (n := 0) (.ref q :: [.int x1]) j v z
  subst hq hB hA
  refine ac_aload_n X dX7_init_0 rfl ?_
  refine ac_obji X (Nat.le_of_ble_eq_true rfl) oi_RX7_1 dX7_init_1 ?_
  refine ac_aload_n X dX7_init_4 rfl ?_
  refine ac_iconst (v := 0) X dX7_init_5 (by decide) ?_
  refine ac_iload_n X dX7_init_6 rfl ?_
  refine ac_mmax X (by decide) (Nat.zero_le _) (Nat.zero_le _) dX7_init_7 mc_RX7_7 rfl ?_
  refine ac_newaiM (k := m) (m := 0) (c' := 1) (n' := m) rfl rfl (by omega) X dX7_init_10 aw_ci hm (by decide) (Nat.le_refl _) ?_
  refine ac_putF (fs' := [.ref (cB Z + 0), .int 0]) X dX7_init_12 pf_RX7_13 rfl rfl (Nat.le_of_ble_eq_true rfl) rfl ?_
  refine ac_aload_n X dX7_init_15 rfl ?_
  refine ac_iconst (v := 0) X dX7_init_16 (by decide) ?_
  refine ac_put (fs' := [.ref (cB Z + 0), .int 0]) X dX7_init_17 pf_RX7_19 rfl rfl (Nat.le_of_ble_eq_true rfl) rfl ?_
  exact ac_vret X dX7_init_20 (Eq.trans rfl he.symm) (Eq.trans rfl hT.symm) (by decide) (by omega)
def e_RX9 (B : Nat) : va_E := .inr (8, [.ref (B + 0), .ref (B + 1), .ref (B + 2), .ref (B + 3)])
def t_RX9 (cA : ClassId × ClassId × ClassId) (B : Nat) : CH := [.inl (cA.1, 100, .inl (fun _ => 0)), .inl (cA.1, 41, .inl (fun _ => 0)), .inl (cA.2.1, 41, .inl (fun _ => 0)), .inl (cA.1, 8, .inl (fun _ => 0))]
theorem dX9_init_0 : decode cX9_init 0 = .ok (.aload_n 0, 1) := by decide +kernel
theorem dX9_init_1 : decode cX9_init 1 = .ok (.invokespecial 3, 3) := by decide +kernel
theorem dX9_init_4 : decode cX9_init 4 = .ok (.aload_n 0, 1) := by decide +kernel
theorem dX9_init_5 : decode cX9_init 5 = .ok (.bipush 100, 2) := by decide +kernel
theorem dX9_init_7 : decode cX9_init 7 = .ok (.newarray .int, 2) := by decide +kernel
theorem dX9_init_9 : decode cX9_init 9 = .ok (.putfield 9, 3) := by decide +kernel
theorem dX9_init_12 : decode cX9_init 12 = .ok (.aload_n 0, 1) := by decide +kernel
theorem dX9_init_13 : decode cX9_init 13 = .ok (.bipush 41, 2) := by decide +kernel
theorem dX9_init_15 : decode cX9_init 15 = .ok (.newarray .int, 2) := by decide +kernel
theorem dX9_init_17 : decode cX9_init 17 = .ok (.putfield 15, 3) := by decide +kernel
theorem dX9_init_20 : decode cX9_init 20 = .ok (.aload_n 0, 1) := by decide +kernel
theorem dX9_init_21 : decode cX9_init 21 = .ok (.bipush 41, 2) := by decide +kernel
theorem dX9_init_23 : decode cX9_init 23 = .ok (.newarray .boolean, 2) := by decide +kernel
theorem dX9_init_25 : decode cX9_init 25 = .ok (.putfield 18, 3) := by decide +kernel
theorem dX9_init_28 : decode cX9_init 28 = .ok (.aload_n 0, 1) := by decide +kernel
theorem dX9_init_29 : decode cX9_init 29 = .ok (.bipush 8, 2) := by decide +kernel
theorem dX9_init_31 : decode cX9_init 31 = .ok (.newarray .int, 2) := by decide +kernel
theorem dX9_init_33 : decode cX9_init 33 = .ok (.putfield 22, 3) := by decide +kernel
theorem dX9_init_36 : decode cX9_init 36 = .ok (.return_, 1) := by decide +kernel
set_option maxRecDepth 100000 in
set_option maxHeartbeats 4000000 in
theorem ok_X9_init (l : Launch) (D : va_G) (cA : ClassId × ClassId × ClassId) (q B : Nat) : CM l D cA yX9_init cX9_init 1 1 4 190 [] q B (.inr (8, [.null, .null, .null, .null])) (e_RX9 B) (t_RX9 cA B) := by
  refine CM_of (L := [some (.ref q)]) (by decide) rfl (by simp [Value.category]) (Nat.le_of_ble_eq_true rfl) (fun j v z => ?_) (fun Z X hq hB hA he hT => ?_)
  · exact aL_ok (n := 0) (.ref q :: []) j v z
  subst hq hB hA
  refine ac_aload_n X dX9_init_0 rfl ?_
  refine ac_obji X (Nat.le_of_ble_eq_true rfl) oi_RX9_3 dX9_init_1 ?_
  refine ac_aload_n X dX9_init_4 rfl ?_
  refine ac_bipush (v := 100) X dX9_init_5 (by decide) ?_
  refine ac_newaiM (k := 100) (m := 0) (c' := 1) (n' := 100) rfl rfl rfl X dX9_init_7 aw_ci (by decide) (Nat.le_of_ble_eq_true rfl) (Nat.le_of_ble_eq_true rfl) ?_
  refine ac_putF (fs' := [.ref (cB Z + 0), .null, .null, .null]) X dX9_init_9 pf_RX9_9 rfl rfl (Nat.le_of_ble_eq_true rfl) rfl ?_
  refine ac_aload_n X dX9_init_12 rfl ?_
  refine ac_bipush (v := 41) X dX9_init_13 (by decide) ?_
  refine ac_newaiM (k := 41) (m := 1) (c' := 2) (n' := 141) rfl rfl rfl X dX9_init_15 aw_ci (by decide) (Nat.le_of_ble_eq_true rfl) (Nat.le_of_ble_eq_true rfl) ?_
  refine ac_putF (fs' := [.ref (cB Z + 0), .ref (cB Z + 1), .null, .null]) X dX9_init_17 pf_RX9_15 rfl rfl (Nat.le_of_ble_eq_true rfl) rfl ?_
  refine ac_aload_n X dX9_init_20 rfl ?_
  refine ac_bipush (v := 41) X dX9_init_21 (by decide) ?_
  refine ac_newazM (k := 41) (m := 2) (c' := 3) (n' := 182) rfl rfl rfl X dX9_init_23 aw_cz (by decide) (Nat.le_of_ble_eq_true rfl) (Nat.le_of_ble_eq_true rfl) ?_
  refine ac_putF (fs' := [.ref (cB Z + 0), .ref (cB Z + 1), .ref (cB Z + 2), .null]) X dX9_init_25 pf_RX9_18 rfl rfl (Nat.le_of_ble_eq_true rfl) rfl ?_
  refine ac_aload_n X dX9_init_28 rfl ?_
  refine ac_bipush (v := 8) X dX9_init_29 (by decide) ?_
  refine ac_newaiM (k := 8) (m := 3) (c' := 4) (n' := 190) rfl rfl rfl X dX9_init_31 aw_ci (by decide) (Nat.le_of_ble_eq_true rfl) (Nat.le_of_ble_eq_true rfl) ?_
  refine ac_putF (fs' := [.ref (cB Z + 0), .ref (cB Z + 1), .ref (cB Z + 2), .ref (cB Z + 3)]) X dX9_init_33 pf_RX9_22 rfl rfl (Nat.le_of_ble_eq_true rfl) rfl ?_
  exact ac_vret X dX9_init_36 (Eq.trans rfl he.symm) (Eq.trans rfl hT.symm) (by decide) (by decide)
def e_RX8 (B : Nat) : va_E := .inr (7, [.ref (B + 0), .ref (B + 2), .ref (B + 4), .ref (B + 6), .ref (B + 8), .ref (B + 10), .ref (B + 12), .ref (B + 14), .ref (B + 16), .ref (B + 18), .ref (B + 20), .ref (B + 22)])
def t_RX8 (cA : ClassId × ClassId × ClassId) (B : Nat) : CH := [e_RX7 (B + 1) 16] ++ t_RX7 cA (B + 1) 16 16 ++ [e_RX7 (B + 3) 10] ++ t_RX7 cA (B + 3) 10 10 ++ [e_RX7 (B + 5) 10] ++ t_RX7 cA (B + 5) 10 10 ++ [e_RX7 (B + 7) 10] ++ t_RX7 cA (B + 7) 10 10 ++ [e_RX7 (B + 9) 14] ++ t_RX7 cA (B + 9) 14 14 ++ [e_RX7 (B + 11) 14] ++ t_RX7 cA (B + 11) 14 14 ++ [e_RX7 (B + 13) 14] ++ t_RX7 cA (B + 13) 14 14 ++ [e_RX7 (B + 15) 6] ++ t_RX7 cA (B + 15) 6 6 ++ [e_RX7 (B + 17) 6] ++ t_RX7 cA (B + 17) 6 6 ++ [e_RX7 (B + 19) 6] ++ t_RX7 cA (B + 19) 6 6 ++ [e_RX7 (B + 21) 8] ++ t_RX7 cA (B + 21) 8 8 ++ [e_RX7 (B + 23) 4] ++ t_RX7 cA (B + 23) 4 4
theorem dX8_init_0 : decode cX8_init 0 = .ok (.aload_n 0, 1) := by decide +kernel
theorem dX8_init_1 : decode cX8_init 1 = .ok (.invokespecial 1, 3) := by decide +kernel
theorem dX8_init_4 : decode cX8_init 4 = .ok (.aload_n 0, 1) := by decide +kernel
theorem dX8_init_5 : decode cX8_init 5 = .ok (.new 7, 3) := by decide +kernel
theorem dX8_init_8 : decode cX8_init 8 = .ok (.dup, 1) := by decide +kernel
theorem dX8_init_9 : decode cX8_init 9 = .ok (.bipush 16, 2) := by decide +kernel
theorem dX8_init_11 : decode cX8_init 11 = .ok (.invokespecial 9, 3) := by decide +kernel
theorem dX8_init_14 : decode cX8_init 14 = .ok (.putfield 12, 3) := by decide +kernel
theorem dX8_init_17 : decode cX8_init 17 = .ok (.aload_n 0, 1) := by decide +kernel
theorem dX8_init_18 : decode cX8_init 18 = .ok (.new 7, 3) := by decide +kernel
theorem dX8_init_21 : decode cX8_init 21 = .ok (.dup, 1) := by decide +kernel
theorem dX8_init_22 : decode cX8_init 22 = .ok (.bipush 10, 2) := by decide +kernel
theorem dX8_init_24 : decode cX8_init 24 = .ok (.invokespecial 9, 3) := by decide +kernel
theorem dX8_init_27 : decode cX8_init 27 = .ok (.putfield 18, 3) := by decide +kernel
theorem dX8_init_30 : decode cX8_init 30 = .ok (.aload_n 0, 1) := by decide +kernel
theorem dX8_init_31 : decode cX8_init 31 = .ok (.new 7, 3) := by decide +kernel
theorem dX8_init_34 : decode cX8_init 34 = .ok (.dup, 1) := by decide +kernel
theorem dX8_init_35 : decode cX8_init 35 = .ok (.bipush 10, 2) := by decide +kernel
theorem dX8_init_37 : decode cX8_init 37 = .ok (.invokespecial 9, 3) := by decide +kernel
theorem dX8_init_40 : decode cX8_init 40 = .ok (.putfield 21, 3) := by decide +kernel
theorem dX8_init_43 : decode cX8_init 43 = .ok (.aload_n 0, 1) := by decide +kernel
theorem dX8_init_44 : decode cX8_init 44 = .ok (.new 7, 3) := by decide +kernel
theorem dX8_init_47 : decode cX8_init 47 = .ok (.dup, 1) := by decide +kernel
theorem dX8_init_48 : decode cX8_init 48 = .ok (.bipush 10, 2) := by decide +kernel
theorem dX8_init_50 : decode cX8_init 50 = .ok (.invokespecial 9, 3) := by decide +kernel
theorem dX8_init_53 : decode cX8_init 53 = .ok (.putfield 24, 3) := by decide +kernel
theorem dX8_init_56 : decode cX8_init 56 = .ok (.aload_n 0, 1) := by decide +kernel
theorem dX8_init_57 : decode cX8_init 57 = .ok (.new 7, 3) := by decide +kernel
theorem dX8_init_60 : decode cX8_init 60 = .ok (.dup, 1) := by decide +kernel
theorem dX8_init_61 : decode cX8_init 61 = .ok (.bipush 14, 2) := by decide +kernel
theorem dX8_init_63 : decode cX8_init 63 = .ok (.invokespecial 9, 3) := by decide +kernel
theorem dX8_init_66 : decode cX8_init 66 = .ok (.putfield 27, 3) := by decide +kernel
theorem dX8_init_69 : decode cX8_init 69 = .ok (.aload_n 0, 1) := by decide +kernel
theorem dX8_init_70 : decode cX8_init 70 = .ok (.new 7, 3) := by decide +kernel
theorem dX8_init_73 : decode cX8_init 73 = .ok (.dup, 1) := by decide +kernel
theorem dX8_init_74 : decode cX8_init 74 = .ok (.bipush 14, 2) := by decide +kernel
theorem dX8_init_76 : decode cX8_init 76 = .ok (.invokespecial 9, 3) := by decide +kernel
theorem dX8_init_79 : decode cX8_init 79 = .ok (.putfield 30, 3) := by decide +kernel
theorem dX8_init_82 : decode cX8_init 82 = .ok (.aload_n 0, 1) := by decide +kernel
theorem dX8_init_83 : decode cX8_init 83 = .ok (.new 7, 3) := by decide +kernel
theorem dX8_init_86 : decode cX8_init 86 = .ok (.dup, 1) := by decide +kernel
theorem dX8_init_87 : decode cX8_init 87 = .ok (.bipush 14, 2) := by decide +kernel
theorem dX8_init_89 : decode cX8_init 89 = .ok (.invokespecial 9, 3) := by decide +kernel
theorem dX8_init_92 : decode cX8_init 92 = .ok (.putfield 33, 3) := by decide +kernel
theorem dX8_init_95 : decode cX8_init 95 = .ok (.aload_n 0, 1) := by decide +kernel
theorem dX8_init_96 : decode cX8_init 96 = .ok (.new 7, 3) := by decide +kernel
theorem dX8_init_99 : decode cX8_init 99 = .ok (.dup, 1) := by decide +kernel
theorem dX8_init_100 : decode cX8_init 100 = .ok (.bipush 6, 2) := by decide +kernel
theorem dX8_init_102 : decode cX8_init 102 = .ok (.invokespecial 9, 3) := by decide +kernel
theorem dX8_init_105 : decode cX8_init 105 = .ok (.putfield 36, 3) := by decide +kernel
theorem dX8_init_108 : decode cX8_init 108 = .ok (.aload_n 0, 1) := by decide +kernel
theorem dX8_init_109 : decode cX8_init 109 = .ok (.new 7, 3) := by decide +kernel
theorem dX8_init_112 : decode cX8_init 112 = .ok (.dup, 1) := by decide +kernel
theorem dX8_init_113 : decode cX8_init 113 = .ok (.bipush 6, 2) := by decide +kernel
theorem dX8_init_115 : decode cX8_init 115 = .ok (.invokespecial 9, 3) := by decide +kernel
theorem dX8_init_118 : decode cX8_init 118 = .ok (.putfield 39, 3) := by decide +kernel
theorem dX8_init_121 : decode cX8_init 121 = .ok (.aload_n 0, 1) := by decide +kernel
theorem dX8_init_122 : decode cX8_init 122 = .ok (.new 7, 3) := by decide +kernel
theorem dX8_init_125 : decode cX8_init 125 = .ok (.dup, 1) := by decide +kernel
theorem dX8_init_126 : decode cX8_init 126 = .ok (.bipush 6, 2) := by decide +kernel
theorem dX8_init_128 : decode cX8_init 128 = .ok (.invokespecial 9, 3) := by decide +kernel
theorem dX8_init_131 : decode cX8_init 131 = .ok (.putfield 42, 3) := by decide +kernel
theorem dX8_init_134 : decode cX8_init 134 = .ok (.aload_n 0, 1) := by decide +kernel
theorem dX8_init_135 : decode cX8_init 135 = .ok (.new 7, 3) := by decide +kernel
theorem dX8_init_138 : decode cX8_init 138 = .ok (.dup, 1) := by decide +kernel
theorem dX8_init_139 : decode cX8_init 139 = .ok (.bipush 8, 2) := by decide +kernel
theorem dX8_init_141 : decode cX8_init 141 = .ok (.invokespecial 9, 3) := by decide +kernel
theorem dX8_init_144 : decode cX8_init 144 = .ok (.putfield 45, 3) := by decide +kernel
theorem dX8_init_147 : decode cX8_init 147 = .ok (.aload_n 0, 1) := by decide +kernel
theorem dX8_init_148 : decode cX8_init 148 = .ok (.new 7, 3) := by decide +kernel
theorem dX8_init_151 : decode cX8_init 151 = .ok (.dup, 1) := by decide +kernel
theorem dX8_init_152 : decode cX8_init 152 = .ok (.iconst 4, 1) := by decide +kernel
theorem dX8_init_153 : decode cX8_init 153 = .ok (.invokespecial 9, 3) := by decide +kernel
theorem dX8_init_156 : decode cX8_init 156 = .ok (.putfield 48, 3) := by decide +kernel
theorem dX8_init_159 : decode cX8_init 159 = .ok (.return_, 1) := by decide +kernel
set_option maxRecDepth 100000 in
set_option maxHeartbeats 4000000 in
theorem ok_X8_init (l : Launch) (D : va_G) (cA : ClassId × ClassId × ClassId) (q B : Nat) : CM l D cA yX8_init cX8_init 1 2 24 142 [] q B (.inr (7, [.null, .null, .null, .null, .null, .null, .null, .null, .null, .null, .null, .null])) (e_RX8 B) (t_RX8 cA B) := by
  refine CM_of (L := [some (.ref q)]) (by decide) rfl (by simp [Value.category]) (Nat.le_of_ble_eq_true rfl) (fun j v z => ?_) (fun Z X hq hB hA he hT => ?_)
  · exact aL_ok (n := 0) (.ref q :: []) j v z
  subst hq hB hA
  refine ac_aload_n X dX8_init_0 rfl ?_
  refine ac_obji X (Nat.le_of_ble_eq_true rfl) oi_RX8_1 dX8_init_1 ?_
  refine ac_aload_n X dX8_init_4 rfl ?_
  refine ac_newM (m := 0) (c' := 1) (n' := 2) (ci := 6) (fs := [.null, .int 0]) rfl rfl rfl X dX8_init_5 rfl iw_RX7 tyX7 tyX7_ok nw_RX8_7 df_RX7 (Nat.le_of_ble_eq_true rfl) (Nat.le_of_ble_eq_true rfl) ?_
  refine ac_dup X dX8_init_8 rfl ?_
  refine ac_bipush (v := 16) X dX8_init_9 (by decide) ?_
  refine ac_initM (m := 0) (m1 := 1) (c' := 2) (n' := 18) (e2 := e_RX7 (cB Z + 1) 16) (T2 := t_RX7 Z.2.2.2.1 (cB Z + 1) 16 16) rfl rfl rfl rfl X dX8_init_11 ci_RX8_9 (ok_X7_init 16 16 (by decide) _ _ _ _ _) (Nat.le_of_ble_eq_true rfl) (by decide) rfl rfl (Nat.le_of_ble_eq_true rfl) (Nat.le_of_ble_eq_true rfl) (Nat.le_of_ble_eq_true rfl) ?_
  refine ac_putF (fs' := [.ref (cB Z + 0), .null, .null, .null, .null, .null, .null, .null, .null, .null, .null, .null]) X dX8_init_14 pf_RX8_12 rfl rfl (Nat.le_of_ble_eq_true rfl) rfl ?_
  refine ac_aload_n X dX8_init_17 rfl ?_
  refine ac_newM (m := 2) (c' := 3) (n' := 20) (ci := 6) (fs := [.null, .int 0]) rfl rfl rfl X dX8_init_18 rfl iw_RX7 tyX7 tyX7_ok nw_RX8_7 df_RX7 (Nat.le_of_ble_eq_true rfl) (Nat.le_of_ble_eq_true rfl) ?_
  refine ac_dup X dX8_init_21 rfl ?_
  refine ac_bipush (v := 10) X dX8_init_22 (by decide) ?_
  refine ac_initM (m := 2) (m1 := 3) (c' := 4) (n' := 30) (e2 := e_RX7 (cB Z + 3) 10) (T2 := t_RX7 Z.2.2.2.1 (cB Z + 3) 10 10) rfl rfl rfl rfl X dX8_init_24 ci_RX8_9 (ok_X7_init 10 10 (by decide) _ _ _ _ _) (Nat.le_of_ble_eq_true rfl) (by decide) rfl rfl (Nat.le_of_ble_eq_true rfl) (Nat.le_of_ble_eq_true rfl) (Nat.le_of_ble_eq_true rfl) ?_
  refine ac_putF (fs' := [.ref (cB Z + 0), .ref (cB Z + 2), .null, .null, .null, .null, .null, .null, .null, .null, .null, .null]) X dX8_init_27 pf_RX8_18 rfl rfl (Nat.le_of_ble_eq_true rfl) rfl ?_
  refine ac_aload_n X dX8_init_30 rfl ?_
  refine ac_newM (m := 4) (c' := 5) (n' := 32) (ci := 6) (fs := [.null, .int 0]) rfl rfl rfl X dX8_init_31 rfl iw_RX7 tyX7 tyX7_ok nw_RX8_7 df_RX7 (Nat.le_of_ble_eq_true rfl) (Nat.le_of_ble_eq_true rfl) ?_
  refine ac_dup X dX8_init_34 rfl ?_
  refine ac_bipush (v := 10) X dX8_init_35 (by decide) ?_
  refine ac_initM (m := 4) (m1 := 5) (c' := 6) (n' := 42) (e2 := e_RX7 (cB Z + 5) 10) (T2 := t_RX7 Z.2.2.2.1 (cB Z + 5) 10 10) rfl rfl rfl rfl X dX8_init_37 ci_RX8_9 (ok_X7_init 10 10 (by decide) _ _ _ _ _) (Nat.le_of_ble_eq_true rfl) (by decide) rfl rfl (Nat.le_of_ble_eq_true rfl) (Nat.le_of_ble_eq_true rfl) (Nat.le_of_ble_eq_true rfl) ?_
  refine ac_putF (fs' := [.ref (cB Z + 0), .ref (cB Z + 2), .ref (cB Z + 4), .null, .null, .null, .null, .null, .null, .null, .null, .null]) X dX8_init_40 pf_RX8_21 rfl rfl (Nat.le_of_ble_eq_true rfl) rfl ?_
  refine ac_aload_n X dX8_init_43 rfl ?_
  refine ac_newM (m := 6) (c' := 7) (n' := 44) (ci := 6) (fs := [.null, .int 0]) rfl rfl rfl X dX8_init_44 rfl iw_RX7 tyX7 tyX7_ok nw_RX8_7 df_RX7 (Nat.le_of_ble_eq_true rfl) (Nat.le_of_ble_eq_true rfl) ?_
  refine ac_dup X dX8_init_47 rfl ?_
  refine ac_bipush (v := 10) X dX8_init_48 (by decide) ?_
  refine ac_initM (m := 6) (m1 := 7) (c' := 8) (n' := 54) (e2 := e_RX7 (cB Z + 7) 10) (T2 := t_RX7 Z.2.2.2.1 (cB Z + 7) 10 10) rfl rfl rfl rfl X dX8_init_50 ci_RX8_9 (ok_X7_init 10 10 (by decide) _ _ _ _ _) (Nat.le_of_ble_eq_true rfl) (by decide) rfl rfl (Nat.le_of_ble_eq_true rfl) (Nat.le_of_ble_eq_true rfl) (Nat.le_of_ble_eq_true rfl) ?_
  refine ac_putF (fs' := [.ref (cB Z + 0), .ref (cB Z + 2), .ref (cB Z + 4), .ref (cB Z + 6), .null, .null, .null, .null, .null, .null, .null, .null]) X dX8_init_53 pf_RX8_24 rfl rfl (Nat.le_of_ble_eq_true rfl) rfl ?_
  refine ac_aload_n X dX8_init_56 rfl ?_
  refine ac_newM (m := 8) (c' := 9) (n' := 56) (ci := 6) (fs := [.null, .int 0]) rfl rfl rfl X dX8_init_57 rfl iw_RX7 tyX7 tyX7_ok nw_RX8_7 df_RX7 (Nat.le_of_ble_eq_true rfl) (Nat.le_of_ble_eq_true rfl) ?_
  refine ac_dup X dX8_init_60 rfl ?_
  refine ac_bipush (v := 14) X dX8_init_61 (by decide) ?_
  refine ac_initM (m := 8) (m1 := 9) (c' := 10) (n' := 70) (e2 := e_RX7 (cB Z + 9) 14) (T2 := t_RX7 Z.2.2.2.1 (cB Z + 9) 14 14) rfl rfl rfl rfl X dX8_init_63 ci_RX8_9 (ok_X7_init 14 14 (by decide) _ _ _ _ _) (Nat.le_of_ble_eq_true rfl) (by decide) rfl rfl (Nat.le_of_ble_eq_true rfl) (Nat.le_of_ble_eq_true rfl) (Nat.le_of_ble_eq_true rfl) ?_
  refine ac_putF (fs' := [.ref (cB Z + 0), .ref (cB Z + 2), .ref (cB Z + 4), .ref (cB Z + 6), .ref (cB Z + 8), .null, .null, .null, .null, .null, .null, .null]) X dX8_init_66 pf_RX8_27 rfl rfl (Nat.le_of_ble_eq_true rfl) rfl ?_
  refine ac_aload_n X dX8_init_69 rfl ?_
  refine ac_newM (m := 10) (c' := 11) (n' := 72) (ci := 6) (fs := [.null, .int 0]) rfl rfl rfl X dX8_init_70 rfl iw_RX7 tyX7 tyX7_ok nw_RX8_7 df_RX7 (Nat.le_of_ble_eq_true rfl) (Nat.le_of_ble_eq_true rfl) ?_
  refine ac_dup X dX8_init_73 rfl ?_
  refine ac_bipush (v := 14) X dX8_init_74 (by decide) ?_
  refine ac_initM (m := 10) (m1 := 11) (c' := 12) (n' := 86) (e2 := e_RX7 (cB Z + 11) 14) (T2 := t_RX7 Z.2.2.2.1 (cB Z + 11) 14 14) rfl rfl rfl rfl X dX8_init_76 ci_RX8_9 (ok_X7_init 14 14 (by decide) _ _ _ _ _) (Nat.le_of_ble_eq_true rfl) (by decide) rfl rfl (Nat.le_of_ble_eq_true rfl) (Nat.le_of_ble_eq_true rfl) (Nat.le_of_ble_eq_true rfl) ?_
  refine ac_putF (fs' := [.ref (cB Z + 0), .ref (cB Z + 2), .ref (cB Z + 4), .ref (cB Z + 6), .ref (cB Z + 8), .ref (cB Z + 10), .null, .null, .null, .null, .null, .null]) X dX8_init_79 pf_RX8_30 rfl rfl (Nat.le_of_ble_eq_true rfl) rfl ?_
  refine ac_aload_n X dX8_init_82 rfl ?_
  refine ac_newM (m := 12) (c' := 13) (n' := 88) (ci := 6) (fs := [.null, .int 0]) rfl rfl rfl X dX8_init_83 rfl iw_RX7 tyX7 tyX7_ok nw_RX8_7 df_RX7 (Nat.le_of_ble_eq_true rfl) (Nat.le_of_ble_eq_true rfl) ?_
  refine ac_dup X dX8_init_86 rfl ?_
  refine ac_bipush (v := 14) X dX8_init_87 (by decide) ?_
  refine ac_initM (m := 12) (m1 := 13) (c' := 14) (n' := 102) (e2 := e_RX7 (cB Z + 13) 14) (T2 := t_RX7 Z.2.2.2.1 (cB Z + 13) 14 14) rfl rfl rfl rfl X dX8_init_89 ci_RX8_9 (ok_X7_init 14 14 (by decide) _ _ _ _ _) (Nat.le_of_ble_eq_true rfl) (by decide) rfl rfl (Nat.le_of_ble_eq_true rfl) (Nat.le_of_ble_eq_true rfl) (Nat.le_of_ble_eq_true rfl) ?_
  refine ac_putF (fs' := [.ref (cB Z + 0), .ref (cB Z + 2), .ref (cB Z + 4), .ref (cB Z + 6), .ref (cB Z + 8), .ref (cB Z + 10), .ref (cB Z + 12), .null, .null, .null, .null, .null]) X dX8_init_92 pf_RX8_33 rfl rfl (Nat.le_of_ble_eq_true rfl) rfl ?_
  refine ac_aload_n X dX8_init_95 rfl ?_
  refine ac_newM (m := 14) (c' := 15) (n' := 104) (ci := 6) (fs := [.null, .int 0]) rfl rfl rfl X dX8_init_96 rfl iw_RX7 tyX7 tyX7_ok nw_RX8_7 df_RX7 (Nat.le_of_ble_eq_true rfl) (Nat.le_of_ble_eq_true rfl) ?_
  refine ac_dup X dX8_init_99 rfl ?_
  refine ac_bipush (v := 6) X dX8_init_100 (by decide) ?_
  refine ac_initM (m := 14) (m1 := 15) (c' := 16) (n' := 110) (e2 := e_RX7 (cB Z + 15) 6) (T2 := t_RX7 Z.2.2.2.1 (cB Z + 15) 6 6) rfl rfl rfl rfl X dX8_init_102 ci_RX8_9 (ok_X7_init 6 6 (by decide) _ _ _ _ _) (Nat.le_of_ble_eq_true rfl) (by decide) rfl rfl (Nat.le_of_ble_eq_true rfl) (Nat.le_of_ble_eq_true rfl) (Nat.le_of_ble_eq_true rfl) ?_
  refine ac_putF (fs' := [.ref (cB Z + 0), .ref (cB Z + 2), .ref (cB Z + 4), .ref (cB Z + 6), .ref (cB Z + 8), .ref (cB Z + 10), .ref (cB Z + 12), .ref (cB Z + 14), .null, .null, .null, .null]) X dX8_init_105 pf_RX8_36 rfl rfl (Nat.le_of_ble_eq_true rfl) rfl ?_
  refine ac_aload_n X dX8_init_108 rfl ?_
  refine ac_newM (m := 16) (c' := 17) (n' := 112) (ci := 6) (fs := [.null, .int 0]) rfl rfl rfl X dX8_init_109 rfl iw_RX7 tyX7 tyX7_ok nw_RX8_7 df_RX7 (Nat.le_of_ble_eq_true rfl) (Nat.le_of_ble_eq_true rfl) ?_
  refine ac_dup X dX8_init_112 rfl ?_
  refine ac_bipush (v := 6) X dX8_init_113 (by decide) ?_
  refine ac_initM (m := 16) (m1 := 17) (c' := 18) (n' := 118) (e2 := e_RX7 (cB Z + 17) 6) (T2 := t_RX7 Z.2.2.2.1 (cB Z + 17) 6 6) rfl rfl rfl rfl X dX8_init_115 ci_RX8_9 (ok_X7_init 6 6 (by decide) _ _ _ _ _) (Nat.le_of_ble_eq_true rfl) (by decide) rfl rfl (Nat.le_of_ble_eq_true rfl) (Nat.le_of_ble_eq_true rfl) (Nat.le_of_ble_eq_true rfl) ?_
  refine ac_putF (fs' := [.ref (cB Z + 0), .ref (cB Z + 2), .ref (cB Z + 4), .ref (cB Z + 6), .ref (cB Z + 8), .ref (cB Z + 10), .ref (cB Z + 12), .ref (cB Z + 14), .ref (cB Z + 16), .null, .null, .null]) X dX8_init_118 pf_RX8_39 rfl rfl (Nat.le_of_ble_eq_true rfl) rfl ?_
  refine ac_aload_n X dX8_init_121 rfl ?_
  refine ac_newM (m := 18) (c' := 19) (n' := 120) (ci := 6) (fs := [.null, .int 0]) rfl rfl rfl X dX8_init_122 rfl iw_RX7 tyX7 tyX7_ok nw_RX8_7 df_RX7 (Nat.le_of_ble_eq_true rfl) (Nat.le_of_ble_eq_true rfl) ?_
  refine ac_dup X dX8_init_125 rfl ?_
  refine ac_bipush (v := 6) X dX8_init_126 (by decide) ?_
  refine ac_initM (m := 18) (m1 := 19) (c' := 20) (n' := 126) (e2 := e_RX7 (cB Z + 19) 6) (T2 := t_RX7 Z.2.2.2.1 (cB Z + 19) 6 6) rfl rfl rfl rfl X dX8_init_128 ci_RX8_9 (ok_X7_init 6 6 (by decide) _ _ _ _ _) (Nat.le_of_ble_eq_true rfl) (by decide) rfl rfl (Nat.le_of_ble_eq_true rfl) (Nat.le_of_ble_eq_true rfl) (Nat.le_of_ble_eq_true rfl) ?_
  refine ac_putF (fs' := [.ref (cB Z + 0), .ref (cB Z + 2), .ref (cB Z + 4), .ref (cB Z + 6), .ref (cB Z + 8), .ref (cB Z + 10), .ref (cB Z + 12), .ref (cB Z + 14), .ref (cB Z + 16), .ref (cB Z + 18), .null, .null]) X dX8_init_131 pf_RX8_42 rfl rfl (Nat.le_of_ble_eq_true rfl) rfl ?_
  refine ac_aload_n X dX8_init_134 rfl ?_
  refine ac_newM (m := 20) (c' := 21) (n' := 128) (ci := 6) (fs := [.null, .int 0]) rfl rfl rfl X dX8_init_135 rfl iw_RX7 tyX7 tyX7_ok nw_RX8_7 df_RX7 (Nat.le_of_ble_eq_true rfl) (Nat.le_of_ble_eq_true rfl) ?_
  refine ac_dup X dX8_init_138 rfl ?_
  refine ac_bipush (v := 8) X dX8_init_139 (by decide) ?_
  refine ac_initM (m := 20) (m1 := 21) (c' := 22) (n' := 136) (e2 := e_RX7 (cB Z + 21) 8) (T2 := t_RX7 Z.2.2.2.1 (cB Z + 21) 8 8) rfl rfl rfl rfl X dX8_init_141 ci_RX8_9 (ok_X7_init 8 8 (by decide) _ _ _ _ _) (Nat.le_of_ble_eq_true rfl) (by decide) rfl rfl (Nat.le_of_ble_eq_true rfl) (Nat.le_of_ble_eq_true rfl) (Nat.le_of_ble_eq_true rfl) ?_
  refine ac_putF (fs' := [.ref (cB Z + 0), .ref (cB Z + 2), .ref (cB Z + 4), .ref (cB Z + 6), .ref (cB Z + 8), .ref (cB Z + 10), .ref (cB Z + 12), .ref (cB Z + 14), .ref (cB Z + 16), .ref (cB Z + 18), .ref (cB Z + 20), .null]) X dX8_init_144 pf_RX8_45 rfl rfl (Nat.le_of_ble_eq_true rfl) rfl ?_
  refine ac_aload_n X dX8_init_147 rfl ?_
  refine ac_newM (m := 22) (c' := 23) (n' := 138) (ci := 6) (fs := [.null, .int 0]) rfl rfl rfl X dX8_init_148 rfl iw_RX7 tyX7 tyX7_ok nw_RX8_7 df_RX7 (Nat.le_of_ble_eq_true rfl) (Nat.le_of_ble_eq_true rfl) ?_
  refine ac_dup X dX8_init_151 rfl ?_
  refine ac_iconst (v := 4) X dX8_init_152 (by decide) ?_
  refine ac_initM (m := 22) (m1 := 23) (c' := 24) (n' := 142) (e2 := e_RX7 (cB Z + 23) 4) (T2 := t_RX7 Z.2.2.2.1 (cB Z + 23) 4 4) rfl rfl rfl rfl X dX8_init_153 ci_RX8_9 (ok_X7_init 4 4 (by decide) _ _ _ _ _) (Nat.le_of_ble_eq_true rfl) (by decide) rfl rfl (Nat.le_of_ble_eq_true rfl) (Nat.le_of_ble_eq_true rfl) (Nat.le_of_ble_eq_true rfl) ?_
  refine ac_putF (fs' := [.ref (cB Z + 0), .ref (cB Z + 2), .ref (cB Z + 4), .ref (cB Z + 6), .ref (cB Z + 8), .ref (cB Z + 10), .ref (cB Z + 12), .ref (cB Z + 14), .ref (cB Z + 16), .ref (cB Z + 18), .ref (cB Z + 20), .ref (cB Z + 22)]) X dX8_init_156 pf_RX8_48 rfl rfl (Nat.le_of_ble_eq_true rfl) rfl ?_
  exact ac_vret X dX8_init_159 (Eq.trans rfl he.symm) (Eq.trans rfl hT.symm) (by decide) (by decide)
def e_RX4 (B : Nat) : va_E := .inr (3, [.ref (B + 0), .int 0, .int (-1), .int 0, .ref (B + 5), .ref (B + 12), .ref (B + 17)])
def t_RX4 (cA : ClassId × ClassId × ClassId) (B : Nat) : CH := [e_RX6 (B + 1)] ++ t_RX6 cA (B + 1) ++ [e_RX1 (B + 6)] ++ t_RX1 cA (B + 6) ++ [e_RX5 (B + 13)] ++ t_RX5 cA (B + 13) ++ [e_RX3 (B + 18)] ++ t_RX3 cA (B + 18)
theorem dX4_init_0 : decode cX4_init 0 = .ok (.aload_n 0, 1) := by decide +kernel
theorem dX4_init_1 : decode cX4_init 1 = .ok (.invokespecial 3, 3) := by decide +kernel
theorem dX4_init_4 : decode cX4_init 4 = .ok (.aload_n 0, 1) := by decide +kernel
theorem dX4_init_5 : decode cX4_init 5 = .ok (.new 9, 3) := by decide +kernel
theorem dX4_init_8 : decode cX4_init 8 = .ok (.dup, 1) := by decide +kernel
theorem dX4_init_9 : decode cX4_init 9 = .ok (.invokespecial 11, 3) := by decide +kernel
theorem dX4_init_12 : decode cX4_init 12 = .ok (.putfield 12, 3) := by decide +kernel
theorem dX4_init_15 : decode cX4_init 15 = .ok (.aload_n 0, 1) := by decide +kernel
theorem dX4_init_16 : decode cX4_init 16 = .ok (.iconst 0, 1) := by decide +kernel
theorem dX4_init_17 : decode cX4_init 17 = .ok (.putfield 18, 3) := by decide +kernel
theorem dX4_init_20 : decode cX4_init 20 = .ok (.aload_n 0, 1) := by decide +kernel
theorem dX4_init_21 : decode cX4_init 21 = .ok (.iconst (-1), 1) := by decide +kernel
theorem dX4_init_22 : decode cX4_init 22 = .ok (.putfield 22, 3) := by decide +kernel
theorem dX4_init_25 : decode cX4_init 25 = .ok (.aload_n 0, 1) := by decide +kernel
theorem dX4_init_26 : decode cX4_init 26 = .ok (.iconst 0, 1) := by decide +kernel
theorem dX4_init_27 : decode cX4_init 27 = .ok (.putfield 25, 3) := by decide +kernel
theorem dX4_init_30 : decode cX4_init 30 = .ok (.aload_n 0, 1) := by decide +kernel
theorem dX4_init_31 : decode cX4_init 31 = .ok (.new 28, 3) := by decide +kernel
theorem dX4_init_34 : decode cX4_init 34 = .ok (.dup, 1) := by decide +kernel
theorem dX4_init_35 : decode cX4_init 35 = .ok (.invokespecial 30, 3) := by decide +kernel
theorem dX4_init_38 : decode cX4_init 38 = .ok (.putfield 31, 3) := by decide +kernel
theorem dX4_init_41 : decode cX4_init 41 = .ok (.aload_n 0, 1) := by decide +kernel
theorem dX4_init_42 : decode cX4_init 42 = .ok (.new 35, 3) := by decide +kernel
theorem dX4_init_45 : decode cX4_init 45 = .ok (.dup, 1) := by decide +kernel
theorem dX4_init_46 : decode cX4_init 46 = .ok (.invokespecial 37, 3) := by decide +kernel
theorem dX4_init_49 : decode cX4_init 49 = .ok (.putfield 38, 3) := by decide +kernel
theorem dX4_init_52 : decode cX4_init 52 = .ok (.aload_n 0, 1) := by decide +kernel
theorem dX4_init_53 : decode cX4_init 53 = .ok (.new 42, 3) := by decide +kernel
theorem dX4_init_56 : decode cX4_init 56 = .ok (.dup, 1) := by decide +kernel
theorem dX4_init_57 : decode cX4_init 57 = .ok (.invokespecial 44, 3) := by decide +kernel
theorem dX4_init_60 : decode cX4_init 60 = .ok (.putfield 45, 3) := by decide +kernel
theorem dX4_init_63 : decode cX4_init 63 = .ok (.return_, 1) := by decide +kernel
set_option maxRecDepth 100000 in
set_option maxHeartbeats 4000000 in
theorem ok_X4_init (l : Launch) (D : va_G) (cA : ClassId × ClassId × ClassId) (q B : Nat) : CM l D cA yX4_init cX4_init 1 2 22 2362 [] q B (.inr (3, [.null, .int 0, .int 0, .int 0, .null, .null, .null])) (e_RX4 B) (t_RX4 cA B) := by
  refine CM_of (L := [some (.ref q)]) (by decide) rfl (by simp [Value.category]) (Nat.le_of_ble_eq_true rfl) (fun j v z => ?_) (fun Z X hq hB hA he hT => ?_)
  · exact aL_ok (n := 0) (.ref q :: []) j v z
  subst hq hB hA
  refine ac_aload_n X dX4_init_0 rfl ?_
  refine ac_obji X (Nat.le_of_ble_eq_true rfl) oi_RX4_3 dX4_init_1 ?_
  refine ac_aload_n X dX4_init_4 rfl ?_
  refine ac_newM (m := 0) (c' := 1) (n' := 10) (ci := 5) (fs := [.int 0, .int 0, .int 0, .int 0, .int 0, .int 0, .null, .null, .null, .null]) rfl rfl rfl X dX4_init_5 rfl iw_RX6 tyX6 tyX6_ok nw_RX4_9 df_RX6 (Nat.le_of_ble_eq_true rfl) (Nat.le_of_ble_eq_true rfl) ?_
  refine ac_dup X dX4_init_8 rfl ?_
  refine ac_initM (m := 0) (m1 := 1) (c' := 5) (n' := 1610) (e2 := e_RX6 (cB Z + 1)) (T2 := t_RX6 Z.2.2.2.1 (cB Z + 1)) rfl rfl rfl rfl X dX4_init_9 ci_RX4_11 (ok_X6_init _ _ _ _ _) (Nat.le_of_ble_eq_true rfl) (by decide) rfl rfl (Nat.le_of_ble_eq_true rfl) (Nat.le_of_ble_eq_true rfl) (Nat.le_of_ble_eq_true rfl) ?_
  refine ac_putF (fs' := [.ref (cB Z + 0), .int 0, .int 0, .int 0, .null, .null, .null]) X dX4_init_12 pf_RX4_12 rfl rfl (Nat.le_of_ble_eq_true rfl) rfl ?_
  refine ac_aload_n X dX4_init_15 rfl ?_
  refine ac_iconst (v := 0) X dX4_init_16 (by decide) ?_
  refine ac_put (fs' := [.ref (cB Z + 0), .int 0, .int 0, .int 0, .null, .null, .null]) X dX4_init_17 pf_RX4_18 rfl rfl (Nat.le_of_ble_eq_true rfl) rfl ?_
  refine ac_aload_n X dX4_init_20 rfl ?_
  refine ac_iconst (v := (-1)) X dX4_init_21 (by decide) ?_
  refine ac_put (fs' := [.ref (cB Z + 0), .int 0, .int (-1), .int 0, .null, .null, .null]) X dX4_init_22 pf_RX4_22 rfl rfl (Nat.le_of_ble_eq_true rfl) rfl ?_
  refine ac_aload_n X dX4_init_25 rfl ?_
  refine ac_iconst (v := 0) X dX4_init_26 (by decide) ?_
  refine ac_put (fs' := [.ref (cB Z + 0), .int 0, .int (-1), .int 0, .null, .null, .null]) X dX4_init_27 pf_RX4_25 rfl rfl (Nat.le_of_ble_eq_true rfl) rfl ?_
  refine ac_aload_n X dX4_init_30 rfl ?_
  refine ac_newM (m := 5) (c' := 6) (n' := 1618) (ci := 1) (fs := [.int 0, .int 0, .null, .null, .null, .null, .null, .null]) rfl rfl rfl X dX4_init_31 rfl iw_RX1 tyX1 tyX1_ok nw_RX4_28 df_RX1 (Nat.le_of_ble_eq_true rfl) (Nat.le_of_ble_eq_true rfl) ?_
  refine ac_dup X dX4_init_34 rfl ?_
  refine ac_initM (m := 5) (m1 := 6) (c' := 12) (n' := 2146) (e2 := e_RX1 (cB Z + 6)) (T2 := t_RX1 Z.2.2.2.1 (cB Z + 6)) rfl rfl rfl rfl X dX4_init_35 ci_RX4_30 (ok_X1_init _ _ _ _ _) (Nat.le_of_ble_eq_true rfl) (by decide) rfl rfl (Nat.le_of_ble_eq_true rfl) (Nat.le_of_ble_eq_true rfl) (Nat.le_of_ble_eq_true rfl) ?_
  refine ac_putF (fs' := [.ref (cB Z + 0), .int 0, .int (-1), .int 0, .ref (cB Z + 5), .null, .null]) X dX4_init_38 pf_RX4_31 rfl rfl (Nat.le_of_ble_eq_true rfl) rfl ?_
  refine ac_aload_n X dX4_init_41 rfl ?_
  refine ac_newM (m := 12) (c' := 13) (n' := 2151) (ci := 4) (fs := [.int 0, .null, .null, .null, .null]) rfl rfl rfl X dX4_init_42 rfl iw_RX5 tyX5 tyX5_ok nw_RX4_35 df_RX5 (Nat.le_of_ble_eq_true rfl) (Nat.le_of_ble_eq_true rfl) ?_
  refine ac_dup X dX4_init_45 rfl ?_
  refine ac_initM (m := 12) (m1 := 13) (c' := 17) (n' := 2215) (e2 := e_RX5 (cB Z + 13)) (T2 := t_RX5 Z.2.2.2.1 (cB Z + 13)) rfl rfl rfl rfl X dX4_init_46 ci_RX4_37 (ok_X5_init _ _ _ _ _) (Nat.le_of_ble_eq_true rfl) (by decide) rfl rfl (Nat.le_of_ble_eq_true rfl) (Nat.le_of_ble_eq_true rfl) (Nat.le_of_ble_eq_true rfl) ?_
  refine ac_putF (fs' := [.ref (cB Z + 0), .int 0, .int (-1), .int 0, .ref (cB Z + 5), .ref (cB Z + 12), .null]) X dX4_init_49 pf_RX4_38 rfl rfl (Nat.le_of_ble_eq_true rfl) rfl ?_
  refine ac_aload_n X dX4_init_52 rfl ?_
  refine ac_newM (m := 17) (c' := 18) (n' := 2220) (ci := 2) (fs := [.int 0, .null, .null, .null, .null]) rfl rfl rfl X dX4_init_53 rfl iw_RX3 tyX3 tyX3_ok nw_RX4_42 df_RX3 (Nat.le_of_ble_eq_true rfl) (Nat.le_of_ble_eq_true rfl) ?_
  refine ac_dup X dX4_init_56 rfl ?_
  refine ac_initM (m := 17) (m1 := 18) (c' := 22) (n' := 2362) (e2 := e_RX3 (cB Z + 18)) (T2 := t_RX3 Z.2.2.2.1 (cB Z + 18)) rfl rfl rfl rfl X dX4_init_57 ci_RX4_44 (ok_X3_init _ _ _ _ _) (Nat.le_of_ble_eq_true rfl) (by decide) rfl rfl (Nat.le_of_ble_eq_true rfl) (Nat.le_of_ble_eq_true rfl) (Nat.le_of_ble_eq_true rfl) ?_
  refine ac_putF (fs' := [.ref (cB Z + 0), .int 0, .int (-1), .int 0, .ref (cB Z + 5), .ref (cB Z + 12), .ref (cB Z + 17)]) X dX4_init_60 pf_RX4_45 rfl rfl (Nat.le_of_ble_eq_true rfl) rfl ?_
  exact ac_vret X dX4_init_63 (Eq.trans rfl he.symm) (Eq.trans rfl hT.symm) (by decide) (by decide)
