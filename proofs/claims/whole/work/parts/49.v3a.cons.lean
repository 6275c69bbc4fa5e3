/-! ===== constructors of the class ===== -/
def e_RX0 (B : Nat) (x1 : Int32) : va_E := .inr (0, [.int x1, .int 0, .ref (B + 0), .ref (B + 1), .ref (B + 2), .ref (B + 3), .ref (B + 4), .ref (B + 5), .ref (B + 6), .int 0, .int 0, .int 0, .int 0])
def t_RX0 (cA : ClassId × ClassId × ClassId) (B : Nat) (x1 : Int32) : CH := [.inl (cA.1, 14, .inl (fun _ => 0)), .inl (cA.1, 14, .inl (fun _ => 0)), .inl (cA.1, 14, .inl (fun _ => 0)), .inl (cA.1, 14, .inl (fun _ => 0)), .inl (cA.1, 14, .inl (fun _ => 0)), .inl (cA.1, 14, .inl (fun _ => 0)), .inl (cA.1, 14, .inl (fun _ => 0))]
theorem dX0_init_0 : decode cX0_init 0 = .ok (.aload_n 0, 1) := by decide +kernel
theorem dX0_init_1 : decode cX0_init 1 = .ok (.invokespecial 3, 3) := by decide +kernel
theorem dX0_init_4 : decode cX0_init 4 = .ok (.aload_n 0, 1) := by decide +kernel
theorem dX0_init_5 : decode cX0_init 5 = .ok (.iload_n 1, 1) := by decide +kernel
theorem dX0_init_6 : decode cX0_init 6 = .ok (.putfield 9, 3) := by decide +kernel
theorem dX0_init_9 : decode cX0_init 9 = .ok (.aload_n 0, 1) := by decide +kernel
theorem dX0_init_10 : decode cX0_init 10 = .ok (.iconst 0, 1) := by decide +kernel
theorem dX0_init_11 : decode cX0_init 11 = .ok (.putfield 15, 3) := by decide +kernel
theorem dX0_init_14 : decode cX0_init 14 = .ok (.aload_n 0, 1) := by decide +kernel
theorem dX0_init_15 : decode cX0_init 15 = .ok (.bipush 14, 2) := by decide +kernel
theorem dX0_init_17 : decode cX0_init 17 = .ok (.newarray .int, 2) := by decide +kernel
theorem dX0_init_19 : decode cX0_init 19 = .ok (.putfield 19, 3) := by decide +kernel
theorem dX0_init_22 : decode cX0_init 22 = .ok (.aload_n 0, 1) := by decide +kernel
theorem dX0_init_23 : decode cX0_init 23 = .ok (.bipush 14, 2) := by decide +kernel
theorem dX0_init_25 : decode cX0_init 25 = .ok (.newarray .int, 2) := by decide +kernel
theorem dX0_init_27 : decode cX0_init 27 = .ok (.putfield 23, 3) := by decide +kernel
theorem dX0_init_30 : decode cX0_init 30 = .ok (.aload_n 0, 1) := by decide +kernel
theorem dX0_init_31 : decode cX0_init 31 = .ok (.bipush 14, 2) := by decide +kernel
theorem dX0_init_33 : decode cX0_init 33 = .ok (.newarray .int, 2) := by decide +kernel
theorem dX0_init_35 : decode cX0_init 35 = .ok (.putfield 26, 3) := by decide +kernel
theorem dX0_init_38 : decode cX0_init 38 = .ok (.aload_n 0, 1) := by decide +kernel
theorem dX0_init_39 : decode cX0_init 39 = .ok (.bipush 14, 2) := by decide +kernel
theorem dX0_init_41 : decode cX0_init 41 = .ok (.newarray .int, 2) := by decide +kernel
theorem dX0_init_43 : decode cX0_init 43 = .ok (.putfield 29, 3) := by decide +kernel
theorem dX0_init_46 : decode cX0_init 46 = .ok (.aload_n 0, 1) := by decide +kernel
theorem dX0_init_47 : decode cX0_init 47 = .ok (.bipush 14, 2) := by decide +kernel
theorem dX0_init_49 : decode cX0_init 49 = .ok (.newarray .int, 2) := by decide +kernel
theorem dX0_init_51 : decode cX0_init 51 = .ok (.putfield 32, 3) := by decide +kernel
theorem dX0_init_54 : decode cX0_init 54 = .ok (.aload_n 0, 1) := by decide +kernel
theorem dX0_init_55 : decode cX0_init 55 = .ok (.bipush 14, 2) := by decide +kernel
theorem dX0_init_57 : decode cX0_init 57 = .ok (.newarray .int, 2) := by decide +kernel
theorem dX0_init_59 : decode cX0_init 59 = .ok (.putfield 35, 3) := by decide +kernel
theorem dX0_init_62 : decode cX0_init 62 = .ok (.aload_n 0, 1) := by decide +kernel
theorem dX0_init_63 : decode cX0_init 63 = .ok (.bipush 14, 2) := by decide +kernel
theorem dX0_init_65 : decode cX0_init 65 = .ok (.newarray .int, 2) := by decide +kernel
theorem dX0_init_67 : decode cX0_init 67 = .ok (.putfield 38, 3) := by decide +kernel
theorem dX0_init_70 : decode cX0_init 70 = .ok (.aload_n 0, 1) := by decide +kernel
theorem dX0_init_71 : decode cX0_init 71 = .ok (.iconst 0, 1) := by decide +kernel
theorem dX0_init_72 : decode cX0_init 72 = .ok (.putfield 41, 3) := by decide +kernel
theorem dX0_init_75 : decode cX0_init 75 = .ok (.aload_n 0, 1) := by decide +kernel
theorem dX0_init_76 : decode cX0_init 76 = .ok (.iconst 0, 1) := by decide +kernel
theorem dX0_init_77 : decode cX0_init 77 = .ok (.putfield 44, 3) := by decide +kernel
theorem dX0_init_80 : decode cX0_init 80 = .ok (.aload_n 0, 1) := by decide +kernel
theorem dX0_init_81 : decode cX0_init 81 = .ok (.iconst 0, 1) := by decide +kernel
theorem dX0_init_82 : decode cX0_init 82 = .ok (.putfield 47, 3) := by decide +kernel
theorem dX0_init_85 : decode cX0_init 85 = .ok (.aload_n 0, 1) := by decide +kernel
theorem dX0_init_86 : decode cX0_init 86 = .ok (.iconst 0, 1) := by decide +kernel
theorem dX0_init_87 : decode cX0_init 87 = .ok (.putfield 50, 3) := by decide +kernel
theorem dX0_init_90 : decode cX0_init 90 = .ok (.return_, 1) := by decide +kernel
set_option maxRecDepth 100000 in
set_option maxHeartbeats 4000000 in
theorem ok_X0_init (x1 : Int32) (hx1 : x1 = 0 ∨ x1 = 1) (l : Launch) (D : va_G) (cA : ClassId × ClassId × ClassId) (q B : Nat) : CM l D cA yX0_init cX0_init 2 1 7 98 [.int x1] q B (.inr (0, [.int 0, .int 0, .null, .null, .null, .null, .null, .null, .null, .int 0, .int 0, .int 0, .int 0])) (e_RX0 B x1) (t_RX0 cA B x1) := by
  refine CM_of (L := [some (.ref q), some (.int x1)]) (by decide) rfl (by simp [Value.category]) (Nat.le_of_ble_eq_true rfl) (fun j v z => ?_) (fun Z X hq hB hA he hT => ?_)
  · exact aL_ok (n := 0) (.ref q :: [.int x1]) j v z
  subst hq hB hA
  refine ac_aload_n X dX0_init_0 rfl ?_
  refine ac_obji X (Nat.le_of_ble_eq_true rfl) oi_RX0_3 dX0_init_1 ?_
  refine ac_aload_n X dX0_init_4 rfl ?_
  refine ac_iload_n X dX0_init_5 rfl ?_
  refine ac_putF (fs' := [.int x1, .int 0, .null, .null, .null, .null, .null, .null, .null, .int 0, .int 0, .int 0, .int 0]) X dX0_init_6 pf_RX0_9 (bz_n hx1) (bz_f hx1) (Nat.le_of_ble_eq_true rfl) rfl ?_
  refine ac_aload_n X dX0_init_9 rfl ?_
  refine ac_iconst (v := 0) X dX0_init_10 (by decide) ?_
  refine ac_put (fs' := [.int x1, .int 0, .null, .null, .null, .null, .null, .null, .null, .int 0, .int 0, .int 0, .int 0]) X dX0_init_11 pf_RX0_15 rfl rfl (Nat.le_of_ble_eq_true rfl) rfl ?_
  refine ac_aload_n X dX0_init_14 rfl ?_
  refine ac_bipush (v := 14) X dX0_init_15 (by decide) ?_
  refine ac_newaiM (k := 14) (m := 0) (c' := 1) (n' := 14) rfl rfl rfl X dX0_init_17 aw_ci (by decide) (Nat.le_of_ble_eq_true rfl) (Nat.le_of_ble_eq_true rfl) ?_
  refine ac_putF (fs' := [.int x1, .int 0, .ref (cB Z + 0), .null, .null, .null, .null, .null, .null, .int 0, .int 0, .int 0, .int 0]) X dX0_init_19 pf_RX0_19 rfl rfl (Nat.le_of_ble_eq_true rfl) rfl ?_
  refine ac_aload_n X dX0_init_22 rfl ?_
  refine ac_bipush (v := 14) X dX0_init_23 (by decide) ?_
  refine ac_newaiM (k := 14) (m := 1) (c' := 2) (n' := 28) rfl rfl rfl X dX0_init_25 aw_ci (by decide) (Nat.le_of_ble_eq_true rfl) (Nat.le_of_ble_eq_true rfl) ?_
  refine ac_putF (fs' := [.int x1, .int 0, .ref (cB Z + 0), .ref (cB Z + 1), .null, .null, .null, .null, .null, .int 0, .int 0, .int 0, .int 0]) X dX0_init_27 pf_RX0_23 rfl rfl (Nat.le_of_ble_eq_true rfl) rfl ?_
  refine ac_aload_n X dX0_init_30 rfl ?_
  refine ac_bipush (v := 14) X dX0_init_31 (by decide) ?_
  refine ac_newaiM (k := 14) (m := 2) (c' := 3) (n' := 42) rfl rfl rfl X dX0_init_33 aw_ci (by decide) (Nat.le_of_ble_eq_true rfl) (Nat.le_of_ble_eq_true rfl) ?_
  refine ac_putF (fs' := [.int x1, .int 0, .ref (cB Z + 0), .ref (cB Z + 1), .ref (cB Z + 2), .null, .null, .null, .null, .int 0, .int 0, .int 0, .int 0]) X dX0_init_35 pf_RX0_26 rfl rfl (Nat.le_of_ble_eq_true rfl) rfl ?_
  refine ac_aload_n X dX0_init_38 rfl ?_
  refine ac_bipush (v := 14) X dX0_init_39 (by decide) ?_
  refine ac_newaiM (k := 14) (m := 3) (c' := 4) (n' := 56) rfl rfl rfl X dX0_init_41 aw_ci (by decide) (Nat.le_of_ble_eq_true rfl) (Nat.le_of_ble_eq_true rfl) ?_
  refine ac_putF (fs' := [.int x1, .int 0, .ref (cB Z + 0), .ref (cB Z + 1), .ref (cB Z + 2), .ref (cB Z + 3), .null, .null, .null, .int 0, .int 0, .int 0, .int 0]) X dX0_init_43 pf_RX0_29 rfl rfl (Nat.le_of_ble_eq_true rfl) rfl ?_
  refine ac_aload_n X dX0_init_46 rfl ?_
  refine ac_bipush (v := 14) X dX0_init_47 (by decide) ?_
  refine ac_newaiM (k := 14) (m := 4) (c' := 5) (n' := 70) rfl rfl rfl X dX0_init_49 aw_ci (by decide) (Nat.le_of_ble_eq_true rfl) (Nat.le_of_ble_eq_true rfl) ?_
  refine ac_putF (fs' := [.int x1, .int 0, .ref (cB Z + 0), .ref (cB Z + 1), .ref (cB Z + 2), .ref (cB Z + 3), .ref (cB Z + 4), .null, .null, .int 0, .int 0, .int 0, .int 0]) X dX0_init_51 pf_RX0_32 rfl rfl (Nat.le_of_ble_eq_true rfl) rfl ?_
  refine ac_aload_n X dX0_init_54 rfl ?_
  refine ac_bipush (v := 14) X dX0_init_55 (by decide) ?_
  refine ac_newaiM (k := 14) (m := 5) (c' := 6) (n' := 84) rfl rfl rfl X dX0_init_57 aw_ci (by decide) (Nat.le_of_ble_eq_true rfl) (Nat.le_of_ble_eq_true rfl) ?_
  refine ac_putF (fs' := [.int x1, .int 0, .ref (cB Z + 0), .ref (cB Z + 1), .ref (cB Z + 2), .ref (cB Z + 3), .ref (cB Z + 4), .ref (cB Z + 5), .null, .int 0, .int 0, .int 0, .int 0]) X dX0_init_59 pf_RX0_35 rfl rfl (Nat.le_of_ble_eq_true rfl) rfl ?_
  refine ac_aload_n X dX0_init_62 rfl ?_
  refine ac_bipush (v := 14) X dX0_init_63 (by decide) ?_
  refine ac_newaiM (k := 14) (m := 6) (c' := 7) (n' := 98) rfl rfl rfl X dX0_init_65 aw_ci (by decide) (Nat.le_of_ble_eq_true rfl) (Nat.le_of_ble_eq_true rfl) ?_
  refine ac_putF (fs' := [.int x1, .int 0, .ref (cB Z + 0), .ref (cB Z + 1), .ref (cB Z + 2), .ref (cB Z + 3), .ref (cB Z + 4), .ref (cB Z + 5), .ref (cB Z + 6), .int 0, .int 0, .int 0, .int 0]) X dX0_init_67 pf_RX0_38 rfl rfl (Nat.le_of_ble_eq_true rfl) rfl ?_
  refine ac_aload_n X dX0_init_70 rfl ?_
  refine ac_iconst (v := 0) X dX0_init_71 (by decide) ?_
  refine ac_put (fs' := [.int x1, .int 0, .ref (cB Z + 0), .ref (cB Z + 1), .ref (cB Z + 2), .ref (cB Z + 3), .ref (cB Z + 4), .ref (cB Z + 5), .ref (cB Z + 6), .int 0, .int 0, .int 0, .int 0]) X dX0_init_72 pf_RX0_41 rfl rfl (Nat.le_of_ble_eq_true rfl) rfl ?_
  refine ac_aload_n X dX0_init_75 rfl ?_
  refine ac_iconst (v := 0) X dX0_init_76 (by decide) ?_
  refine ac_put (fs' := [.int x1, .int 0, .ref (cB Z + 0), .ref (cB Z + 1), .ref (cB Z + 2), .ref (cB Z + 3), .ref (cB Z + 4), .ref (cB Z + 5), .ref (cB Z + 6), .int 0, .int 0, .int 0, .int 0]) X dX0_init_77 pf_RX0_44 rfl rfl (Nat.le_of_ble_eq_true rfl) rfl ?_
  refine ac_aload_n X dX0_init_80 rfl ?_
  refine ac_iconst (v := 0) X dX0_init_81 (by decide) ?_
  refine ac_put (fs' := [.int x1, .int 0, .ref (cB Z + 0), .ref (cB Z + 1), .ref (cB Z + 2), .ref (cB Z + 3), .ref (cB Z + 4), .ref (cB Z + 5), .ref (cB Z + 6), .int 0, .int 0, .int 0, .int 0]) X dX0_init_82 pf_RX0_47 rfl rfl (Nat.le_of_ble_eq_true rfl) rfl ?_
  refine ac_aload_n X dX0_init_85 rfl ?_
  refine ac_iconst (v := 0) X dX0_init_86 (by decide) ?_
  refine ac_put (fs' := [.int x1, .int 0, .ref (cB Z + 0), .ref (cB Z + 1), .ref (cB Z + 2), .ref (cB Z + 3), .ref (cB Z + 4), .ref (cB Z + 5), .ref (cB Z + 6), .int 0, .int 0, .int 0, .int 0]) X dX0_init_87 pf_RX0_50 rfl rfl (Nat.le_of_ble_eq_true rfl) rfl ?_
  exact ac_vret X dX0_init_90 (Eq.trans rfl he.symm) (Eq.trans rfl hT.symm) (by decide) (by decide)
def e_RX1 (B : Nat) : va_E := .inr (1, [.int 0, .int 0, .ref (B + 0), .ref (B + 1), .ref (B + 2), .ref (B + 3), .ref (B + 4), .ref (B + 5)])
def t_RX1 (cA : ClassId × ClassId × ClassId) (B : Nat) : CH := [.inl (cA.1, 16, .inl (fun _ => 0)), .inl (cA.1, 16, .inl (fun _ => 0)), .inl (cA.1, 16, .inl (fun _ => 0)), .inl (cA.1, 16, .inl (fun _ => 0)), .inl (cA.1, 400, .inl (fun _ => 0)), .inl (cA.1, 64, .inl (fun _ => 0))]
theorem dX1_init_0 : decode cX1_init 0 = .ok (.aload_n 0, 1) := by decide +kernel
theorem dX1_init_1 : decode cX1_init 1 = .ok (.invokespecial 3, 3) := by decide +kernel
theorem dX1_init_4 : decode cX1_init 4 = .ok (.aload_n 0, 1) := by decide +kernel
theorem dX1_init_5 : decode cX1_init 5 = .ok (.iconst 0, 1) := by decide +kernel
theorem dX1_init_6 : decode cX1_init 6 = .ok (.putfield 9, 3) := by decide +kernel
theorem dX1_init_9 : decode cX1_init 9 = .ok (.aload_n 0, 1) := by decide +kernel
theorem dX1_init_10 : decode cX1_init 10 = .ok (.iconst 0, 1) := by decide +kernel
theorem dX1_init_11 : decode cX1_init 11 = .ok (.putfield 15, 3) := by decide +kernel
theorem dX1_init_14 : decode cX1_init 14 = .ok (.aload_n 0, 1) := by decide +kernel
theorem dX1_init_15 : decode cX1_init 15 = .ok (.bipush 16, 2) := by decide +kernel
theorem dX1_init_17 : decode cX1_init 17 = .ok (.newarray .int, 2) := by decide +kernel
theorem dX1_init_19 : decode cX1_init 19 = .ok (.putfield 18, 3) := by decide +kernel
theorem dX1_init_22 : decode cX1_init 22 = .ok (.aload_n 0, 1) := by decide +kernel
theorem dX1_init_23 : decode cX1_init 23 = .ok (.bipush 16, 2) := by decide +kernel
theorem dX1_init_25 : decode cX1_init 25 = .ok (.newarray .int, 2) := by decide +kernel
theorem dX1_init_27 : decode cX1_init 27 = .ok (.putfield 22, 3) := by decide +kernel
theorem dX1_init_30 : decode cX1_init 30 = .ok (.aload_n 0, 1) := by decide +kernel
theorem dX1_init_31 : decode cX1_init 31 = .ok (.bipush 16, 2) := by decide +kernel
theorem dX1_init_33 : decode cX1_init 33 = .ok (.newarray .int, 2) := by decide +kernel
theorem dX1_init_35 : decode cX1_init 35 = .ok (.putfield 25, 3) := by decide +kernel
theorem dX1_init_38 : decode cX1_init 38 = .ok (.aload_n 0, 1) := by decide +kernel
theorem dX1_init_39 : decode cX1_init 39 = .ok (.bipush 16, 2) := by decide +kernel
theorem dX1_init_41 : decode cX1_init 41 = .ok (.newarray .int, 2) := by decide +kernel
theorem dX1_init_43 : decode cX1_init 43 = .ok (.putfield 28, 3) := by decide +kernel
theorem dX1_init_46 : decode cX1_init 46 = .ok (.aload_n 0, 1) := by decide +kernel
theorem dX1_init_47 : decode cX1_init 47 = .ok (.sipush 400, 3) := by decide +kernel
theorem dX1_init_50 : decode cX1_init 50 = .ok (.newarray .int, 2) := by decide +kernel
theorem dX1_init_52 : decode cX1_init 52 = .ok (.putfield 31, 3) := by decide +kernel
theorem dX1_init_55 : decode cX1_init 55 = .ok (.aload_n 0, 1) := by decide +kernel
theorem dX1_init_56 : decode cX1_init 56 = .ok (.bipush 64, 2) := by decide +kernel
theorem dX1_init_58 : decode cX1_init 58 = .ok (.newarray .int, 2) := by decide +kernel
theorem dX1_init_60 : decode cX1_init 60 = .ok (.putfield 34, 3) := by decide +kernel
theorem dX1_init_63 : decode cX1_init 63 = .ok (.return_, 1) := by decide +kernel
set_option maxRecDepth 100000 in
set_option maxHeartbeats 4000000 in
theorem ok_X1_init (l : Launch) (D : va_G) (cA : ClassId × ClassId × ClassId) (q B : Nat) : CM l D cA yX1_init cX1_init 1 1 6 528 [] q B (.inr (1, [.int 0, .int 0, .null, .null, .null, .null, .null, .null])) (e_RX1 B) (t_RX1 cA B) := by
  refine CM_of (L := [some (.ref q)]) (by decide) rfl (by simp [Value.category]) (Nat.le_of_ble_eq_true rfl) (fun j v z => ?_) (fun Z X hq hB hA he hT => ?_)
  · exact aL_ok (n := 0) (.ref q :: []) j v z
  subst hq hB hA
  refine ac_aload_n X dX1_init_0 rfl ?_
  refine ac_obji X (Nat.le_of_ble_eq_true rfl) oi_RX1_3 dX1_init_1 ?_
  refine ac_aload_n X dX1_init_4 rfl ?_
  refine ac_iconst (v := 0) X dX1_init_5 (by decide) ?_
  refine ac_put (fs' := [.int 0, .int 0, .null, .null, .null, .null, .null, .null]) X dX1_init_6 pf_RX1_9 rfl rfl (Nat.le_of_ble_eq_true rfl) rfl ?_
  refine ac_aload_n X dX1_init_9 rfl ?_
  refine ac_iconst (v := 0) X dX1_init_10 (by decide) ?_
  refine ac_put (fs' := [.int 0, .int 0, .null, .null, .null, .null, .null, .null]) X dX1_init_11 pf_RX1_15 rfl rfl (Nat.le_of_ble_eq_true rfl) rfl ?_
  refine ac_aload_n X dX1_init_14 rfl ?_
  refine ac_bipush (v := 16) X dX1_init_15 (by decide) ?_
  refine ac_newaiM (k := 16) (m := 0) (c' := 1) (n' := 16) rfl rfl rfl X dX1_init_17 aw_ci (by decide) (Nat.le_of_ble_eq_true rfl) (Nat.le_of_ble_eq_true rfl) ?_
  refine ac_putF (fs' := [.int 0, .int 0, .ref (cB Z + 0), .null, .null, .null, .null, .null]) X dX1_init_19 pf_RX1_18 rfl rfl (Nat.le_of_ble_eq_true rfl) rfl ?_
  refine ac_aload_n X dX1_init_22 rfl ?_
  refine ac_bipush (v := 16) X dX1_init_23 (by decide) ?_
  refine ac_newaiM (k := 16) (m := 1) (c' := 2) (n' := 32) rfl rfl rfl X dX1_init_25 aw_ci (by decide) (Nat.le_of_ble_eq_true rfl) (Nat.le_of_ble_eq_true rfl) ?_
  refine ac_putF (fs' := [.int 0, .int 0, .ref (cB Z + 0), .ref (cB Z + 1), .null, .null, .null, .null]) X dX1_init_27 pf_RX1_22 rfl rfl (Nat.le_of_ble_eq_true rfl) rfl ?_
  refine ac_aload_n X dX1_init_30 rfl ?_
  refine ac_bipush (v := 16) X dX1_init_31 (by decide) ?_
  refine ac_newaiM (k := 16) (m := 2) (c' := 3) (n' := 48) rfl rfl rfl X dX1_init_33 aw_ci (by decide) (Nat.le_of_ble_eq_true rfl) (Nat.le_of_ble_eq_true rfl) ?_
  refine ac_putF (fs' := [.int 0, .int 0, .ref (cB Z + 0), .ref (cB Z + 1), .ref (cB Z + 2), .null, .null, .null]) X dX1_init_35 pf_RX1_25 rfl rfl (Nat.le_of_ble_eq_true rfl) rfl ?_
  refine ac_aload_n X dX1_init_38 rfl ?_
  refine ac_bipush (v := 16) X dX1_init_39 (by decide) ?_
  refine ac_newaiM (k := 16) (m := 3) (c' := 4) (n' := 64) rfl rfl rfl X dX1_init_41 aw_ci (by decide) (Nat.le_of_ble_eq_true rfl) (Nat.le_of_ble_eq_true rfl) ?_
  refine ac_putF (fs' := [.int 0, .int 0, .ref (cB Z + 0), .ref (cB Z + 1), .ref (cB Z + 2), .ref (cB Z + 3), .null, .null]) X dX1_init_43 pf_RX1_28 rfl rfl (Nat.le_of_ble_eq_true rfl) rfl ?_
  refine ac_aload_n X dX1_init_46 rfl ?_
  refine ac_sipush (v := 400) X dX1_init_47 (by decide) ?_
  refine ac_newaiM (k := 400) (m := 4) (c' := 5) (n' := 464) rfl rfl rfl X dX1_init_50 aw_ci (by decide) (Nat.le_of_ble_eq_true rfl) (Nat.le_of_ble_eq_true rfl) ?_
  refine ac_putF (fs' := [.int 0, .int 0, .ref (cB Z + 0), .ref (cB Z + 1), .ref (cB Z + 2), .ref (cB Z + 3), .ref (cB Z + 4), .null]) X dX1_init_52 pf_RX1_31 rfl rfl (Nat.le_of_ble_eq_true rfl) rfl ?_
  refine ac_aload_n X dX1_init_55 rfl ?_
  refine ac_bipush (v := 64) X dX1_init_56 (by decide) ?_
  refine ac_newaiM (k := 64) (m := 5) (c' := 6) (n' := 528) rfl rfl rfl X dX1_init_58 aw_ci (by decide) (Nat.le_of_ble_eq_true rfl) (Nat.le_of_ble_eq_true rfl) ?_
  refine ac_putF (fs' := [.int 0, .int 0, .ref (cB Z + 0), .ref (cB Z + 1), .ref (cB Z + 2), .ref (cB Z + 3), .ref (cB Z + 4), .ref (cB Z + 5)]) X dX1_init_60 pf_RX1_34 rfl rfl (Nat.le_of_ble_eq_true rfl) rfl ?_
  exact ac_vret X dX1_init_63 (Eq.trans rfl he.symm) (Eq.trans rfl hT.symm) (by decide) (by decide)
def e_RX3 (B : Nat) : va_E := .inr (2, [.int 0, .ref (B + 0), .ref (B + 1), .ref (B + 2), .ref (B + 3)])
def t_RX3 (cA : ClassId × ClassId × ClassId) (B : Nat) : CH := [.inl (cA.1, 16, .inl (fun _ => 0)), .inl (cA.1, 16, .inl (fun _ => 0)), .inl (cA.1, 96, .inl (fun _ => 0)), .inl (cA.1, 14, .inl (fun _ => 0))]
theorem dX3_init_0 : decode cX3_init 0 = .ok (.aload_n 0, 1) := by decide +kernel
theorem dX3_init_1 : decode cX3_init 1 = .ok (.invokespecial 3, 3) := by decide +kernel
theorem dX3_init_4 : decode cX3_init 4 = .ok (.aload_n 0, 1) := by decide +kernel
theorem dX3_init_5 : decode cX3_init 5 = .ok (.iconst 0, 1) := by decide +kernel
theorem dX3_init_6 : decode cX3_init 6 = .ok (.putfield 9, 3) := by decide +kernel
theorem dX3_init_9 : decode cX3_init 9 = .ok (.aload_n 0, 1) := by decide +kernel
theorem dX3_init_10 : decode cX3_init 10 = .ok (.bipush 16, 2) := by decide +kernel
theorem dX3_init_12 : decode cX3_init 12 = .ok (.newarray .int, 2) := by decide +kernel
theorem dX3_init_14 : decode cX3_init 14 = .ok (.putfield 15, 3) := by decide +kernel
theorem dX3_init_17 : decode cX3_init 17 = .ok (.aload_n 0, 1) := by decide +kernel
theorem dX3_init_18 : decode cX3_init 18 = .ok (.bipush 16, 2) := by decide +kernel
theorem dX3_init_20 : decode cX3_init 20 = .ok (.newarray .int, 2) := by decide +kernel
theorem dX3_init_22 : decode cX3_init 22 = .ok (.putfield 19, 3) := by decide +kernel
theorem dX3_init_25 : decode cX3_init 25 = .ok (.aload_n 0, 1) := by decide +kernel
theorem dX3_init_26 : decode cX3_init 26 = .ok (.bipush 96, 2) := by decide +kernel
theorem dX3_init_28 : decode cX3_init 28 = .ok (.newarray .int, 2) := by decide +kernel
theorem dX3_init_30 : decode cX3_init 30 = .ok (.putfield 22, 3) := by decide +kernel
theorem dX3_init_33 : decode cX3_init 33 = .ok (.aload_n 0, 1) := by decide +kernel
theorem dX3_init_34 : decode cX3_init 34 = .ok (.bipush 14, 2) := by decide +kernel
theorem dX3_init_36 : decode cX3_init 36 = .ok (.newarray .int, 2) := by decide +kernel
theorem dX3_init_38 : decode cX3_init 38 = .ok (.putfield 25, 3) := by decide +kernel
theorem dX3_init_41 : decode cX3_init 41 = .ok (.return_, 1) := by decide +kernel
set_option maxRecDepth 100000 in
set_option maxHeartbeats 4000000 in
theorem ok_X3_init (l : Launch) (D : va_G) (cA : ClassId × ClassId × ClassId) (q B : Nat) : CM l D cA yX3_init cX3_init 1 1 4 142 [] q B (.inr (2, [.int 0, .null, .null, .null, .null])) (e_RX3 B) (t_RX3 cA B) := by
  refine CM_of (L := [some (.ref q)]) (by decide) rfl (by simp [Value.category]) (Nat.le_of_ble_eq_true rfl) (fun j v z => ?_) (fun Z X hq hB hA he hT => ?_)
  · exact aL_ok (n := 0) (.ref q :: []) j v z
  subst hq hB hA
  refine ac_aload_n X dX3_init_0 rfl ?_
  refine ac_obji X (Nat.le_of_ble_eq_true rfl) oi_RX3_3 dX3_init_1 ?_
  refine ac_aload_n X dX3_init_4 rfl ?_
  refine ac_iconst (v := 0) X dX3_init_5 (by decide) ?_
  refine ac_put (fs' := [.int 0, .null, .null, .null, .null]) X dX3_init_6 pf_RX3_9 rfl rfl (Nat.le_of_ble_eq_true rfl) rfl ?_
  refine ac_aload_n X dX3_init_9 rfl ?_
  refine ac_bipush (v := 16) X dX3_init_10 (by decide) ?_
  refine ac_newaiM (k := 16) (m := 0) (c' := 1) (n' := 16) rfl rfl rfl X dX3_init_12 aw_ci (by decide) (Nat.le_of_ble_eq_true rfl) (Nat.le_of_ble_eq_true rfl) ?_
  refine ac_putF (fs' := [.int 0, .ref (cB Z + 0), .null, .null, .null]) X dX3_init_14 pf_RX3_15 rfl rfl (Nat.le_of_ble_eq_true rfl) rfl ?_
  refine ac_aload_n X dX3_init_17 rfl ?_
  refine ac_bipush (v := 16) X dX3_init_18 (by decide) ?_
  refine ac_newaiM (k := 16) (m := 1) (c' := 2) (n' := 32) rfl rfl rfl X dX3_init_20 aw_ci (by decide) (Nat.le_of_ble_eq_true rfl) (Nat.le_of_ble_eq_true rfl) ?_
  refine ac_putF (fs' := [.int 0, .ref (cB Z + 0), .ref (cB Z + 1), .null, .null]) X dX3_init_22 pf_RX3_19 rfl rfl (Nat.le_of_ble_eq_true rfl) rfl ?_
  refine ac_aload_n X dX3_init_25 rfl ?_
  refine ac_bipush (v := 96) X dX3_init_26 (by decide) ?_
  refine ac_newaiM (k := 96) (m := 2) (c' := 3) (n' := 128) rfl rfl rfl X dX3_init_28 aw_ci (by decide) (Nat.le_of_ble_eq_true rfl) (Nat.le_of_ble_eq_true rfl) ?_
  refine ac_putF (fs' := [.int 0, .ref (cB Z + 0), .ref (cB Z + 1), .ref (cB Z + 2), .null]) X dX3_init_30 pf_RX3_22 rfl rfl (Nat.le_of_ble_eq_true rfl) rfl ?_
  refine ac_aload_n X dX3_init_33 rfl ?_
  refine ac_bipush (v := 14) X dX3_init_34 (by decide) ?_
  refine ac_newaiM (k := 14) (m := 3) (c' := 4) (n' := 142) rfl rfl rfl X dX3_init_36 aw_ci (by decide) (Nat.le_of_ble_eq_true rfl) (Nat.le_of_ble_eq_true rfl) ?_
  refine ac_putF (fs' := [.int 0, .ref (cB Z + 0), .ref (cB Z + 1), .ref (cB Z + 2), .ref (cB Z + 3)]) X dX3_init_38 pf_RX3_25 rfl rfl (Nat.le_of_ble_eq_true rfl) rfl ?_
  exact ac_vret X dX3_init_41 (Eq.trans rfl he.symm) (Eq.trans rfl hT.symm) (by decide) (by decide)
def e_RX5 (B : Nat) : va_E := .inr (4, [.int 0, .ref (B + 0), .ref (B + 1), .ref (B + 2), .ref (B + 3)])
def t_RX5 (cA : ClassId × ClassId × ClassId) (B : Nat) : CH := [.inl (cA.1, 16, .inl (fun _ => 0)), .inl (cA.1, 16, .inl (fun _ => 0)), .inl (cA.1, 16, .inl (fun _ => 0)), .inl (cA.1, 16, .inl (fun _ => 0))]
theorem dX5_init_0 : decode cX5_init 0 = .ok (.aload_n 0, 1) := by decide +kernel
theorem dX5_init_1 : decode cX5_init 1 = .ok (.invokespecial 3, 3) := by decide +kernel
theorem dX5_init_4 : decode cX5_init 4 = .ok (.aload_n 0, 1) := by decide +kernel
theorem dX5_init_5 : decode cX5_init 5 = .ok (.iconst 0, 1) := by decide +kernel
theorem dX5_init_6 : decode cX5_init 6 = .ok (.putfield 9, 3) := by decide +kernel
theorem dX5_init_9 : decode cX5_init 9 = .ok (.aload_n 0, 1) := by decide +kernel
theorem dX5_init_10 : decode cX5_init 10 = .ok (.bipush 16, 2) := by decide +kernel
theorem dX5_init_12 : decode cX5_init 12 = .ok (.newarray .int, 2) := by decide +kernel
theorem dX5_init_14 : decode cX5_init 14 = .ok (.putfield 15, 3) := by decide +kernel
theorem dX5_init_17 : decode cX5_init 17 = .ok (.aload_n 0, 1) := by decide +kernel
theorem dX5_init_18 : decode cX5_init 18 = .ok (.bipush 16, 2) := by decide +kernel
theorem dX5_init_20 : decode cX5_init 20 = .ok (.newarray .int, 2) := by decide +kernel
theorem dX5_init_22 : decode cX5_init 22 = .ok (.putfield 19, 3) := by decide +kernel
theorem dX5_init_25 : decode cX5_init 25 = .ok (.aload_n 0, 1) := by decide +kernel
theorem dX5_init_26 : decode cX5_init 26 = .ok (.bipush 16, 2) := by decide +kernel
theorem dX5_init_28 : decode cX5_init 28 = .ok (.newarray .int, 2) := by decide +kernel
theorem dX5_init_30 : decode cX5_init 30 = .ok (.putfield 22, 3) := by decide +kernel
theorem dX5_init_33 : decode cX5_init 33 = .ok (.aload_n 0, 1) := by decide +kernel
theorem dX5_init_34 : decode cX5_init 34 = .ok (.bipush 16, 2) := by decide +kernel
theorem dX5_init_36 : decode cX5_init 36 = .ok (.newarray .int, 2) := by decide +kernel
theorem dX5_init_38 : decode cX5_init 38 = .ok (.putfield 25, 3) := by decide +kernel
theorem dX5_init_41 : decode cX5_init 41 = .ok (.return_, 1) := by decide +kernel
set_option maxRecDepth 100000 in
set_option maxHeartbeats 4000000 in
theorem ok_X5_init (l : Launch) (D : va_G) (cA : ClassId × ClassId × ClassId) (q B : Nat) : CM l D cA yX5_init cX5_init 1 1 4 64 [] q B (.inr (4, [.int 0, .null, .null, .null, .null])) (e_RX5 B) (t_RX5 cA B) := by
  refine CM_of (L := [some (.ref q)]) (by decide) rfl (by simp [Value.category]) (Nat.le_of_ble_eq_true rfl) (fun j v z => ?_) (fun Z X hq hB hA he hT => ?_)
  · exact aL_ok (n := 0) (.ref q :: []) j v z
  subst hq hB hA
  refine ac_aload_n X dX5_init_0 rfl ?_
  refine ac_obji X (Nat.le_of_ble_eq_true rfl) oi_RX5_3 dX5_init_1 ?_
  refine ac_aload_n X dX5_init_4 rfl ?_
  refine ac_iconst (v := 0) X dX5_init_5 (by decide) ?_
  refine ac_put (fs' := [.int 0, .null, .null, .null, .null]) X dX5_init_6 pf_RX5_9 rfl rfl (Nat.le_of_ble_eq_true rfl) rfl ?_
  refine ac_aload_n X dX5_init_9 rfl ?_
  refine ac_bipush (v := 16) X dX5_init_10 (by decide) ?_
  refine ac_newaiM (k := 16) (m := 0) (c' := 1) (n' := 16) rfl rfl rfl X dX5_init_12 aw_ci (by decide) (Nat.le_of_ble_eq_true rfl) (Nat.le_of_ble_eq_true rfl) ?_
  refine ac_putF (fs' := [.int 0, .ref (cB Z + 0), .null, .null, .null]) X dX5_init_14 pf_RX5_15 rfl rfl (Nat.le_of_ble_eq_true rfl) rfl ?_
  refine ac_aload_n X dX5_init_17 rfl ?_
  refine ac_bipush (v := 16) X dX5_init_18 (by decide) ?_
  refine ac_newaiM (k := 16) (m := 1) (c' := 2) (n' := 32) rfl rfl rfl X dX5_init_20 aw_ci (by decide) (Nat.le_of_ble_eq_true rfl) (Nat.le_of_ble_eq_true rfl) ?_
  refine ac_putF (fs' := [.int 0, .ref (cB Z + 0), .ref (cB Z + 1), .null, .null]) X dX5_init_22 pf_RX5_19 rfl rfl (Nat.le_of_ble_eq_true rfl) rfl ?_
  refine ac_aload_n X dX5_init_25 rfl ?_
  refine ac_bipush (v := 16) X dX5_init_26 (by decide) ?_
  refine ac_newaiM (k := 16) (m := 2) (c' := 3) (n' := 48) rfl rfl rfl X dX5_init_28 aw_ci (by decide) (Nat.le_of_ble_eq_true rfl) (Nat.le_of_ble_eq_true rfl) ?_
  refine ac_putF (fs' := [.int 0, .ref (cB Z + 0), .ref (cB Z + 1), .ref (cB Z + 2), .null]) X dX5_init_30 pf_RX5_22 rfl rfl (Nat.le_of_ble_eq_true rfl) rfl ?_
  refine ac_aload_n X dX5_init_33 rfl ?_
  refine ac_bipush (v := 16) X dX5_init_34 (by decide) ?_
  refine ac_newaiM (k := 16) (m := 3) (c' := 4) (n' := 64) rfl rfl rfl X dX5_init_36 aw_ci (by decide) (Nat.le_of_ble_eq_true rfl) (Nat.le_of_ble_eq_true rfl) ?_
  refine ac_putF (fs' := [.int 0, .ref (cB Z + 0), .ref (cB Z + 1), .ref (cB Z + 2), .ref (cB Z + 3)]) X dX5_init_38 pf_RX5_25 rfl rfl (Nat.le_of_ble_eq_true rfl) rfl ?_
  exact ac_vret X dX5_init_41 (Eq.trans rfl he.symm) (Eq.trans rfl hT.symm) (by decide) (by decide)
def e_RX6 (B : Nat) : va_E := .inr (5, [.int 0, .int 0, .int 0, .int 0, .int 0, .int 0, .ref (B + 0), .ref (B + 1), .ref (B + 2), .ref (B + 3)])
def t_RX6 (cA : ClassId × ClassId × ClassId) (B : Nat) : CH := [.inl (cA.1, 400, .inl (fun _ => 0)), .inl (cA.1, 400, .inl (fun _ => 0)), .inl (cA.1, 400, .inl (fun _ => 0)), .inl (cA.1, 400, .inl (fun _ => 0))]
theorem dX6_init_0 : decode cX6_init 0 = .ok (.aload_n 0, 1) := by decide +kernel
theorem dX6_init_1 : decode cX6_init 1 = .ok (.invokespecial 3, 3) := by decide +kernel
theorem dX6_init_4 : decode cX6_init 4 = .ok (.aload_n 0, 1) := by decide +kernel
theorem dX6_init_5 : decode cX6_init 5 = .ok (.iconst 0, 1) := by decide +kernel
theorem dX6_init_6 : decode cX6_init 6 = .ok (.putfield 9, 3) := by decide +kernel
theorem dX6_init_9 : decode cX6_init 9 = .ok (.aload_n 0, 1) := by decide +kernel
theorem dX6_init_10 : decode cX6_init 10 = .ok (.iconst 0, 1) := by decide +kernel
theorem dX6_init_11 : decode cX6_init 11 = .ok (.putfield 15, 3) := by decide +kernel
theorem dX6_init_14 : decode cX6_init 14 = .ok (.aload_n 0, 1) := by decide +kernel
theorem dX6_init_15 : decode cX6_init 15 = .ok (.iconst 0, 1) := by decide +kernel
theorem dX6_init_16 : decode cX6_init 16 = .ok (.putfield 18, 3) := by decide +kernel
theorem dX6_init_19 : decode cX6_init 19 = .ok (.aload_n 0, 1) := by decide +kernel
theorem dX6_init_20 : decode cX6_init 20 = .ok (.iconst 0, 1) := by decide +kernel
theorem dX6_init_21 : decode cX6_init 21 = .ok (.putfield 21, 3) := by decide +kernel
theorem dX6_init_24 : decode cX6_init 24 = .ok (.aload_n 0, 1) := by decide +kernel
theorem dX6_init_25 : decode cX6_init 25 = .ok (.iconst 0, 1) := by decide +kernel
theorem dX6_init_26 : decode cX6_init 26 = .ok (.putfield 24, 3) := by decide +kernel
theorem dX6_init_29 : decode cX6_init 29 = .ok (.aload_n 0, 1) := by decide +kernel
theorem dX6_init_30 : decode cX6_init 30 = .ok (.iconst 0, 1) := by decide +kernel
theorem dX6_init_31 : decode cX6_init 31 = .ok (.putfield 27, 3) := by decide +kernel
theorem dX6_init_34 : decode cX6_init 34 = .ok (.aload_n 0, 1) := by decide +kernel
theorem dX6_init_35 : decode cX6_init 35 = .ok (.sipush 400, 3) := by decide +kernel
theorem dX6_init_38 : decode cX6_init 38 = .ok (.newarray .int, 2) := by decide +kernel
theorem dX6_init_40 : decode cX6_init 40 = .ok (.putfield 30, 3) := by decide +kernel
theorem dX6_init_43 : decode cX6_init 43 = .ok (.aload_n 0, 1) := by decide +kernel
theorem dX6_init_44 : decode cX6_init 44 = .ok (.sipush 400, 3) := by decide +kernel
theorem dX6_init_47 : decode cX6_init 47 = .ok (.newarray .int, 2) := by decide +kernel
theorem dX6_init_49 : decode cX6_init 49 = .ok (.putfield 34, 3) := by decide +kernel
theorem dX6_init_52 : decode cX6_init 52 = .ok (.aload_n 0, 1) := by decide +kernel
theorem dX6_init_53 : decode cX6_init 53 = .ok (.sipush 400, 3) := by decide +kernel
theorem dX6_init_56 : decode cX6_init 56 = .ok (.newarray .int, 2) := by decide +kernel
theorem dX6_init_58 : decode cX6_init 58 = .ok (.putfield 37, 3) := by decide +kernel
theorem dX6_init_61 : decode cX6_init 61 = .ok (.aload_n 0, 1) := by decide +kernel
theorem dX6_init_62 : decode cX6_init 62 = .ok (.sipush 400, 3) := by decide +kernel
theorem dX6_init_65 : decode cX6_init 65 = .ok (.newarray .int, 2) := by decide +kernel
theorem dX6_init_67 : decode cX6_init 67 = .ok (.putfield 40, 3) := by decide +kernel
theorem dX6_init_70 : decode cX6_init 70 = .ok (.return_, 1) := by decide +kernel
set_option maxRecDepth 100000 in
set_option maxHeartbeats 4000000 in
theorem ok_X6_init (l : Launch) (D : va_G) (cA : ClassId × ClassId × ClassId) (q B : Nat) : CM l D cA yX6_init cX6_init 1 1 4 1600 [] q B (.inr (5, [.int 0, .int 0, .int 0, .int 0, .int 0, .int 0, .null, .null, .null, .null])) (e_RX6 B) (t_RX6 cA B) := by
  refine CM_of (L := [some (.ref q)]) (by decide) rfl (by simp [Value.category]) (Nat.le_of_ble_eq_true rfl) (fun j v z => ?_) (fun Z X hq hB hA he hT => ?_)
  · exact aL_ok (n := 0) (.ref q :: []) j v z
  subst hq hB hA
  refine ac_aload_n X dX6_init_0 rfl ?_
  refine ac_obji X (Nat.le_of_ble_eq_true rfl) oi_RX6_3 dX6_init_1 ?_
  refine ac_aload_n X dX6_init_4 rfl ?_
  refine ac_iconst (v := 0) X dX6_init_5 (by decide) ?_
  refine ac_put (fs' := [.int 0, .int 0, .int 0, .int 0, .int 0, .int 0, .null, .null, .null, .null]) X dX6_init_6 pf_RX6_9 rfl rfl (Nat.le_of_ble_eq_true rfl) rfl ?_
  refine ac_aload_n X dX6_init_9 rfl ?_
  refine ac_iconst (v := 0) X dX6_init_10 (by decide) ?_
  refine ac_put (fs' := [.int 0, .int 0, .int 0, .int 0, .int 0, .int 0, .null, .null, .null, .null]) X dX6_init_11 pf_RX6_15 rfl rfl (Nat.le_of_ble_eq_true rfl) rfl ?_
  refine ac_aload_n X dX6_init_14 rfl ?_
  refine ac_iconst (v := 0) X dX6_init_15 (by decide) ?_
  refine ac_put (fs' := [.int 0, .int 0, .int 0, .int 0, .int 0, .int 0, .null, .null, .null, .null]) X dX6_init_16 pf_RX6_18 rfl rfl (Nat.le_of_ble_eq_true rfl) rfl ?_
  refine ac_aload_n X dX6_init_19 rfl ?_
  refine ac_iconst (v := 0) X dX6_init_20 (by decide) ?_
  refine ac_put (fs' := [.int 0, .int 0, .int 0, .int 0, .int 0, .int 0, .null, .null, .null, .null]) X dX6_init_21 pf_RX6_21 rfl rfl (Nat.le_of_ble_eq_true rfl) rfl ?_
  refine ac_aload_n X dX6_init_24 rfl ?_
  refine ac_iconst (v := 0) X dX6_init_25 (by decide) ?_
  refine ac_put (fs' := [.int 0, .int 0, .int 0, .int 0, .int 0, .int 0, .null, .null, .null, .null]) X dX6_init_26 pf_RX6_24 rfl rfl (Nat.le_of_ble_eq_true rfl) rfl ?_
  refine ac_aload_n X dX6_init_29 rfl ?_
  refine ac_iconst (v := 0) X dX6_init_30 (by decide) ?_
  refine ac_put (fs' := [.int 0, .int 0, .int 0, .int 0, .int 0, .int 0, .null, .null, .null, .null]) X dX6_init_31 pf_RX6_27 rfl rfl (Nat.le_of_ble_eq_true rfl) rfl ?_
  refine ac_aload_n X dX6_init_34 rfl ?_
  refine ac_sipush (v := 400) X dX6_init_35 (by decide) ?_
  refine ac_newaiM (k := 400) (m := 0) (c' := 1) (n' := 400) rfl rfl rfl X dX6_init_38 aw_ci (by decide) (Nat.le_of_ble_eq_true rfl) (Nat.le_of_ble_eq_true rfl) ?_
  refine ac_putF (fs' := [.int 0, .int 0, .int 0, .int 0, .int 0, .int 0, .ref (cB Z + 0), .null, .null, .null]) X dX6_init_40 pf_RX6_30 rfl rfl (Nat.le_of_ble_eq_true rfl) rfl ?_
  refine ac_aload_n X dX6_init_43 rfl ?_
  refine ac_sipush (v := 400) X dX6_init_44 (by decide) ?_
  refine ac_newaiM (k := 400) (m := 1) (c' := 2) (n' := 800) rfl rfl rfl X dX6_init_47 aw_ci (by decide) (Nat.le_of_ble_eq_true rfl) (Nat.le_of_ble_eq_true rfl) ?_
  refine ac_putF (fs' := [.int 0, .int 0, .int 0, .int 0, .int 0, .int 0, .ref (cB Z + 0), .ref (cB Z + 1), .null, .null]) X dX6_init_49 pf_RX6_34 rfl rfl (Nat.le_of_ble_eq_true rfl) rfl ?_
  refine ac_aload_n X dX6_init_52 rfl ?_
  refine ac_sipush (v := 400) X dX6_init_53 (by decide) ?_
  refine ac_newaiM (k := 400) (m := 2) (c' := 3) (n' := 1200) rfl rfl rfl X dX6_init_56 aw_ci (by decide) (Nat.le_of_ble_eq_true rfl) (Nat.le_of_ble_eq_true rfl) ?_
  refine ac_putF (fs' := [.int 0, .int 0, .int 0, .int 0, .int 0, .int 0, .ref (cB Z + 0), .ref (cB Z + 1), .ref (cB Z + 2), .null]) X dX6_init_58 pf_RX6_37 rfl rfl (Nat.le_of_ble_eq_true rfl) rfl ?_
  refine ac_aload_n X dX6_init_61 rfl ?_
  refine ac_sipush (v := 400) X dX6_init_62 (by decide) ?_
  refine ac_newaiM (k := 400) (m := 3) (c' := 4) (n' := 1600) rfl rfl rfl X dX6_init_65 aw_ci (by decide) (Nat.le_of_ble_eq_true rfl) (Nat.le_of_ble_eq_true rfl) ?_
  refine ac_putF (fs' := [.int 0, .int 0, .int 0, .int 0, .int 0, .int 0, .ref (cB Z + 0), .ref (cB Z + 1), .ref (cB Z + 2), .ref (cB Z + 3)]) X dX6_init_67 pf_RX6_40 rfl rfl (Nat.le_of_ble_eq_true rfl) rfl ?_
  exact ac_vret X dX6_init_70 (Eq.trans rfl he.symm) (Eq.trans rfl hT.symm) (by decide) (by decide)
def e_RX7 (B : Nat) (x1 : Int32) : va_E := .inr (6, [.ref (B + 0), .int 0])
def t_RX7 (cA : ClassId × ClassId × ClassId) (B : Nat) (x1 : Int32) (m : Nat) : CH := [.inl (cA.1, m, .inl (fun _ => 0))]
theorem dX7_init_0 : decode cX7_init 0 = .ok (.aload_n 0, 1) := by decide +kernel
theorem dX7_init_1 : decode cX7_init 1 = .ok (.invokespecial 1, 3) := by decide +kernel
theorem dX7_init_4 : decode cX7_init 4 = .ok (.aload_n 0, 1) := by decide +kernel
theorem dX7_init_5 : decode cX7_init 5 = .ok (.iconst 0, 1) := by decide +kernel
theorem dX7_init_6 : decode cX7_init 6 = .ok (.iload_n 1, 1) := by decide +kernel
theorem dX7_init_7 : decode cX7_init 7 = .ok (.invokestatic 7, 3) := by decide +kernel
theorem dX7_init_10 : decode cX7_init 10 = .ok (.newarray .int, 2) := by decide +kernel
theorem dX7_init_12 : decode cX7_init 12 = .ok (.putfield 13, 3) := by decide +kernel
theorem dX7_init_15 : decode cX7_init 15 = .ok (.aload_n 0, 1) := by decide +kernel
theorem dX7_init_16 : decode cX7_init 16 = .ok (.iconst 0, 1) := by decide +kernel
theorem dX7_init_17 : decode cX7_init 17 = .ok (.putfield 19, 3) := by decide +kernel
theorem dX7_init_20 : decode cX7_init 20 = .ok (.return_, 1) := by decide +kernel
set_option maxRecDepth 100000 in
set_option maxHeartbeats 4000000 in
theorem ok_X7_init (x1 : Int32) (m : Nat) (hm : ¬ jmmax 0 x1 < 0 ∧ (jmmax 0 x1).toNatClampNeg = m ∧ m * componentBytes .int ≤ 536870912) (l : Launch) (D : va_G) (cA : ClassId × ClassId × ClassId) (q B : Nat) : CM l D cA yX7_init cX7_init 2 1 1 m [.int x1] q B (.inr (6, [.null, .int 0])) (e_RX7 B x1) (t_RX7 cA B x1 m) := by
  refine CM_of (L := [some (.ref q), some (.int x1)]) (by decide) rfl (by simp [Value.category]) (Nat.le_of_ble_eq_true rfl) (fun j v z => ?_) (fun Z X hq hB hA he hT => ?_)
  · exact aL_ok (n := 0) (.ref q :: [.int x1]) j v z
  subst hq hB hA
  refine ac_aload_n X dX7_init_0 rfl ?_
  refine ac_obji X (Nat.le_of_ble_eq_true rfl) oi_RX7_1 dX7_init_1 ?_
  refine ac_aload_n X dX7_init_4 rfl ?_
  refine ac_iconst (v := 0) X dX7_init_5 (by decide) ?_
  refine ac_iload_n X dX7_init_6 rfl ?_
  refine ac_mmax X (by decide) (Nat.zero_le _) (Nat.zero_le _) dX7_init_7 mc_RX7_7 rfl ?_
  refine ac_newaiM (k := m) (m := 0) (c' := 1) (n' := m) rfl rfl (by omega) X dX7_init_10 aw_ci hm (by decide) (Nat.le_refl _) ?_
  refine ac_putF (fs' := [.ref (cB Z + 0), .int 0]) X dX7_init_12 pf_RX7_13 rfl rfl (Nat.le_of_ble_eq_true rfl) rfl ?_
  refine ac_aload_n X dX7_init_15 rfl ?_
  refine ac_iconst (v := 0) X dX7_init_16 (by decide) ?_
  refine ac_put (fs' := [.ref (cB Z + 0), .int 0]) X dX7_init_17 pf_RX7_19 rfl rfl (Nat.le_of_ble_eq_true rfl) rfl ?_
  exact ac_vret X dX7_init_20 (Eq.trans rfl he.symm) (Eq.trans rfl hT.symm) (by decide) (by omega)
def e_RX9 (B : Nat) : va_E := .inr (8, [.ref (B + 0), .ref (B + 1), .ref (B + 2), .ref (B + 3)])
def t_RX9 (cA : ClassId × ClassId × ClassId) (B : Nat) : CH := [.inl (cA.1, 100, .inl (fun _ => 0)), .inl (cA.1, 41, .inl (fun _ => 0)), .inl (cA.2.1, 41, .inl (fun _ => 0)), .inl (cA.1, 8, .inl (fun _ => 0))]
theorem dX9_init_0 : decode cX9_init 0 = .ok (.aload_n 0, 1) := by decide +kernel
theorem dX9_init_1 : decode cX9_init 1 = .ok (.invokespecial 3, 3) := by decide +kernel
theorem dX9_init_4 : decode cX9_init 4 = .ok (.aload_n 0, 1) := by decide +kernel
theorem dX9_init_5 : decode cX9_init 5 = .ok (.bipush 100, 2) := by decide +kernel
theorem dX9_init_7 : decode cX9_init 7 = .ok (.newarray .int, 2) := by decide +kernel
theorem dX9_init_9 : decode cX9_init 9 = .ok (.putfield 9, 3) := by decide +kernel
theorem dX9_init_12 : decode cX9_init 12 = .ok (.aload_n 0, 1) := by decide +kernel
theorem dX9_init_13 : decode cX9_init 13 = .ok (.bipush 41, 2) := by decide +kernel
theorem dX9_init_15 : decode cX9_init 15 = .ok (.newarray .int, 2) := by decide +kernel
theorem dX9_init_17 : decode cX9_init 17 = .ok (.putfield 15, 3) := by decide +kernel
theorem dX9_init_20 : decode cX9_init 20 = .ok (.aload_n 0, 1) := by decide +kernel
theorem dX9_init_21 : decode cX9_init 21 = .ok (.bipush 41, 2) := by decide +kernel
theorem dX9_init_23 : decode cX9_init 23 = .ok (.newarray .boolean, 2) := by decide +kernel
theorem dX9_init_25 : decode cX9_init 25 = .ok (.putfield 18, 3) := by decide +kernel
theorem dX9_init_28 : decode cX9_init 28 = .ok (.aload_n 0, 1) := by decide +kernel
theorem dX9_init_29 : decode cX9_init 29 = .ok (.bipush 8, 2) := by decide +kernel
theorem dX9_init_31 : decode cX9_init 31 = .ok (.newarray .int, 2) := by decide +kernel
theorem dX9_init_33 : decode cX9_init 33 = .ok (.putfield 22, 3) := by decide +kernel
theorem dX9_init_36 : decode cX9_init 36 = .ok (.return_, 1) := by decide +kernel
set_option maxRecDepth 100000 in
set_option maxHeartbeats 4000000 in
theorem ok_X9_init (l : Launch) (D : va_G) (cA : ClassId × ClassId × ClassId) (q B : Nat) : CM l D cA yX9_init cX9_init 1 1 4 190 [] q B (.inr (8, [.null, .null, .null, .null])) (e_RX9 B) (t_RX9 cA B) := by
  refine CM_of (L := [some (.ref q)]) (by decide) rfl (by simp [Value.category]) (Nat.le_of_ble_eq_true rfl) (fun j v z => ?_) (fun Z X hq hB hA he hT => ?_)
  · exact aL_ok (n := 0) (.ref q :: []) j v z
  subst hq hB hA
  refine ac_aload_n X dX9_init_0 rfl ?_
  refine ac_obji X (Nat.le_of_ble_eq_true rfl) oi_RX9_3 dX9_init_1 ?_
  refine ac_aload_n X dX9_init_4 rfl ?_
  refine ac_bipush (v := 100) X dX9_init_5 (by decide) ?_
  refine ac_newaiM (k := 100) (m := 0) (c' := 1) (n' := 100) rfl rfl rfl X dX9_init_7 aw_ci (by decide) (Nat.le_of_ble_eq_true rfl) (Nat.le_of_ble_eq_true rfl) ?_
  refine ac_putF (fs' := [.ref (cB Z + 0), .null, .null, .null]) X dX9_init_9 pf_RX9_9 rfl rfl (Nat.le_of_ble_eq_true rfl) rfl ?_
  refine ac_aload_n X dX9_init_12 rfl ?_
  refine ac_bipush (v := 41) X dX9_init_13 (by decide) ?_
  refine ac_newaiM (k := 41) (m := 1) (c' := 2) (n' := 141) rfl rfl rfl X dX9_init_15 aw_ci (by decide) (Nat.le_of_ble_eq_true rfl) (Nat.le_of_ble_eq_true rfl) ?_
  refine ac_putF (fs' := [.ref (cB Z + 0), .ref (cB Z + 1), .null, .null]) X dX9_init_17 pf_RX9_15 rfl rfl (Nat.le_of_ble_eq_true rfl) rfl ?_
  refine ac_aload_n X dX9_init_20 rfl ?_
  refine ac_bipush (v := 41) X dX9_init_21 (by decide) ?_
  refine ac_newazM (k := 41) (m := 2) (c' := 3) (n' := 182) rfl rfl rfl X dX9_init_23 aw_cz (by decide) (Nat.le_of_ble_eq_true rfl) (Nat.le_of_ble_eq_true rfl) ?_
  refine ac_putF (fs' := [.ref (cB Z + 0), .ref (cB Z + 1), .ref (cB Z + 2), .null]) X dX9_init_25 pf_RX9_18 rfl rfl (Nat.le_of_ble_eq_true rfl) rfl ?_
  refine ac_aload_n X dX9_init_28 rfl ?_
  refine ac_bipush (v := 8) X dX9_init_29 (by decide) ?_
  refine ac_newaiM (k := 8) (m := 3) (c' := 4) (n' := 190) rfl rfl rfl X dX9_init_31 aw_ci (by decide) (Nat.le_of_ble_eq_true rfl) (Nat.le_of_ble_eq_true rfl) ?_
  refine ac_putF (fs' := [.ref (cB Z + 0), .ref (cB Z + 1), .ref (cB Z + 2), .ref (cB Z + 3)]) X dX9_init_33 pf_RX9_22 rfl rfl (Nat.le_of_ble_eq_true rfl) rfl ?_
  exact ac_vret X dX9_init_36 (Eq.trans rfl he.symm) (Eq.trans rfl hT.symm) (by decide) (by decide)
