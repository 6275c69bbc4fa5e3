/-! ===== constructors: the world ===== -/
def uX10_0 (cA : ClassId × ClassId × ClassId) (B : Nat) : CH := []
theorem uX10_len0 (cA : ClassId × ClassId × ClassId) (B : Nat) : (uX10_0 cA B).length = 0 := rfl
def uX10_1 (cA : ClassId × ClassId × ClassId) (B : Nat) : CH := uX10_0 cA B ++ e_RX0 (B + 1) 0 :: t_RX0 cA (B + 1) 0
theorem uX10_len1 (cA : ClassId × ClassId × ClassId) (B : Nat) : (uX10_1 cA B).length = 8 := by
  rw [uX10_1, List.length_append, uX10_len0, List.length_cons, tl_RX0] <;> rfl
def uX10_2 (cA : ClassId × ClassId × ClassId) (B : Nat) : CH := uX10_1 cA B ++ e_RX1 (B + 9) :: t_RX1 cA (B + 9)
theorem uX10_len2 (cA : ClassId × ClassId × ClassId) (B : Nat) : (uX10_2 cA B).length = 15 := by
  rw [uX10_2, List.length_append, uX10_len1, List.length_cons, tl_RX1] <;> rfl
def uX10_3 (cA : ClassId × ClassId × ClassId) (B : Nat) : CH := uX10_2 cA B ++ e_RX5 (B + 16) :: t_RX5 cA (B + 16)
theorem uX10_len3 (cA : ClassId × ClassId × ClassId) (B : Nat) : (uX10_3 cA B).length = 20 := by
  rw [uX10_3, List.length_append, uX10_len2, List.length_cons, tl_RX5] <;> rfl
def uX10_4 (cA : ClassId × ClassId × ClassId) (B : Nat) : CH := uX10_3 cA B ++ e_RX5 (B + 21) :: t_RX5 cA (B + 21)
theorem uX10_len4 (cA : ClassId × ClassId × ClassId) (B : Nat) : (uX10_4 cA B).length = 25 := by
  rw [uX10_4, List.length_append, uX10_len3, List.length_cons, tl_RX5] <;> rfl
def uX10_5 (cA : ClassId × ClassId × ClassId) (B : Nat) : CH := uX10_4 cA B ++ e_RX3 (B + 26) :: t_RX3 cA (B + 26)
theorem uX10_len5 (cA : ClassId × ClassId × ClassId) (B : Nat) : (uX10_5 cA B).length = 30 := by
  rw [uX10_5, List.length_append, uX10_len4, List.length_cons, tl_RX3] <;> rfl
def uX10_6 (cA : ClassId × ClassId × ClassId) (B : Nat) : CH := uX10_5 cA B ++ e_RX8 (B + 31) :: t_RX8 cA (B + 31)
theorem uX10_len6 (cA : ClassId × ClassId × ClassId) (B : Nat) : (uX10_6 cA B).length = 55 := by
  rw [uX10_6, List.length_append, uX10_len5, List.length_cons, tl_RX8] <;> rfl
def uX10_7 (cA : ClassId × ClassId × ClassId) (B : Nat) : CH := uX10_6 cA B ++ [.inl (cA.1, 600, .inl (fun _ => 0))]
theorem uX10_len7 (cA : ClassId × ClassId × ClassId) (B : Nat) : (uX10_7 cA B).length = 56 := by
  rw [uX10_7, List.length_append, uX10_len6] <;> rfl
def e_RX10 (B : Nat) : va_E := .inr (9, [.ref (B + 0), .ref (B + 8), .ref (B + 15), .ref (B + 20), .ref (B + 25), .ref (B + 30), .ref (B + 55)])
def t_RX10 (cA : ClassId × ClassId × ClassId) (B : Nat) : CH := uX10_7 cA B
theorem tl_RX10 {cA : ClassId × ClassId × ClassId} {B : Nat} : (t_RX10 cA B).length = 56 := uX10_len7 cA B
theorem dX10_init_0 : decode cX10_init 0 = .ok (.aload_n 0, 1) := by decide +kernel
theorem dX10_init_1 : decode cX10_init 1 = .ok (.invokespecial 3, 3) := by decide +kernel
theorem dX10_init_4 : decode cX10_init 4 = .ok (.aload_n 0, 1) := by decide +kernel
theorem dX10_init_5 : decode cX10_init 5 = .ok (.new 9, 3) := by decide +kernel
theorem dX10_init_8 : decode cX10_init 8 = .ok (.dup, 1) := by decide +kernel
theorem dX10_init_9 : decode cX10_init 9 = .ok (.iconst 0, 1) := by decide +kernel
theorem dX10_init_10 : decode cX10_init 10 = .ok (.invokespecial 11, 3) := by decide +kernel
theorem dX10_init_13 : decode cX10_init 13 = .ok (.putfield 14, 3) := by decide +kernel
theorem dX10_init_16 : decode cX10_init 16 = .ok (.aload_n 0, 1) := by decide +kernel
theorem dX10_init_17 : decode cX10_init 17 = .ok (.new 20, 3) := by decide +kernel
theorem dX10_init_20 : decode cX10_init 20 = .ok (.dup, 1) := by decide +kernel
theorem dX10_init_21 : decode cX10_init 21 = .ok (.invokespecial 22, 3) := by decide +kernel
theorem dX10_init_24 : decode cX10_init 24 = .ok (.putfield 23, 3) := by decide +kernel
theorem dX10_init_27 : decode cX10_init 27 = .ok (.aload_n 0, 1) := by decide +kernel
theorem dX10_init_28 : decode cX10_init 28 = .ok (.new 27, 3) := by decide +kernel
theorem dX10_init_31 : decode cX10_init 31 = .ok (.dup, 1) := by decide +kernel
theorem dX10_init_32 : decode cX10_init 32 = .ok (.invokespecial 29, 3) := by decide +kernel
theorem dX10_init_35 : decode cX10_init 35 = .ok (.putfield 30, 3) := by decide +kernel
theorem dX10_init_38 : decode cX10_init 38 = .ok (.aload_n 0, 1) := by decide +kernel
theorem dX10_init_39 : decode cX10_init 39 = .ok (.new 27, 3) := by decide +kernel
theorem dX10_init_42 : decode cX10_init 42 = .ok (.dup, 1) := by decide +kernel
theorem dX10_init_43 : decode cX10_init 43 = .ok (.invokespecial 29, 3) := by decide +kernel
theorem dX10_init_46 : decode cX10_init 46 = .ok (.putfield 34, 3) := by decide +kernel
theorem dX10_init_49 : decode cX10_init 49 = .ok (.aload_n 0, 1) := by decide +kernel
theorem dX10_init_50 : decode cX10_init 50 = .ok (.new 37, 3) := by decide +kernel
theorem dX10_init_53 : decode cX10_init 53 = .ok (.dup, 1) := by decide +kernel
theorem dX10_init_54 : decode cX10_init 54 = .ok (.invokespecial 39, 3) := by decide +kernel
theorem dX10_init_57 : decode cX10_init 57 = .ok (.putfield 40, 3) := by decide +kernel
theorem dX10_init_60 : decode cX10_init 60 = .ok (.aload_n 0, 1) := by decide +kernel
theorem dX10_init_61 : decode cX10_init 61 = .ok (.new 44, 3) := by decide +kernel
theorem dX10_init_64 : decode cX10_init 64 = .ok (.dup, 1) := by decide +kernel
theorem dX10_init_65 : decode cX10_init 65 = .ok (.invokespecial 46, 3) := by decide +kernel
theorem dX10_init_68 : decode cX10_init 68 = .ok (.putfield 47, 3) := by decide +kernel
theorem dX10_init_71 : decode cX10_init 71 = .ok (.aload_n 0, 1) := by decide +kernel
theorem dX10_init_72 : decode cX10_init 72 = .ok (.sipush 600, 3) := by decide +kernel
theorem dX10_init_75 : decode cX10_init 75 = .ok (.newarray .int, 2) := by decide +kernel
theorem dX10_init_77 : decode cX10_init 77 = .ok (.putfield 51, 3) := by decide +kernel
theorem dX10_init_80 : decode cX10_init 80 = .ok (.return_, 1) := by decide +kernel
set_option maxRecDepth 100000 in
set_option maxHeartbeats 4000000 in
theorem ok_X10_init (l : Launch) (D : va_G) (cA : ClassId × ClassId × ClassId) (q B : Nat) : CM l D cA yX10_init cX10_init 1 3 56 1686 [] q B (.inr (9, [.null, .null, .null, .null, .null, .null, .null])) (e_RX10 B) (t_RX10 cA B) := by
  refine CM_of (L := [some (.ref q)]) (by decide) rfl (by simp [Value.category]) (Nat.le_of_ble_eq_true rfl) (fun j v z => ?_) (fun Z X hq hB hA he hT => ?_)
  · exact aL_ok (n := 0) (.ref q :: []) j v z
  subst hq hB hA
  refine ac_is (T' := uX10_0 Z.2.2.2.1 (cB Z)) rfl ?_
  refine ac_aload_n X dX10_init_0 rfl ?_
  refine ac_obji X (Nat.le_of_ble_eq_true rfl) oi_RX10_3 dX10_init_1 ?_
  refine ac_aload_n X dX10_init_4 rfl ?_
  refine ac_newM (m := 0) (c' := 1) (n' := 13) (ci := 0) (fs := [.int 0, .int 0, .null, .null, .null, .null, .null, .null, .null, .int 0, .int 0, .int 0, .int 0]) (uX10_len0 _ _) rfl rfl X dX10_init_5 rfl iw_RX0 tyX0 tyX0_ok nw_RX10_9 df_RX0 (Nat.le_of_ble_eq_true rfl) (Nat.le_of_ble_eq_true rfl) ?_
  refine ac_dup X dX10_init_8 rfl ?_
  refine ac_iconst (v := 0) X dX10_init_9 (by decide) ?_
  refine ac_initM (m := 0) (m1 := 1) (c' := 8) (n' := 111) (e2 := e_RX0 (cB Z + 1) 0) (T2 := t_RX0 Z.2.2.2.1 (cB Z + 1) 0) (uX10_len0 _ _) rfl rfl rfl X dX10_init_10 ci_RX10_11 (ok_X0_init 0 (by decide) _ _ _ _ _) (Nat.le_of_ble_eq_true rfl) (by decide) rfl rfl (Nat.le_of_ble_eq_true rfl) (Nat.le_of_ble_eq_true rfl) (Nat.le_of_ble_eq_true rfl) ?_
  refine ac_is (T' := uX10_1 Z.2.2.2.1 (cB Z)) rfl ?_
  refine ac_putF (fs' := [.ref (cB Z + 0), .null, .null, .null, .null, .null, .null]) X dX10_init_13 pf_RX10_14 rfl rfl (Nat.le_of_ble_eq_true rfl) rfl ?_
  refine ac_aload_n X dX10_init_16 rfl ?_
  refine ac_newM (m := 8) (c' := 9) (n' := 119) (ci := 1) (fs := [.int 0, .int 0, .null, .null, .null, .null, .null, .null]) (uX10_len1 _ _) rfl rfl X dX10_init_17 rfl iw_RX1 tyX1 tyX1_ok nw_RX10_20 df_RX1 (Nat.le_of_ble_eq_true rfl) (Nat.le_of_ble_eq_true rfl) ?_
  refine ac_dup X dX10_init_20 rfl ?_
  refine ac_initM (m := 8) (m1 := 9) (c' := 15) (n' := 647) (e2 := e_RX1 (cB Z + 9)) (T2 := t_RX1 Z.2.2.2.1 (cB Z + 9)) (uX10_len1 _ _) rfl rfl rfl X dX10_init_21 ci_RX10_22 (ok_X1_init _ _ _ _ _) (Nat.le_of_ble_eq_true rfl) (by decide) rfl rfl (Nat.le_of_ble_eq_true rfl) (Nat.le_of_ble_eq_true rfl) (Nat.le_of_ble_eq_true rfl) ?_
  refine ac_is (T' := uX10_2 Z.2.2.2.1 (cB Z)) rfl ?_
  refine ac_putF (fs' := [.ref (cB Z + 0), .ref (cB Z + 8), .null, .null, .null, .null, .null]) X dX10_init_24 pf_RX10_23 rfl rfl (Nat.le_of_ble_eq_true rfl) rfl ?_
  refine ac_aload_n X dX10_init_27 rfl ?_
  refine ac_newM (m := 15) (c' := 16) (n' := 652) (ci := 4) (fs := [.int 0, .null, .null, .null, .null]) (uX10_len2 _ _) rfl rfl X dX10_init_28 rfl iw_RX5 tyX5 tyX5_ok nw_RX10_27 df_RX5 (Nat.le_of_ble_eq_true rfl) (Nat.le_of_ble_eq_true rfl) ?_
  refine ac_dup X dX10_init_31 rfl ?_
  refine ac_initM (m := 15) (m1 := 16) (c' := 20) (n' := 716) (e2 := e_RX5 (cB Z + 16)) (T2 := t_RX5 Z.2.2.2.1 (cB Z + 16)) (uX10_len2 _ _) rfl rfl rfl X dX10_init_32 ci_RX10_29 (ok_X5_init _ _ _ _ _) (Nat.le_of_ble_eq_true rfl) (by decide) rfl rfl (Nat.le_of_ble_eq_true rfl) (Nat.le_of_ble_eq_true rfl) (Nat.le_of_ble_eq_true rfl) ?_
  refine ac_is (T' := uX10_3 Z.2.2.2.1 (cB Z)) rfl ?_
  refine ac_putF (fs' := [.ref (cB Z + 0), .ref (cB Z + 8), .ref (cB Z + 15), .null, .null, .null, .null]) X dX10_init_35 pf_RX10_30 rfl rfl (Nat.le_of_ble_eq_true rfl) rfl ?_
  refine ac_aload_n X dX10_init_38 rfl ?_
  refine ac_newM (m := 20) (c' := 21) (n' := 721) (ci := 4) (fs := [.int 0, .null, .null, .null, .null]) (uX10_len3 _ _) rfl rfl X dX10_init_39 rfl iw_RX5 tyX5 tyX5_ok nw_RX10_27 df_RX5 (Nat.le_of_ble_eq_true rfl) (Nat.le_of_ble_eq_true rfl) ?_
  refine ac_dup X dX10_init_42 rfl ?_
  refine ac_initM (m := 20) (m1 := 21) (c' := 25) (n' := 785) (e2 := e_RX5 (cB Z + 21)) (T2 := t_RX5 Z.2.2.2.1 (cB Z + 21)) (uX10_len3 _ _) rfl rfl rfl X dX10_init_43 ci_RX10_29 (ok_X5_init _ _ _ _ _) (Nat.le_of_ble_eq_true rfl) (by decide) rfl rfl (Nat.le_of_ble_eq_true rfl) (Nat.le_of_ble_eq_true rfl) (Nat.le_of_ble_eq_true rfl) ?_
  refine ac_is (T' := uX10_4 Z.2.2.2.1 (cB Z)) rfl ?_
  refine ac_putF (fs' := [.ref (cB Z + 0), .ref (cB Z + 8), .ref (cB Z + 15), .ref (cB Z + 20), .null, .null, .null]) X dX10_init_46 pf_RX10_34 rfl rfl (Nat.le_of_ble_eq_true rfl) rfl ?_
  refine ac_aload_n X dX10_init_49 rfl ?_
  refine ac_newM (m := 25) (c' := 26) (n' := 790) (ci := 2) (fs := [.int 0, .null, .null, .null, .null]) (uX10_len4 _ _) rfl rfl X dX10_init_50 rfl iw_RX3 tyX3 tyX3_ok nw_RX10_37 df_RX3 (Nat.le_of_ble_eq_true rfl) (Nat.le_of_ble_eq_true rfl) ?_
  refine ac_dup X dX10_init_53 rfl ?_
  refine ac_initM (m := 25) (m1 := 26) (c' := 30) (n' := 932) (e2 := e_RX3 (cB Z + 26)) (T2 := t_RX3 Z.2.2.2.1 (cB Z + 26)) (uX10_len4 _ _) rfl rfl rfl X dX10_init_54 ci_RX10_39 (ok_X3_init _ _ _ _ _) (Nat.le_of_ble_eq_true rfl) (by decide) rfl rfl (Nat.le_of_ble_eq_true rfl) (Nat.le_of_ble_eq_true rfl) (Nat.le_of_ble_eq_true rfl) ?_
  refine ac_is (T' := uX10_5 Z.2.2.2.1 (cB Z)) rfl ?_
  refine ac_putF (fs' := [.ref (cB Z + 0), .ref (cB Z + 8), .ref (cB Z + 15), .ref (cB Z + 20), .ref (cB Z + 25), .null, .null]) X dX10_init_57 pf_RX10_40 rfl rfl (Nat.le_of_ble_eq_true rfl) rfl ?_
  refine ac_aload_n X dX10_init_60 rfl ?_
  refine ac_newM (m := 30) (c' := 31) (n' := 944) (ci := 7) (fs := [.null, .null, .null, .null, .null, .null, .null, .null, .null, .null, .null, .null]) (uX10_len5 _ _) rfl rfl X dX10_init_61 rfl iw_RX8 tyX8 tyX8_ok nw_RX10_44 df_RX8 (Nat.le_of_ble_eq_true rfl) (Nat.le_of_ble_eq_true rfl) ?_
  refine ac_dup X dX10_init_64 rfl ?_
  refine ac_initM (m := 30) (m1 := 31) (c' := 55) (n' := 1086) (e2 := e_RX8 (cB Z + 31)) (T2 := t_RX8 Z.2.2.2.1 (cB Z + 31)) (uX10_len5 _ _) rfl rfl rfl X dX10_init_65 ci_RX10_46 (ok_X8_init _ _ _ _ _) (Nat.le_of_ble_eq_true rfl) (by decide) rfl rfl (Nat.le_of_ble_eq_true rfl) (Nat.le_of_ble_eq_true rfl) (Nat.le_of_ble_eq_true rfl) ?_
  refine ac_is (T' := uX10_6 Z.2.2.2.1 (cB Z)) rfl ?_
  refine ac_putF (fs' := [.ref (cB Z + 0), .ref (cB Z + 8), .ref (cB Z + 15), .ref (cB Z + 20), .ref (cB Z + 25), .ref (cB Z + 30), .null]) X dX10_init_68 pf_RX10_47 rfl rfl (Nat.le_of_ble_eq_true rfl) rfl ?_
  refine ac_aload_n X dX10_init_71 rfl ?_
  refine ac_sipush (v := 600) X dX10_init_72 (by decide) ?_
  refine ac_newaiM (k := 600) (m := 55) (c' := 56) (n' := 1686) (uX10_len6 _ _) rfl rfl X dX10_init_75 aw_ci (by decide) (Nat.le_of_ble_eq_true rfl) (Nat.le_of_ble_eq_true rfl) ?_
  refine ac_is (T' := uX10_7 Z.2.2.2.1 (cB Z)) rfl ?_
  refine ac_putF (fs' := [.ref (cB Z + 0), .ref (cB Z + 8), .ref (cB Z + 15), .ref (cB Z + 20), .ref (cB Z + 25), .ref (cB Z + 30), .ref (cB Z + 55)]) X dX10_init_77 pf_RX10_51 rfl rfl (Nat.le_of_ble_eq_true rfl) rfl ?_
  exact ac_vret X dX10_init_80 (Eq.trans rfl he.symm) (Eq.trans rfl hT.symm) (by decide) (by decide)
