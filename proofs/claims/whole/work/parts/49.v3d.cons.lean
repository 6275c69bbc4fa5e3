/-! ===== constructors: the parser ===== -/
def uX4_0 (cA : ClassId × ClassId × ClassId) (B : Nat) : CH := []
theorem uX4_len0 (cA : ClassId × ClassId × ClassId) (B : Nat) : (uX4_0 cA B).length = 0 := rfl
def uX4_1 (cA : ClassId × ClassId × ClassId) (B : Nat) : CH := uX4_0 cA B ++ e_RX6 (B + 1) :: t_RX6 cA (B + 1)
theorem uX4_len1 (cA : ClassId × ClassId × ClassId) (B : Nat) : (uX4_1 cA B).length = 5 := by
  rw [uX4_1, List.length_append, uX4_len0, List.length_cons, tl_RX6] <;> rfl
def uX4_2 (cA : ClassId × ClassId × ClassId) (B : Nat) : CH := uX4_1 cA B ++ e_RX1 (B + 6) :: t_RX1 cA (B + 6)
theorem uX4_len2 (cA : ClassId × ClassId × ClassId) (B : Nat) : (uX4_2 cA B).length = 12 := by
  rw [uX4_2, List.length_append, uX4_len1, List.length_cons, tl_RX1] <;> rfl
def uX4_3 (cA : ClassId × ClassId × ClassId) (B : Nat) : CH := uX4_2 cA B ++ e_RX5 (B + 13) :: t_RX5 cA (B + 13)
theorem uX4_len3 (cA : ClassId × ClassId × ClassId) (B : Nat) : (uX4_3 cA B).length = 17 := by
  rw [uX4_3, List.length_append, uX4_len2, List.length_cons, tl_RX5] <;> rfl
def uX4_4 (cA : ClassId × ClassId × ClassId) (B : Nat) : CH := uX4_3 cA B ++ e_RX3 (B + 18) :: t_RX3 cA (B + 18)
theorem uX4_len4 (cA : ClassId × ClassId × ClassId) (B : Nat) : (uX4_4 cA B).length = 22 := by
  rw [uX4_4, List.length_append, uX4_len3, List.length_cons, tl_RX3] <;> rfl
def e_RX4 (B : Nat) : va_E := .inr (3, [.ref (B + 0), .int 0, .int (-1), .int 0, .ref (B + 5), .ref (B + 12), .ref (B + 17)])
def t_RX4 (cA : ClassId × ClassId × ClassId) (B : Nat) : CH := uX4_4 cA B
theorem tl_RX4 {cA : ClassId × ClassId × ClassId} {B : Nat} : (t_RX4 cA B).length = 22 := uX4_len4 cA B
theorem dX4_init_0 : decode cX4_init 0 = .ok (.aload_n 0, 1) := by decide +kernel
theorem dX4_init_1 : decode cX4_init 1 = .ok (.invokespecial 3, 3) := by decide +kernel
theorem dX4_init_4 : decode cX4_init 4 = .ok (.aload_n 0, 1) := by decide +kernel
theorem dX4_init_5 : decode cX4_init 5 = .ok (.new 9, 3) := by decide +kernel
theorem dX4_init_8 : decode cX4_init 8 = .ok (.dup, 1) := by decide +kernel
theorem dX4_init_9 : decode cX4_init 9 = .ok (.invokespecial 11, 3) := by decide +kernel
theorem dX4_init_12 : decode cX4_init 12 = .ok (.putfield 12, 3) := by decide +kernel
theorem dX4_init_15 : decode cX4_init 15 = .ok (.aload_n 0, 1) := by decide +kernel
theorem dX4_init_16 : decode cX4_init 16 = .ok (.iconst 0, 1) := by decide +kernel
theorem dX4_init_17 : decode cX4_init 17 = .ok (.putfield 18, 3) := by decide +kernel
theorem dX4_init_20 : decode cX4_init 20 = .ok (.aload_n 0, 1) := by decide +kernel
theorem dX4_init_21 : decode cX4_init 21 = .ok (.iconst (-1), 1) := by decide +kernel
theorem dX4_init_22 : decode cX4_init 22 = .ok (.putfield 22, 3) := by decide +kernel
theorem dX4_init_25 : decode cX4_init 25 = .ok (.aload_n 0, 1) := by decide +kernel
theorem dX4_init_26 : decode cX4_init 26 = .ok (.iconst 0, 1) := by decide +kernel
theorem dX4_init_27 : decode cX4_init 27 = .ok (.putfield 25, 3) := by decide +kernel
theorem dX4_init_30 : decode cX4_init 30 = .ok (.aload_n 0, 1) := by decide +kernel
theorem dX4_init_31 : decode cX4_init 31 = .ok (.new 28, 3) := by decide +kernel
theorem dX4_init_34 : decode cX4_init 34 = .ok (.dup, 1) := by decide +kernel
theorem dX4_init_35 : decode cX4_init 35 = .ok (.invokespecial 30, 3) := by decide +kernel
theorem dX4_init_38 : decode cX4_init 38 = .ok (.putfield 31, 3) := by decide +kernel
theorem dX4_init_41 : decode cX4_init 41 = .ok (.aload_n 0, 1) := by decide +kernel
theorem dX4_init_42 : decode cX4_init 42 = .ok (.new 35, 3) := by decide +kernel
theorem dX4_init_45 : decode cX4_init 45 = .ok (.dup, 1) := by decide +kernel
theorem dX4_init_46 : decode cX4_init 46 = .ok (.invokespecial 37, 3) := by decide +kernel
theorem dX4_init_49 : decode cX4_init 49 = .ok (.putfield 38, 3) := by decide +kernel
theorem dX4_init_52 : decode cX4_init 52 = .ok (.aload_n 0, 1) := by decide +kernel
theorem dX4_init_53 : decode cX4_init 53 = .ok (.new 42, 3) := by decide +kernel
theorem dX4_init_56 : decode cX4_init 56 = .ok (.dup, 1) := by decide +kernel
theorem dX4_init_57 : decode cX4_init 57 = .ok (.invokespecial 44, 3) := by decide +kernel
theorem dX4_init_60 : decode cX4_init 60 = .ok (.putfield 45, 3) := by decide +kernel
theorem dX4_init_63 : decode cX4_init 63 = .ok (.return_, 1) := by decide +kernel
set_option maxRecDepth 100000 in
set_option maxHeartbeats 4000000 in
theorem ok_X4_init (l : Launch) (D : va_G) (cA : ClassId × ClassId × ClassId) (q B : Nat) : CM l D cA yX4_init cX4_init 1 2 22 2362 [] q B (.inr (3, [.null, .int 0, .int 0, .int 0, .null, .null, .null])) (e_RX4 B) (t_RX4 cA B) := by
  refine CM_of (L := [some (.ref q)]) (by decide) rfl (by simp [Value.category]) (Nat.le_of_ble_eq_true rfl) (fun j v z => ?_) (fun Z X hq hB hA he hT => ?_)
  · exact aL_ok (n := 0) (.ref q :: []) j v z
  subst hq hB hA
  refine ac_is (T' := uX4_0 Z.2.2.2.1 (cB Z)) rfl ?_
  refine ac_aload_n X dX4_init_0 rfl ?_
  refine ac_obji X (Nat.le_of_ble_eq_true rfl) oi_RX4_3 dX4_init_1 ?_
  refine ac_aload_n X dX4_init_4 rfl ?_
  refine ac_newM (m := 0) (c' := 1) (n' := 10) (ci := 5) (fs := [.int 0, .int 0, .int 0, .int 0, .int 0, .int 0, .null, .null, .null, .null]) (uX4_len0 _ _) rfl rfl X dX4_init_5 rfl iw_RX6 tyX6 tyX6_ok nw_RX4_9 df_RX6 (Nat.le_of_ble_eq_true rfl) (Nat.le_of_ble_eq_true rfl) ?_
  refine ac_dup X dX4_init_8 rfl ?_
  refine ac_initM (m := 0) (m1 := 1) (c' := 5) (n' := 1610) (e2 := e_RX6 (cB Z + 1)) (T2 := t_RX6 Z.2.2.2.1 (cB Z + 1)) (uX4_len0 _ _) rfl rfl rfl X dX4_init_9 ci_RX4_11 (ok_X6_init _ _ _ _ _) (Nat.le_of_ble_eq_true rfl) (by decide) rfl rfl (Nat.le_of_ble_eq_true rfl) (Nat.le_of_ble_eq_true rfl) (Nat.le_of_ble_eq_true rfl) ?_
  refine ac_is (T' := uX4_1 Z.2.2.2.1 (cB Z)) rfl ?_
  refine ac_putF (fs' := [.ref (cB Z + 0), .int 0, .int 0, .int 0, .null, .null, .null]) X dX4_init_12 pf_RX4_12 rfl rfl (Nat.le_of_ble_eq_true rfl) rfl ?_
  refine ac_aload_n X dX4_init_15 rfl ?_
  refine ac_iconst (v := 0) X dX4_init_16 (by decide) ?_
  refine ac_put (fs' := [.ref (cB Z + 0), .int 0, .int 0, .int 0, .null, .null, .null]) X dX4_init_17 pf_RX4_18 rfl rfl (Nat.le_of_ble_eq_true rfl) rfl ?_
  refine ac_aload_n X dX4_init_20 rfl ?_
  refine ac_iconst (v := (-1)) X dX4_init_21 (by decide) ?_
  refine ac_put (fs' := [.ref (cB Z + 0), .int 0, .int (-1), .int 0, .null, .null, .null]) X dX4_init_22 pf_RX4_22 rfl rfl (Nat.le_of_ble_eq_true rfl) rfl ?_
  refine ac_aload_n X dX4_init_25 rfl ?_
  refine ac_iconst (v := 0) X dX4_init_26 (by decide) ?_
  refine ac_put (fs' := [.ref (cB Z + 0), .int 0, .int (-1), .int 0, .null, .null, .null]) X dX4_init_27 pf_RX4_25 rfl rfl (Nat.le_of_ble_eq_true rfl) rfl ?_
  refine ac_aload_n X dX4_init_30 rfl ?_
  refine ac_newM (m := 5) (c' := 6) (n' := 1618) (ci := 1) (fs := [.int 0, .int 0, .null, .null, .null, .null, .null, .null]) (uX4_len1 _ _) rfl rfl X dX4_init_31 rfl iw_RX1 tyX1 tyX1_ok nw_RX4_28 df_RX1 (Nat.le_of_ble_eq_true rfl) (Nat.le_of_ble_eq_true rfl) ?_
  refine ac_dup X dX4_init_34 rfl ?_
  refine ac_initM (m := 5) (m1 := 6) (c' := 12) (n' := 2146) (e2 := e_RX1 (cB Z + 6)) (T2 := t_RX1 Z.2.2.2.1 (cB Z + 6)) (uX4_len1 _ _) rfl rfl rfl X dX4_init_35 ci_RX4_30 (ok_X1_init _ _ _ _ _) (Nat.le_of_ble_eq_true rfl) (by decide) rfl rfl (Nat.le_of_ble_eq_true rfl) (Nat.le_of_ble_eq_true rfl) (Nat.le_of_ble_eq_true rfl) ?_
  refine ac_is (T' := uX4_2 Z.2.2.2.1 (cB Z)) rfl ?_
  refine ac_putF (fs' := [.ref (cB Z + 0), .int 0, .int (-1), .int 0, .ref (cB Z + 5), .null, .null]) X dX4_init_38 pf_RX4_31 rfl rfl (Nat.le_of_ble_eq_true rfl) rfl ?_
  refine ac_aload_n X dX4_init_41 rfl ?_
  refine ac_newM (m := 12) (c' := 13) (n' := 2151) (ci := 4) (fs := [.int 0, .null, .null, .null, .null]) (uX4_len2 _ _) rfl rfl X dX4_init_42 rfl iw_RX5 tyX5 tyX5_ok nw_RX4_35 df_RX5 (Nat.le_of_ble_eq_true rfl) (Nat.le_of_ble_eq_true rfl) ?_
  refine ac_dup X dX4_init_45 rfl ?_
  refine ac_initM (m := 12) (m1 := 13) (c' := 17) (n' := 2215) (e2 := e_RX5 (cB Z + 13)) (T2 := t_RX5 Z.2.2.2.1 (cB Z + 13)) (uX4_len2 _ _) rfl rfl rfl X dX4_init_46 ci_RX4_37 (ok_X5_init _ _ _ _ _) (Nat.le_of_ble_eq_true rfl) (by decide) rfl rfl (Nat.le_of_ble_eq_true rfl) (Nat.le_of_ble_eq_true rfl) (Nat.le_of_ble_eq_true rfl) ?_
  refine ac_is (T' := uX4_3 Z.2.2.2.1 (cB Z)) rfl ?_
  refine ac_putF (fs' := [.ref (cB Z + 0), .int 0, .int (-1), .int 0, .ref (cB Z + 5), .ref (cB Z + 12), .null]) X dX4_init_49 pf_RX4_38 rfl rfl (Nat.le_of_ble_eq_true rfl) rfl ?_
  refine ac_aload_n X dX4_init_52 rfl ?_
  refine ac_newM (m := 17) (c' := 18) (n' := 2220) (ci := 2) (fs := [.int 0, .null, .null, .null, .null]) (uX4_len3 _ _) rfl rfl X dX4_init_53 rfl iw_RX3 tyX3 tyX3_ok nw_RX4_42 df_RX3 (Nat.le_of_ble_eq_true rfl) (Nat.le_of_ble_eq_true rfl) ?_
  refine ac_dup X dX4_init_56 rfl ?_
  refine ac_initM (m := 17) (m1 := 18) (c' := 22) (n' := 2362) (e2 := e_RX3 (cB Z + 18)) (T2 := t_RX3 Z.2.2.2.1 (cB Z + 18)) (uX4_len3 _ _) rfl rfl rfl X dX4_init_57 ci_RX4_44 (ok_X3_init _ _ _ _ _) (Nat.le_of_ble_eq_true rfl) (by decide) rfl rfl (Nat.le_of_ble_eq_true rfl) (Nat.le_of_ble_eq_true rfl) (Nat.le_of_ble_eq_true rfl) ?_
  refine ac_is (T' := uX4_4 Z.2.2.2.1 (cB Z)) rfl ?_
  refine ac_putF (fs' := [.ref (cB Z + 0), .int 0, .int (-1), .int 0, .ref (cB Z + 5), .ref (cB Z + 12), .ref (cB Z + 17)]) X dX4_init_60 pf_RX4_45 rfl rfl (Nat.le_of_ble_eq_true rfl) rfl ?_
  exact ac_vret X dX4_init_63 (Eq.trans rfl he.symm) (Eq.trans rfl hT.symm) (by decide) (by decide)
