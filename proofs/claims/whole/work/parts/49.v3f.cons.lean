/-! ===== constructors: all of it ===== -/
def uX11_0 (cA : ClassId × ClassId × ClassId) (B : Nat) : CH := []
theorem uX11_len0 (cA : ClassId × ClassId × ClassId) (B : Nat) : (uX11_0 cA B).length = 0 := rfl
def uX11_1 (cA : ClassId × ClassId × ClassId) (B : Nat) : CH := uX11_0 cA B ++ e_RX10 (B + 1) :: t_RX10 cA (B + 1)
theorem uX11_len1 (cA : ClassId × ClassId × ClassId) (B : Nat) : (uX11_1 cA B).length = 57 := by
  rw [uX11_1, List.length_append, uX11_len0, List.length_cons, tl_RX10] <;> rfl
def uX11_2 (cA : ClassId × ClassId × ClassId) (B : Nat) : CH := uX11_1 cA B ++ e_RX10 (B + 58) :: t_RX10 cA (B + 58)
theorem uX11_len2 (cA : ClassId × ClassId × ClassId) (B : Nat) : (uX11_2 cA B).length = 114 := by
  rw [uX11_2, List.length_append, uX11_len1, List.length_cons, tl_RX10] <;> rfl
def uX11_3 (cA : ClassId × ClassId × ClassId) (B : Nat) : CH := uX11_2 cA B ++ e_RX0 (B + 115) 1 :: t_RX0 cA (B + 115) 1
theorem uX11_len3 (cA : ClassId × ClassId × ClassId) (B : Nat) : (uX11_3 cA B).length = 122 := by
  rw [uX11_3, List.length_append, uX11_len2, List.length_cons, tl_RX0] <;> rfl
def wX11_0 (cA : ClassId × ClassId × ClassId) (B : Nat) : CH := []
theorem wX11_len0 (cA : ClassId × ClassId × ClassId) (B : Nat) : (wX11_0 cA B).length = 0 := rfl
def wX11_1 (cA : ClassId × ClassId × ClassId) (B : Nat) : CH := wX11_0 cA B ++ e_RX0 (B + 124) 0 :: t_RX0 cA (B + 124) 0
theorem wX11_len1 (cA : ClassId × ClassId × ClassId) (B : Nat) : (wX11_1 cA B).length = 8 := by
  rw [wX11_1, List.length_append, wX11_len0, List.length_cons, tl_RX0] <;> rfl
def wX11_2 (cA : ClassId × ClassId × ClassId) (B : Nat) : CH := wX11_1 cA B ++ e_RX0 (B + 132) 0 :: t_RX0 cA (B + 132) 0
theorem wX11_len2 (cA : ClassId × ClassId × ClassId) (B : Nat) : (wX11_2 cA B).length = 16 := by
  rw [wX11_2, List.length_append, wX11_len1, List.length_cons, tl_RX0] <;> rfl
def wX11_3 (cA : ClassId × ClassId × ClassId) (B : Nat) : CH := wX11_2 cA B ++ e_RX0 (B + 140) 0 :: t_RX0 cA (B + 140) 0
theorem wX11_len3 (cA : ClassId × ClassId × ClassId) (B : Nat) : (wX11_3 cA B).length = 24 := by
  rw [wX11_3, List.length_append, wX11_len2, List.length_cons, tl_RX0] <;> rfl
def wX11_4 (cA : ClassId × ClassId × ClassId) (B : Nat) : CH := wX11_3 cA B ++ e_RX0 (B + 148) 0 :: t_RX0 cA (B + 148) 0
theorem wX11_len4 (cA : ClassId × ClassId × ClassId) (B : Nat) : (wX11_4 cA B).length = 32 := by
  rw [wX11_4, List.length_append, wX11_len3, List.length_cons, tl_RX0] <;> rfl
def wX11_5 (cA : ClassId × ClassId × ClassId) (B : Nat) : CH := wX11_4 cA B ++ e_RX0 (B + 156) 0 :: t_RX0 cA (B + 156) 0
theorem wX11_len5 (cA : ClassId × ClassId × ClassId) (B : Nat) : (wX11_5 cA B).length = 40 := by
  rw [wX11_5, List.length_append, wX11_len4, List.length_cons, tl_RX0] <;> rfl
def wX11_6 (cA : ClassId × ClassId × ClassId) (B : Nat) : CH := wX11_5 cA B ++ e_RX0 (B + 164) 0 :: t_RX0 cA (B + 164) 0
theorem wX11_len6 (cA : ClassId × ClassId × ClassId) (B : Nat) : (wX11_6 cA B).length = 48 := by
  rw [wX11_6, List.length_append, wX11_len5, List.length_cons, tl_RX0] <;> rfl
def uX11_4 (cA : ClassId × ClassId × ClassId) (B : Nat) : CH := uX11_3 cA B ++ .inl (cA.2.2, 6, .inr (.inr (.inr (.inr (va_up (va_up (va_up (va_up (va_up (va_up (fun _ => none) 0 (some (B + 123))) 1 (some (B + 131))) 2 (some (B + 139))) 3 (some (B + 147))) 4 (some (B + 155))) 5 (some (B + 163))))))) :: wX11_6 cA B
theorem uX11_len4 (cA : ClassId × ClassId × ClassId) (B : Nat) : (uX11_4 cA B).length = 171 := by
  rw [uX11_4, List.length_append, uX11_len3, List.length_cons, wX11_len6] <;> rfl
def uX11_5 (cA : ClassId × ClassId × ClassId) (B : Nat) : CH := uX11_4 cA B ++ e_RX4 (B + 172) :: t_RX4 cA (B + 172)
theorem uX11_len5 (cA : ClassId × ClassId × ClassId) (B : Nat) : (uX11_5 cA B).length = 194 := by
  rw [uX11_5, List.length_append, uX11_len4, List.length_cons, tl_RX4] <;> rfl
def uX11_6 (cA : ClassId × ClassId × ClassId) (B : Nat) : CH := uX11_5 cA B ++ e_RX9 (B + 195) :: t_RX9 cA (B + 195)
theorem uX11_len6 (cA : ClassId × ClassId × ClassId) (B : Nat) : (uX11_6 cA B).length = 199 := by
  rw [uX11_6, List.length_append, uX11_len5, List.length_cons, tl_RX9] <;> rfl
def e_RX11 (B : Nat) : va_E := .inr (10, [.ref (B + 0), .ref (B + 57), .int 0, .ref (B + 114), .ref (B + 122), .int 0, .int 0, .ref (B + 171), .ref (B + 194)])
def t_RX11 (cA : ClassId × ClassId × ClassId) (B : Nat) : CH := uX11_6 cA B
theorem tl_RX11 {cA : ClassId × ClassId × ClassId} {B : Nat} : (t_RX11 cA B).length = 199 := uX11_len6 cA B
theorem dX11_init_0 : decode cX11_init 0 = .ok (.aload_n 0, 1) := by decide +kernel
theorem dX11_init_1 : decode cX11_init 1 = .ok (.invokespecial 1, 3) := by decide +kernel
theorem dX11_init_4 : decode cX11_init 4 = .ok (.aload_n 0, 1) := by decide +kernel
theorem dX11_init_5 : decode cX11_init 5 = .ok (.new 7, 3) := by decide +kernel
theorem dX11_init_8 : decode cX11_init 8 = .ok (.dup, 1) := by decide +kernel
theorem dX11_init_9 : decode cX11_init 9 = .ok (.invokespecial 9, 3) := by decide +kernel
theorem dX11_init_12 : decode cX11_init 12 = .ok (.putfield 10, 3) := by decide +kernel
theorem dX11_init_15 : decode cX11_init 15 = .ok (.aload_n 0, 1) := by decide +kernel
theorem dX11_init_16 : decode cX11_init 16 = .ok (.new 7, 3) := by decide +kernel
theorem dX11_init_19 : decode cX11_init 19 = .ok (.dup, 1) := by decide +kernel
theorem dX11_init_20 : decode cX11_init 20 = .ok (.invokespecial 9, 3) := by decide +kernel
theorem dX11_init_23 : decode cX11_init 23 = .ok (.putfield 16, 3) := by decide +kernel
theorem dX11_init_26 : decode cX11_init 26 = .ok (.aload_n 0, 1) := by decide +kernel
theorem dX11_init_27 : decode cX11_init 27 = .ok (.iconst 0, 1) := by decide +kernel
theorem dX11_init_28 : decode cX11_init 28 = .ok (.putfield 19, 3) := by decide +kernel
theorem dX11_init_31 : decode cX11_init 31 = .ok (.aload_n 0, 1) := by decide +kernel
theorem dX11_init_32 : decode cX11_init 32 = .ok (.new 23, 3) := by decide +kernel
theorem dX11_init_35 : decode cX11_init 35 = .ok (.dup, 1) := by decide +kernel
theorem dX11_init_36 : decode cX11_init 36 = .ok (.iconst 1, 1) := by decide +kernel
theorem dX11_init_37 : decode cX11_init 37 = .ok (.invokespecial 25, 3) := by decide +kernel
theorem dX11_init_40 : decode cX11_init 40 = .ok (.putfield 28, 3) := by decide +kernel
theorem dX11_init_43 : decode cX11_init 43 = .ok (.aload_n 0, 1) := by decide +kernel
theorem dX11_init_44 : decode cX11_init 44 = .ok (.bipush 6, 2) := by decide +kernel
theorem dX11_init_46 : decode cX11_init 46 = .ok (.anewarray 23, 3) := by decide +kernel
theorem dX11_init_49 : decode cX11_init 49 = .ok (.putfield 32, 3) := by decide +kernel
theorem dX11_init_52 : decode cX11_init 52 = .ok (.iconst 0, 1) := by decide +kernel
theorem dX11_init_53 : decode cX11_init 53 = .ok (.istore_n 1, 1) := by decide +kernel
theorem dX11_init_54 : decode cX11_init 54 = .ok (.iload_n 1, 1) := by decide +kernel
theorem dX11_init_55 : decode cX11_init 55 = .ok (.bipush 6, 2) := by decide +kernel
theorem dX11_init_57 : decode cX11_init 57 = .ok (.if_icmp .ge 23, 3) := by decide +kernel
theorem dX11_init_60 : decode cX11_init 60 = .ok (.aload_n 0, 1) := by decide +kernel
theorem dX11_init_61 : decode cX11_init 61 = .ok (.getfield 32, 3) := by decide +kernel
theorem dX11_init_64 : decode cX11_init 64 = .ok (.iload_n 1, 1) := by decide +kernel
theorem dX11_init_65 : decode cX11_init 65 = .ok (.new 23, 3) := by decide +kernel
theorem dX11_init_68 : decode cX11_init 68 = .ok (.dup, 1) := by decide +kernel
theorem dX11_init_69 : decode cX11_init 69 = .ok (.iconst 0, 1) := by decide +kernel
theorem dX11_init_70 : decode cX11_init 70 = .ok (.invokespecial 25, 3) := by decide +kernel
theorem dX11_init_73 : decode cX11_init 73 = .ok (.aastore, 1) := by decide +kernel
theorem dX11_init_74 : decode cX11_init 74 = .ok (.iinc 1 1, 3) := by decide +kernel
theorem dX11_init_77 : decode cX11_init 77 = .ok (.goto (-23), 3) := by decide +kernel
theorem dX11_init_80 : decode cX11_init 80 = .ok (.aload_n 0, 1) := by decide +kernel
theorem dX11_init_81 : decode cX11_init 81 = .ok (.iconst 0, 1) := by decide +kernel
theorem dX11_init_82 : decode cX11_init 82 = .ok (.putfield 36, 3) := by decide +kernel
theorem dX11_init_85 : decode cX11_init 85 = .ok (.aload_n 0, 1) := by decide +kernel
theorem dX11_init_86 : decode cX11_init 86 = .ok (.iconst 0, 1) := by decide +kernel
theorem dX11_init_87 : decode cX11_init 87 = .ok (.putfield 40, 3) := by decide +kernel
theorem dX11_init_90 : decode cX11_init 90 = .ok (.aload_n 0, 1) := by decide +kernel
theorem dX11_init_91 : decode cX11_init 91 = .ok (.new 43, 3) := by decide +kernel
theorem dX11_init_94 : decode cX11_init 94 = .ok (.dup, 1) := by decide +kernel
theorem dX11_init_95 : decode cX11_init 95 = .ok (.invokespecial 45, 3) := by decide +kernel
theorem dX11_init_98 : decode cX11_init 98 = .ok (.putfield 46, 3) := by decide +kernel
theorem dX11_init_101 : decode cX11_init 101 = .ok (.aload_n 0, 1) := by decide +kernel
theorem dX11_init_102 : decode cX11_init 102 = .ok (.new 50, 3) := by decide +kernel
theorem dX11_init_105 : decode cX11_init 105 = .ok (.dup, 1) := by decide +kernel
theorem dX11_init_106 : decode cX11_init 106 = .ok (.invokespecial 52, 3) := by decide +kernel
theorem dX11_init_109 : decode cX11_init 109 = .ok (.putfield 53, 3) := by decide +kernel
theorem dX11_init_112 : decode cX11_init 112 = .ok (.return_, 1) := by decide +kernel
set_option maxRecDepth 100000 in
set_option maxHeartbeats 4000000 in
theorem ok_X11_init (l : Launch) (D : va_G) (cA : ClassId × ClassId × ClassId) (q B : Nat) : CM l D cA yX11_init cX11_init 2 4 199 6732 [] q B (.inr (10, [.null, .null, .int 0, .null, .null, .int 0, .int 0, .null, .null])) (e_RX11 B) (t_RX11 cA B) := by
  refine CM_of (L := [some (.ref q), none]) (by decide) rfl (by simp [Value.category]) (Nat.le_of_ble_eq_true rfl) (fun j v z => ?_) (fun Z X hq hB hA he hT => ?_)
  · exact aL_ok (n := 1) (.ref q :: []) j v z
  subst hq hB hA
  refine ac_is (T' := uX11_0 Z.2.2.2.1 (cB Z)) rfl ?_
  refine ac_aload_n X dX11_init_0 rfl ?_
  refine ac_obji X (Nat.le_of_ble_eq_true rfl) oi_RX11_1 dX11_init_1 ?_
  refine ac_aload_n X dX11_init_4 rfl ?_
  refine ac_newM (m := 0) (c' := 1) (n' := 7) (ci := 9) (fs := [.null, .null, .null, .null, .null, .null, .null]) (uX11_len0 _ _) rfl rfl X dX11_init_5 rfl iw_RX10 tyX10 tyX10_ok nw_RX11_7 df_RX10 (Nat.le_of_ble_eq_true rfl) (Nat.le_of_ble_eq_true rfl) ?_
  refine ac_dup X dX11_init_8 rfl ?_
  refine ac_initM (m := 0) (m1 := 1) (c' := 57) (n' := 1693) (e2 := e_RX10 (cB Z + 1)) (T2 := t_RX10 Z.2.2.2.1 (cB Z + 1)) (uX11_len0 _ _) rfl rfl rfl X dX11_init_9 ci_RX11_9 (ok_X10_init _ _ _ _ _) (Nat.le_of_ble_eq_true rfl) (by decide) rfl rfl (Nat.le_of_ble_eq_true rfl) (Nat.le_of_ble_eq_true rfl) (Nat.le_of_ble_eq_true rfl) ?_
  refine ac_is (T' := uX11_1 Z.2.2.2.1 (cB Z)) rfl ?_
  refine ac_putF (fs' := [.ref (cB Z + 0), .null, .int 0, .null, .null, .int 0, .int 0, .null, .null]) X dX11_init_12 pf_RX11_10 rfl rfl (Nat.le_of_ble_eq_true rfl) rfl ?_
  refine ac_aload_n X dX11_init_15 rfl ?_
  refine ac_newM (m := 57) (c' := 58) (n' := 1700) (ci := 9) (fs := [.null, .null, .null, .null, .null, .null, .null]) (uX11_len1 _ _) rfl rfl X dX11_init_16 rfl iw_RX10 tyX10 tyX10_ok nw_RX11_7 df_RX10 (Nat.le_of_ble_eq_true rfl) (Nat.le_of_ble_eq_true rfl) ?_
  refine ac_dup X dX11_init_19 rfl ?_
  refine ac_initM (m := 57) (m1 := 58) (c' := 114) (n' := 3386) (e2 := e_RX10 (cB Z + 58)) (T2 := t_RX10 Z.2.2.2.1 (cB Z + 58)) (uX11_len1 _ _) rfl rfl rfl X dX11_init_20 ci_RX11_9 (ok_X10_init _ _ _ _ _) (Nat.le_of_ble_eq_true rfl) (by decide) rfl rfl (Nat.le_of_ble_eq_true rfl) (Nat.le_of_ble_eq_true rfl) (Nat.le_of_ble_eq_true rfl) ?_
  refine ac_is (T' := uX11_2 Z.2.2.2.1 (cB Z)) rfl ?_
  refine ac_putF (fs' := [.ref (cB Z + 0), .ref (cB Z + 57), .int 0, .null, .null, .int 0, .int 0, .null, .null]) X dX11_init_23 pf_RX11_16 rfl rfl (Nat.le_of_ble_eq_true rfl) rfl ?_
  refine ac_aload_n X dX11_init_26 rfl ?_
  refine ac_iconst (v := 0) X dX11_init_27 (by decide) ?_
  refine ac_put (fs' := [.ref (cB Z + 0), .ref (cB Z + 57), .int 0, .null, .null, .int 0, .int 0, .null, .null]) X dX11_init_28 pf_RX11_19 rfl rfl (Nat.le_of_ble_eq_true rfl) rfl ?_
  refine ac_aload_n X dX11_init_31 rfl ?_
  refine ac_newM (m := 114) (c' := 115) (n' := 3399) (ci := 0) (fs := [.int 0, .int 0, .null, .null, .null, .null, .null, .null, .null, .int 0, .int 0, .int 0, .int 0]) (uX11_len2 _ _) rfl rfl X dX11_init_32 rfl iw_RX0 tyX0 tyX0_ok nw_RX11_23 df_RX0 (Nat.le_of_ble_eq_true rfl) (Nat.le_of_ble_eq_true rfl) ?_
  refine ac_dup X dX11_init_35 rfl ?_
  refine ac_iconst (v := 1) X dX11_init_36 (by decide) ?_
  refine ac_initM (m := 114) (m1 := 115) (c' := 122) (n' := 3497) (e2 := e_RX0 (cB Z + 115) 1) (T2 := t_RX0 Z.2.2.2.1 (cB Z + 115) 1) (uX11_len2 _ _) rfl rfl rfl X dX11_init_37 ci_RX11_25 (ok_X0_init 1 (by decide) _ _ _ _ _) (Nat.le_of_ble_eq_true rfl) (by decide) rfl rfl (Nat.le_of_ble_eq_true rfl) (Nat.le_of_ble_eq_true rfl) (Nat.le_of_ble_eq_true rfl) ?_
  refine ac_is (T' := uX11_3 Z.2.2.2.1 (cB Z)) rfl ?_
  refine ac_putF (fs' := [.ref (cB Z + 0), .ref (cB Z + 57), .int 0, .ref (cB Z + 114), .null, .int 0, .int 0, .null, .null]) X dX11_init_40 pf_RX11_28 rfl rfl (Nat.le_of_ble_eq_true rfl) rfl ?_
  refine ac_aload_n X dX11_init_43 rfl ?_
  refine ac_bipush (v := 6) X dX11_init_44 (by decide) ?_
  refine ac_newqM (k := 6) (m := 122) (c' := 123) (n' := 3503) (uX11_len3 _ _) rfl rfl X dX11_init_46 aq_23 (by decide) (Nat.le_of_ble_eq_true rfl) (Nat.le_of_ble_eq_true rfl) ?_
  refine ac_is (T' := uX11_3 Z.2.2.2.1 (cB Z) ++ .inl (cQr Z, 6, .inr (.inr (.inr (.inr (fun _ => none))))) :: wX11_0 Z.2.2.2.1 (cB Z)) rfl ?_
  refine ac_putF (fs' := [.ref (cB Z + 0), .ref (cB Z + 57), .int 0, .ref (cB Z + 114), .ref (cB Z + 122), .int 0, .int 0, .null, .null]) X dX11_init_49 pf_RX11_32 rfl rfl (Nat.le_of_ble_eq_true rfl) rfl ?_
  refine ac_iconst (v := 0) X dX11_init_52 (by decide) ?_
  refine ac_istore_n X dX11_init_53 (by decide) rfl ?_
  refine ac_iload_n X dX11_init_54 rfl ?_
  refine ac_bipush (v := 6) X dX11_init_55 (by decide) ?_
  refine ac_icmp_ge (tgt := 80) X dX11_init_57 (by decide) (by decide) ?_
  refine ac_aload_n X dX11_init_60 rfl ?_
  refine ac_get X dX11_init_61 fl_RX11_32 rfl ?_
  refine ac_iload_n X dX11_init_64 rfl ?_
  refine ac_newM (m := 123) (c' := 124) (n' := 3516) (ci := 0) (fs := [.int 0, .int 0, .null, .null, .null, .null, .null, .null, .null, .int 0, .int 0, .int 0, .int 0]) (len_q (uX11_len3 _ _) (wX11_len0 _ _) rfl) rfl rfl X dX11_init_65 rfl iw_RX0 tyX0 tyX0_ok nw_RX11_23 df_RX0 (Nat.le_of_ble_eq_true rfl) (Nat.le_of_ble_eq_true rfl) ?_
  refine ac_dup X dX11_init_68 rfl ?_
  refine ac_iconst (v := 0) X dX11_init_69 (by decide) ?_
  refine ac_initM (m := 123) (m1 := 124) (c' := 131) (n' := 3614) (e2 := e_RX0 (cB Z + 124) 0) (T2 := t_RX0 Z.2.2.2.1 (cB Z + 124) 0) (len_q (uX11_len3 _ _) (wX11_len0 _ _) rfl) rfl rfl rfl X dX11_init_70 ci_RX11_25 (ok_X0_init 0 (by decide) _ _ _ _ _) (Nat.le_of_ble_eq_true rfl) (by decide) rfl rfl (Nat.le_of_ble_eq_true rfl) (Nat.le_of_ble_eq_true rfl) (Nat.le_of_ble_eq_true rfl) ?_
  refine ac_aastL (i := 0) (uX11_len3 _ _) (len_q (uX11_len3 _ _) (wX11_len0 _ _) rfl) X dX11_init_73 (by decide) (by decide) ?_
  refine ac_is (T' := uX11_3 Z.2.2.2.1 (cB Z) ++ .inl (cQr Z, 6, .inr (.inr (.inr (.inr (va_up (fun _ => none) 0 (some (cB Z + 123))))))) :: wX11_1 Z.2.2.2.1 (cB Z)) rfl ?_
  refine ac_iinc (v := 1) X dX11_init_74 rfl (by decide) (by decide) rfl ?_
  refine ac_goto (tgt := 54) X dX11_init_77 (by decide) ?_
  refine ac_iload_n X dX11_init_54 rfl ?_
  refine ac_bipush (v := 6) X dX11_init_55 (by decide) ?_
  refine ac_icmp_ge (tgt := 80) X dX11_init_57 (by decide) (by decide) ?_
  refine ac_aload_n X dX11_init_60 rfl ?_
  refine ac_get X dX11_init_61 fl_RX11_32 rfl ?_
  refine ac_iload_n X dX11_init_64 rfl ?_
  refine ac_newM (m := 131) (c' := 132) (n' := 3627) (ci := 0) (fs := [.int 0, .int 0, .null, .null, .null, .null, .null, .null, .null, .int 0, .int 0, .int 0, .int 0]) (len_q (uX11_len3 _ _) (wX11_len1 _ _) rfl) rfl rfl X dX11_init_65 rfl iw_RX0 tyX0 tyX0_ok nw_RX11_23 df_RX0 (Nat.le_of_ble_eq_true rfl) (Nat.le_of_ble_eq_true rfl) ?_
  refine ac_dup X dX11_init_68 rfl ?_
  refine ac_iconst (v := 0) X dX11_init_69 (by decide) ?_
  refine ac_initM (m := 131) (m1 := 132) (c' := 139) (n' := 3725) (e2 := e_RX0 (cB Z + 132) 0) (T2 := t_RX0 Z.2.2.2.1 (cB Z + 132) 0) (len_q (uX11_len3 _ _) (wX11_len1 _ _) rfl) rfl rfl rfl X dX11_init_70 ci_RX11_25 (ok_X0_init 0 (by decide) _ _ _ _ _) (Nat.le_of_ble_eq_true rfl) (by decide) rfl rfl (Nat.le_of_ble_eq_true rfl) (Nat.le_of_ble_eq_true rfl) (Nat.le_of_ble_eq_true rfl) ?_
  refine ac_aastL (i := 1) (uX11_len3 _ _) (len_q (uX11_len3 _ _) (wX11_len1 _ _) rfl) X dX11_init_73 (by decide) (by decide) ?_
  refine ac_is (T' := uX11_3 Z.2.2.2.1 (cB Z) ++ .inl (cQr Z, 6, .inr (.inr (.inr (.inr (va_up (va_up (fun _ => none) 0 (some (cB Z + 123))) 1 (some (cB Z + 131))))))) :: wX11_2 Z.2.2.2.1 (cB Z)) rfl ?_
  refine ac_iinc (v := 2) X dX11_init_74 rfl (by decide) (by decide) rfl ?_
  refine ac_goto (tgt := 54) X dX11_init_77 (by decide) ?_
  refine ac_iload_n X dX11_init_54 rfl ?_
  refine ac_bipush (v := 6) X dX11_init_55 (by decide) ?_
  refine ac_icmp_ge (tgt := 80) X dX11_init_57 (by decide) (by decide) ?_
  refine ac_aload_n X dX11_init_60 rfl ?_
  refine ac_get X dX11_init_61 fl_RX11_32 rfl ?_
  refine ac_iload_n X dX11_init_64 rfl ?_
  refine ac_newM (m := 139) (c' := 140) (n' := 3738) (ci := 0) (fs := [.int 0, .int 0, .null, .null, .null, .null, .null, .null, .null, .int 0, .int 0, .int 0, .int 0]) (len_q (uX11_len3 _ _) (wX11_len2 _ _) rfl) rfl rfl X dX11_init_65 rfl iw_RX0 tyX0 tyX0_ok nw_RX11_23 df_RX0 (Nat.le_of_ble_eq_true rfl) (Nat.le_of_ble_eq_true rfl) ?_
  refine ac_dup X dX11_init_68 rfl ?_
  refine ac_iconst (v := 0) X dX11_init_69 (by decide) ?_
  refine ac_initM (m := 139) (m1 := 140) (c' := 147) (n' := 3836) (e2 := e_RX0 (cB Z + 140) 0) (T2 := t_RX0 Z.2.2.2.1 (cB Z + 140) 0) (len_q (uX11_len3 _ _) (wX11_len2 _ _) rfl) rfl rfl rfl X dX11_init_70 ci_RX11_25 (ok_X0_init 0 (by decide) _ _ _ _ _) (Nat.le_of_ble_eq_true rfl) (by decide) rfl rfl (Nat.le_of_ble_eq_true rfl) (Nat.le_of_ble_eq_true rfl) (Nat.le_of_ble_eq_true rfl) ?_
  refine ac_aastL (i := 2) (uX11_len3 _ _) (len_q (uX11_len3 _ _) (wX11_len2 _ _) rfl) X dX11_init_73 (by decide) (by decide) ?_
  refine ac_is (T' := uX11_3 Z.2.2.2.1 (cB Z) ++ .inl (cQr Z, 6, .inr (.inr (.inr (.inr (va_up (va_up (va_up (fun _ => none) 0 (some (cB Z + 123))) 1 (some (cB Z + 131))) 2 (some (cB Z + 139))))))) :: wX11_3 Z.2.2.2.1 (cB Z)) rfl ?_
  refine ac_iinc (v := 3) X dX11_init_74 rfl (by decide) (by decide) rfl ?_
  refine ac_goto (tgt := 54) X dX11_init_77 (by decide) ?_
  refine ac_iload_n X dX11_init_54 rfl ?_
  refine ac_bipush (v := 6) X dX11_init_55 (by decide) ?_
  refine ac_icmp_ge (tgt := 80) X dX11_init_57 (by decide) (by decide) ?_
  refine ac_aload_n X dX11_init_60 rfl ?_
  refine ac_get X dX11_init_61 fl_RX11_32 rfl ?_
  refine ac_iload_n X dX11_init_64 rfl ?_
  refine ac_newM (m := 147) (c' := 148) (n' := 3849) (ci := 0) (fs := [.int 0, .int 0, .null, .null, .null, .null, .null, .null, .null, .int 0, .int 0, .int 0, .int 0]) (len_q (uX11_len3 _ _) (wX11_len3 _ _) rfl) rfl rfl X dX11_init_65 rfl iw_RX0 tyX0 tyX0_ok nw_RX11_23 df_RX0 (Nat.le_of_ble_eq_true rfl) (Nat.le_of_ble_eq_true rfl) ?_
  refine ac_dup X dX11_init_68 rfl ?_
  refine ac_iconst (v := 0) X dX11_init_69 (by decide) ?_
  refine ac_initM (m := 147) (m1 := 148) (c' := 155) (n' := 3947) (e2 := e_RX0 (cB Z + 148) 0) (T2 := t_RX0 Z.2.2.2.1 (cB Z + 148) 0) (len_q (uX11_len3 _ _) (wX11_len3 _ _) rfl) rfl rfl rfl X dX11_init_70 ci_RX11_25 (ok_X0_init 0 (by decide) _ _ _ _ _) (Nat.le_of_ble_eq_true rfl) (by decide) rfl rfl (Nat.le_of_ble_eq_true rfl) (Nat.le_of_ble_eq_true rfl) (Nat.le_of_ble_eq_true rfl) ?_
  refine ac_aastL (i := 3) (uX11_len3 _ _) (len_q (uX11_len3 _ _) (wX11_len3 _ _) rfl) X dX11_init_73 (by decide) (by decide) ?_
  refine ac_is (T' := uX11_3 Z.2.2.2.1 (cB Z) ++ .inl (cQr Z, 6, .inr (.inr (.inr (.inr (va_up (va_up (va_up (va_up (fun _ => none) 0 (some (cB Z + 123))) 1 (some (cB Z + 131))) 2 (some (cB Z + 139))) 3 (some (cB Z + 147))))))) :: wX11_4 Z.2.2.2.1 (cB Z)) rfl ?_
  refine ac_iinc (v := 4) X dX11_init_74 rfl (by decide) (by decide) rfl ?_
  refine ac_goto (tgt := 54) X dX11_init_77 (by decide) ?_
  refine ac_iload_n X dX11_init_54 rfl ?_
  refine ac_bipush (v := 6) X dX11_init_55 (by decide) ?_
  refine ac_icmp_ge (tgt := 80) X dX11_init_57 (by decide) (by decide) ?_
  refine ac_aload_n X dX11_init_60 rfl ?_
  refine ac_get X dX11_init_61 fl_RX11_32 rfl ?_
  refine ac_iload_n X dX11_init_64 rfl ?_
  refine ac_newM (m := 155) (c' := 156) (n' := 3960) (ci := 0) (fs := [.int 0, .int 0, .null, .null, .null, .null, .null, .null, .null, .int 0, .int 0, .int 0, .int 0]) (len_q (uX11_len3 _ _) (wX11_len4 _ _) rfl) rfl rfl X dX11_init_65 rfl iw_RX0 tyX0 tyX0_ok nw_RX11_23 df_RX0 (Nat.le_of_ble_eq_true rfl) (Nat.le_of_ble_eq_true rfl) ?_
  refine ac_dup X dX11_init_68 rfl ?_
  refine ac_iconst (v := 0) X dX11_init_69 (by decide) ?_
  refine ac_initM (m := 155) (m1 := 156) (c' := 163) (n' := 4058) (e2 := e_RX0 (cB Z + 156) 0) (T2 := t_RX0 Z.2.2.2.1 (cB Z + 156) 0) (len_q (uX11_len3 _ _) (wX11_len4 _ _) rfl) rfl rfl rfl X dX11_init_70 ci_RX11_25 (ok_X0_init 0 (by decide) _ _ _ _ _) (Nat.le_of_ble_eq_true rfl) (by decide) rfl rfl (Nat.le_of_ble_eq_true rfl) (Nat.le_of_ble_eq_true rfl) (Nat.le_of_ble_eq_true rfl) ?_
  refine ac_aastL (i := 4) (uX11_len3 _ _) (len_q (uX11_len3 _ _) (wX11_len4 _ _) rfl) X dX11_init_73 (by decide) (by decide) ?_
  refine ac_is (T' := uX11_3 Z.2.2.2.1 (cB Z) ++ .inl (cQr Z, 6, .inr (.inr (.inr (.inr (va_up (va_up (va_up (va_up (va_up (fun _ => none) 0 (some (cB Z + 123))) 1 (some (cB Z + 131))) 2 (some (cB Z + 139))) 3 (some (cB Z + 147))) 4 (some (cB Z + 155))))))) :: wX11_5 Z.2.2.2.1 (cB Z)) rfl ?_
  refine ac_iinc (v := 5) X dX11_init_74 rfl (by decide) (by decide) rfl ?_
  refine ac_goto (tgt := 54) X dX11_init_77 (by decide) ?_
  refine ac_iload_n X dX11_init_54 rfl ?_
  refine ac_bipush (v := 6) X dX11_init_55 (by decide) ?_
  refine ac_icmp_ge (tgt := 80) X dX11_init_57 (by decide) (by decide) ?_
  refine ac_aload_n X dX11_init_60 rfl ?_
  refine ac_get X dX11_init_61 fl_RX11_32 rfl ?_
  refine ac_iload_n X dX11_init_64 rfl ?_
  refine ac_newM (m := 163) (c' := 164) (n' := 4071) (ci := 0) (fs := [.int 0, .int 0, .null, .null, .null, .null, .null, .null, .null, .int 0, .int 0, .int 0, .int 0]) (len_q (uX11_len3 _ _) (wX11_len5 _ _) rfl) rfl rfl X dX11_init_65 rfl iw_RX0 tyX0 tyX0_ok nw_RX11_23 df_RX0 (Nat.le_of_ble_eq_true rfl) (Nat.le_of_ble_eq_true rfl) ?_
  refine ac_dup X dX11_init_68 rfl ?_
  refine ac_iconst (v := 0) X dX11_init_69 (by decide) ?_
  refine ac_initM (m := 163) (m1 := 164) (c' := 171) (n' := 4169) (e2 := e_RX0 (cB Z + 164) 0) (T2 := t_RX0 Z.2.2.2.1 (cB Z + 164) 0) (len_q (uX11_len3 _ _) (wX11_len5 _ _) rfl) rfl rfl rfl X dX11_init_70 ci_RX11_25 (ok_X0_init 0 (by decide) _ _ _ _ _) (Nat.le_of_ble_eq_true rfl) (by decide) rfl rfl (Nat.le_of_ble_eq_true rfl) (Nat.le_of_ble_eq_true rfl) (Nat.le_of_ble_eq_true rfl) ?_
  refine ac_aastL (i := 5) (uX11_len3 _ _) (len_q (uX11_len3 _ _) (wX11_len5 _ _) rfl) X dX11_init_73 (by decide) (by decide) ?_
  refine ac_is (T' := uX11_4 Z.2.2.2.1 (cB Z)) rfl ?_
  refine ac_iinc (v := 6) X dX11_init_74 rfl (by decide) (by decide) rfl ?_
  refine ac_goto (tgt := 54) X dX11_init_77 (by decide) ?_
  refine ac_iload_n X dX11_init_54 rfl ?_
  refine ac_bipush (v := 6) X dX11_init_55 (by decide) ?_
  refine ac_icmp_geT (tgt := 80) X dX11_init_57 (by decide) (by decide) ?_
  refine ac_aload_n X dX11_init_80 rfl ?_
  refine ac_iconst (v := 0) X dX11_init_81 (by decide) ?_
  refine ac_put (fs' := [.ref (cB Z + 0), .ref (cB Z + 57), .int 0, .ref (cB Z + 114), .ref (cB Z + 122), .int 0, .int 0, .null, .null]) X dX11_init_82 pf_RX11_36 rfl rfl (Nat.le_of_ble_eq_true rfl) rfl ?_
  refine ac_aload_n X dX11_init_85 rfl ?_
  refine ac_iconst (v := 0) X dX11_init_86 (by decide) ?_
  refine ac_put (fs' := [.ref (cB Z + 0), .ref (cB Z + 57), .int 0, .ref (cB Z + 114), .ref (cB Z + 122), .int 0, .int 0, .null, .null]) X dX11_init_87 pf_RX11_40 rfl rfl (Nat.le_of_ble_eq_true rfl) rfl ?_
  refine ac_aload_n X dX11_init_90 rfl ?_
  refine ac_newM (m := 171) (c' := 172) (n' := 4176) (ci := 3) (fs := [.null, .int 0, .int 0, .int 0, .null, .null, .null]) (uX11_len4 _ _) rfl rfl X dX11_init_91 rfl iw_RX4 tyX4 tyX4_ok nw_RX11_43 df_RX4 (Nat.le_of_ble_eq_true rfl) (Nat.le_of_ble_eq_true rfl) ?_
  refine ac_dup X dX11_init_94 rfl ?_
  refine ac_initM (m := 171) (m1 := 172) (c' := 194) (n' := 6538) (e2 := e_RX4 (cB Z + 172)) (T2 := t_RX4 Z.2.2.2.1 (cB Z + 172)) (uX11_len4 _ _) rfl rfl rfl X dX11_init_95 ci_RX11_45 (ok_X4_init _ _ _ _ _) (Nat.le_of_ble_eq_true rfl) (by decide) rfl rfl (Nat.le_of_ble_eq_true rfl) (Nat.le_of_ble_eq_true rfl) (Nat.le_of_ble_eq_true rfl) ?_
  refine ac_is (T' := uX11_5 Z.2.2.2.1 (cB Z)) rfl ?_
  refine ac_putF (fs' := [.ref (cB Z + 0), .ref (cB Z + 57), .int 0, .ref (cB Z + 114), .ref (cB Z + 122), .int 0, .int 0, .ref (cB Z + 171), .null]) X dX11_init_98 pf_RX11_46 rfl rfl (Nat.le_of_ble_eq_true rfl) rfl ?_
  refine ac_aload_n X dX11_init_101 rfl ?_
  refine ac_newM (m := 194) (c' := 195) (n' := 6542) (ci := 8) (fs := [.null, .null, .null, .null]) (uX11_len5 _ _) rfl rfl X dX11_init_102 rfl iw_RX9 tyX9 tyX9_ok nw_RX11_50 df_RX9 (Nat.le_of_ble_eq_true rfl) (Nat.le_of_ble_eq_true rfl) ?_
  refine ac_dup X dX11_init_105 rfl ?_
  refine ac_initM (m := 194) (m1 := 195) (c' := 199) (n' := 6732) (e2 := e_RX9 (cB Z + 195)) (T2 := t_RX9 Z.2.2.2.1 (cB Z + 195)) (uX11_len5 _ _) rfl rfl rfl X dX11_init_106 ci_RX11_52 (ok_X9_init _ _ _ _ _) (Nat.le_of_ble_eq_true rfl) (by decide) rfl rfl (Nat.le_of_ble_eq_true rfl) (Nat.le_of_ble_eq_true rfl) (Nat.le_of_ble_eq_true rfl) ?_
  refine ac_is (T' := uX11_6 Z.2.2.2.1 (cB Z)) rfl ?_
  refine ac_putF (fs' := [.ref (cB Z + 0), .ref (cB Z + 57), .int 0, .ref (cB Z + 114), .ref (cB Z + 122), .int 0, .int 0, .ref (cB Z + 171), .ref (cB Z + 194)]) X dX11_init_109 pf_RX11_53 rfl rfl (Nat.le_of_ble_eq_true rfl) rfl ?_
  exact ac_vret X dX11_init_112 (Eq.trans rfl he.symm) (Eq.trans rfl hT.symm) (by decide) (by decide)
