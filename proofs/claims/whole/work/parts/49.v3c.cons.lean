/-! ===== constructors: what is told ===== -/
theorem tl_RX0 {cA : ClassId × ClassId × ClassId} {B : Nat} {x : Int32} : (t_RX0 cA B x).length = 7 := rfl
theorem tl_RX7 {cA : ClassId × ClassId × ClassId} {B m : Nat} {x : Int32} : (t_RX7 cA B x m).length = 1 := rfl
theorem tl_RX1 {cA : ClassId × ClassId × ClassId} {B : Nat} : (t_RX1 cA B).length = 6 := rfl
theorem tl_RX3 {cA : ClassId × ClassId × ClassId} {B : Nat} : (t_RX3 cA B).length = 4 := rfl
theorem tl_RX5 {cA : ClassId × ClassId × ClassId} {B : Nat} : (t_RX5 cA B).length = 4 := rfl
theorem tl_RX6 {cA : ClassId × ClassId × ClassId} {B : Nat} : (t_RX6 cA B).length = 4 := rfl
theorem tl_RX9 {cA : ClassId × ClassId × ClassId} {B : Nat} : (t_RX9 cA B).length = 4 := rfl
def uX8_0 (cA : ClassId × ClassId × ClassId) (B : Nat) : CH := []
theorem uX8_len0 (cA : ClassId × ClassId × ClassId) (B : Nat) : (uX8_0 cA B).length = 0 := rfl
def uX8_1 (cA : ClassId × ClassId × ClassId) (B : Nat) : CH := uX8_0 cA B ++ e_RX7 (B + 1) 16 :: t_RX7 cA (B + 1) 16 16
theorem uX8_len1 (cA : ClassId × ClassId × ClassId) (B : Nat) : (uX8_1 cA B).length = 2 := by
  rw [uX8_1, List.length_append, uX8_len0, List.length_cons, tl_RX7] <;> rfl
def uX8_2 (cA : ClassId × ClassId × ClassId) (B : Nat) : CH := uX8_1 cA B ++ e_RX7 (B + 3) 10 :: t_RX7 cA (B + 3) 10 10
theorem uX8_len2 (cA : ClassId × ClassId × ClassId) (B : Nat) : (uX8_2 cA B).length = 4 := by
  rw [uX8_2, List.length_append, uX8_len1, List.length_cons, tl_RX7] <;> rfl
def uX8_3 (cA : ClassId × ClassId × ClassId) (B : Nat) : CH := uX8_2 cA B ++ e_RX7 (B + 5) 10 :: t_RX7 cA (B + 5) 10 10
theorem uX8_len3 (cA : ClassId × ClassId × ClassId) (B : Nat) : (uX8_3 cA B).length = 6 := by
  rw [uX8_3, List.length_append, uX8_len2, List.length_cons, tl_RX7] <;> rfl
def uX8_4 (cA : ClassId × ClassId × ClassId) (B : Nat) : CH := uX8_3 cA B ++ e_RX7 (B + 7) 10 :: t_RX7 cA (B + 7) 10 10
theorem uX8_len4 (cA : ClassId × ClassId × ClassId) (B : Nat) : (uX8_4 cA B).length = 8 := by
  rw [uX8_4, List.length_append, uX8_len3, List.length_cons, tl_RX7] <;> rfl
def uX8_5 (cA : ClassId × ClassId × ClassId) (B : Nat) : CH := uX8_4 cA B ++ e_RX7 (B + 9) 14 :: t_RX7 cA (B + 9) 14 14
theorem uX8_len5 (cA : ClassId × ClassId × ClassId) (B : Nat) : (uX8_5 cA B).length = 10 := by
  rw [uX8_5, List.length_append, uX8_len4, List.length_cons, tl_RX7] <;> rfl
def uX8_6 (cA : ClassId × ClassId × ClassId) (B : Nat) : CH := uX8_5 cA B ++ e_RX7 (B + 11) 14 :: t_RX7 cA (B + 11) 14 14
theorem uX8_len6 (cA : ClassId × ClassId × ClassId) (B : Nat) : (uX8_6 cA B).length = 12 := by
  rw [uX8_6, List.length_append, uX8_len5, List.length_cons, tl_RX7] <;> rfl
def uX8_7 (cA : ClassId × ClassId × ClassId) (B : Nat) : CH := uX8_6 cA B ++ e_RX7 (B + 13) 14 :: t_RX7 cA (B + 13) 14 14
theorem uX8_len7 (cA : ClassId × ClassId × ClassId) (B : Nat) : (uX8_7 cA B).length = 14 := by
  rw [uX8_7, List.length_append, uX8_len6, List.length_cons, tl_RX7] <;> rfl
def uX8_8 (cA : ClassId × ClassId × ClassId) (B : Nat) : CH := uX8_7 cA B ++ e_RX7 (B + 15) 6 :: t_RX7 cA (B + 15) 6 6
theorem uX8_len8 (cA : ClassId × ClassId × ClassId) (B : Nat) : (uX8_8 cA B).length = 16 := by
  rw [uX8_8, List.length_append, uX8_len7, List.length_cons, tl_RX7] <;> rfl
def uX8_9 (cA : ClassId × ClassId × ClassId) (B : Nat) : CH := uX8_8 cA B ++ e_RX7 (B + 17) 6 :: t_RX7 cA (B + 17) 6 6
theorem uX8_len9 (cA : ClassId × ClassId × ClassId) (B : Nat) : (uX8_9 cA B).length = 18 := by
  rw [uX8_9, List.length_append, uX8_len8, List.length_cons, tl_RX7] <;> rfl
def uX8_10 (cA : ClassId × ClassId × ClassId) (B : Nat) : CH := uX8_9 cA B ++ e_RX7 (B + 19) 6 :: t_RX7 cA (B + 19) 6 6
theorem uX8_len10 (cA : ClassId × ClassId × ClassId) (B : Nat) : (uX8_10 cA B).length = 20 := by
  rw [uX8_10, List.length_append, uX8_len9, List.length_cons, tl_RX7] <;> rfl
def uX8_11 (cA : ClassId × ClassId × ClassId) (B : Nat) : CH := uX8_10 cA B ++ e_RX7 (B + 21) 8 :: t_RX7 cA (B + 21) 8 8
theorem uX8_len11 (cA : ClassId × ClassId × ClassId) (B : Nat) : (uX8_11 cA B).length = 22 := by
  rw [uX8_11, List.length_append, uX8_len10, List.length_cons, tl_RX7] <;> rfl
def uX8_12 (cA : ClassId × ClassId × ClassId) (B : Nat) : CH := uX8_11 cA B ++ e_RX7 (B + 23) 4 :: t_RX7 cA (B + 23) 4 4
theorem uX8_len12 (cA : ClassId × ClassId × ClassId) (B : Nat) : (uX8_12 cA B).length = 24 := by
  rw [uX8_12, List.length_append, uX8_len11, List.length_cons, tl_RX7] <;> rfl
def e_RX8 (B : Nat) : va_E := .inr (7, [.ref (B + 0), .ref (B + 2), .ref (B + 4), .ref (B + 6), .ref (B + 8), .ref (B + 10), .ref (B + 12), .ref (B + 14), .ref (B + 16), .ref (B + 18), .ref (B + 20), .ref (B + 22)])
def t_RX8 (cA : ClassId × ClassId × ClassId) (B : Nat) : CH := uX8_12 cA B
theorem tl_RX8 {cA : ClassId × ClassId × ClassId} {B : Nat} : (t_RX8 cA B).length = 24 := uX8_len12 cA B
theorem dX8_init_0 : decode cX8_init 0 = .ok (.aload_n 0, 1) := by decide +kernel
theorem dX8_init_1 : decode cX8_init 1 = .ok (.invokespecial 1, 3) := by decide +kernel
theorem dX8_init_4 : decode cX8_init 4 = .ok (.aload_n 0, 1) := by decide +kernel
theorem dX8_init_5 : decode cX8_init 5 = .ok (.new 7, 3) := by decide +kernel
theorem dX8_init_8 : decode cX8_init 8 = .ok (.dup, 1) := by decide +kernel
theorem dX8_init_9 : decode cX8_init 9 = .ok (.bipush 16, 2) := by decide +kernel
theorem dX8_init_11 : decode cX8_init 11 = .ok (.invokespecial 9, 3) := by decide +kernel
theorem dX8_init_14 : decode cX8_init 14 = .ok (.putfield 12, 3) := by decide +kernel
theorem dX8_init_17 : decode cX8_init 17 = .ok (.aload_n 0, 1) := by decide +kernel
theorem dX8_init_18 : decode cX8_init 18 = .ok (.new 7, 3) := by decide +kernel
theorem dX8_init_21 : decode cX8_init 21 = .ok (.dup, 1) := by decide +kernel
theorem dX8_init_22 : decode cX8_init 22 = .ok (.bipush 10, 2) := by decide +kernel
theorem dX8_init_24 : decode cX8_init 24 = .ok (.invokespecial 9, 3) := by decide +kernel
theorem dX8_init_27 : decode cX8_init 27 = .ok (.putfield 18, 3) := by decide +kernel
theorem dX8_init_30 : decode cX8_init 30 = .ok (.aload_n 0, 1) := by decide +kernel
theorem dX8_init_31 : decode cX8_init 31 = .ok (.new 7, 3) := by decide +kernel
theorem dX8_init_34 : decode cX8_init 34 = .ok (.dup, 1) := by decide +kernel
theorem dX8_init_35 : decode cX8_init 35 = .ok (.bipush 10, 2) := by decide +kernel
theorem dX8_init_37 : decode cX8_init 37 = .ok (.invokespecial 9, 3) := by decide +kernel
theorem dX8_init_40 : decode cX8_init 40 = .ok (.putfield 21, 3) := by decide +kernel
theorem dX8_init_43 : decode cX8_init 43 = .ok (.aload_n 0, 1) := by decide +kernel
theorem dX8_init_44 : decode cX8_init 44 = .ok (.new 7, 3) := by decide +kernel
theorem dX8_init_47 : decode cX8_init 47 = .ok (.dup, 1) := by decide +kernel
theorem dX8_init_48 : decode cX8_init 48 = .ok (.bipush 10, 2) := by decide +kernel
theorem dX8_init_50 : decode cX8_init 50 = .ok (.invokespecial 9, 3) := by decide +kernel
theorem dX8_init_53 : decode cX8_init 53 = .ok (.putfield 24, 3) := by decide +kernel
theorem dX8_init_56 : decode cX8_init 56 = .ok (.aload_n 0, 1) := by decide +kernel
theorem dX8_init_57 : decode cX8_init 57 = .ok (.new 7, 3) := by decide +kernel
theorem dX8_init_60 : decode cX8_init 60 = .ok (.dup, 1) := by decide +kernel
theorem dX8_init_61 : decode cX8_init 61 = .ok (.bipush 14, 2) := by decide +kernel
theorem dX8_init_63 : decode cX8_init 63 = .ok (.invokespecial 9, 3) := by decide +kernel
theorem dX8_init_66 : decode cX8_init 66 = .ok (.putfield 27, 3) := by decide +kernel
theorem dX8_init_69 : decode cX8_init 69 = .ok (.aload_n 0, 1) := by decide +kernel
theorem dX8_init_70 : decode cX8_init 70 = .ok (.new 7, 3) := by decide +kernel
theorem dX8_init_73 : decode cX8_init 73 = .ok (.dup, 1) := by decide +kernel
theorem dX8_init_74 : decode cX8_init 74 = .ok (.bipush 14, 2) := by decide +kernel
theorem dX8_init_76 : decode cX8_init 76 = .ok (.invokespecial 9, 3) := by decide +kernel
theorem dX8_init_79 : decode cX8_init 79 = .ok (.putfield 30, 3) := by decide +kernel
theorem dX8_init_82 : decode cX8_init 82 = .ok (.aload_n 0, 1) := by decide +kernel
theorem dX8_init_83 : decode cX8_init 83 = .ok (.new 7, 3) := by decide +kernel
theorem dX8_init_86 : decode cX8_init 86 = .ok (.dup, 1) := by decide +kernel
theorem dX8_init_87 : decode cX8_init 87 = .ok (.bipush 14, 2) := by decide +kernel
theorem dX8_init_89 : decode cX8_init 89 = .ok (.invokespecial 9, 3) := by decide +kernel
theorem dX8_init_92 : decode cX8_init 92 = .ok (.putfield 33, 3) := by decide +kernel
theorem dX8_init_95 : decode cX8_init 95 = .ok (.aload_n 0, 1) := by decide +kernel
theorem dX8_init_96 : decode cX8_init 96 = .ok (.new 7, 3) := by decide +kernel
theorem dX8_init_99 : decode cX8_init 99 = .ok (.dup, 1) := by decide +kernel
theorem dX8_init_100 : decode cX8_init 100 = .ok (.bipush 6, 2) := by decide +kernel
theorem dX8_init_102 : decode cX8_init 102 = .ok (.invokespecial 9, 3) := by decide +kernel
theorem dX8_init_105 : decode cX8_init 105 = .ok (.putfield 36, 3) := by decide +kernel
theorem dX8_init_108 : decode cX8_init 108 = .ok (.aload_n 0, 1) := by decide +kernel
theorem dX8_init_109 : decode cX8_init 109 = .ok (.new 7, 3) := by decide +kernel
theorem dX8_init_112 : decode cX8_init 112 = .ok (.dup, 1) := by decide +kernel
theorem dX8_init_113 : decode cX8_init 113 = .ok (.bipush 6, 2) := by decide +kernel
theorem dX8_init_115 : decode cX8_init 115 = .ok (.invokespecial 9, 3) := by decide +kernel
theorem dX8_init_118 : decode cX8_init 118 = .ok (.putfield 39, 3) := by decide +kernel
theorem dX8_init_121 : decode cX8_init 121 = .ok (.aload_n 0, 1) := by decide +kernel
theorem dX8_init_122 : decode cX8_init 122 = .ok (.new 7, 3) := by decide +kernel
theorem dX8_init_125 : decode cX8_init 125 = .ok (.dup, 1) := by decide +kernel
theorem dX8_init_126 : decode cX8_init 126 = .ok (.bipush 6, 2) := by decide +kernel
theorem dX8_init_128 : decode cX8_init 128 = .ok (.invokespecial 9, 3) := by decide +kernel
theorem dX8_init_131 : decode cX8_init 131 = .ok (.putfield 42, 3) := by decide +kernel
theorem dX8_init_134 : decode cX8_init 134 = .ok (.aload_n 0, 1) := by decide +kernel
theorem dX8_init_135 : decode cX8_init 135 = .ok (.new 7, 3) := by decide +kernel
theorem dX8_init_138 : decode cX8_init 138 = .ok (.dup, 1) := by decide +kernel
theorem dX8_init_139 : decode cX8_init 139 = .ok (.bipush 8, 2) := by decide +kernel
theorem dX8_init_141 : decode cX8_init 141 = .ok (.invokespecial 9, 3) := by decide +kernel
theorem dX8_init_144 : decode cX8_init 144 = .ok (.putfield 45, 3) := by decide +kernel
theorem dX8_init_147 : decode cX8_init 147 = .ok (.aload_n 0, 1) := by decide +kernel
theorem dX8_init_148 : decode cX8_init 148 = .ok (.new 7, 3) := by decide +kernel
theorem dX8_init_151 : decode cX8_init 151 = .ok (.dup, 1) := by decide +kernel
theorem dX8_init_152 : decode cX8_init 152 = .ok (.iconst 4, 1) := by decide +kernel
theorem dX8_init_153 : decode cX8_init 153 = .ok (.invokespecial 9, 3) := by decide +kernel
theorem dX8_init_156 : decode cX8_init 156 = .ok (.putfield 48, 3) := by decide +kernel
theorem dX8_init_159 : decode cX8_init 159 = .ok (.return_, 1) := by decide +kernel
set_option maxRecDepth 100000 in
set_option maxHeartbeats 4000000 in
theorem ok_X8_init (l : Launch) (D : va_G) (cA : ClassId × ClassId × ClassId) (q B : Nat) : CM l D cA yX8_init cX8_init 1 2 24 142 [] q B (.inr (7, [.null, .null, .null, .null, .null, .null, .null, .null, .null, .null, .null, .null])) (e_RX8 B) (t_RX8 cA B) := by
  refine CM_of (L := [some (.ref q)]) (by decide) rfl (by simp [Value.category]) (Nat.le_of_ble_eq_true rfl) (fun j v z => ?_) (fun Z X hq hB hA he hT => ?_)
  · exact aL_ok (n := 0) (.ref q :: []) j v z
  subst hq hB hA
  refine ac_is (T' := uX8_0 Z.2.2.2.1 (cB Z)) rfl ?_
  refine ac_aload_n X dX8_init_0 rfl ?_
  refine ac_obji X (Nat.le_of_ble_eq_true rfl) oi_RX8_1 dX8_init_1 ?_
  refine ac_aload_n X dX8_init_4 rfl ?_
  refine ac_newM (m := 0) (c' := 1) (n' := 2) (ci := 6) (fs := [.null, .int 0]) (uX8_len0 _ _) rfl rfl X dX8_init_5 rfl iw_RX7 tyX7 tyX7_ok nw_RX8_7 df_RX7 (Nat.le_of_ble_eq_true rfl) (Nat.le_of_ble_eq_true rfl) ?_
  refine ac_dup X dX8_init_8 rfl ?_
  refine ac_bipush (v := 16) X dX8_init_9 (by decide) ?_
  refine ac_initM (m := 0) (m1 := 1) (c' := 2) (n' := 18) (e2 := e_RX7 (cB Z + 1) 16) (T2 := t_RX7 Z.2.2.2.1 (cB Z + 1) 16 16) (uX8_len0 _ _) rfl rfl rfl X dX8_init_11 ci_RX8_9 (ok_X7_init 16 16 (by decide) _ _ _ _ _) (Nat.le_of_ble_eq_true rfl) (by decide) rfl rfl (Nat.le_of_ble_eq_true rfl) (Nat.le_of_ble_eq_true rfl) (Nat.le_of_ble_eq_true rfl) ?_
  refine ac_is (T' := uX8_1 Z.2.2.2.1 (cB Z)) rfl ?_
  refine ac_putF (fs' := [.ref (cB Z + 0), .null, .null, .null, .null, .null, .null, .null, .null, .null, .null, .null]) X dX8_init_14 pf_RX8_12 rfl rfl (Nat.le_of_ble_eq_true rfl) rfl ?_
  refine ac_aload_n X dX8_init_17 rfl ?_
  refine ac_newM (m := 2) (c' := 3) (n' := 20) (ci := 6) (fs := [.null, .int 0]) (uX8_len1 _ _) rfl rfl X dX8_init_18 rfl iw_RX7 tyX7 tyX7_ok nw_RX8_7 df_RX7 (Nat.le_of_ble_eq_true rfl) (Nat.le_of_ble_eq_true rfl) ?_
  refine ac_dup X dX8_init_21 rfl ?_
  refine ac_bipush (v := 10) X dX8_init_22 (by decide) ?_
  refine ac_initM (m := 2) (m1 := 3) (c' := 4) (n' := 30) (e2 := e_RX7 (cB Z + 3) 10) (T2 := t_RX7 Z.2.2.2.1 (cB Z + 3) 10 10) (uX8_len1 _ _) rfl rfl rfl X dX8_init_24 ci_RX8_9 (ok_X7_init 10 10 (by decide) _ _ _ _ _) (Nat.le_of_ble_eq_true rfl) (by decide) rfl rfl (Nat.le_of_ble_eq_true rfl) (Nat.le_of_ble_eq_true rfl) (Nat.le_of_ble_eq_true rfl) ?_
  refine ac_is (T' := uX8_2 Z.2.2.2.1 (cB Z)) rfl ?_
  refine ac_putF (fs' := [.ref (cB Z + 0), .ref (cB Z + 2), .null, .null, .null, .null, .null, .null, .null, .null, .null, .null]) X dX8_init_27 pf_RX8_18 rfl rfl (Nat.le_of_ble_eq_true rfl) rfl ?_
  refine ac_aload_n X dX8_init_30 rfl ?_
  refine ac_newM (m := 4) (c' := 5) (n' := 32) (ci := 6) (fs := [.null, .int 0]) (uX8_len2 _ _) rfl rfl X dX8_init_31 rfl iw_RX7 tyX7 tyX7_ok nw_RX8_7 df_RX7 (Nat.le_of_ble_eq_true rfl) (Nat.le_of_ble_eq_true rfl) ?_
  refine ac_dup X dX8_init_34 rfl ?_
  refine ac_bipush (v := 10) X dX8_init_35 (by decide) ?_
  refine ac_initM (m := 4) (m1 := 5) (c' := 6) (n' := 42) (e2 := e_RX7 (cB Z + 5) 10) (T2 := t_RX7 Z.2.2.2.1 (cB Z + 5) 10 10) (uX8_len2 _ _) rfl rfl rfl X dX8_init_37 ci_RX8_9 (ok_X7_init 10 10 (by decide) _ _ _ _ _) (Nat.le_of_ble_eq_true rfl) (by decide) rfl rfl (Nat.le_of_ble_eq_true rfl) (Nat.le_of_ble_eq_true rfl) (Nat.le_of_ble_eq_true rfl) ?_
  refine ac_is (T' := uX8_3 Z.2.2.2.1 (cB Z)) rfl ?_
  refine ac_putF (fs' := [.ref (cB Z + 0), .ref (cB Z + 2), .ref (cB Z + 4), .null, .null, .null, .null, .null, .null, .null, .null, .null]) X dX8_init_40 pf_RX8_21 rfl rfl (Nat.le_of_ble_eq_true rfl) rfl ?_
  refine ac_aload_n X dX8_init_43 rfl ?_
  refine ac_newM (m := 6) (c' := 7) (n' := 44) (ci := 6) (fs := [.null, .int 0]) (uX8_len3 _ _) rfl rfl X dX8_init_44 rfl iw_RX7 tyX7 tyX7_ok nw_RX8_7 df_RX7 (Nat.le_of_ble_eq_true rfl) (Nat.le_of_ble_eq_true rfl) ?_
  refine ac_dup X dX8_init_47 rfl ?_
  refine ac_bipush (v := 10) X dX8_init_48 (by decide) ?_
  refine ac_initM (m := 6) (m1 := 7) (c' := 8) (n' := 54) (e2 := e_RX7 (cB Z + 7) 10) (T2 := t_RX7 Z.2.2.2.1 (cB Z + 7) 10 10) (uX8_len3 _ _) rfl rfl rfl X dX8_init_50 ci_RX8_9 (ok_X7_init 10 10 (by decide) _ _ _ _ _) (Nat.le_of_ble_eq_true rfl) (by decide) rfl rfl (Nat.le_of_ble_eq_true rfl) (Nat.le_of_ble_eq_true rfl) (Nat.le_of_ble_eq_true rfl) ?_
  refine ac_is (T' := uX8_4 Z.2.2.2.1 (cB Z)) rfl ?_
  refine ac_putF (fs' := [.ref (cB Z + 0), .ref (cB Z + 2), .ref (cB Z + 4), .ref (cB Z + 6), .null, .null, .null, .null, .null, .null, .null, .null]) X dX8_init_53 pf_RX8_24 rfl rfl (Nat.le_of_ble_eq_true rfl) rfl ?_
  refine ac_aload_n X dX8_init_56 rfl ?_
  refine ac_newM (m := 8) (c' := 9) (n' := 56) (ci := 6) (fs := [.null, .int 0]) (uX8_len4 _ _) rfl rfl X dX8_init_57 rfl iw_RX7 tyX7 tyX7_ok nw_RX8_7 df_RX7 (Nat.le_of_ble_eq_true rfl) (Nat.le_of_ble_eq_true rfl) ?_
  refine ac_dup X dX8_init_60 rfl ?_
  refine ac_bipush (v := 14) X dX8_init_61 (by decide) ?_
  refine ac_initM (m := 8) (m1 := 9) (c' := 10) (n' := 70) (e2 := e_RX7 (cB Z + 9) 14) (T2 := t_RX7 Z.2.2.2.1 (cB Z + 9) 14 14) (uX8_len4 _ _) rfl rfl rfl X dX8_init_63 ci_RX8_9 (ok_X7_init 14 14 (by decide) _ _ _ _ _) (Nat.le_of_ble_eq_true rfl) (by decide) rfl rfl (Nat.le_of_ble_eq_true rfl) (Nat.le_of_ble_eq_true rfl) (Nat.le_of_ble_eq_true rfl) ?_
  refine ac_is (T' := uX8_5 Z.2.2.2.1 (cB Z)) rfl ?_
  refine ac_putF (fs' := [.ref (cB Z + 0), .ref (cB Z + 2), .ref (cB Z + 4), .ref (cB Z + 6), .ref (cB Z + 8), .null, .null, .null, .null, .null, .null, .null]) X dX8_init_66 pf_RX8_27 rfl rfl (Nat.le_of_ble_eq_true rfl) rfl ?_
  refine ac_aload_n X dX8_init_69 rfl ?_
  refine ac_newM (m := 10) (c' := 11) (n' := 72) (ci := 6) (fs := [.null, .int 0]) (uX8_len5 _ _) rfl rfl X dX8_init_70 rfl iw_RX7 tyX7 tyX7_ok nw_RX8_7 df_RX7 (Nat.le_of_ble_eq_true rfl) (Nat.le_of_ble_eq_true rfl) ?_
  refine ac_dup X dX8_init_73 rfl ?_
  refine ac_bipush (v := 14) X dX8_init_74 (by decide) ?_
  refine ac_initM (m := 10) (m1 := 11) (c' := 12) (n' := 86) (e2 := e_RX7 (cB Z + 11) 14) (T2 := t_RX7 Z.2.2.2.1 (cB Z + 11) 14 14) (uX8_len5 _ _) rfl rfl rfl X dX8_init_76 ci_RX8_9 (ok_X7_init 14 14 (by decide) _ _ _ _ _) (Nat.le_of_ble_eq_true rfl) (by decide) rfl rfl (Nat.le_of_ble_eq_true rfl) (Nat.le_of_ble_eq_true rfl) (Nat.le_of_ble_eq_true rfl) ?_
  refine ac_is (T' := uX8_6 Z.2.2.2.1 (cB Z)) rfl ?_
  refine ac_putF (fs' := [.ref (cB Z + 0), .ref (cB Z + 2), .ref (cB Z + 4), .ref (cB Z + 6), .ref (cB Z + 8), .ref (cB Z + 10), .null, .null, .null, .null, .null, .null]) X dX8_init_79 pf_RX8_30 rfl rfl (Nat.le_of_ble_eq_true rfl) rfl ?_
  refine ac_aload_n X dX8_init_82 rfl ?_
  refine ac_newM (m := 12) (c' := 13) (n' := 88) (ci := 6) (fs := [.null, .int 0]) (uX8_len6 _ _) rfl rfl X dX8_init_83 rfl iw_RX7 tyX7 tyX7_ok nw_RX8_7 df_RX7 (Nat.le_of_ble_eq_true rfl) (Nat.le_of_ble_eq_true rfl) ?_
  refine ac_dup X dX8_init_86 rfl ?_
  refine ac_bipush (v := 14) X dX8_init_87 (by decide) ?_
  refine ac_initM (m := 12) (m1 := 13) (c' := 14) (n' := 102) (e2 := e_RX7 (cB Z + 13) 14) (T2 := t_RX7 Z.2.2.2.1 (cB Z + 13) 14 14) (uX8_len6 _ _) rfl rfl rfl X dX8_init_89 ci_RX8_9 (ok_X7_init 14 14 (by decide) _ _ _ _ _) (Nat.le_of_ble_eq_true rfl) (by decide) rfl rfl (Nat.le_of_ble_eq_true rfl) (Nat.le_of_ble_eq_true rfl) (Nat.le_of_ble_eq_true rfl) ?_
  refine ac_is (T' := uX8_7 Z.2.2.2.1 (cB Z)) rfl ?_
  refine ac_putF (fs' := [.ref (cB Z + 0), .ref (cB Z + 2), .ref (cB Z + 4), .ref (cB Z + 6), .ref (cB Z + 8), .ref (cB Z + 10), .ref (cB Z + 12), .null, .null, .null, .null, .null]) X dX8_init_92 pf_RX8_33 rfl rfl (Nat.le_of_ble_eq_true rfl) rfl ?_
  refine ac_aload_n X dX8_init_95 rfl ?_
  refine ac_newM (m := 14) (c' := 15) (n' := 104) (ci := 6) (fs := [.null, .int 0]) (uX8_len7 _ _) rfl rfl X dX8_init_96 rfl iw_RX7 tyX7 tyX7_ok nw_RX8_7 df_RX7 (Nat.le_of_ble_eq_true rfl) (Nat.le_of_ble_eq_true rfl) ?_
  refine ac_dup X dX8_init_99 rfl ?_
  refine ac_bipush (v := 6) X dX8_init_100 (by decide) ?_
  refine ac_initM (m := 14) (m1 := 15) (c' := 16) (n' := 110) (e2 := e_RX7 (cB Z + 15) 6) (T2 := t_RX7 Z.2.2.2.1 (cB Z + 15) 6 6) (uX8_len7 _ _) rfl rfl rfl X dX8_init_102 ci_RX8_9 (ok_X7_init 6 6 (by decide) _ _ _ _ _) (Nat.le_of_ble_eq_true rfl) (by decide) rfl rfl (Nat.le_of_ble_eq_true rfl) (Nat.le_of_ble_eq_true rfl) (Nat.le_of_ble_eq_true rfl) ?_
  refine ac_is (T' := uX8_8 Z.2.2.2.1 (cB Z)) rfl ?_
  refine ac_putF (fs' := [.ref (cB Z + 0), .ref (cB Z + 2), .ref (cB Z + 4), .ref (cB Z + 6), .ref (cB Z + 8), .ref (cB Z + 10), .ref (cB Z + 12), .ref (cB Z + 14), .null, .null, .null, .null]) X dX8_init_105 pf_RX8_36 rfl rfl (Nat.le_of_ble_eq_true rfl) rfl ?_
  refine ac_aload_n X dX8_init_108 rfl ?_
  refine ac_newM (m := 16) (c' := 17) (n' := 112) (ci := 6) (fs := [.null, .int 0]) (uX8_len8 _ _) rfl rfl X dX8_init_109 rfl iw_RX7 tyX7 tyX7_ok nw_RX8_7 df_RX7 (Nat.le_of_ble_eq_true rfl) (Nat.le_of_ble_eq_true rfl) ?_
  refine ac_dup X dX8_init_112 rfl ?_
  refine ac_bipush (v := 6) X dX8_init_113 (by decide) ?_
  refine ac_initM (m := 16) (m1 := 17) (c' := 18) (n' := 118) (e2 := e_RX7 (cB Z + 17) 6) (T2 := t_RX7 Z.2.2.2.1 (cB Z + 17) 6 6) (uX8_len8 _ _) rfl rfl rfl X dX8_init_115 ci_RX8_9 (ok_X7_init 6 6 (by decide) _ _ _ _ _) (Nat.le_of_ble_eq_true rfl) (by decide) rfl rfl (Nat.le_of_ble_eq_true rfl) (Nat.le_of_ble_eq_true rfl) (Nat.le_of_ble_eq_true rfl) ?_
  refine ac_is (T' := uX8_9 Z.2.2.2.1 (cB Z)) rfl ?_
  refine ac_putF (fs' := [.ref (cB Z + 0), .ref (cB Z + 2), .ref (cB Z + 4), .ref (cB Z + 6), .ref (cB Z + 8), .ref (cB Z + 10), .ref (cB Z + 12), .ref (cB Z + 14), .ref (cB Z + 16), .null, .null, .null]) X dX8_init_118 pf_RX8_39 rfl rfl (Nat.le_of_ble_eq_true rfl) rfl ?_
  refine ac_aload_n X dX8_init_121 rfl ?_
  refine ac_newM (m := 18) (c' := 19) (n' := 120) (ci := 6) (fs := [.null, .int 0]) (uX8_len9 _ _) rfl rfl X dX8_init_122 rfl iw_RX7 tyX7 tyX7_ok nw_RX8_7 df_RX7 (Nat.le_of_ble_eq_true rfl) (Nat.le_of_ble_eq_true rfl) ?_
  refine ac_dup X dX8_init_125 rfl ?_
  refine ac_bipush (v := 6) X dX8_init_126 (by decide) ?_
  refine ac_initM (m := 18) (m1 := 19) (c' := 20) (n' := 126) (e2 := e_RX7 (cB Z + 19) 6) (T2 := t_RX7 Z.2.2.2.1 (cB Z + 19) 6 6) (uX8_len9 _ _) rfl rfl rfl X dX8_init_128 ci_RX8_9 (ok_X7_init 6 6 (by decide) _ _ _ _ _) (Nat.le_of_ble_eq_true rfl) (by decide) rfl rfl (Nat.le_of_ble_eq_true rfl) (Nat.le_of_ble_eq_true rfl) (Nat.le_of_ble_eq_true rfl) ?_
  refine ac_is (T' := uX8_10 Z.2.2.2.1 (cB Z)) rfl ?_
  refine ac_putF (fs' := [.ref (cB Z + 0), .ref (cB Z + 2), .ref (cB Z + 4), .ref (cB Z + 6), .ref (cB Z + 8), .ref (cB Z + 10), .ref (cB Z + 12), .ref (cB Z + 14), .ref (cB Z + 16), .ref (cB Z + 18), .null, .null]) X dX8_init_131 pf_RX8_42 rfl rfl (Nat.le_of_ble_eq_true rfl) rfl ?_
  refine ac_aload_n X dX8_init_134 rfl ?_
  refine ac_newM (m := 20) (c' := 21) (n' := 128) (ci := 6) (fs := [.null, .int 0]) (uX8_len10 _ _) rfl rfl X dX8_init_135 rfl iw_RX7 tyX7 tyX7_ok nw_RX8_7 df_RX7 (Nat.le_of_ble_eq_true rfl) (Nat.le_of_ble_eq_true rfl) ?_
  refine ac_dup X dX8_init_138 rfl ?_
  refine ac_bipush (v := 8) X dX8_init_139 (by decide) ?_
  refine ac_initM (m := 20) (m1 := 21) (c' := 22) (n' := 136) (e2 := e_RX7 (cB Z + 21) 8) (T2 := t_RX7 Z.2.2.2.1 (cB Z + 21) 8 8) (uX8_len10 _ _) rfl rfl rfl X dX8_init_141 ci_RX8_9 (ok_X7_init 8 8 (by decide) _ _ _ _ _) (Nat.le_of_ble_eq_true rfl) (by decide) rfl rfl (Nat.le_of_ble_eq_true rfl) (Nat.le_of_ble_eq_true rfl) (Nat.le_of_ble_eq_true rfl) ?_
  refine ac_is (T' := uX8_11 Z.2.2.2.1 (cB Z)) rfl ?_
  refine ac_putF (fs' := [.ref (cB Z + 0), .ref (cB Z + 2), .ref (cB Z + 4), .ref (cB Z + 6), .ref (cB Z + 8), .ref (cB Z + 10), .ref (cB Z + 12), .ref (cB Z + 14), .ref (cB Z + 16), .ref (cB Z + 18), .ref (cB Z + 20), .null]) X dX8_init_144 pf_RX8_45 rfl rfl (Nat.le_of_ble_eq_true rfl) rfl ?_
  refine ac_aload_n X dX8_init_147 rfl ?_
  refine ac_newM (m := 22) (c' := 23) (n' := 138) (ci := 6) (fs := [.null, .int 0]) (uX8_len11 _ _) rfl rfl X dX8_init_148 rfl iw_RX7 tyX7 tyX7_ok nw_RX8_7 df_RX7 (Nat.le_of_ble_eq_true rfl) (Nat.le_of_ble_eq_true rfl) ?_
  refine ac_dup X dX8_init_151 rfl ?_
  refine ac_iconst (v := 4) X dX8_init_152 (by decide) ?_
  refine ac_initM (m := 22) (m1 := 23) (c' := 24) (n' := 142) (e2 := e_RX7 (cB Z + 23) 4) (T2 := t_RX7 Z.2.2.2.1 (cB Z + 23) 4 4) (uX8_len11 _ _) rfl rfl rfl X dX8_init_153 ci_RX8_9 (ok_X7_init 4 4 (by decide) _ _ _ _ _) (Nat.le_of_ble_eq_true rfl) (by decide) rfl rfl (Nat.le_of_ble_eq_true rfl) (Nat.le_of_ble_eq_true rfl) (Nat.le_of_ble_eq_true rfl) ?_
  refine ac_is (T' := uX8_12 Z.2.2.2.1 (cB Z)) rfl ?_
  refine ac_putF (fs' := [.ref (cB Z + 0), .ref (cB Z + 2), .ref (cB Z + 4), .ref (cB Z + 6), .ref (cB Z + 8), .ref (cB Z + 10), .ref (cB Z + 12), .ref (cB Z + 14), .ref (cB Z + 16), .ref (cB Z + 18), .ref (cB Z + 20), .ref (cB Z + 22)]) X dX8_init_156 pf_RX8_48 rfl rfl (Nat.le_of_ble_eq_true rfl) rfl ?_
  exact ac_vret X dX8_init_159 (Eq.trans rfl he.symm) (Eq.trans rfl hT.symm) (by decide) (by decide)
