/-! ===== constructors: the reference ===== -/
def wordsL : List Int32 := [32, 104, 105, 99, 115, 32, 115, 116, 111, 112, 115, 32, 112, 97, 115, 115, 101, 115, 32, 119, 104, 101, 110, 32, 111, 114, 32, 97, 110, 100, 32, 110, 111, 116, 32, 110, 101, 114, 118, 101, 32, 115, 116, 114, 111, 110, 103, 32, 116, 114, 105, 101, 100, 32, 110, 97, 109, 101, 100, 32, 102, 111, 117, 110, 100, 32, 102, 114, 105, 103, 104, 116, 115, 32, 110, 101, 97, 114, 32, 109, 105, 110, 117, 116, 101, 32, 97, 116, 32, 112, 101, 114, 115, 111, 110, 32, 110, 97, 109, 101, 115, 32, 102, 114, 105, 103, 104, 116, 32, 98, 114, 101, 97, 116, 104, 32, 103, 108, 97, 115, 115, 32, 115, 117, 103, 97, 114, 32, 115, 97, 121, 115, 32]
set_option maxRecDepth 100000 in
def wordsF : Nat → Int32 := (upd (upd (upd (upd (upd (upd (upd (upd (upd (upd (upd (upd (upd (upd (upd (upd (upd (upd (upd (upd (upd (upd (upd (upd (upd (upd (upd (upd (upd (upd (upd (upd (upd (upd (upd (upd (upd (upd (upd (upd (upd (upd (upd (upd (upd (upd (upd (upd (upd (upd (upd (upd (upd (upd (upd (upd (upd (upd (upd (upd (upd (upd (upd (upd (upd (upd (upd (upd (upd (upd (upd (upd (upd (upd (upd (upd (upd (upd (upd (upd (upd (upd (upd (upd (upd (upd (upd (upd (upd (upd (upd (upd (upd (upd (upd (upd (upd (upd (upd (upd (upd (upd (upd (upd (upd (upd (upd (upd (upd (upd (upd (upd (upd (upd (upd (upd (upd (upd (upd (upd (upd (upd (upd (upd (upd (upd (upd (upd (upd (upd (upd (upd (upd (fun _ => 0) 0 32) 1 104) 2 105) 3 99) 4 115) 5 32) 6 115) 7 116) 8 111) 9 112) 10 115) 11 32) 12 112) 13 97) 14 115) 15 115) 16 101) 17 115) 18 32) 19 119) 20 104) 21 101) 22 110) 23 32) 24 111) 25 114) 26 32) 27 97) 28 110) 29 100) 30 32) 31 110) 32 111) 33 116) 34 32) 35 110) 36 101) 37 114) 38 118) 39 101) 40 32) 41 115) 42 116) 43 114) 44 111) 45 110) 46 103) 47 32) 48 116) 49 114) 50 105) 51 101) 52 100) 53 32) 54 110) 55 97) 56 109) 57 101) 58 100) 59 32) 60 102) 61 111) 62 117) 63 110) 64 100) 65 32) 66 102) 67 114) 68 105) 69 103) 70 104) 71 116) 72 115) 73 32) 74 110) 75 101) 76 97) 77 114) 78 32) 79 109) 80 105) 81 110) 82 117) 83 116) 84 101) 85 32) 86 97) 87 116) 88 32) 89 112) 90 101) 91 114) 92 115) 93 111) 94 110) 95 32) 96 110) 97 97) 98 109) 99 101) 100 115) 101 32) 102 102) 103 114) 104 105) 105 103) 106 104) 107 116) 108 32) 109 98) 110 114) 111 101) 112 97) 113 116) 114 104) 115 32) 116 103) 117 108) 118 97) 119 115) 120 115) 121 32) 122 115) 123 117) 124 103) 125 97) 126 114) 127 32) 128 115) 129 97) 130 121) 131 115) 132 32)
def uX12_0 (cA : ClassId × ClassId × ClassId) (B : Nat) : CH := []
theorem uX12_len0 (cA : ClassId × ClassId × ClassId) (B : Nat) : (uX12_0 cA B).length = 0 := rfl
def uX12_1 (cA : ClassId × ClassId × ClassId) (B : Nat) : CH := uX12_0 cA B ++ [.inl (cA.1, 102, .inl (fun _ => 0))]
theorem uX12_len1 (cA : ClassId × ClassId × ClassId) (B : Nat) : (uX12_1 cA B).length = 1 := by
  rw [uX12_1, List.length_append, uX12_len0] <;> rfl
def uX12_2 (cA : ClassId × ClassId × ClassId) (B : Nat) : CH := uX12_1 cA B ++ [.inl (cA.1, 612, .inl (fun _ => 0))]
theorem uX12_len2 (cA : ClassId × ClassId × ClassId) (B : Nat) : (uX12_2 cA B).length = 2 := by
  rw [uX12_2, List.length_append, uX12_len1] <;> rfl
def uX12_3 (cA : ClassId × ClassId × ClassId) (B : Nat) : CH := uX12_2 cA B ++ [.inl (cA.1, 102, .inl (fun _ => 0))]
theorem uX12_len3 (cA : ClassId × ClassId × ClassId) (B : Nat) : (uX12_3 cA B).length = 3 := by
  rw [uX12_3, List.length_append, uX12_len2] <;> rfl
def uX12_4 (cA : ClassId × ClassId × ClassId) (B : Nat) : CH := uX12_3 cA B ++ [.inl (cA.1, 600, .inl (fun _ => 0))]
theorem uX12_len4 (cA : ClassId × ClassId × ClassId) (B : Nat) : (uX12_4 cA B).length = 4 := by
  rw [uX12_4, List.length_append, uX12_len3] <;> rfl
def uX12_5 (cA : ClassId × ClassId × ClassId) (B : Nat) : CH := uX12_4 cA B ++ [.inl (cA.1, 400, .inl (fun _ => 0))]
theorem uX12_len5 (cA : ClassId × ClassId × ClassId) (B : Nat) : (uX12_5 cA B).length = 5 := by
  rw [uX12_5, List.length_append, uX12_len4] <;> rfl
def uX12_6 (cA : ClassId × ClassId × ClassId) (B : Nat) : CH := uX12_5 cA B ++ [.inl (cA.1, 133, .inl wordsF)]
theorem uX12_len6 (cA : ClassId × ClassId × ClassId) (B : Nat) : (uX12_6 cA B).length = 6 := by
  rw [uX12_6, List.length_append, uX12_len5] <;> rfl
def uX12_7 (cA : ClassId × ClassId × ClassId) (B : Nat) : CH := uX12_6 cA B ++ [.inl (cA.1, 2, .inl (fun _ => 0))]
theorem uX12_len7 (cA : ClassId × ClassId × ClassId) (B : Nat) : (uX12_7 cA B).length = 7 := by
  rw [uX12_7, List.length_append, uX12_len6] <;> rfl
def uX12_8 (cA : ClassId × ClassId × ClassId) (B : Nat) : CH := uX12_7 cA B ++ [.inl (cA.1, 48, .inl (fun _ => 0))]
theorem uX12_len8 (cA : ClassId × ClassId × ClassId) (B : Nat) : (uX12_8 cA B).length = 8 := by
  rw [uX12_8, List.length_append, uX12_len7] <;> rfl
def uX12_9 (cA : ClassId × ClassId × ClassId) (B : Nat) : CH := uX12_8 cA B ++ [.inl (cA.1, 48, .inl (fun _ => 0))]
theorem uX12_len9 (cA : ClassId × ClassId × ClassId) (B : Nat) : (uX12_9 cA B).length = 9 := by
  rw [uX12_9, List.length_append, uX12_len8] <;> rfl
def uX12_10 (cA : ClassId × ClassId × ClassId) (B : Nat) : CH := uX12_9 cA B ++ [.inl (cA.1, 48, .inl (fun _ => 0))]
theorem uX12_len10 (cA : ClassId × ClassId × ClassId) (B : Nat) : (uX12_10 cA B).length = 10 := by
  rw [uX12_10, List.length_append, uX12_len9] <;> rfl
def uX12_11 (cA : ClassId × ClassId × ClassId) (B : Nat) : CH := uX12_10 cA B ++ [.inl (cA.1, 48, .inl (fun _ => 0))]
theorem uX12_len11 (cA : ClassId × ClassId × ClassId) (B : Nat) : (uX12_11 cA B).length = 11 := by
  rw [uX12_11, List.length_append, uX12_len10] <;> rfl
def uX12_12 (cA : ClassId × ClassId × ClassId) (B : Nat) : CH := uX12_11 cA B ++ [.inl (cA.1, 1200, .inl (fun _ => 0))]
theorem uX12_len12 (cA : ClassId × ClassId × ClassId) (B : Nat) : (uX12_12 cA B).length = 12 := by
  rw [uX12_12, List.length_append, uX12_len11] <;> rfl
def uX12_13 (cA : ClassId × ClassId × ClassId) (B : Nat) : CH := uX12_12 cA B ++ [.inl (cA.1, 1200, .inl (fun _ => 0))]
theorem uX12_len13 (cA : ClassId × ClassId × ClassId) (B : Nat) : (uX12_13 cA B).length = 13 := by
  rw [uX12_13, List.length_append, uX12_len12] <;> rfl
def uX12_14 (cA : ClassId × ClassId × ClassId) (B : Nat) : CH := uX12_13 cA B ++ [.inl (cA.1, 40, .inl (fun _ => 0))]
theorem uX12_len14 (cA : ClassId × ClassId × ClassId) (B : Nat) : (uX12_14 cA B).length = 14 := by
  rw [uX12_14, List.length_append, uX12_len13] <;> rfl
def uX12_15 (cA : ClassId × ClassId × ClassId) (B : Nat) : CH := uX12_14 cA B ++ [.inl (cA.1, 96, .inl (fun _ => 0))]
theorem uX12_len15 (cA : ClassId × ClassId × ClassId) (B : Nat) : (uX12_15 cA B).length = 15 := by
  rw [uX12_15, List.length_append, uX12_len14] <;> rfl
def uX12_16 (cA : ClassId × ClassId × ClassId) (B : Nat) : CH := uX12_15 cA B ++ [.inl (cA.1, 128, .inl (fun _ => 0))]
theorem uX12_len16 (cA : ClassId × ClassId × ClassId) (B : Nat) : (uX12_16 cA B).length = 16 := by
  rw [uX12_16, List.length_append, uX12_len15] <;> rfl
def uX12_17 (cA : ClassId × ClassId × ClassId) (B : Nat) : CH := uX12_16 cA B ++ [.inl (cA.1, 28, .inl (fun _ => 0))]
theorem uX12_len17 (cA : ClassId × ClassId × ClassId) (B : Nat) : (uX12_17 cA B).length = 17 := by
  rw [uX12_17, List.length_append, uX12_len16] <;> rfl
def uX12_18 (cA : ClassId × ClassId × ClassId) (B : Nat) : CH := uX12_17 cA B ++ [.inl (cA.1, 168, .inl (fun _ => 0))]
theorem uX12_len18 (cA : ClassId × ClassId × ClassId) (B : Nat) : (uX12_18 cA B).length = 18 := by
  rw [uX12_18, List.length_append, uX12_len17] <;> rfl
def uX12_19 (cA : ClassId × ClassId × ClassId) (B : Nat) : CH := uX12_18 cA B ++ [.inl (cA.1, 8, .inl (fun _ => 0))]
theorem uX12_len19 (cA : ClassId × ClassId × ClassId) (B : Nat) : (uX12_19 cA B).length = 19 := by
  rw [uX12_19, List.length_append, uX12_len18] <;> rfl
def uX12_20 (cA : ClassId × ClassId × ClassId) (B : Nat) : CH := uX12_19 cA B ++ [.inl (cA.1, 420, .inl (fun _ => 0))]
theorem uX12_len20 (cA : ClassId × ClassId × ClassId) (B : Nat) : (uX12_20 cA B).length = 20 := by
  rw [uX12_20, List.length_append, uX12_len19] <;> rfl
def uX12_21 (cA : ClassId × ClassId × ClassId) (B : Nat) : CH := uX12_20 cA B ++ [.inl (cA.1, 16, .inl (fun _ => 0))]
theorem uX12_len21 (cA : ClassId × ClassId × ClassId) (B : Nat) : (uX12_21 cA B).length = 21 := by
  rw [uX12_21, List.length_append, uX12_len20] <;> rfl
def uX12_22 (cA : ClassId × ClassId × ClassId) (B : Nat) : CH := uX12_21 cA B ++ [.inl (cA.1, 10, .inl (fun _ => 0))]
theorem uX12_len22 (cA : ClassId × ClassId × ClassId) (B : Nat) : (uX12_22 cA B).length = 22 := by
  rw [uX12_22, List.length_append, uX12_len21] <;> rfl
def uX12_23 (cA : ClassId × ClassId × ClassId) (B : Nat) : CH := uX12_22 cA B ++ [.inl (cA.1, 10, .inl (fun _ => 0))]
theorem uX12_len23 (cA : ClassId × ClassId × ClassId) (B : Nat) : (uX12_23 cA B).length = 23 := by
  rw [uX12_23, List.length_append, uX12_len22] <;> rfl
def uX12_24 (cA : ClassId × ClassId × ClassId) (B : Nat) : CH := uX12_23 cA B ++ [.inl (cA.1, 10, .inl (fun _ => 0))]
theorem uX12_len24 (cA : ClassId × ClassId × ClassId) (B : Nat) : (uX12_24 cA B).length = 24 := by
  rw [uX12_24, List.length_append, uX12_len23] <;> rfl
def uX12_25 (cA : ClassId × ClassId × ClassId) (B : Nat) : CH := uX12_24 cA B ++ [.inl (cA.1, 14, .inl (fun _ => 0))]
theorem uX12_len25 (cA : ClassId × ClassId × ClassId) (B : Nat) : (uX12_25 cA B).length = 25 := by
  rw [uX12_25, List.length_append, uX12_len24] <;> rfl
def uX12_26 (cA : ClassId × ClassId × ClassId) (B : Nat) : CH := uX12_25 cA B ++ [.inl (cA.1, 14, .inl (fun _ => 0))]
theorem uX12_len26 (cA : ClassId × ClassId × ClassId) (B : Nat) : (uX12_26 cA B).length = 26 := by
  rw [uX12_26, List.length_append, uX12_len25] <;> rfl
def uX12_27 (cA : ClassId × ClassId × ClassId) (B : Nat) : CH := uX12_26 cA B ++ [.inl (cA.1, 14, .inl (fun _ => 0))]
theorem uX12_len27 (cA : ClassId × ClassId × ClassId) (B : Nat) : (uX12_27 cA B).length = 27 := by
  rw [uX12_27, List.length_append, uX12_len26] <;> rfl
def uX12_28 (cA : ClassId × ClassId × ClassId) (B : Nat) : CH := uX12_27 cA B ++ [.inl (cA.1, 2, .inl (fun _ => 0))]
theorem uX12_len28 (cA : ClassId × ClassId × ClassId) (B : Nat) : (uX12_28 cA B).length = 28 := by
  rw [uX12_28, List.length_append, uX12_len27] <;> rfl
def uX12_29 (cA : ClassId × ClassId × ClassId) (B : Nat) : CH := uX12_28 cA B ++ [.inl (cA.1, 12, .inl (fun _ => 0))]
theorem uX12_len29 (cA : ClassId × ClassId × ClassId) (B : Nat) : (uX12_29 cA B).length = 29 := by
  rw [uX12_29, List.length_append, uX12_len28] <;> rfl
def uX12_30 (cA : ClassId × ClassId × ClassId) (B : Nat) : CH := uX12_29 cA B ++ [.inl (cA.1, 6, .inl (fun _ => 0))]
theorem uX12_len30 (cA : ClassId × ClassId × ClassId) (B : Nat) : (uX12_30 cA B).length = 30 := by
  rw [uX12_30, List.length_append, uX12_len29] <;> rfl
def uX12_31 (cA : ClassId × ClassId × ClassId) (B : Nat) : CH := uX12_30 cA B ++ [.inl (cA.1, 64, .inl (fun _ => 0))]
theorem uX12_len31 (cA : ClassId × ClassId × ClassId) (B : Nat) : (uX12_31 cA B).length = 31 := by
  rw [uX12_31, List.length_append, uX12_len30] <;> rfl
def uX12_32 (cA : ClassId × ClassId × ClassId) (B : Nat) : CH := uX12_31 cA B ++ [.inl (cA.1, 8, .inl (fun _ => 0))]
theorem uX12_len32 (cA : ClassId × ClassId × ClassId) (B : Nat) : (uX12_32 cA B).length = 32 := by
  rw [uX12_32, List.length_append, uX12_len31] <;> rfl
def uX12_33 (cA : ClassId × ClassId × ClassId) (B : Nat) : CH := uX12_32 cA B ++ [.inl (cA.1, 41, .inl (fun _ => 0))]
theorem uX12_len33 (cA : ClassId × ClassId × ClassId) (B : Nat) : (uX12_33 cA B).length = 33 := by
  rw [uX12_33, List.length_append, uX12_len32] <;> rfl
def uX12_34 (cA : ClassId × ClassId × ClassId) (B : Nat) : CH := uX12_33 cA B ++ [.inl (cA.1, 41, .inl (fun _ => 0))]
theorem uX12_len34 (cA : ClassId × ClassId × ClassId) (B : Nat) : (uX12_34 cA B).length = 34 := by
  rw [uX12_34, List.length_append, uX12_len33] <;> rfl
def uX12_35 (cA : ClassId × ClassId × ClassId) (B : Nat) : CH := uX12_34 cA B ++ [.inl (cA.1, 4, .inl (fun _ => 0))]
theorem uX12_len35 (cA : ClassId × ClassId × ClassId) (B : Nat) : (uX12_35 cA B).length = 35 := by
  rw [uX12_35, List.length_append, uX12_len34] <;> rfl
def uX12_36 (cA : ClassId × ClassId × ClassId) (B : Nat) : CH := uX12_35 cA B ++ [.inl (cA.1, 2400, .inl (fun _ => 0))]
theorem uX12_len36 (cA : ClassId × ClassId × ClassId) (B : Nat) : (uX12_36 cA B).length = 36 := by
  rw [uX12_36, List.length_append, uX12_len35] <;> rfl
def e_RX12 (B : Nat) : va_E := .inr (11, [.int 0, .ref (B + 0), .ref (B + 1), .int 0, .ref (B + 2), .int 0, .int 0, .ref (B + 3), .ref (B + 4), .int 0, .int 0, .int 0, .int 0, .int 0, .ref (B + 5), .ref (B + 6), .ref (B + 7), .ref (B + 8), .ref (B + 9), .ref (B + 10), .ref (B + 11), .ref (B + 12), .int 0, .int 0, .int 0, .ref (B + 13), .int 0, .int 0, .int 0, .int 0, .int (-1), .int 0, .ref (B + 14), .int 0, .ref (B + 15), .int 0, .ref (B + 16), .ref (B + 17), .ref (B + 18), .ref (B + 19), .int 0, .ref (B + 20), .int 0, .ref (B + 21), .ref (B + 22), .ref (B + 23), .int 0, .ref (B + 24), .ref (B + 25), .ref (B + 26), .ref (B + 27), .ref (B + 28), .int 0, .ref (B + 29), .ref (B + 30), .int 0, .ref (B + 31), .ref (B + 32), .ref (B + 33), .int 0, .ref (B + 34), .int 0, .int 0, .int 0, .ref (B + 35)])
def t_RX12 (cA : ClassId × ClassId × ClassId) (B : Nat) : CH := uX12_36 cA B
theorem tl_RX12 {cA : ClassId × ClassId × ClassId} {B : Nat} : (t_RX12 cA B).length = 36 := uX12_len36 cA B
theorem dX12_init_0 : decode cX12_init 0 = .ok (.aload_n 0, 1) := by decide +kernel
theorem dX12_init_1 : decode cX12_init 1 = .ok (.invokespecial 1, 3) := by decide +kernel
theorem dX12_init_4 : decode cX12_init 4 = .ok (.aload_n 0, 1) := by decide +kernel
theorem dX12_init_5 : decode cX12_init 5 = .ok (.bipush 102, 2) := by decide +kernel
theorem dX12_init_7 : decode cX12_init 7 = .ok (.newarray .int, 2) := by decide +kernel
theorem dX12_init_9 : decode cX12_init 9 = .ok (.putfield 7, 3) := by decide +kernel
theorem dX12_init_12 : decode cX12_init 12 = .ok (.aload_n 0, 1) := by decide +kernel
theorem dX12_init_13 : decode cX12_init 13 = .ok (.sipush 612, 3) := by decide +kernel
theorem dX12_init_16 : decode cX12_init 16 = .ok (.newarray .int, 2) := by decide +kernel
theorem dX12_init_18 : decode cX12_init 18 = .ok (.putfield 13, 3) := by decide +kernel
theorem dX12_init_21 : decode cX12_init 21 = .ok (.aload_n 0, 1) := by decide +kernel
theorem dX12_init_22 : decode cX12_init 22 = .ok (.bipush 102, 2) := by decide +kernel
theorem dX12_init_24 : decode cX12_init 24 = .ok (.newarray .int, 2) := by decide +kernel
theorem dX12_init_26 : decode cX12_init 26 = .ok (.putfield 16, 3) := by decide +kernel
theorem dX12_init_29 : decode cX12_init 29 = .ok (.aload_n 0, 1) := by decide +kernel
theorem dX12_init_30 : decode cX12_init 30 = .ok (.sipush 600, 3) := by decide +kernel
theorem dX12_init_33 : decode cX12_init 33 = .ok (.newarray .int, 2) := by decide +kernel
theorem dX12_init_35 : decode cX12_init 35 = .ok (.putfield 19, 3) := by decide +kernel
theorem dX12_init_38 : decode cX12_init 38 = .ok (.aload_n 0, 1) := by decide +kernel
theorem dX12_init_39 : decode cX12_init 39 = .ok (.sipush 400, 3) := by decide +kernel
theorem dX12_init_42 : decode cX12_init 42 = .ok (.newarray .int, 2) := by decide +kernel
theorem dX12_init_44 : decode cX12_init 44 = .ok (.putfield 22, 3) := by decide +kernel
theorem dX12_init_47 : decode cX12_init 47 = .ok (.aload_n 0, 1) := by decide +kernel
theorem dX12_init_48 : decode cX12_init 48 = .ok (.sipush 133, 3) := by decide +kernel
theorem dX12_init_51 : decode cX12_init 51 = .ok (.newarray .int, 2) := by decide +kernel
theorem dX12_init_53 : decode cX12_init 53 = .ok (.dup, 1) := by decide +kernel
theorem dX12_init_54 : decode cX12_init 54 = .ok (.iconst 0, 1) := by decide +kernel
theorem dX12_init_55 : decode cX12_init 55 = .ok (.bipush 32, 2) := by decide +kernel
theorem dX12_init_57 : decode cX12_init 57 = .ok (.iastore, 1) := by decide +kernel
theorem dX12_init_58 : decode cX12_init 58 = .ok (.dup, 1) := by decide +kernel
theorem dX12_init_59 : decode cX12_init 59 = .ok (.iconst 1, 1) := by decide +kernel
theorem dX12_init_60 : decode cX12_init 60 = .ok (.bipush 104, 2) := by decide +kernel
theorem dX12_init_62 : decode cX12_init 62 = .ok (.iastore, 1) := by decide +kernel
theorem dX12_init_63 : decode cX12_init 63 = .ok (.dup, 1) := by decide +kernel
theorem dX12_init_64 : decode cX12_init 64 = .ok (.iconst 2, 1) := by decide +kernel
theorem dX12_init_65 : decode cX12_init 65 = .ok (.bipush 105, 2) := by decide +kernel
theorem dX12_init_67 : decode cX12_init 67 = .ok (.iastore, 1) := by decide +kernel
theorem dX12_init_68 : decode cX12_init 68 = .ok (.dup, 1) := by decide +kernel
theorem dX12_init_69 : decode cX12_init 69 = .ok (.iconst 3, 1) := by decide +kernel
theorem dX12_init_70 : decode cX12_init 70 = .ok (.bipush 99, 2) := by decide +kernel
theorem dX12_init_72 : decode cX12_init 72 = .ok (.iastore, 1) := by decide +kernel
theorem dX12_init_73 : decode cX12_init 73 = .ok (.dup, 1) := by decide +kernel
theorem dX12_init_74 : decode cX12_init 74 = .ok (.iconst 4, 1) := by decide +kernel
theorem dX12_init_75 : decode cX12_init 75 = .ok (.bipush 115, 2) := by decide +kernel
theorem dX12_init_77 : decode cX12_init 77 = .ok (.iastore, 1) := by decide +kernel
theorem dX12_init_78 : decode cX12_init 78 = .ok (.dup, 1) := by decide +kernel
theorem dX12_init_79 : decode cX12_init 79 = .ok (.iconst 5, 1) := by decide +kernel
theorem dX12_init_80 : decode cX12_init 80 = .ok (.bipush 32, 2) := by decide +kernel
theorem dX12_init_82 : decode cX12_init 82 = .ok (.iastore, 1) := by decide +kernel
theorem dX12_init_83 : decode cX12_init 83 = .ok (.dup, 1) := by decide +kernel
theorem dX12_init_84 : decode cX12_init 84 = .ok (.bipush 6, 2) := by decide +kernel
theorem dX12_init_86 : decode cX12_init 86 = .ok (.bipush 115, 2) := by decide +kernel
theorem dX12_init_88 : decode cX12_init 88 = .ok (.iastore, 1) := by decide +kernel
theorem dX12_init_89 : decode cX12_init 89 = .ok (.dup, 1) := by decide +kernel
theorem dX12_init_90 : decode cX12_init 90 = .ok (.bipush 7, 2) := by decide +kernel
theorem dX12_init_92 : decode cX12_init 92 = .ok (.bipush 116, 2) := by decide +kernel
theorem dX12_init_94 : decode cX12_init 94 = .ok (.iastore, 1) := by decide +kernel
theorem dX12_init_95 : decode cX12_init 95 = .ok (.dup, 1) := by decide +kernel
theorem dX12_init_96 : decode cX12_init 96 = .ok (.bipush 8, 2) := by decide +kernel
theorem dX12_init_98 : decode cX12_init 98 = .ok (.bipush 111, 2) := by decide +kernel
theorem dX12_init_100 : decode cX12_init 100 = .ok (.iastore, 1) := by decide +kernel
theorem dX12_init_101 : decode cX12_init 101 = .ok (.dup, 1) := by decide +kernel
theorem dX12_init_102 : decode cX12_init 102 = .ok (.bipush 9, 2) := by decide +kernel
theorem dX12_init_104 : decode cX12_init 104 = .ok (.bipush 112, 2) := by decide +kernel
theorem dX12_init_106 : decode cX12_init 106 = .ok (.iastore, 1) := by decide +kernel
theorem dX12_init_107 : decode cX12_init 107 = .ok (.dup, 1) := by decide +kernel
theorem dX12_init_108 : decode cX12_init 108 = .ok (.bipush 10, 2) := by decide +kernel
theorem dX12_init_110 : decode cX12_init 110 = .ok (.bipush 115, 2) := by decide +kernel
theorem dX12_init_112 : decode cX12_init 112 = .ok (.iastore, 1) := by decide +kernel
theorem dX12_init_113 : decode cX12_init 113 = .ok (.dup, 1) := by decide +kernel
theorem dX12_init_114 : decode cX12_init 114 = .ok (.bipush 11, 2) := by decide +kernel
theorem dX12_init_116 : decode cX12_init 116 = .ok (.bipush 32, 2) := by decide +kernel
theorem dX12_init_118 : decode cX12_init 118 = .ok (.iastore, 1) := by decide +kernel
theorem dX12_init_119 : decode cX12_init 119 = .ok (.dup, 1) := by decide +kernel
theorem dX12_init_120 : decode cX12_init 120 = .ok (.bipush 12, 2) := by decide +kernel
theorem dX12_init_122 : decode cX12_init 122 = .ok (.bipush 112, 2) := by decide +kernel
theorem dX12_init_124 : decode cX12_init 124 = .ok (.iastore, 1) := by decide +kernel
theorem dX12_init_125 : decode cX12_init 125 = .ok (.dup, 1) := by decide +kernel
theorem dX12_init_126 : decode cX12_init 126 = .ok (.bipush 13, 2) := by decide +kernel
theorem dX12_init_128 : decode cX12_init 128 = .ok (.bipush 97, 2) := by decide +kernel
theorem dX12_init_130 : decode cX12_init 130 = .ok (.iastore, 1) := by decide +kernel
theorem dX12_init_131 : decode cX12_init 131 = .ok (.dup, 1) := by decide +kernel
theorem dX12_init_132 : decode cX12_init 132 = .ok (.bipush 14, 2) := by decide +kernel
theorem dX12_init_134 : decode cX12_init 134 = .ok (.bipush 115, 2) := by decide +kernel
theorem dX12_init_136 : decode cX12_init 136 = .ok (.iastore, 1) := by decide +kernel
theorem dX12_init_137 : decode cX12_init 137 = .ok (.dup, 1) := by decide +kernel
theorem dX12_init_138 : decode cX12_init 138 = .ok (.bipush 15, 2) := by decide +kernel
theorem dX12_init_140 : decode cX12_init 140 = .ok (.bipush 115, 2) := by decide +kernel
theorem dX12_init_142 : decode cX12_init 142 = .ok (.iastore, 1) := by decide +kernel
theorem dX12_init_143 : decode cX12_init 143 = .ok (.dup, 1) := by decide +kernel
theorem dX12_init_144 : decode cX12_init 144 = .ok (.bipush 16, 2) := by decide +kernel
theorem dX12_init_146 : decode cX12_init 146 = .ok (.bipush 101, 2) := by decide +kernel
theorem dX12_init_148 : decode cX12_init 148 = .ok (.iastore, 1) := by decide +kernel
theorem dX12_init_149 : decode cX12_init 149 = .ok (.dup, 1) := by decide +kernel
theorem dX12_init_150 : decode cX12_init 150 = .ok (.bipush 17, 2) := by decide +kernel
theorem dX12_init_152 : decode cX12_init 152 = .ok (.bipush 115, 2) := by decide +kernel
theorem dX12_init_154 : decode cX12_init 154 = .ok (.iastore, 1) := by decide +kernel
theorem dX12_init_155 : decode cX12_init 155 = .ok (.dup, 1) := by decide +kernel
theorem dX12_init_156 : decode cX12_init 156 = .ok (.bipush 18, 2) := by decide +kernel
theorem dX12_init_158 : decode cX12_init 158 = .ok (.bipush 32, 2) := by decide +kernel
theorem dX12_init_160 : decode cX12_init 160 = .ok (.iastore, 1) := by decide +kernel
theorem dX12_init_161 : decode cX12_init 161 = .ok (.dup, 1) := by decide +kernel
theorem dX12_init_162 : decode cX12_init 162 = .ok (.bipush 19, 2) := by decide +kernel
theorem dX12_init_164 : decode cX12_init 164 = .ok (.bipush 119, 2) := by decide +kernel
theorem dX12_init_166 : decode cX12_init 166 = .ok (.iastore, 1) := by decide +kernel
theorem dX12_init_167 : decode cX12_init 167 = .ok (.dup, 1) := by decide +kernel
theorem dX12_init_168 : decode cX12_init 168 = .ok (.bipush 20, 2) := by decide +kernel
theorem dX12_init_170 : decode cX12_init 170 = .ok (.bipush 104, 2) := by decide +kernel
theorem dX12_init_172 : decode cX12_init 172 = .ok (.iastore, 1) := by decide +kernel
theorem dX12_init_173 : decode cX12_init 173 = .ok (.dup, 1) := by decide +kernel
theorem dX12_init_174 : decode cX12_init 174 = .ok (.bipush 21, 2) := by decide +kernel
theorem dX12_init_176 : decode cX12_init 176 = .ok (.bipush 101, 2) := by decide +kernel
theorem dX12_init_178 : decode cX12_init 178 = .ok (.iastore, 1) := by decide +kernel
theorem dX12_init_179 : decode cX12_init 179 = .ok (.dup, 1) := by decide +kernel
theorem dX12_init_180 : decode cX12_init 180 = .ok (.bipush 22, 2) := by decide +kernel
theorem dX12_init_182 : decode cX12_init 182 = .ok (.bipush 110, 2) := by decide +kernel
theorem dX12_init_184 : decode cX12_init 184 = .ok (.iastore, 1) := by decide +kernel
theorem dX12_init_185 : decode cX12_init 185 = .ok (.dup, 1) := by decide +kernel
theorem dX12_init_186 : decode cX12_init 186 = .ok (.bipush 23, 2) := by decide +kernel
theorem dX12_init_188 : decode cX12_init 188 = .ok (.bipush 32, 2) := by decide +kernel
theorem dX12_init_190 : decode cX12_init 190 = .ok (.iastore, 1) := by decide +kernel
theorem dX12_init_191 : decode cX12_init 191 = .ok (.dup, 1) := by decide +kernel
theorem dX12_init_192 : decode cX12_init 192 = .ok (.bipush 24, 2) := by decide +kernel
theorem dX12_init_194 : decode cX12_init 194 = .ok (.bipush 111, 2) := by decide +kernel
theorem dX12_init_196 : decode cX12_init 196 = .ok (.iastore, 1) := by decide +kernel
theorem dX12_init_197 : decode cX12_init 197 = .ok (.dup, 1) := by decide +kernel
theorem dX12_init_198 : decode cX12_init 198 = .ok (.bipush 25, 2) := by decide +kernel
theorem dX12_init_200 : decode cX12_init 200 = .ok (.bipush 114, 2) := by decide +kernel
theorem dX12_init_202 : decode cX12_init 202 = .ok (.iastore, 1) := by decide +kernel
theorem dX12_init_203 : decode cX12_init 203 = .ok (.dup, 1) := by decide +kernel
theorem dX12_init_204 : decode cX12_init 204 = .ok (.bipush 26, 2) := by decide +kernel
theorem dX12_init_206 : decode cX12_init 206 = .ok (.bipush 32, 2) := by decide +kernel
theorem dX12_init_208 : decode cX12_init 208 = .ok (.iastore, 1) := by decide +kernel
theorem dX12_init_209 : decode cX12_init 209 = .ok (.dup, 1) := by decide +kernel
theorem dX12_init_210 : decode cX12_init 210 = .ok (.bipush 27, 2) := by decide +kernel
theorem dX12_init_212 : decode cX12_init 212 = .ok (.bipush 97, 2) := by decide +kernel
theorem dX12_init_214 : decode cX12_init 214 = .ok (.iastore, 1) := by decide +kernel
theorem dX12_init_215 : decode cX12_init 215 = .ok (.dup, 1) := by decide +kernel
theorem dX12_init_216 : decode cX12_init 216 = .ok (.bipush 28, 2) := by decide +kernel
theorem dX12_init_218 : decode cX12_init 218 = .ok (.bipush 110, 2) := by decide +kernel
theorem dX12_init_220 : decode cX12_init 220 = .ok (.iastore, 1) := by decide +kernel
theorem dX12_init_221 : decode cX12_init 221 = .ok (.dup, 1) := by decide +kernel
theorem dX12_init_222 : decode cX12_init 222 = .ok (.bipush 29, 2) := by decide +kernel
theorem dX12_init_224 : decode cX12_init 224 = .ok (.bipush 100, 2) := by decide +kernel
theorem dX12_init_226 : decode cX12_init 226 = .ok (.iastore, 1) := by decide +kernel
theorem dX12_init_227 : decode cX12_init 227 = .ok (.dup, 1) := by decide +kernel
theorem dX12_init_228 : decode cX12_init 228 = .ok (.bipush 30, 2) := by decide +kernel
theorem dX12_init_230 : decode cX12_init 230 = .ok (.bipush 32, 2) := by decide +kernel
theorem dX12_init_232 : decode cX12_init 232 = .ok (.iastore, 1) := by decide +kernel
theorem dX12_init_233 : decode cX12_init 233 = .ok (.dup, 1) := by decide +kernel
theorem dX12_init_234 : decode cX12_init 234 = .ok (.bipush 31, 2) := by decide +kernel
theorem dX12_init_236 : decode cX12_init 236 = .ok (.bipush 110, 2) := by decide +kernel
theorem dX12_init_238 : decode cX12_init 238 = .ok (.iastore, 1) := by decide +kernel
theorem dX12_init_239 : decode cX12_init 239 = .ok (.dup, 1) := by decide +kernel
theorem dX12_init_240 : decode cX12_init 240 = .ok (.bipush 32, 2) := by decide +kernel
theorem dX12_init_242 : decode cX12_init 242 = .ok (.bipush 111, 2) := by decide +kernel
theorem dX12_init_244 : decode cX12_init 244 = .ok (.iastore, 1) := by decide +kernel
theorem dX12_init_245 : decode cX12_init 245 = .ok (.dup, 1) := by decide +kernel
theorem dX12_init_246 : decode cX12_init 246 = .ok (.bipush 33, 2) := by decide +kernel
theorem dX12_init_248 : decode cX12_init 248 = .ok (.bipush 116, 2) := by decide +kernel
theorem dX12_init_250 : decode cX12_init 250 = .ok (.iastore, 1) := by decide +kernel
theorem dX12_init_251 : decode cX12_init 251 = .ok (.dup, 1) := by decide +kernel
theorem dX12_init_252 : decode cX12_init 252 = .ok (.bipush 34, 2) := by decide +kernel
theorem dX12_init_254 : decode cX12_init 254 = .ok (.bipush 32, 2) := by decide +kernel
theorem dX12_init_256 : decode cX12_init 256 = .ok (.iastore, 1) := by decide +kernel
theorem dX12_init_257 : decode cX12_init 257 = .ok (.dup, 1) := by decide +kernel
theorem dX12_init_258 : decode cX12_init 258 = .ok (.bipush 35, 2) := by decide +kernel
theorem dX12_init_260 : decode cX12_init 260 = .ok (.bipush 110, 2) := by decide +kernel
theorem dX12_init_262 : decode cX12_init 262 = .ok (.iastore, 1) := by decide +kernel
theorem dX12_init_263 : decode cX12_init 263 = .ok (.dup, 1) := by decide +kernel
theorem dX12_init_264 : decode cX12_init 264 = .ok (.bipush 36, 2) := by decide +kernel
theorem dX12_init_266 : decode cX12_init 266 = .ok (.bipush 101, 2) := by decide +kernel
theorem dX12_init_268 : decode cX12_init 268 = .ok (.iastore, 1) := by decide +kernel
theorem dX12_init_269 : decode cX12_init 269 = .ok (.dup, 1) := by decide +kernel
theorem dX12_init_270 : decode cX12_init 270 = .ok (.bipush 37, 2) := by decide +kernel
theorem dX12_init_272 : decode cX12_init 272 = .ok (.bipush 114, 2) := by decide +kernel
theorem dX12_init_274 : decode cX12_init 274 = .ok (.iastore, 1) := by decide +kernel
theorem dX12_init_275 : decode cX12_init 275 = .ok (.dup, 1) := by decide +kernel
theorem dX12_init_276 : decode cX12_init 276 = .ok (.bipush 38, 2) := by decide +kernel
theorem dX12_init_278 : decode cX12_init 278 = .ok (.bipush 118, 2) := by decide +kernel
theorem dX12_init_280 : decode cX12_init 280 = .ok (.iastore, 1) := by decide +kernel
theorem dX12_init_281 : decode cX12_init 281 = .ok (.dup, 1) := by decide +kernel
theorem dX12_init_282 : decode cX12_init 282 = .ok (.bipush 39, 2) := by decide +kernel
theorem dX12_init_284 : decode cX12_init 284 = .ok (.bipush 101, 2) := by decide +kernel
theorem dX12_init_286 : decode cX12_init 286 = .ok (.iastore, 1) := by decide +kernel
theorem dX12_init_287 : decode cX12_init 287 = .ok (.dup, 1) := by decide +kernel
theorem dX12_init_288 : decode cX12_init 288 = .ok (.bipush 40, 2) := by decide +kernel
theorem dX12_init_290 : decode cX12_init 290 = .ok (.bipush 32, 2) := by decide +kernel
theorem dX12_init_292 : decode cX12_init 292 = .ok (.iastore, 1) := by decide +kernel
theorem dX12_init_293 : decode cX12_init 293 = .ok (.dup, 1) := by decide +kernel
theorem dX12_init_294 : decode cX12_init 294 = .ok (.bipush 41, 2) := by decide +kernel
theorem dX12_init_296 : decode cX12_init 296 = .ok (.bipush 115, 2) := by decide +kernel
theorem dX12_init_298 : decode cX12_init 298 = .ok (.iastore, 1) := by decide +kernel
theorem dX12_init_299 : decode cX12_init 299 = .ok (.dup, 1) := by decide +kernel
theorem dX12_init_300 : decode cX12_init 300 = .ok (.bipush 42, 2) := by decide +kernel
theorem dX12_init_302 : decode cX12_init 302 = .ok (.bipush 116, 2) := by decide +kernel
theorem dX12_init_304 : decode cX12_init 304 = .ok (.iastore, 1) := by decide +kernel
theorem dX12_init_305 : decode cX12_init 305 = .ok (.dup, 1) := by decide +kernel
theorem dX12_init_306 : decode cX12_init 306 = .ok (.bipush 43, 2) := by decide +kernel
theorem dX12_init_308 : decode cX12_init 308 = .ok (.bipush 114, 2) := by decide +kernel
theorem dX12_init_310 : decode cX12_init 310 = .ok (.iastore, 1) := by decide +kernel
theorem dX12_init_311 : decode cX12_init 311 = .ok (.dup, 1) := by decide +kernel
theorem dX12_init_312 : decode cX12_init 312 = .ok (.bipush 44, 2) := by decide +kernel
theorem dX12_init_314 : decode cX12_init 314 = .ok (.bipush 111, 2) := by decide +kernel
theorem dX12_init_316 : decode cX12_init 316 = .ok (.iastore, 1) := by decide +kernel
theorem dX12_init_317 : decode cX12_init 317 = .ok (.dup, 1) := by decide +kernel
theorem dX12_init_318 : decode cX12_init 318 = .ok (.bipush 45, 2) := by decide +kernel
theorem dX12_init_320 : decode cX12_init 320 = .ok (.bipush 110, 2) := by decide +kernel
theorem dX12_init_322 : decode cX12_init 322 = .ok (.iastore, 1) := by decide +kernel
theorem dX12_init_323 : decode cX12_init 323 = .ok (.dup, 1) := by decide +kernel
theorem dX12_init_324 : decode cX12_init 324 = .ok (.bipush 46, 2) := by decide +kernel
theorem dX12_init_326 : decode cX12_init 326 = .ok (.bipush 103, 2) := by decide +kernel
theorem dX12_init_328 : decode cX12_init 328 = .ok (.iastore, 1) := by decide +kernel
theorem dX12_init_329 : decode cX12_init 329 = .ok (.dup, 1) := by decide +kernel
theorem dX12_init_330 : decode cX12_init 330 = .ok (.bipush 47, 2) := by decide +kernel
theorem dX12_init_332 : decode cX12_init 332 = .ok (.bipush 32, 2) := by decide +kernel
theorem dX12_init_334 : decode cX12_init 334 = .ok (.iastore, 1) := by decide +kernel
theorem dX12_init_335 : decode cX12_init 335 = .ok (.dup, 1) := by decide +kernel
theorem dX12_init_336 : decode cX12_init 336 = .ok (.bipush 48, 2) := by decide +kernel
theorem dX12_init_338 : decode cX12_init 338 = .ok (.bipush 116, 2) := by decide +kernel
theorem dX12_init_340 : decode cX12_init 340 = .ok (.iastore, 1) := by decide +kernel
theorem dX12_init_341 : decode cX12_init 341 = .ok (.dup, 1) := by decide +kernel
theorem dX12_init_342 : decode cX12_init 342 = .ok (.bipush 49, 2) := by decide +kernel
theorem dX12_init_344 : decode cX12_init 344 = .ok (.bipush 114, 2) := by decide +kernel
theorem dX12_init_346 : decode cX12_init 346 = .ok (.iastore, 1) := by decide +kernel
theorem dX12_init_347 : decode cX12_init 347 = .ok (.dup, 1) := by decide +kernel
theorem dX12_init_348 : decode cX12_init 348 = .ok (.bipush 50, 2) := by decide +kernel
theorem dX12_init_350 : decode cX12_init 350 = .ok (.bipush 105, 2) := by decide +kernel
theorem dX12_init_352 : decode cX12_init 352 = .ok (.iastore, 1) := by decide +kernel
theorem dX12_init_353 : decode cX12_init 353 = .ok (.dup, 1) := by decide +kernel
theorem dX12_init_354 : decode cX12_init 354 = .ok (.bipush 51, 2) := by decide +kernel
theorem dX12_init_356 : decode cX12_init 356 = .ok (.bipush 101, 2) := by decide +kernel
theorem dX12_init_358 : decode cX12_init 358 = .ok (.iastore, 1) := by decide +kernel
theorem dX12_init_359 : decode cX12_init 359 = .ok (.dup, 1) := by decide +kernel
theorem dX12_init_360 : decode cX12_init 360 = .ok (.bipush 52, 2) := by decide +kernel
theorem dX12_init_362 : decode cX12_init 362 = .ok (.bipush 100, 2) := by decide +kernel
theorem dX12_init_364 : decode cX12_init 364 = .ok (.iastore, 1) := by decide +kernel
theorem dX12_init_365 : decode cX12_init 365 = .ok (.dup, 1) := by decide +kernel
theorem dX12_init_366 : decode cX12_init 366 = .ok (.bipush 53, 2) := by decide +kernel
theorem dX12_init_368 : decode cX12_init 368 = .ok (.bipush 32, 2) := by decide +kernel
theorem dX12_init_370 : decode cX12_init 370 = .ok (.iastore, 1) := by decide +kernel
theorem dX12_init_371 : decode cX12_init 371 = .ok (.dup, 1) := by decide +kernel
theorem dX12_init_372 : decode cX12_init 372 = .ok (.bipush 54, 2) := by decide +kernel
theorem dX12_init_374 : decode cX12_init 374 = .ok (.bipush 110, 2) := by decide +kernel
theorem dX12_init_376 : decode cX12_init 376 = .ok (.iastore, 1) := by decide +kernel
theorem dX12_init_377 : decode cX12_init 377 = .ok (.dup, 1) := by decide +kernel
theorem dX12_init_378 : decode cX12_init 378 = .ok (.bipush 55, 2) := by decide +kernel
theorem dX12_init_380 : decode cX12_init 380 = .ok (.bipush 97, 2) := by decide +kernel
theorem dX12_init_382 : decode cX12_init 382 = .ok (.iastore, 1) := by decide +kernel
theorem dX12_init_383 : decode cX12_init 383 = .ok (.dup, 1) := by decide +kernel
theorem dX12_init_384 : decode cX12_init 384 = .ok (.bipush 56, 2) := by decide +kernel
theorem dX12_init_386 : decode cX12_init 386 = .ok (.bipush 109, 2) := by decide +kernel
theorem dX12_init_388 : decode cX12_init 388 = .ok (.iastore, 1) := by decide +kernel
theorem dX12_init_389 : decode cX12_init 389 = .ok (.dup, 1) := by decide +kernel
theorem dX12_init_390 : decode cX12_init 390 = .ok (.bipush 57, 2) := by decide +kernel
theorem dX12_init_392 : decode cX12_init 392 = .ok (.bipush 101, 2) := by decide +kernel
theorem dX12_init_394 : decode cX12_init 394 = .ok (.iastore, 1) := by decide +kernel
theorem dX12_init_395 : decode cX12_init 395 = .ok (.dup, 1) := by decide +kernel
theorem dX12_init_396 : decode cX12_init 396 = .ok (.bipush 58, 2) := by decide +kernel
theorem dX12_init_398 : decode cX12_init 398 = .ok (.bipush 100, 2) := by decide +kernel
theorem dX12_init_400 : decode cX12_init 400 = .ok (.iastore, 1) := by decide +kernel
theorem dX12_init_401 : decode cX12_init 401 = .ok (.dup, 1) := by decide +kernel
theorem dX12_init_402 : decode cX12_init 402 = .ok (.bipush 59, 2) := by decide +kernel
theorem dX12_init_404 : decode cX12_init 404 = .ok (.bipush 32, 2) := by decide +kernel
theorem dX12_init_406 : decode cX12_init 406 = .ok (.iastore, 1) := by decide +kernel
theorem dX12_init_407 : decode cX12_init 407 = .ok (.dup, 1) := by decide +kernel
theorem dX12_init_408 : decode cX12_init 408 = .ok (.bipush 60, 2) := by decide +kernel
theorem dX12_init_410 : decode cX12_init 410 = .ok (.bipush 102, 2) := by decide +kernel
theorem dX12_init_412 : decode cX12_init 412 = .ok (.iastore, 1) := by decide +kernel
theorem dX12_init_413 : decode cX12_init 413 = .ok (.dup, 1) := by decide +kernel
theorem dX12_init_414 : decode cX12_init 414 = .ok (.bipush 61, 2) := by decide +kernel
theorem dX12_init_416 : decode cX12_init 416 = .ok (.bipush 111, 2) := by decide +kernel
theorem dX12_init_418 : decode cX12_init 418 = .ok (.iastore, 1) := by decide +kernel
theorem dX12_init_419 : decode cX12_init 419 = .ok (.dup, 1) := by decide +kernel
theorem dX12_init_420 : decode cX12_init 420 = .ok (.bipush 62, 2) := by decide +kernel
theorem dX12_init_422 : decode cX12_init 422 = .ok (.bipush 117, 2) := by decide +kernel
theorem dX12_init_424 : decode cX12_init 424 = .ok (.iastore, 1) := by decide +kernel
theorem dX12_init_425 : decode cX12_init 425 = .ok (.dup, 1) := by decide +kernel
theorem dX12_init_426 : decode cX12_init 426 = .ok (.bipush 63, 2) := by decide +kernel
theorem dX12_init_428 : decode cX12_init 428 = .ok (.bipush 110, 2) := by decide +kernel
theorem dX12_init_430 : decode cX12_init 430 = .ok (.iastore, 1) := by decide +kernel
theorem dX12_init_431 : decode cX12_init 431 = .ok (.dup, 1) := by decide +kernel
theorem dX12_init_432 : decode cX12_init 432 = .ok (.bipush 64, 2) := by decide +kernel
theorem dX12_init_434 : decode cX12_init 434 = .ok (.bipush 100, 2) := by decide +kernel
theorem dX12_init_436 : decode cX12_init 436 = .ok (.iastore, 1) := by decide +kernel
theorem dX12_init_437 : decode cX12_init 437 = .ok (.dup, 1) := by decide +kernel
theorem dX12_init_438 : decode cX12_init 438 = .ok (.bipush 65, 2) := by decide +kernel
theorem dX12_init_440 : decode cX12_init 440 = .ok (.bipush 32, 2) := by decide +kernel
theorem dX12_init_442 : decode cX12_init 442 = .ok (.iastore, 1) := by decide +kernel
theorem dX12_init_443 : decode cX12_init 443 = .ok (.dup, 1) := by decide +kernel
theorem dX12_init_444 : decode cX12_init 444 = .ok (.bipush 66, 2) := by decide +kernel
theorem dX12_init_446 : decode cX12_init 446 = .ok (.bipush 102, 2) := by decide +kernel
theorem dX12_init_448 : decode cX12_init 448 = .ok (.iastore, 1) := by decide +kernel
theorem dX12_init_449 : decode cX12_init 449 = .ok (.dup, 1) := by decide +kernel
theorem dX12_init_450 : decode cX12_init 450 = .ok (.bipush 67, 2) := by decide +kernel
theorem dX12_init_452 : decode cX12_init 452 = .ok (.bipush 114, 2) := by decide +kernel
theorem dX12_init_454 : decode cX12_init 454 = .ok (.iastore, 1) := by decide +kernel
theorem dX12_init_455 : decode cX12_init 455 = .ok (.dup, 1) := by decide +kernel
theorem dX12_init_456 : decode cX12_init 456 = .ok (.bipush 68, 2) := by decide +kernel
theorem dX12_init_458 : decode cX12_init 458 = .ok (.bipush 105, 2) := by decide +kernel
theorem dX12_init_460 : decode cX12_init 460 = .ok (.iastore, 1) := by decide +kernel
theorem dX12_init_461 : decode cX12_init 461 = .ok (.dup, 1) := by decide +kernel
theorem dX12_init_462 : decode cX12_init 462 = .ok (.bipush 69, 2) := by decide +kernel
theorem dX12_init_464 : decode cX12_init 464 = .ok (.bipush 103, 2) := by decide +kernel
theorem dX12_init_466 : decode cX12_init 466 = .ok (.iastore, 1) := by decide +kernel
theorem dX12_init_467 : decode cX12_init 467 = .ok (.dup, 1) := by decide +kernel
theorem dX12_init_468 : decode cX12_init 468 = .ok (.bipush 70, 2) := by decide +kernel
theorem dX12_init_470 : decode cX12_init 470 = .ok (.bipush 104, 2) := by decide +kernel
theorem dX12_init_472 : decode cX12_init 472 = .ok (.iastore, 1) := by decide +kernel
theorem dX12_init_473 : decode cX12_init 473 = .ok (.dup, 1) := by decide +kernel
theorem dX12_init_474 : decode cX12_init 474 = .ok (.bipush 71, 2) := by decide +kernel
theorem dX12_init_476 : decode cX12_init 476 = .ok (.bipush 116, 2) := by decide +kernel
theorem dX12_init_478 : decode cX12_init 478 = .ok (.iastore, 1) := by decide +kernel
theorem dX12_init_479 : decode cX12_init 479 = .ok (.dup, 1) := by decide +kernel
theorem dX12_init_480 : decode cX12_init 480 = .ok (.bipush 72, 2) := by decide +kernel
theorem dX12_init_482 : decode cX12_init 482 = .ok (.bipush 115, 2) := by decide +kernel
theorem dX12_init_484 : decode cX12_init 484 = .ok (.iastore, 1) := by decide +kernel
theorem dX12_init_485 : decode cX12_init 485 = .ok (.dup, 1) := by decide +kernel
theorem dX12_init_486 : decode cX12_init 486 = .ok (.bipush 73, 2) := by decide +kernel
theorem dX12_init_488 : decode cX12_init 488 = .ok (.bipush 32, 2) := by decide +kernel
theorem dX12_init_490 : decode cX12_init 490 = .ok (.iastore, 1) := by decide +kernel
theorem dX12_init_491 : decode cX12_init 491 = .ok (.dup, 1) := by decide +kernel
theorem dX12_init_492 : decode cX12_init 492 = .ok (.bipush 74, 2) := by decide +kernel
theorem dX12_init_494 : decode cX12_init 494 = .ok (.bipush 110, 2) := by decide +kernel
theorem dX12_init_496 : decode cX12_init 496 = .ok (.iastore, 1) := by decide +kernel
theorem dX12_init_497 : decode cX12_init 497 = .ok (.dup, 1) := by decide +kernel
theorem dX12_init_498 : decode cX12_init 498 = .ok (.bipush 75, 2) := by decide +kernel
theorem dX12_init_500 : decode cX12_init 500 = .ok (.bipush 101, 2) := by decide +kernel
theorem dX12_init_502 : decode cX12_init 502 = .ok (.iastore, 1) := by decide +kernel
theorem dX12_init_503 : decode cX12_init 503 = .ok (.dup, 1) := by decide +kernel
theorem dX12_init_504 : decode cX12_init 504 = .ok (.bipush 76, 2) := by decide +kernel
theorem dX12_init_506 : decode cX12_init 506 = .ok (.bipush 97, 2) := by decide +kernel
theorem dX12_init_508 : decode cX12_init 508 = .ok (.iastore, 1) := by decide +kernel
theorem dX12_init_509 : decode cX12_init 509 = .ok (.dup, 1) := by decide +kernel
theorem dX12_init_510 : decode cX12_init 510 = .ok (.bipush 77, 2) := by decide +kernel
theorem dX12_init_512 : decode cX12_init 512 = .ok (.bipush 114, 2) := by decide +kernel
theorem dX12_init_514 : decode cX12_init 514 = .ok (.iastore, 1) := by decide +kernel
theorem dX12_init_515 : decode cX12_init 515 = .ok (.dup, 1) := by decide +kernel
theorem dX12_init_516 : decode cX12_init 516 = .ok (.bipush 78, 2) := by decide +kernel
theorem dX12_init_518 : decode cX12_init 518 = .ok (.bipush 32, 2) := by decide +kernel
theorem dX12_init_520 : decode cX12_init 520 = .ok (.iastore, 1) := by decide +kernel
theorem dX12_init_521 : decode cX12_init 521 = .ok (.dup, 1) := by decide +kernel
theorem dX12_init_522 : decode cX12_init 522 = .ok (.bipush 79, 2) := by decide +kernel
theorem dX12_init_524 : decode cX12_init 524 = .ok (.bipush 109, 2) := by decide +kernel
theorem dX12_init_526 : decode cX12_init 526 = .ok (.iastore, 1) := by decide +kernel
theorem dX12_init_527 : decode cX12_init 527 = .ok (.dup, 1) := by decide +kernel
theorem dX12_init_528 : decode cX12_init 528 = .ok (.bipush 80, 2) := by decide +kernel
theorem dX12_init_530 : decode cX12_init 530 = .ok (.bipush 105, 2) := by decide +kernel
theorem dX12_init_532 : decode cX12_init 532 = .ok (.iastore, 1) := by decide +kernel
theorem dX12_init_533 : decode cX12_init 533 = .ok (.dup, 1) := by decide +kernel
theorem dX12_init_534 : decode cX12_init 534 = .ok (.bipush 81, 2) := by decide +kernel
theorem dX12_init_536 : decode cX12_init 536 = .ok (.bipush 110, 2) := by decide +kernel
theorem dX12_init_538 : decode cX12_init 538 = .ok (.iastore, 1) := by decide +kernel
theorem dX12_init_539 : decode cX12_init 539 = .ok (.dup, 1) := by decide +kernel
theorem dX12_init_540 : decode cX12_init 540 = .ok (.bipush 82, 2) := by decide +kernel
theorem dX12_init_542 : decode cX12_init 542 = .ok (.bipush 117, 2) := by decide +kernel
theorem dX12_init_544 : decode cX12_init 544 = .ok (.iastore, 1) := by decide +kernel
theorem dX12_init_545 : decode cX12_init 545 = .ok (.dup, 1) := by decide +kernel
theorem dX12_init_546 : decode cX12_init 546 = .ok (.bipush 83, 2) := by decide +kernel
theorem dX12_init_548 : decode cX12_init 548 = .ok (.bipush 116, 2) := by decide +kernel
theorem dX12_init_550 : decode cX12_init 550 = .ok (.iastore, 1) := by decide +kernel
theorem dX12_init_551 : decode cX12_init 551 = .ok (.dup, 1) := by decide +kernel
theorem dX12_init_552 : decode cX12_init 552 = .ok (.bipush 84, 2) := by decide +kernel
theorem dX12_init_554 : decode cX12_init 554 = .ok (.bipush 101, 2) := by decide +kernel
theorem dX12_init_556 : decode cX12_init 556 = .ok (.iastore, 1) := by decide +kernel
theorem dX12_init_557 : decode cX12_init 557 = .ok (.dup, 1) := by decide +kernel
theorem dX12_init_558 : decode cX12_init 558 = .ok (.bipush 85, 2) := by decide +kernel
theorem dX12_init_560 : decode cX12_init 560 = .ok (.bipush 32, 2) := by decide +kernel
theorem dX12_init_562 : decode cX12_init 562 = .ok (.iastore, 1) := by decide +kernel
theorem dX12_init_563 : decode cX12_init 563 = .ok (.dup, 1) := by decide +kernel
theorem dX12_init_564 : decode cX12_init 564 = .ok (.bipush 86, 2) := by decide +kernel
theorem dX12_init_566 : decode cX12_init 566 = .ok (.bipush 97, 2) := by decide +kernel
theorem dX12_init_568 : decode cX12_init 568 = .ok (.iastore, 1) := by decide +kernel
theorem dX12_init_569 : decode cX12_init 569 = .ok (.dup, 1) := by decide +kernel
theorem dX12_init_570 : decode cX12_init 570 = .ok (.bipush 87, 2) := by decide +kernel
theorem dX12_init_572 : decode cX12_init 572 = .ok (.bipush 116, 2) := by decide +kernel
theorem dX12_init_574 : decode cX12_init 574 = .ok (.iastore, 1) := by decide +kernel
theorem dX12_init_575 : decode cX12_init 575 = .ok (.dup, 1) := by decide +kernel
theorem dX12_init_576 : decode cX12_init 576 = .ok (.bipush 88, 2) := by decide +kernel
theorem dX12_init_578 : decode cX12_init 578 = .ok (.bipush 32, 2) := by decide +kernel
theorem dX12_init_580 : decode cX12_init 580 = .ok (.iastore, 1) := by decide +kernel
theorem dX12_init_581 : decode cX12_init 581 = .ok (.dup, 1) := by decide +kernel
theorem dX12_init_582 : decode cX12_init 582 = .ok (.bipush 89, 2) := by decide +kernel
theorem dX12_init_584 : decode cX12_init 584 = .ok (.bipush 112, 2) := by decide +kernel
theorem dX12_init_586 : decode cX12_init 586 = .ok (.iastore, 1) := by decide +kernel
theorem dX12_init_587 : decode cX12_init 587 = .ok (.dup, 1) := by decide +kernel
theorem dX12_init_588 : decode cX12_init 588 = .ok (.bipush 90, 2) := by decide +kernel
theorem dX12_init_590 : decode cX12_init 590 = .ok (.bipush 101, 2) := by decide +kernel
theorem dX12_init_592 : decode cX12_init 592 = .ok (.iastore, 1) := by decide +kernel
theorem dX12_init_593 : decode cX12_init 593 = .ok (.dup, 1) := by decide +kernel
theorem dX12_init_594 : decode cX12_init 594 = .ok (.bipush 91, 2) := by decide +kernel
theorem dX12_init_596 : decode cX12_init 596 = .ok (.bipush 114, 2) := by decide +kernel
theorem dX12_init_598 : decode cX12_init 598 = .ok (.iastore, 1) := by decide +kernel
theorem dX12_init_599 : decode cX12_init 599 = .ok (.dup, 1) := by decide +kernel
theorem dX12_init_600 : decode cX12_init 600 = .ok (.bipush 92, 2) := by decide +kernel
theorem dX12_init_602 : decode cX12_init 602 = .ok (.bipush 115, 2) := by decide +kernel
theorem dX12_init_604 : decode cX12_init 604 = .ok (.iastore, 1) := by decide +kernel
theorem dX12_init_605 : decode cX12_init 605 = .ok (.dup, 1) := by decide +kernel
theorem dX12_init_606 : decode cX12_init 606 = .ok (.bipush 93, 2) := by decide +kernel
theorem dX12_init_608 : decode cX12_init 608 = .ok (.bipush 111, 2) := by decide +kernel
theorem dX12_init_610 : decode cX12_init 610 = .ok (.iastore, 1) := by decide +kernel
theorem dX12_init_611 : decode cX12_init 611 = .ok (.dup, 1) := by decide +kernel
theorem dX12_init_612 : decode cX12_init 612 = .ok (.bipush 94, 2) := by decide +kernel
theorem dX12_init_614 : decode cX12_init 614 = .ok (.bipush 110, 2) := by decide +kernel
theorem dX12_init_616 : decode cX12_init 616 = .ok (.iastore, 1) := by decide +kernel
theorem dX12_init_617 : decode cX12_init 617 = .ok (.dup, 1) := by decide +kernel
theorem dX12_init_618 : decode cX12_init 618 = .ok (.bipush 95, 2) := by decide +kernel
theorem dX12_init_620 : decode cX12_init 620 = .ok (.bipush 32, 2) := by decide +kernel
theorem dX12_init_622 : decode cX12_init 622 = .ok (.iastore, 1) := by decide +kernel
theorem dX12_init_623 : decode cX12_init 623 = .ok (.dup, 1) := by decide +kernel
theorem dX12_init_624 : decode cX12_init 624 = .ok (.bipush 96, 2) := by decide +kernel
theorem dX12_init_626 : decode cX12_init 626 = .ok (.bipush 110, 2) := by decide +kernel
theorem dX12_init_628 : decode cX12_init 628 = .ok (.iastore, 1) := by decide +kernel
theorem dX12_init_629 : decode cX12_init 629 = .ok (.dup, 1) := by decide +kernel
theorem dX12_init_630 : decode cX12_init 630 = .ok (.bipush 97, 2) := by decide +kernel
theorem dX12_init_632 : decode cX12_init 632 = .ok (.bipush 97, 2) := by decide +kernel
theorem dX12_init_634 : decode cX12_init 634 = .ok (.iastore, 1) := by decide +kernel
theorem dX12_init_635 : decode cX12_init 635 = .ok (.dup, 1) := by decide +kernel
theorem dX12_init_636 : decode cX12_init 636 = .ok (.bipush 98, 2) := by decide +kernel
theorem dX12_init_638 : decode cX12_init 638 = .ok (.bipush 109, 2) := by decide +kernel
theorem dX12_init_640 : decode cX12_init 640 = .ok (.iastore, 1) := by decide +kernel
theorem dX12_init_641 : decode cX12_init 641 = .ok (.dup, 1) := by decide +kernel
theorem dX12_init_642 : decode cX12_init 642 = .ok (.bipush 99, 2) := by decide +kernel
theorem dX12_init_644 : decode cX12_init 644 = .ok (.bipush 101, 2) := by decide +kernel
theorem dX12_init_646 : decode cX12_init 646 = .ok (.iastore, 1) := by decide +kernel
theorem dX12_init_647 : decode cX12_init 647 = .ok (.dup, 1) := by decide +kernel
theorem dX12_init_648 : decode cX12_init 648 = .ok (.bipush 100, 2) := by decide +kernel
theorem dX12_init_650 : decode cX12_init 650 = .ok (.bipush 115, 2) := by decide +kernel
theorem dX12_init_652 : decode cX12_init 652 = .ok (.iastore, 1) := by decide +kernel
theorem dX12_init_653 : decode cX12_init 653 = .ok (.dup, 1) := by decide +kernel
theorem dX12_init_654 : decode cX12_init 654 = .ok (.bipush 101, 2) := by decide +kernel
theorem dX12_init_656 : decode cX12_init 656 = .ok (.bipush 32, 2) := by decide +kernel
theorem dX12_init_658 : decode cX12_init 658 = .ok (.iastore, 1) := by decide +kernel
theorem dX12_init_659 : decode cX12_init 659 = .ok (.dup, 1) := by decide +kernel
theorem dX12_init_660 : decode cX12_init 660 = .ok (.bipush 102, 2) := by decide +kernel
theorem dX12_init_662 : decode cX12_init 662 = .ok (.bipush 102, 2) := by decide +kernel
theorem dX12_init_664 : decode cX12_init 664 = .ok (.iastore, 1) := by decide +kernel
theorem dX12_init_665 : decode cX12_init 665 = .ok (.dup, 1) := by decide +kernel
theorem dX12_init_666 : decode cX12_init 666 = .ok (.bipush 103, 2) := by decide +kernel
theorem dX12_init_668 : decode cX12_init 668 = .ok (.bipush 114, 2) := by decide +kernel
theorem dX12_init_670 : decode cX12_init 670 = .ok (.iastore, 1) := by decide +kernel
theorem dX12_init_671 : decode cX12_init 671 = .ok (.dup, 1) := by decide +kernel
theorem dX12_init_672 : decode cX12_init 672 = .ok (.bipush 104, 2) := by decide +kernel
theorem dX12_init_674 : decode cX12_init 674 = .ok (.bipush 105, 2) := by decide +kernel
theorem dX12_init_676 : decode cX12_init 676 = .ok (.iastore, 1) := by decide +kernel
theorem dX12_init_677 : decode cX12_init 677 = .ok (.dup, 1) := by decide +kernel
theorem dX12_init_678 : decode cX12_init 678 = .ok (.bipush 105, 2) := by decide +kernel
theorem dX12_init_680 : decode cX12_init 680 = .ok (.bipush 103, 2) := by decide +kernel
theorem dX12_init_682 : decode cX12_init 682 = .ok (.iastore, 1) := by decide +kernel
theorem dX12_init_683 : decode cX12_init 683 = .ok (.dup, 1) := by decide +kernel
theorem dX12_init_684 : decode cX12_init 684 = .ok (.bipush 106, 2) := by decide +kernel
theorem dX12_init_686 : decode cX12_init 686 = .ok (.bipush 104, 2) := by decide +kernel
theorem dX12_init_688 : decode cX12_init 688 = .ok (.iastore, 1) := by decide +kernel
theorem dX12_init_689 : decode cX12_init 689 = .ok (.dup, 1) := by decide +kernel
theorem dX12_init_690 : decode cX12_init 690 = .ok (.bipush 107, 2) := by decide +kernel
theorem dX12_init_692 : decode cX12_init 692 = .ok (.bipush 116, 2) := by decide +kernel
theorem dX12_init_694 : decode cX12_init 694 = .ok (.iastore, 1) := by decide +kernel
theorem dX12_init_695 : decode cX12_init 695 = .ok (.dup, 1) := by decide +kernel
theorem dX12_init_696 : decode cX12_init 696 = .ok (.bipush 108, 2) := by decide +kernel
theorem dX12_init_698 : decode cX12_init 698 = .ok (.bipush 32, 2) := by decide +kernel
theorem dX12_init_700 : decode cX12_init 700 = .ok (.iastore, 1) := by decide +kernel
theorem dX12_init_701 : decode cX12_init 701 = .ok (.dup, 1) := by decide +kernel
theorem dX12_init_702 : decode cX12_init 702 = .ok (.bipush 109, 2) := by decide +kernel
theorem dX12_init_704 : decode cX12_init 704 = .ok (.bipush 98, 2) := by decide +kernel
theorem dX12_init_706 : decode cX12_init 706 = .ok (.iastore, 1) := by decide +kernel
theorem dX12_init_707 : decode cX12_init 707 = .ok (.dup, 1) := by decide +kernel
theorem dX12_init_708 : decode cX12_init 708 = .ok (.bipush 110, 2) := by decide +kernel
theorem dX12_init_710 : decode cX12_init 710 = .ok (.bipush 114, 2) := by decide +kernel
theorem dX12_init_712 : decode cX12_init 712 = .ok (.iastore, 1) := by decide +kernel
theorem dX12_init_713 : decode cX12_init 713 = .ok (.dup, 1) := by decide +kernel
theorem dX12_init_714 : decode cX12_init 714 = .ok (.bipush 111, 2) := by decide +kernel
theorem dX12_init_716 : decode cX12_init 716 = .ok (.bipush 101, 2) := by decide +kernel
theorem dX12_init_718 : decode cX12_init 718 = .ok (.iastore, 1) := by decide +kernel
theorem dX12_init_719 : decode cX12_init 719 = .ok (.dup, 1) := by decide +kernel
theorem dX12_init_720 : decode cX12_init 720 = .ok (.bipush 112, 2) := by decide +kernel
theorem dX12_init_722 : decode cX12_init 722 = .ok (.bipush 97, 2) := by decide +kernel
theorem dX12_init_724 : decode cX12_init 724 = .ok (.iastore, 1) := by decide +kernel
theorem dX12_init_725 : decode cX12_init 725 = .ok (.dup, 1) := by decide +kernel
theorem dX12_init_726 : decode cX12_init 726 = .ok (.bipush 113, 2) := by decide +kernel
theorem dX12_init_728 : decode cX12_init 728 = .ok (.bipush 116, 2) := by decide +kernel
theorem dX12_init_730 : decode cX12_init 730 = .ok (.iastore, 1) := by decide +kernel
theorem dX12_init_731 : decode cX12_init 731 = .ok (.dup, 1) := by decide +kernel
theorem dX12_init_732 : decode cX12_init 732 = .ok (.bipush 114, 2) := by decide +kernel
theorem dX12_init_734 : decode cX12_init 734 = .ok (.bipush 104, 2) := by decide +kernel
theorem dX12_init_736 : decode cX12_init 736 = .ok (.iastore, 1) := by decide +kernel
theorem dX12_init_737 : decode cX12_init 737 = .ok (.dup, 1) := by decide +kernel
theorem dX12_init_738 : decode cX12_init 738 = .ok (.bipush 115, 2) := by decide +kernel
theorem dX12_init_740 : decode cX12_init 740 = .ok (.bipush 32, 2) := by decide +kernel
theorem dX12_init_742 : decode cX12_init 742 = .ok (.iastore, 1) := by decide +kernel
theorem dX12_init_743 : decode cX12_init 743 = .ok (.dup, 1) := by decide +kernel
theorem dX12_init_744 : decode cX12_init 744 = .ok (.bipush 116, 2) := by decide +kernel
theorem dX12_init_746 : decode cX12_init 746 = .ok (.bipush 103, 2) := by decide +kernel
theorem dX12_init_748 : decode cX12_init 748 = .ok (.iastore, 1) := by decide +kernel
theorem dX12_init_749 : decode cX12_init 749 = .ok (.dup, 1) := by decide +kernel
theorem dX12_init_750 : decode cX12_init 750 = .ok (.bipush 117, 2) := by decide +kernel
theorem dX12_init_752 : decode cX12_init 752 = .ok (.bipush 108, 2) := by decide +kernel
theorem dX12_init_754 : decode cX12_init 754 = .ok (.iastore, 1) := by decide +kernel
theorem dX12_init_755 : decode cX12_init 755 = .ok (.dup, 1) := by decide +kernel
theorem dX12_init_756 : decode cX12_init 756 = .ok (.bipush 118, 2) := by decide +kernel
theorem dX12_init_758 : decode cX12_init 758 = .ok (.bipush 97, 2) := by decide +kernel
theorem dX12_init_760 : decode cX12_init 760 = .ok (.iastore, 1) := by decide +kernel
theorem dX12_init_761 : decode cX12_init 761 = .ok (.dup, 1) := by decide +kernel
theorem dX12_init_762 : decode cX12_init 762 = .ok (.bipush 119, 2) := by decide +kernel
theorem dX12_init_764 : decode cX12_init 764 = .ok (.bipush 115, 2) := by decide +kernel
theorem dX12_init_766 : decode cX12_init 766 = .ok (.iastore, 1) := by decide +kernel
theorem dX12_init_767 : decode cX12_init 767 = .ok (.dup, 1) := by decide +kernel
theorem dX12_init_768 : decode cX12_init 768 = .ok (.bipush 120, 2) := by decide +kernel
theorem dX12_init_770 : decode cX12_init 770 = .ok (.bipush 115, 2) := by decide +kernel
theorem dX12_init_772 : decode cX12_init 772 = .ok (.iastore, 1) := by decide +kernel
theorem dX12_init_773 : decode cX12_init 773 = .ok (.dup, 1) := by decide +kernel
theorem dX12_init_774 : decode cX12_init 774 = .ok (.bipush 121, 2) := by decide +kernel
theorem dX12_init_776 : decode cX12_init 776 = .ok (.bipush 32, 2) := by decide +kernel
theorem dX12_init_778 : decode cX12_init 778 = .ok (.iastore, 1) := by decide +kernel
theorem dX12_init_779 : decode cX12_init 779 = .ok (.dup, 1) := by decide +kernel
theorem dX12_init_780 : decode cX12_init 780 = .ok (.bipush 122, 2) := by decide +kernel
theorem dX12_init_782 : decode cX12_init 782 = .ok (.bipush 115, 2) := by decide +kernel
theorem dX12_init_784 : decode cX12_init 784 = .ok (.iastore, 1) := by decide +kernel
theorem dX12_init_785 : decode cX12_init 785 = .ok (.dup, 1) := by decide +kernel
theorem dX12_init_786 : decode cX12_init 786 = .ok (.bipush 123, 2) := by decide +kernel
theorem dX12_init_788 : decode cX12_init 788 = .ok (.bipush 117, 2) := by decide +kernel
theorem dX12_init_790 : decode cX12_init 790 = .ok (.iastore, 1) := by decide +kernel
theorem dX12_init_791 : decode cX12_init 791 = .ok (.dup, 1) := by decide +kernel
theorem dX12_init_792 : decode cX12_init 792 = .ok (.bipush 124, 2) := by decide +kernel
theorem dX12_init_794 : decode cX12_init 794 = .ok (.bipush 103, 2) := by decide +kernel
theorem dX12_init_796 : decode cX12_init 796 = .ok (.iastore, 1) := by decide +kernel
theorem dX12_init_797 : decode cX12_init 797 = .ok (.dup, 1) := by decide +kernel
theorem dX12_init_798 : decode cX12_init 798 = .ok (.bipush 125, 2) := by decide +kernel
theorem dX12_init_800 : decode cX12_init 800 = .ok (.bipush 97, 2) := by decide +kernel
theorem dX12_init_802 : decode cX12_init 802 = .ok (.iastore, 1) := by decide +kernel
theorem dX12_init_803 : decode cX12_init 803 = .ok (.dup, 1) := by decide +kernel
theorem dX12_init_804 : decode cX12_init 804 = .ok (.bipush 126, 2) := by decide +kernel
theorem dX12_init_806 : decode cX12_init 806 = .ok (.bipush 114, 2) := by decide +kernel
theorem dX12_init_808 : decode cX12_init 808 = .ok (.iastore, 1) := by decide +kernel
theorem dX12_init_809 : decode cX12_init 809 = .ok (.dup, 1) := by decide +kernel
theorem dX12_init_810 : decode cX12_init 810 = .ok (.bipush 127, 2) := by decide +kernel
theorem dX12_init_812 : decode cX12_init 812 = .ok (.bipush 32, 2) := by decide +kernel
theorem dX12_init_814 : decode cX12_init 814 = .ok (.iastore, 1) := by decide +kernel
theorem dX12_init_815 : decode cX12_init 815 = .ok (.dup, 1) := by decide +kernel
theorem dX12_init_816 : decode cX12_init 816 = .ok (.sipush 128, 3) := by decide +kernel
theorem dX12_init_819 : decode cX12_init 819 = .ok (.bipush 115, 2) := by decide +kernel
theorem dX12_init_821 : decode cX12_init 821 = .ok (.iastore, 1) := by decide +kernel
theorem dX12_init_822 : decode cX12_init 822 = .ok (.dup, 1) := by decide +kernel
theorem dX12_init_823 : decode cX12_init 823 = .ok (.sipush 129, 3) := by decide +kernel
theorem dX12_init_826 : decode cX12_init 826 = .ok (.bipush 97, 2) := by decide +kernel
theorem dX12_init_828 : decode cX12_init 828 = .ok (.iastore, 1) := by decide +kernel
theorem dX12_init_829 : decode cX12_init 829 = .ok (.dup, 1) := by decide +kernel
theorem dX12_init_830 : decode cX12_init 830 = .ok (.sipush 130, 3) := by decide +kernel
theorem dX12_init_833 : decode cX12_init 833 = .ok (.bipush 121, 2) := by decide +kernel
theorem dX12_init_835 : decode cX12_init 835 = .ok (.iastore, 1) := by decide +kernel
theorem dX12_init_836 : decode cX12_init 836 = .ok (.dup, 1) := by decide +kernel
theorem dX12_init_837 : decode cX12_init 837 = .ok (.sipush 131, 3) := by decide +kernel
theorem dX12_init_840 : decode cX12_init 840 = .ok (.bipush 115, 2) := by decide +kernel
theorem dX12_init_842 : decode cX12_init 842 = .ok (.iastore, 1) := by decide +kernel
theorem dX12_init_843 : decode cX12_init 843 = .ok (.dup, 1) := by decide +kernel
theorem dX12_init_844 : decode cX12_init 844 = .ok (.sipush 132, 3) := by decide +kernel
theorem dX12_init_847 : decode cX12_init 847 = .ok (.bipush 32, 2) := by decide +kernel
theorem dX12_init_849 : decode cX12_init 849 = .ok (.iastore, 1) := by decide +kernel
theorem dX12_init_850 : decode cX12_init 850 = .ok (.putfield 25, 3) := by decide +kernel
theorem dX12_init_853 : decode cX12_init 853 = .ok (.aload_n 0, 1) := by decide +kernel
theorem dX12_init_854 : decode cX12_init 854 = .ok (.iconst 2, 1) := by decide +kernel
theorem dX12_init_855 : decode cX12_init 855 = .ok (.newarray .int, 2) := by decide +kernel
theorem dX12_init_857 : decode cX12_init 857 = .ok (.putfield 28, 3) := by decide +kernel
theorem dX12_init_860 : decode cX12_init 860 = .ok (.aload_n 0, 1) := by decide +kernel
theorem dX12_init_861 : decode cX12_init 861 = .ok (.bipush 48, 2) := by decide +kernel
theorem dX12_init_863 : decode cX12_init 863 = .ok (.newarray .int, 2) := by decide +kernel
theorem dX12_init_865 : decode cX12_init 865 = .ok (.putfield 31, 3) := by decide +kernel
theorem dX12_init_868 : decode cX12_init 868 = .ok (.aload_n 0, 1) := by decide +kernel
theorem dX12_init_869 : decode cX12_init 869 = .ok (.bipush 48, 2) := by decide +kernel
theorem dX12_init_871 : decode cX12_init 871 = .ok (.newarray .int, 2) := by decide +kernel
theorem dX12_init_873 : decode cX12_init 873 = .ok (.putfield 34, 3) := by decide +kernel
theorem dX12_init_876 : decode cX12_init 876 = .ok (.aload_n 0, 1) := by decide +kernel
theorem dX12_init_877 : decode cX12_init 877 = .ok (.bipush 48, 2) := by decide +kernel
theorem dX12_init_879 : decode cX12_init 879 = .ok (.newarray .int, 2) := by decide +kernel
theorem dX12_init_881 : decode cX12_init 881 = .ok (.putfield 37, 3) := by decide +kernel
theorem dX12_init_884 : decode cX12_init 884 = .ok (.aload_n 0, 1) := by decide +kernel
theorem dX12_init_885 : decode cX12_init 885 = .ok (.bipush 48, 2) := by decide +kernel
theorem dX12_init_887 : decode cX12_init 887 = .ok (.newarray .int, 2) := by decide +kernel
theorem dX12_init_889 : decode cX12_init 889 = .ok (.putfield 40, 3) := by decide +kernel
theorem dX12_init_892 : decode cX12_init 892 = .ok (.aload_n 0, 1) := by decide +kernel
theorem dX12_init_893 : decode cX12_init 893 = .ok (.sipush 1200, 3) := by decide +kernel
theorem dX12_init_896 : decode cX12_init 896 = .ok (.newarray .int, 2) := by decide +kernel
theorem dX12_init_898 : decode cX12_init 898 = .ok (.putfield 43, 3) := by decide +kernel
theorem dX12_init_901 : decode cX12_init 901 = .ok (.aload_n 0, 1) := by decide +kernel
theorem dX12_init_902 : decode cX12_init 902 = .ok (.sipush 1200, 3) := by decide +kernel
theorem dX12_init_905 : decode cX12_init 905 = .ok (.newarray .int, 2) := by decide +kernel
theorem dX12_init_907 : decode cX12_init 907 = .ok (.putfield 46, 3) := by decide +kernel
theorem dX12_init_910 : decode cX12_init 910 = .ok (.aload_n 0, 1) := by decide +kernel
theorem dX12_init_911 : decode cX12_init 911 = .ok (.bipush 40, 2) := by decide +kernel
theorem dX12_init_913 : decode cX12_init 913 = .ok (.newarray .int, 2) := by decide +kernel
theorem dX12_init_915 : decode cX12_init 915 = .ok (.putfield 49, 3) := by decide +kernel
theorem dX12_init_918 : decode cX12_init 918 = .ok (.aload_n 0, 1) := by decide +kernel
theorem dX12_init_919 : decode cX12_init 919 = .ok (.iconst (-1), 1) := by decide +kernel
theorem dX12_init_920 : decode cX12_init 920 = .ok (.putfield 52, 3) := by decide +kernel
theorem dX12_init_923 : decode cX12_init 923 = .ok (.aload_n 0, 1) := by decide +kernel
theorem dX12_init_924 : decode cX12_init 924 = .ok (.bipush 96, 2) := by decide +kernel
theorem dX12_init_926 : decode cX12_init 926 = .ok (.newarray .int, 2) := by decide +kernel
theorem dX12_init_928 : decode cX12_init 928 = .ok (.putfield 56, 3) := by decide +kernel
theorem dX12_init_931 : decode cX12_init 931 = .ok (.aload_n 0, 1) := by decide +kernel
theorem dX12_init_932 : decode cX12_init 932 = .ok (.sipush 128, 3) := by decide +kernel
theorem dX12_init_935 : decode cX12_init 935 = .ok (.newarray .int, 2) := by decide +kernel
theorem dX12_init_937 : decode cX12_init 937 = .ok (.putfield 59, 3) := by decide +kernel
theorem dX12_init_940 : decode cX12_init 940 = .ok (.aload_n 0, 1) := by decide +kernel
theorem dX12_init_941 : decode cX12_init 941 = .ok (.bipush 28, 2) := by decide +kernel
theorem dX12_init_943 : decode cX12_init 943 = .ok (.newarray .int, 2) := by decide +kernel
theorem dX12_init_945 : decode cX12_init 945 = .ok (.putfield 62, 3) := by decide +kernel
theorem dX12_init_948 : decode cX12_init 948 = .ok (.aload_n 0, 1) := by decide +kernel
theorem dX12_init_949 : decode cX12_init 949 = .ok (.sipush 168, 3) := by decide +kernel
theorem dX12_init_952 : decode cX12_init 952 = .ok (.newarray .int, 2) := by decide +kernel
theorem dX12_init_954 : decode cX12_init 954 = .ok (.putfield 65, 3) := by decide +kernel
theorem dX12_init_957 : decode cX12_init 957 = .ok (.aload_n 0, 1) := by decide +kernel
theorem dX12_init_958 : decode cX12_init 958 = .ok (.bipush 8, 2) := by decide +kernel
theorem dX12_init_960 : decode cX12_init 960 = .ok (.newarray .int, 2) := by decide +kernel
theorem dX12_init_962 : decode cX12_init 962 = .ok (.putfield 68, 3) := by decide +kernel
theorem dX12_init_965 : decode cX12_init 965 = .ok (.aload_n 0, 1) := by decide +kernel
theorem dX12_init_966 : decode cX12_init 966 = .ok (.sipush 420, 3) := by decide +kernel
theorem dX12_init_969 : decode cX12_init 969 = .ok (.newarray .int, 2) := by decide +kernel
theorem dX12_init_971 : decode cX12_init 971 = .ok (.putfield 71, 3) := by decide +kernel
theorem dX12_init_974 : decode cX12_init 974 = .ok (.aload_n 0, 1) := by decide +kernel
theorem dX12_init_975 : decode cX12_init 975 = .ok (.bipush 16, 2) := by decide +kernel
theorem dX12_init_977 : decode cX12_init 977 = .ok (.newarray .int, 2) := by decide +kernel
theorem dX12_init_979 : decode cX12_init 979 = .ok (.putfield 74, 3) := by decide +kernel
theorem dX12_init_982 : decode cX12_init 982 = .ok (.aload_n 0, 1) := by decide +kernel
theorem dX12_init_983 : decode cX12_init 983 = .ok (.bipush 10, 2) := by decide +kernel
theorem dX12_init_985 : decode cX12_init 985 = .ok (.newarray .int, 2) := by decide +kernel
theorem dX12_init_987 : decode cX12_init 987 = .ok (.putfield 77, 3) := by decide +kernel
theorem dX12_init_990 : decode cX12_init 990 = .ok (.aload_n 0, 1) := by decide +kernel
theorem dX12_init_991 : decode cX12_init 991 = .ok (.bipush 10, 2) := by decide +kernel
theorem dX12_init_993 : decode cX12_init 993 = .ok (.newarray .int, 2) := by decide +kernel
theorem dX12_init_995 : decode cX12_init 995 = .ok (.putfield 80, 3) := by decide +kernel
theorem dX12_init_998 : decode cX12_init 998 = .ok (.aload_n 0, 1) := by decide +kernel
theorem dX12_init_999 : decode cX12_init 999 = .ok (.bipush 10, 2) := by decide +kernel
theorem dX12_init_1001 : decode cX12_init 1001 = .ok (.newarray .int, 2) := by decide +kernel
theorem dX12_init_1003 : decode cX12_init 1003 = .ok (.putfield 83, 3) := by decide +kernel
theorem dX12_init_1006 : decode cX12_init 1006 = .ok (.aload_n 0, 1) := by decide +kernel
theorem dX12_init_1007 : decode cX12_init 1007 = .ok (.bipush 14, 2) := by decide +kernel
theorem dX12_init_1009 : decode cX12_init 1009 = .ok (.newarray .int, 2) := by decide +kernel
theorem dX12_init_1011 : decode cX12_init 1011 = .ok (.putfield 86, 3) := by decide +kernel
theorem dX12_init_1014 : decode cX12_init 1014 = .ok (.aload_n 0, 1) := by decide +kernel
theorem dX12_init_1015 : decode cX12_init 1015 = .ok (.bipush 14, 2) := by decide +kernel
theorem dX12_init_1017 : decode cX12_init 1017 = .ok (.newarray .int, 2) := by decide +kernel
theorem dX12_init_1019 : decode cX12_init 1019 = .ok (.putfield 89, 3) := by decide +kernel
theorem dX12_init_1022 : decode cX12_init 1022 = .ok (.aload_n 0, 1) := by decide +kernel
theorem dX12_init_1023 : decode cX12_init 1023 = .ok (.bipush 14, 2) := by decide +kernel
theorem dX12_init_1025 : decode cX12_init 1025 = .ok (.newarray .int, 2) := by decide +kernel
theorem dX12_init_1027 : decode cX12_init 1027 = .ok (.putfield 92, 3) := by decide +kernel
theorem dX12_init_1030 : decode cX12_init 1030 = .ok (.aload_n 0, 1) := by decide +kernel
theorem dX12_init_1031 : decode cX12_init 1031 = .ok (.iconst 2, 1) := by decide +kernel
theorem dX12_init_1032 : decode cX12_init 1032 = .ok (.newarray .int, 2) := by decide +kernel
theorem dX12_init_1034 : decode cX12_init 1034 = .ok (.putfield 95, 3) := by decide +kernel
theorem dX12_init_1037 : decode cX12_init 1037 = .ok (.aload_n 0, 1) := by decide +kernel
theorem dX12_init_1038 : decode cX12_init 1038 = .ok (.bipush 12, 2) := by decide +kernel
theorem dX12_init_1040 : decode cX12_init 1040 = .ok (.newarray .int, 2) := by decide +kernel
theorem dX12_init_1042 : decode cX12_init 1042 = .ok (.putfield 98, 3) := by decide +kernel
theorem dX12_init_1045 : decode cX12_init 1045 = .ok (.aload_n 0, 1) := by decide +kernel
theorem dX12_init_1046 : decode cX12_init 1046 = .ok (.bipush 6, 2) := by decide +kernel
theorem dX12_init_1048 : decode cX12_init 1048 = .ok (.newarray .int, 2) := by decide +kernel
theorem dX12_init_1050 : decode cX12_init 1050 = .ok (.putfield 101, 3) := by decide +kernel
theorem dX12_init_1053 : decode cX12_init 1053 = .ok (.aload_n 0, 1) := by decide +kernel
theorem dX12_init_1054 : decode cX12_init 1054 = .ok (.bipush 64, 2) := by decide +kernel
theorem dX12_init_1056 : decode cX12_init 1056 = .ok (.newarray .int, 2) := by decide +kernel
theorem dX12_init_1058 : decode cX12_init 1058 = .ok (.putfield 104, 3) := by decide +kernel
theorem dX12_init_1061 : decode cX12_init 1061 = .ok (.aload_n 0, 1) := by decide +kernel
theorem dX12_init_1062 : decode cX12_init 1062 = .ok (.bipush 8, 2) := by decide +kernel
theorem dX12_init_1064 : decode cX12_init 1064 = .ok (.newarray .int, 2) := by decide +kernel
theorem dX12_init_1066 : decode cX12_init 1066 = .ok (.putfield 107, 3) := by decide +kernel
theorem dX12_init_1069 : decode cX12_init 1069 = .ok (.aload_n 0, 1) := by decide +kernel
theorem dX12_init_1070 : decode cX12_init 1070 = .ok (.bipush 41, 2) := by decide +kernel
theorem dX12_init_1072 : decode cX12_init 1072 = .ok (.newarray .int, 2) := by decide +kernel
theorem dX12_init_1074 : decode cX12_init 1074 = .ok (.putfield 110, 3) := by decide +kernel
theorem dX12_init_1077 : decode cX12_init 1077 = .ok (.aload_n 0, 1) := by decide +kernel
theorem dX12_init_1078 : decode cX12_init 1078 = .ok (.bipush 41, 2) := by decide +kernel
theorem dX12_init_1080 : decode cX12_init 1080 = .ok (.newarray .int, 2) := by decide +kernel
theorem dX12_init_1082 : decode cX12_init 1082 = .ok (.putfield 113, 3) := by decide +kernel
theorem dX12_init_1085 : decode cX12_init 1085 = .ok (.aload_n 0, 1) := by decide +kernel
theorem dX12_init_1086 : decode cX12_init 1086 = .ok (.iconst 4, 1) := by decide +kernel
theorem dX12_init_1087 : decode cX12_init 1087 = .ok (.newarray .int, 2) := by decide +kernel
theorem dX12_init_1089 : decode cX12_init 1089 = .ok (.putfield 116, 3) := by decide +kernel
theorem dX12_init_1092 : decode cX12_init 1092 = .ok (.aload_n 0, 1) := by decide +kernel
theorem dX12_init_1093 : decode cX12_init 1093 = .ok (.sipush 2400, 3) := by decide +kernel
theorem dX12_init_1096 : decode cX12_init 1096 = .ok (.newarray .int, 2) := by decide +kernel
theorem dX12_init_1098 : decode cX12_init 1098 = .ok (.putfield 119, 3) := by decide +kernel
theorem dX12_init_1101 : decode cX12_init 1101 = .ok (.return_, 1) := by decide +kernel
set_option maxRecDepth 100000 in
set_option maxHeartbeats 4000000 in
theorem ok_X12_init (l : Launch) (D : va_G) (cA : ClassId × ClassId × ClassId) (q B : Nat) : CM l D cA yX12_init cX12_init 1 1 36 8097 [] q B (.inr (11, [.int 0, .null, .null, .int 0, .null, .int 0, .int 0, .null, .null, .int 0, .int 0, .int 0, .int 0, .int 0, .null, .null, .null, .null, .null, .null, .null, .null, .int 0, .int 0, .int 0, .null, .int 0, .int 0, .int 0, .int 0, .int 0, .int 0, .null, .int 0, .null, .int 0, .null, .null, .null, .null, .int 0, .null, .int 0, .null, .null, .null, .int 0, .null, .null, .null, .null, .null, .int 0, .null, .null, .int 0, .null, .null, .null, .int 0, .null, .int 0, .int 0, .int 0, .null])) (e_RX12 B) (t_RX12 cA B) := by
  refine CM_of (L := [some (.ref q)]) (by decide) rfl (by simp [Value.category]) (Nat.le_of_ble_eq_true rfl) (fun j v z => ?_) (fun Z X hq hB hA he hT => ?_)
  · exact aL_ok (n := 0) (.ref q :: []) j v z
  subst hq hB hA
  refine ac_is (T' := uX12_0 Z.2.2.2.1 (cB Z)) rfl ?_
  refine ac_aload_n X dX12_init_0 rfl ?_
  refine ac_obji X (Nat.le_of_ble_eq_true rfl) oi_RX12_1 dX12_init_1 ?_
  refine ac_aload_n X dX12_init_4 rfl ?_
  refine ac_bipush (v := 102) X dX12_init_5 (by decide) ?_
  refine ac_newaiM (k := 102) (m := 0) (c' := 1) (n' := 102) (uX12_len0 _ _) rfl rfl X dX12_init_7 aw_ci (by decide) (Nat.le_of_ble_eq_true rfl) (Nat.le_of_ble_eq_true rfl) ?_
  refine ac_is (T' := uX12_1 Z.2.2.2.1 (cB Z)) rfl ?_
  refine ac_putF (fs' := [.int 0, .ref (cB Z + 0), .null, .int 0, .null, .int 0, .int 0, .null, .null, .int 0, .int 0, .int 0, .int 0, .int 0, .null, .null, .null, .null, .null, .null, .null, .null, .int 0, .int 0, .int 0, .null, .int 0, .int 0, .int 0, .int 0, .int 0, .int 0, .null, .int 0, .null, .int 0, .null, .null, .null, .null, .int 0, .null, .int 0, .null, .null, .null, .int 0, .null, .null, .null, .null, .null, .int 0, .null, .null, .int 0, .null, .null, .null, .int 0, .null, .int 0, .int 0, .int 0, .null]) X dX12_init_9 pf_RX12_7 rfl rfl (Nat.le_of_ble_eq_true rfl) rfl ?_
  refine ac_aload_n X dX12_init_12 rfl ?_
  refine ac_sipush (v := 612) X dX12_init_13 (by decide) ?_
  refine ac_newaiM (k := 612) (m := 1) (c' := 2) (n' := 714) (uX12_len1 _ _) rfl rfl X dX12_init_16 aw_ci (by decide) (Nat.le_of_ble_eq_true rfl) (Nat.le_of_ble_eq_true rfl) ?_
  refine ac_is (T' := uX12_2 Z.2.2.2.1 (cB Z)) rfl ?_
  refine ac_putF (fs' := [.int 0, .ref (cB Z + 0), .ref (cB Z + 1), .int 0, .null, .int 0, .int 0, .null, .null, .int 0, .int 0, .int 0, .int 0, .int 0, .null, .null, .null, .null, .null, .null, .null, .null, .int 0, .int 0, .int 0, .null, .int 0, .int 0, .int 0, .int 0, .int 0, .int 0, .null, .int 0, .null, .int 0, .null, .null, .null, .null, .int 0, .null, .int 0, .null, .null, .null, .int 0, .null, .null, .null, .null, .null, .int 0, .null, .null, .int 0, .null, .null, .null, .int 0, .null, .int 0, .int 0, .int 0, .null]) X dX12_init_18 pf_RX12_13 rfl rfl (Nat.le_of_ble_eq_true rfl) rfl ?_
  refine ac_aload_n X dX12_init_21 rfl ?_
  refine ac_bipush (v := 102) X dX12_init_22 (by decide) ?_
  refine ac_newaiM (k := 102) (m := 2) (c' := 3) (n' := 816) (uX12_len2 _ _) rfl rfl X dX12_init_24 aw_ci (by decide) (Nat.le_of_ble_eq_true rfl) (Nat.le_of_ble_eq_true rfl) ?_
  refine ac_is (T' := uX12_3 Z.2.2.2.1 (cB Z)) rfl ?_
  refine ac_putF (fs' := [.int 0, .ref (cB Z + 0), .ref (cB Z + 1), .int 0, .ref (cB Z + 2), .int 0, .int 0, .null, .null, .int 0, .int 0, .int 0, .int 0, .int 0, .null, .null, .null, .null, .null, .null, .null, .null, .int 0, .int 0, .int 0, .null, .int 0, .int 0, .int 0, .int 0, .int 0, .int 0, .null, .int 0, .null, .int 0, .null, .null, .null, .null, .int 0, .null, .int 0, .null, .null, .null, .int 0, .null, .null, .null, .null, .null, .int 0, .null, .null, .int 0, .null, .null, .null, .int 0, .null, .int 0, .int 0, .int 0, .null]) X dX12_init_26 pf_RX12_16 rfl rfl (Nat.le_of_ble_eq_true rfl) rfl ?_
  refine ac_aload_n X dX12_init_29 rfl ?_
  refine ac_sipush (v := 600) X dX12_init_30 (by decide) ?_
  refine ac_newaiM (k := 600) (m := 3) (c' := 4) (n' := 1416) (uX12_len3 _ _) rfl rfl X dX12_init_33 aw_ci (by decide) (Nat.le_of_ble_eq_true rfl) (Nat.le_of_ble_eq_true rfl) ?_
  refine ac_is (T' := uX12_4 Z.2.2.2.1 (cB Z)) rfl ?_
  refine ac_putF (fs' := [.int 0, .ref (cB Z + 0), .ref (cB Z + 1), .int 0, .ref (cB Z + 2), .int 0, .int 0, .ref (cB Z + 3), .null, .int 0, .int 0, .int 0, .int 0, .int 0, .null, .null, .null, .null, .null, .null, .null, .null, .int 0, .int 0, .int 0, .null, .int 0, .int 0, .int 0, .int 0, .int 0, .int 0, .null, .int 0, .null, .int 0, .null, .null, .null, .null, .int 0, .null, .int 0, .null, .null, .null, .int 0, .null, .null, .null, .null, .null, .int 0, .null, .null, .int 0, .null, .null, .null, .int 0, .null, .int 0, .int 0, .int 0, .null]) X dX12_init_35 pf_RX12_19 rfl rfl (Nat.le_of_ble_eq_true rfl) rfl ?_
  refine ac_aload_n X dX12_init_38 rfl ?_
  refine ac_sipush (v := 400) X dX12_init_39 (by decide) ?_
  refine ac_newaiM (k := 400) (m := 4) (c' := 5) (n' := 1816) (uX12_len4 _ _) rfl rfl X dX12_init_42 aw_ci (by decide) (Nat.le_of_ble_eq_true rfl) (Nat.le_of_ble_eq_true rfl) ?_
  refine ac_is (T' := uX12_5 Z.2.2.2.1 (cB Z)) rfl ?_
  refine ac_putF (fs' := [.int 0, .ref (cB Z + 0), .ref (cB Z + 1), .int 0, .ref (cB Z + 2), .int 0, .int 0, .ref (cB Z + 3), .ref (cB Z + 4), .int 0, .int 0, .int 0, .int 0, .int 0, .null, .null, .null, .null, .null, .null, .null, .null, .int 0, .int 0, .int 0, .null, .int 0, .int 0, .int 0, .int 0, .int 0, .int 0, .null, .int 0, .null, .int 0, .null, .null, .null, .null, .int 0, .null, .int 0, .null, .null, .null, .int 0, .null, .null, .null, .null, .null, .int 0, .null, .null, .int 0, .null, .null, .null, .int 0, .null, .int 0, .int 0, .int 0, .null]) X dX12_init_44 pf_RX12_22 rfl rfl (Nat.le_of_ble_eq_true rfl) rfl ?_
  refine ac_aload_n X dX12_init_47 rfl ?_
  refine ac_sipush (v := 133) X dX12_init_48 (by decide) ?_
  refine ac_newaiM (k := 133) (m := 5) (c' := 6) (n' := 1949) (uX12_len5 _ _) rfl rfl X dX12_init_51 aw_ci (by decide) (Nat.le_of_ble_eq_true rfl) (Nat.le_of_ble_eq_true rfl) ?_
  refine ac_dup X dX12_init_53 rfl ?_
  refine ac_iconst (v := 0) X dX12_init_54 (by decide) ?_
  refine ac_bipush (v := 32) X dX12_init_55 (by decide) ?_
  refine ac_iastL (m0 := 5) (i := 0) (uX12_len5 _ _) X dX12_init_57 (by decide) (by decide) ?_
  refine ac_dup X dX12_init_58 rfl ?_
  refine ac_iconst (v := 1) X dX12_init_59 (by decide) ?_
  refine ac_bipush (v := 104) X dX12_init_60 (by decide) ?_
  refine ac_iastL (m0 := 5) (i := 1) (uX12_len5 _ _) X dX12_init_62 (by decide) (by decide) ?_
  refine ac_dup X dX12_init_63 rfl ?_
  refine ac_iconst (v := 2) X dX12_init_64 (by decide) ?_
  refine ac_bipush (v := 105) X dX12_init_65 (by decide) ?_
  refine ac_iastL (m0 := 5) (i := 2) (uX12_len5 _ _) X dX12_init_67 (by decide) (by decide) ?_
  refine ac_dup X dX12_init_68 rfl ?_
  refine ac_iconst (v := 3) X dX12_init_69 (by decide) ?_
  refine ac_bipush (v := 99) X dX12_init_70 (by decide) ?_
  refine ac_iastL (m0 := 5) (i := 3) (uX12_len5 _ _) X dX12_init_72 (by decide) (by decide) ?_
  refine ac_dup X dX12_init_73 rfl ?_
  refine ac_iconst (v := 4) X dX12_init_74 (by decide) ?_
  refine ac_bipush (v := 115) X dX12_init_75 (by decide) ?_
  refine ac_iastL (m0 := 5) (i := 4) (uX12_len5 _ _) X dX12_init_77 (by decide) (by decide) ?_
  refine ac_dup X dX12_init_78 rfl ?_
  refine ac_iconst (v := 5) X dX12_init_79 (by decide) ?_
  refine ac_bipush (v := 32) X dX12_init_80 (by decide) ?_
  refine ac_iastL (m0 := 5) (i := 5) (uX12_len5 _ _) X dX12_init_82 (by decide) (by decide) ?_
  refine ac_dup X dX12_init_83 rfl ?_
  refine ac_bipush (v := 6) X dX12_init_84 (by decide) ?_
  refine ac_bipush (v := 115) X dX12_init_86 (by decide) ?_
  refine ac_iastL (m0 := 5) (i := 6) (uX12_len5 _ _) X dX12_init_88 (by decide) (by decide) ?_
  refine ac_dup X dX12_init_89 rfl ?_
  refine ac_bipush (v := 7) X dX12_init_90 (by decide) ?_
  refine ac_bipush (v := 116) X dX12_init_92 (by decide) ?_
  refine ac_iastL (m0 := 5) (i := 7) (uX12_len5 _ _) X dX12_init_94 (by decide) (by decide) ?_
  refine ac_dup X dX12_init_95 rfl ?_
  refine ac_bipush (v := 8) X dX12_init_96 (by decide) ?_
  refine ac_bipush (v := 111) X dX12_init_98 (by decide) ?_
  refine ac_iastL (m0 := 5) (i := 8) (uX12_len5 _ _) X dX12_init_100 (by decide) (by decide) ?_
  refine ac_dup X dX12_init_101 rfl ?_
  refine ac_bipush (v := 9) X dX12_init_102 (by decide) ?_
  refine ac_bipush (v := 112) X dX12_init_104 (by decide) ?_
  refine ac_iastL (m0 := 5) (i := 9) (uX12_len5 _ _) X dX12_init_106 (by decide) (by decide) ?_
  refine ac_dup X dX12_init_107 rfl ?_
  refine ac_bipush (v := 10) X dX12_init_108 (by decide) ?_
  refine ac_bipush (v := 115) X dX12_init_110 (by decide) ?_
  refine ac_iastL (m0 := 5) (i := 10) (uX12_len5 _ _) X dX12_init_112 (by decide) (by decide) ?_
  refine ac_dup X dX12_init_113 rfl ?_
  refine ac_bipush (v := 11) X dX12_init_114 (by decide) ?_
  refine ac_bipush (v := 32) X dX12_init_116 (by decide) ?_
  refine ac_iastL (m0 := 5) (i := 11) (uX12_len5 _ _) X dX12_init_118 (by decide) (by decide) ?_
  refine ac_dup X dX12_init_119 rfl ?_
  refine ac_bipush (v := 12) X dX12_init_120 (by decide) ?_
  refine ac_bipush (v := 112) X dX12_init_122 (by decide) ?_
  refine ac_iastL (m0 := 5) (i := 12) (uX12_len5 _ _) X dX12_init_124 (by decide) (by decide) ?_
  refine ac_dup X dX12_init_125 rfl ?_
  refine ac_bipush (v := 13) X dX12_init_126 (by decide) ?_
  refine ac_bipush (v := 97) X dX12_init_128 (by decide) ?_
  refine ac_iastL (m0 := 5) (i := 13) (uX12_len5 _ _) X dX12_init_130 (by decide) (by decide) ?_
  refine ac_dup X dX12_init_131 rfl ?_
  refine ac_bipush (v := 14) X dX12_init_132 (by decide) ?_
  refine ac_bipush (v := 115) X dX12_init_134 (by decide) ?_
  refine ac_iastL (m0 := 5) (i := 14) (uX12_len5 _ _) X dX12_init_136 (by decide) (by decide) ?_
  refine ac_dup X dX12_init_137 rfl ?_
  refine ac_bipush (v := 15) X dX12_init_138 (by decide) ?_
  refine ac_bipush (v := 115) X dX12_init_140 (by decide) ?_
  refine ac_iastL (m0 := 5) (i := 15) (uX12_len5 _ _) X dX12_init_142 (by decide) (by decide) ?_
  refine ac_dup X dX12_init_143 rfl ?_
  refine ac_bipush (v := 16) X dX12_init_144 (by decide) ?_
  refine ac_bipush (v := 101) X dX12_init_146 (by decide) ?_
  refine ac_iastL (m0 := 5) (i := 16) (uX12_len5 _ _) X dX12_init_148 (by decide) (by decide) ?_
  refine ac_dup X dX12_init_149 rfl ?_
  refine ac_bipush (v := 17) X dX12_init_150 (by decide) ?_
  refine ac_bipush (v := 115) X dX12_init_152 (by decide) ?_
  refine ac_iastL (m0 := 5) (i := 17) (uX12_len5 _ _) X dX12_init_154 (by decide) (by decide) ?_
  refine ac_dup X dX12_init_155 rfl ?_
  refine ac_bipush (v := 18) X dX12_init_156 (by decide) ?_
  refine ac_bipush (v := 32) X dX12_init_158 (by decide) ?_
  refine ac_iastL (m0 := 5) (i := 18) (uX12_len5 _ _) X dX12_init_160 (by decide) (by decide) ?_
  refine ac_dup X dX12_init_161 rfl ?_
  refine ac_bipush (v := 19) X dX12_init_162 (by decide) ?_
  refine ac_bipush (v := 119) X dX12_init_164 (by decide) ?_
  refine ac_iastL (m0 := 5) (i := 19) (uX12_len5 _ _) X dX12_init_166 (by decide) (by decide) ?_
  refine ac_dup X dX12_init_167 rfl ?_
  refine ac_bipush (v := 20) X dX12_init_168 (by decide) ?_
  refine ac_bipush (v := 104) X dX12_init_170 (by decide) ?_
  refine ac_iastL (m0 := 5) (i := 20) (uX12_len5 _ _) X dX12_init_172 (by decide) (by decide) ?_
  refine ac_dup X dX12_init_173 rfl ?_
  refine ac_bipush (v := 21) X dX12_init_174 (by decide) ?_
  refine ac_bipush (v := 101) X dX12_init_176 (by decide) ?_
  refine ac_iastL (m0 := 5) (i := 21) (uX12_len5 _ _) X dX12_init_178 (by decide) (by decide) ?_
  refine ac_dup X dX12_init_179 rfl ?_
  refine ac_bipush (v := 22) X dX12_init_180 (by decide) ?_
  refine ac_bipush (v := 110) X dX12_init_182 (by decide) ?_
  refine ac_iastL (m0 := 5) (i := 22) (uX12_len5 _ _) X dX12_init_184 (by decide) (by decide) ?_
  refine ac_dup X dX12_init_185 rfl ?_
  refine ac_bipush (v := 23) X dX12_init_186 (by decide) ?_
  refine ac_bipush (v := 32) X dX12_init_188 (by decide) ?_
  refine ac_iastL (m0 := 5) (i := 23) (uX12_len5 _ _) X dX12_init_190 (by decide) (by decide) ?_
  refine ac_dup X dX12_init_191 rfl ?_
  refine ac_bipush (v := 24) X dX12_init_192 (by decide) ?_
  refine ac_bipush (v := 111) X dX12_init_194 (by decide) ?_
  refine ac_iastL (m0 := 5) (i := 24) (uX12_len5 _ _) X dX12_init_196 (by decide) (by decide) ?_
  refine ac_dup X dX12_init_197 rfl ?_
  refine ac_bipush (v := 25) X dX12_init_198 (by decide) ?_
  refine ac_bipush (v := 114) X dX12_init_200 (by decide) ?_
  refine ac_iastL (m0 := 5) (i := 25) (uX12_len5 _ _) X dX12_init_202 (by decide) (by decide) ?_
  refine ac_dup X dX12_init_203 rfl ?_
  refine ac_bipush (v := 26) X dX12_init_204 (by decide) ?_
  refine ac_bipush (v := 32) X dX12_init_206 (by decide) ?_
  refine ac_iastL (m0 := 5) (i := 26) (uX12_len5 _ _) X dX12_init_208 (by decide) (by decide) ?_
  refine ac_dup X dX12_init_209 rfl ?_
  refine ac_bipush (v := 27) X dX12_init_210 (by decide) ?_
  refine ac_bipush (v := 97) X dX12_init_212 (by decide) ?_
  refine ac_iastL (m0 := 5) (i := 27) (uX12_len5 _ _) X dX12_init_214 (by decide) (by decide) ?_
  refine ac_dup X dX12_init_215 rfl ?_
  refine ac_bipush (v := 28) X dX12_init_216 (by decide) ?_
  refine ac_bipush (v := 110) X dX12_init_218 (by decide) ?_
  refine ac_iastL (m0 := 5) (i := 28) (uX12_len5 _ _) X dX12_init_220 (by decide) (by decide) ?_
  refine ac_dup X dX12_init_221 rfl ?_
  refine ac_bipush (v := 29) X dX12_init_222 (by decide) ?_
  refine ac_bipush (v := 100) X dX12_init_224 (by decide) ?_
  refine ac_iastL (m0 := 5) (i := 29) (uX12_len5 _ _) X dX12_init_226 (by decide) (by decide) ?_
  refine ac_dup X dX12_init_227 rfl ?_
  refine ac_bipush (v := 30) X dX12_init_228 (by decide) ?_
  refine ac_bipush (v := 32) X dX12_init_230 (by decide) ?_
  refine ac_iastL (m0 := 5) (i := 30) (uX12_len5 _ _) X dX12_init_232 (by decide) (by decide) ?_
  refine ac_dup X dX12_init_233 rfl ?_
  refine ac_bipush (v := 31) X dX12_init_234 (by decide) ?_
  refine ac_bipush (v := 110) X dX12_init_236 (by decide) ?_
  refine ac_iastL (m0 := 5) (i := 31) (uX12_len5 _ _) X dX12_init_238 (by decide) (by decide) ?_
  refine ac_dup X dX12_init_239 rfl ?_
  refine ac_bipush (v := 32) X dX12_init_240 (by decide) ?_
  refine ac_bipush (v := 111) X dX12_init_242 (by decide) ?_
  refine ac_iastL (m0 := 5) (i := 32) (uX12_len5 _ _) X dX12_init_244 (by decide) (by decide) ?_
  refine ac_dup X dX12_init_245 rfl ?_
  refine ac_bipush (v := 33) X dX12_init_246 (by decide) ?_
  refine ac_bipush (v := 116) X dX12_init_248 (by decide) ?_
  refine ac_iastL (m0 := 5) (i := 33) (uX12_len5 _ _) X dX12_init_250 (by decide) (by decide) ?_
  refine ac_dup X dX12_init_251 rfl ?_
  refine ac_bipush (v := 34) X dX12_init_252 (by decide) ?_
  refine ac_bipush (v := 32) X dX12_init_254 (by decide) ?_
  refine ac_iastL (m0 := 5) (i := 34) (uX12_len5 _ _) X dX12_init_256 (by decide) (by decide) ?_
  refine ac_dup X dX12_init_257 rfl ?_
  refine ac_bipush (v := 35) X dX12_init_258 (by decide) ?_
  refine ac_bipush (v := 110) X dX12_init_260 (by decide) ?_
  refine ac_iastL (m0 := 5) (i := 35) (uX12_len5 _ _) X dX12_init_262 (by decide) (by decide) ?_
  refine ac_dup X dX12_init_263 rfl ?_
  refine ac_bipush (v := 36) X dX12_init_264 (by decide) ?_
  refine ac_bipush (v := 101) X dX12_init_266 (by decide) ?_
  refine ac_iastL (m0 := 5) (i := 36) (uX12_len5 _ _) X dX12_init_268 (by decide) (by decide) ?_
  refine ac_dup X dX12_init_269 rfl ?_
  refine ac_bipush (v := 37) X dX12_init_270 (by decide) ?_
  refine ac_bipush (v := 114) X dX12_init_272 (by decide) ?_
  refine ac_iastL (m0 := 5) (i := 37) (uX12_len5 _ _) X dX12_init_274 (by decide) (by decide) ?_
  refine ac_dup X dX12_init_275 rfl ?_
  refine ac_bipush (v := 38) X dX12_init_276 (by decide) ?_
  refine ac_bipush (v := 118) X dX12_init_278 (by decide) ?_
  refine ac_iastL (m0 := 5) (i := 38) (uX12_len5 _ _) X dX12_init_280 (by decide) (by decide) ?_
  refine ac_dup X dX12_init_281 rfl ?_
  refine ac_bipush (v := 39) X dX12_init_282 (by decide) ?_
  refine ac_bipush (v := 101) X dX12_init_284 (by decide) ?_
  refine ac_iastL (m0 := 5) (i := 39) (uX12_len5 _ _) X dX12_init_286 (by decide) (by decide) ?_
  refine ac_dup X dX12_init_287 rfl ?_
  refine ac_bipush (v := 40) X dX12_init_288 (by decide) ?_
  refine ac_bipush (v := 32) X dX12_init_290 (by decide) ?_
  refine ac_iastL (m0 := 5) (i := 40) (uX12_len5 _ _) X dX12_init_292 (by decide) (by decide) ?_
  refine ac_dup X dX12_init_293 rfl ?_
  refine ac_bipush (v := 41) X dX12_init_294 (by decide) ?_
  refine ac_bipush (v := 115) X dX12_init_296 (by decide) ?_
  refine ac_iastL (m0 := 5) (i := 41) (uX12_len5 _ _) X dX12_init_298 (by decide) (by decide) ?_
  refine ac_dup X dX12_init_299 rfl ?_
  refine ac_bipush (v := 42) X dX12_init_300 (by decide) ?_
  refine ac_bipush (v := 116) X dX12_init_302 (by decide) ?_
  refine ac_iastL (m0 := 5) (i := 42) (uX12_len5 _ _) X dX12_init_304 (by decide) (by decide) ?_
  refine ac_dup X dX12_init_305 rfl ?_
  refine ac_bipush (v := 43) X dX12_init_306 (by decide) ?_
  refine ac_bipush (v := 114) X dX12_init_308 (by decide) ?_
  refine ac_iastL (m0 := 5) (i := 43) (uX12_len5 _ _) X dX12_init_310 (by decide) (by decide) ?_
  refine ac_dup X dX12_init_311 rfl ?_
  refine ac_bipush (v := 44) X dX12_init_312 (by decide) ?_
  refine ac_bipush (v := 111) X dX12_init_314 (by decide) ?_
  refine ac_iastL (m0 := 5) (i := 44) (uX12_len5 _ _) X dX12_init_316 (by decide) (by decide) ?_
  refine ac_dup X dX12_init_317 rfl ?_
  refine ac_bipush (v := 45) X dX12_init_318 (by decide) ?_
  refine ac_bipush (v := 110) X dX12_init_320 (by decide) ?_
  refine ac_iastL (m0 := 5) (i := 45) (uX12_len5 _ _) X dX12_init_322 (by decide) (by decide) ?_
  refine ac_dup X dX12_init_323 rfl ?_
  refine ac_bipush (v := 46) X dX12_init_324 (by decide) ?_
  refine ac_bipush (v := 103) X dX12_init_326 (by decide) ?_
  refine ac_iastL (m0 := 5) (i := 46) (uX12_len5 _ _) X dX12_init_328 (by decide) (by decide) ?_
  refine ac_dup X dX12_init_329 rfl ?_
  refine ac_bipush (v := 47) X dX12_init_330 (by decide) ?_
  refine ac_bipush (v := 32) X dX12_init_332 (by decide) ?_
  refine ac_iastL (m0 := 5) (i := 47) (uX12_len5 _ _) X dX12_init_334 (by decide) (by decide) ?_
  refine ac_dup X dX12_init_335 rfl ?_
  refine ac_bipush (v := 48) X dX12_init_336 (by decide) ?_
  refine ac_bipush (v := 116) X dX12_init_338 (by decide) ?_
  refine ac_iastL (m0 := 5) (i := 48) (uX12_len5 _ _) X dX12_init_340 (by decide) (by decide) ?_
  refine ac_dup X dX12_init_341 rfl ?_
  refine ac_bipush (v := 49) X dX12_init_342 (by decide) ?_
  refine ac_bipush (v := 114) X dX12_init_344 (by decide) ?_
  refine ac_iastL (m0 := 5) (i := 49) (uX12_len5 _ _) X dX12_init_346 (by decide) (by decide) ?_
  refine ac_dup X dX12_init_347 rfl ?_
  refine ac_bipush (v := 50) X dX12_init_348 (by decide) ?_
  refine ac_bipush (v := 105) X dX12_init_350 (by decide) ?_
  refine ac_iastL (m0 := 5) (i := 50) (uX12_len5 _ _) X dX12_init_352 (by decide) (by decide) ?_
  refine ac_dup X dX12_init_353 rfl ?_
  refine ac_bipush (v := 51) X dX12_init_354 (by decide) ?_
  refine ac_bipush (v := 101) X dX12_init_356 (by decide) ?_
  refine ac_iastL (m0 := 5) (i := 51) (uX12_len5 _ _) X dX12_init_358 (by decide) (by decide) ?_
  refine ac_dup X dX12_init_359 rfl ?_
  refine ac_bipush (v := 52) X dX12_init_360 (by decide) ?_
  refine ac_bipush (v := 100) X dX12_init_362 (by decide) ?_
  refine ac_iastL (m0 := 5) (i := 52) (uX12_len5 _ _) X dX12_init_364 (by decide) (by decide) ?_
  refine ac_dup X dX12_init_365 rfl ?_
  refine ac_bipush (v := 53) X dX12_init_366 (by decide) ?_
  refine ac_bipush (v := 32) X dX12_init_368 (by decide) ?_
  refine ac_iastL (m0 := 5) (i := 53) (uX12_len5 _ _) X dX12_init_370 (by decide) (by decide) ?_
  refine ac_dup X dX12_init_371 rfl ?_
  refine ac_bipush (v := 54) X dX12_init_372 (by decide) ?_
  refine ac_bipush (v := 110) X dX12_init_374 (by decide) ?_
  refine ac_iastL (m0 := 5) (i := 54) (uX12_len5 _ _) X dX12_init_376 (by decide) (by decide) ?_
  refine ac_dup X dX12_init_377 rfl ?_
  refine ac_bipush (v := 55) X dX12_init_378 (by decide) ?_
  refine ac_bipush (v := 97) X dX12_init_380 (by decide) ?_
  refine ac_iastL (m0 := 5) (i := 55) (uX12_len5 _ _) X dX12_init_382 (by decide) (by decide) ?_
  refine ac_dup X dX12_init_383 rfl ?_
  refine ac_bipush (v := 56) X dX12_init_384 (by decide) ?_
  refine ac_bipush (v := 109) X dX12_init_386 (by decide) ?_
  refine ac_iastL (m0 := 5) (i := 56) (uX12_len5 _ _) X dX12_init_388 (by decide) (by decide) ?_
  refine ac_dup X dX12_init_389 rfl ?_
  refine ac_bipush (v := 57) X dX12_init_390 (by decide) ?_
  refine ac_bipush (v := 101) X dX12_init_392 (by decide) ?_
  refine ac_iastL (m0 := 5) (i := 57) (uX12_len5 _ _) X dX12_init_394 (by decide) (by decide) ?_
  refine ac_dup X dX12_init_395 rfl ?_
  refine ac_bipush (v := 58) X dX12_init_396 (by decide) ?_
  refine ac_bipush (v := 100) X dX12_init_398 (by decide) ?_
  refine ac_iastL (m0 := 5) (i := 58) (uX12_len5 _ _) X dX12_init_400 (by decide) (by decide) ?_
  refine ac_dup X dX12_init_401 rfl ?_
  refine ac_bipush (v := 59) X dX12_init_402 (by decide) ?_
  refine ac_bipush (v := 32) X dX12_init_404 (by decide) ?_
  refine ac_iastL (m0 := 5) (i := 59) (uX12_len5 _ _) X dX12_init_406 (by decide) (by decide) ?_
  refine ac_dup X dX12_init_407 rfl ?_
  refine ac_bipush (v := 60) X dX12_init_408 (by decide) ?_
  refine ac_bipush (v := 102) X dX12_init_410 (by decide) ?_
  refine ac_iastL (m0 := 5) (i := 60) (uX12_len5 _ _) X dX12_init_412 (by decide) (by decide) ?_
  refine ac_dup X dX12_init_413 rfl ?_
  refine ac_bipush (v := 61) X dX12_init_414 (by decide) ?_
  refine ac_bipush (v := 111) X dX12_init_416 (by decide) ?_
  refine ac_iastL (m0 := 5) (i := 61) (uX12_len5 _ _) X dX12_init_418 (by decide) (by decide) ?_
  refine ac_dup X dX12_init_419 rfl ?_
  refine ac_bipush (v := 62) X dX12_init_420 (by decide) ?_
  refine ac_bipush (v := 117) X dX12_init_422 (by decide) ?_
  refine ac_iastL (m0 := 5) (i := 62) (uX12_len5 _ _) X dX12_init_424 (by decide) (by decide) ?_
  refine ac_dup X dX12_init_425 rfl ?_
  refine ac_bipush (v := 63) X dX12_init_426 (by decide) ?_
  refine ac_bipush (v := 110) X dX12_init_428 (by decide) ?_
  refine ac_iastL (m0 := 5) (i := 63) (uX12_len5 _ _) X dX12_init_430 (by decide) (by decide) ?_
  refine ac_dup X dX12_init_431 rfl ?_
  refine ac_bipush (v := 64) X dX12_init_432 (by decide) ?_
  refine ac_bipush (v := 100) X dX12_init_434 (by decide) ?_
  refine ac_iastL (m0 := 5) (i := 64) (uX12_len5 _ _) X dX12_init_436 (by decide) (by decide) ?_
  refine ac_dup X dX12_init_437 rfl ?_
  refine ac_bipush (v := 65) X dX12_init_438 (by decide) ?_
  refine ac_bipush (v := 32) X dX12_init_440 (by decide) ?_
  refine ac_iastL (m0 := 5) (i := 65) (uX12_len5 _ _) X dX12_init_442 (by decide) (by decide) ?_
  refine ac_dup X dX12_init_443 rfl ?_
  refine ac_bipush (v := 66) X dX12_init_444 (by decide) ?_
  refine ac_bipush (v := 102) X dX12_init_446 (by decide) ?_
  refine ac_iastL (m0 := 5) (i := 66) (uX12_len5 _ _) X dX12_init_448 (by decide) (by decide) ?_
  refine ac_dup X dX12_init_449 rfl ?_
  refine ac_bipush (v := 67) X dX12_init_450 (by decide) ?_
  refine ac_bipush (v := 114) X dX12_init_452 (by decide) ?_
  refine ac_iastL (m0 := 5) (i := 67) (uX12_len5 _ _) X dX12_init_454 (by decide) (by decide) ?_
  refine ac_dup X dX12_init_455 rfl ?_
  refine ac_bipush (v := 68) X dX12_init_456 (by decide) ?_
  refine ac_bipush (v := 105) X dX12_init_458 (by decide) ?_
  refine ac_iastL (m0 := 5) (i := 68) (uX12_len5 _ _) X dX12_init_460 (by decide) (by decide) ?_
  refine ac_dup X dX12_init_461 rfl ?_
  refine ac_bipush (v := 69) X dX12_init_462 (by decide) ?_
  refine ac_bipush (v := 103) X dX12_init_464 (by decide) ?_
  refine ac_iastL (m0 := 5) (i := 69) (uX12_len5 _ _) X dX12_init_466 (by decide) (by decide) ?_
  refine ac_dup X dX12_init_467 rfl ?_
  refine ac_bipush (v := 70) X dX12_init_468 (by decide) ?_
  refine ac_bipush (v := 104) X dX12_init_470 (by decide) ?_
  refine ac_iastL (m0 := 5) (i := 70) (uX12_len5 _ _) X dX12_init_472 (by decide) (by decide) ?_
  refine ac_dup X dX12_init_473 rfl ?_
  refine ac_bipush (v := 71) X dX12_init_474 (by decide) ?_
  refine ac_bipush (v := 116) X dX12_init_476 (by decide) ?_
  refine ac_iastL (m0 := 5) (i := 71) (uX12_len5 _ _) X dX12_init_478 (by decide) (by decide) ?_
  refine ac_dup X dX12_init_479 rfl ?_
  refine ac_bipush (v := 72) X dX12_init_480 (by decide) ?_
  refine ac_bipush (v := 115) X dX12_init_482 (by decide) ?_
  refine ac_iastL (m0 := 5) (i := 72) (uX12_len5 _ _) X dX12_init_484 (by decide) (by decide) ?_
  refine ac_dup X dX12_init_485 rfl ?_
  refine ac_bipush (v := 73) X dX12_init_486 (by decide) ?_
  refine ac_bipush (v := 32) X dX12_init_488 (by decide) ?_
  refine ac_iastL (m0 := 5) (i := 73) (uX12_len5 _ _) X dX12_init_490 (by decide) (by decide) ?_
  refine ac_dup X dX12_init_491 rfl ?_
  refine ac_bipush (v := 74) X dX12_init_492 (by decide) ?_
  refine ac_bipush (v := 110) X dX12_init_494 (by decide) ?_
  refine ac_iastL (m0 := 5) (i := 74) (uX12_len5 _ _) X dX12_init_496 (by decide) (by decide) ?_
  refine ac_dup X dX12_init_497 rfl ?_
  refine ac_bipush (v := 75) X dX12_init_498 (by decide) ?_
  refine ac_bipush (v := 101) X dX12_init_500 (by decide) ?_
  refine ac_iastL (m0 := 5) (i := 75) (uX12_len5 _ _) X dX12_init_502 (by decide) (by decide) ?_
  refine ac_dup X dX12_init_503 rfl ?_
  refine ac_bipush (v := 76) X dX12_init_504 (by decide) ?_
  refine ac_bipush (v := 97) X dX12_init_506 (by decide) ?_
  refine ac_iastL (m0 := 5) (i := 76) (uX12_len5 _ _) X dX12_init_508 (by decide) (by decide) ?_
  refine ac_dup X dX12_init_509 rfl ?_
  refine ac_bipush (v := 77) X dX12_init_510 (by decide) ?_
  refine ac_bipush (v := 114) X dX12_init_512 (by decide) ?_
  refine ac_iastL (m0 := 5) (i := 77) (uX12_len5 _ _) X dX12_init_514 (by decide) (by decide) ?_
  refine ac_dup X dX12_init_515 rfl ?_
  refine ac_bipush (v := 78) X dX12_init_516 (by decide) ?_
  refine ac_bipush (v := 32) X dX12_init_518 (by decide) ?_
  refine ac_iastL (m0 := 5) (i := 78) (uX12_len5 _ _) X dX12_init_520 (by decide) (by decide) ?_
  refine ac_dup X dX12_init_521 rfl ?_
  refine ac_bipush (v := 79) X dX12_init_522 (by decide) ?_
  refine ac_bipush (v := 109) X dX12_init_524 (by decide) ?_
  refine ac_iastL (m0 := 5) (i := 79) (uX12_len5 _ _) X dX12_init_526 (by decide) (by decide) ?_
  refine ac_dup X dX12_init_527 rfl ?_
  refine ac_bipush (v := 80) X dX12_init_528 (by decide) ?_
  refine ac_bipush (v := 105) X dX12_init_530 (by decide) ?_
  refine ac_iastL (m0 := 5) (i := 80) (uX12_len5 _ _) X dX12_init_532 (by decide) (by decide) ?_
  refine ac_dup X dX12_init_533 rfl ?_
  refine ac_bipush (v := 81) X dX12_init_534 (by decide) ?_
  refine ac_bipush (v := 110) X dX12_init_536 (by decide) ?_
  refine ac_iastL (m0 := 5) (i := 81) (uX12_len5 _ _) X dX12_init_538 (by decide) (by decide) ?_
  refine ac_dup X dX12_init_539 rfl ?_
  refine ac_bipush (v := 82) X dX12_init_540 (by decide) ?_
  refine ac_bipush (v := 117) X dX12_init_542 (by decide) ?_
  refine ac_iastL (m0 := 5) (i := 82) (uX12_len5 _ _) X dX12_init_544 (by decide) (by decide) ?_
  refine ac_dup X dX12_init_545 rfl ?_
  refine ac_bipush (v := 83) X dX12_init_546 (by decide) ?_
  refine ac_bipush (v := 116) X dX12_init_548 (by decide) ?_
  refine ac_iastL (m0 := 5) (i := 83) (uX12_len5 _ _) X dX12_init_550 (by decide) (by decide) ?_
  refine ac_dup X dX12_init_551 rfl ?_
  refine ac_bipush (v := 84) X dX12_init_552 (by decide) ?_
  refine ac_bipush (v := 101) X dX12_init_554 (by decide) ?_
  refine ac_iastL (m0 := 5) (i := 84) (uX12_len5 _ _) X dX12_init_556 (by decide) (by decide) ?_
  refine ac_dup X dX12_init_557 rfl ?_
  refine ac_bipush (v := 85) X dX12_init_558 (by decide) ?_
  refine ac_bipush (v := 32) X dX12_init_560 (by decide) ?_
  refine ac_iastL (m0 := 5) (i := 85) (uX12_len5 _ _) X dX12_init_562 (by decide) (by decide) ?_
  refine ac_dup X dX12_init_563 rfl ?_
  refine ac_bipush (v := 86) X dX12_init_564 (by decide) ?_
  refine ac_bipush (v := 97) X dX12_init_566 (by decide) ?_
  refine ac_iastL (m0 := 5) (i := 86) (uX12_len5 _ _) X dX12_init_568 (by decide) (by decide) ?_
  refine ac_dup X dX12_init_569 rfl ?_
  refine ac_bipush (v := 87) X dX12_init_570 (by decide) ?_
  refine ac_bipush (v := 116) X dX12_init_572 (by decide) ?_
  refine ac_iastL (m0 := 5) (i := 87) (uX12_len5 _ _) X dX12_init_574 (by decide) (by decide) ?_
  refine ac_dup X dX12_init_575 rfl ?_
  refine ac_bipush (v := 88) X dX12_init_576 (by decide) ?_
  refine ac_bipush (v := 32) X dX12_init_578 (by decide) ?_
  refine ac_iastL (m0 := 5) (i := 88) (uX12_len5 _ _) X dX12_init_580 (by decide) (by decide) ?_
  refine ac_dup X dX12_init_581 rfl ?_
  refine ac_bipush (v := 89) X dX12_init_582 (by decide) ?_
  refine ac_bipush (v := 112) X dX12_init_584 (by decide) ?_
  refine ac_iastL (m0 := 5) (i := 89) (uX12_len5 _ _) X dX12_init_586 (by decide) (by decide) ?_
  refine ac_dup X dX12_init_587 rfl ?_
  refine ac_bipush (v := 90) X dX12_init_588 (by decide) ?_
  refine ac_bipush (v := 101) X dX12_init_590 (by decide) ?_
  refine ac_iastL (m0 := 5) (i := 90) (uX12_len5 _ _) X dX12_init_592 (by decide) (by decide) ?_
  refine ac_dup X dX12_init_593 rfl ?_
  refine ac_bipush (v := 91) X dX12_init_594 (by decide) ?_
  refine ac_bipush (v := 114) X dX12_init_596 (by decide) ?_
  refine ac_iastL (m0 := 5) (i := 91) (uX12_len5 _ _) X dX12_init_598 (by decide) (by decide) ?_
  refine ac_dup X dX12_init_599 rfl ?_
  refine ac_bipush (v := 92) X dX12_init_600 (by decide) ?_
  refine ac_bipush (v := 115) X dX12_init_602 (by decide) ?_
  refine ac_iastL (m0 := 5) (i := 92) (uX12_len5 _ _) X dX12_init_604 (by decide) (by decide) ?_
  refine ac_dup X dX12_init_605 rfl ?_
  refine ac_bipush (v := 93) X dX12_init_606 (by decide) ?_
  refine ac_bipush (v := 111) X dX12_init_608 (by decide) ?_
  refine ac_iastL (m0 := 5) (i := 93) (uX12_len5 _ _) X dX12_init_610 (by decide) (by decide) ?_
  refine ac_dup X dX12_init_611 rfl ?_
  refine ac_bipush (v := 94) X dX12_init_612 (by decide) ?_
  refine ac_bipush (v := 110) X dX12_init_614 (by decide) ?_
  refine ac_iastL (m0 := 5) (i := 94) (uX12_len5 _ _) X dX12_init_616 (by decide) (by decide) ?_
  refine ac_dup X dX12_init_617 rfl ?_
  refine ac_bipush (v := 95) X dX12_init_618 (by decide) ?_
  refine ac_bipush (v := 32) X dX12_init_620 (by decide) ?_
  refine ac_iastL (m0 := 5) (i := 95) (uX12_len5 _ _) X dX12_init_622 (by decide) (by decide) ?_
  refine ac_dup X dX12_init_623 rfl ?_
  refine ac_bipush (v := 96) X dX12_init_624 (by decide) ?_
  refine ac_bipush (v := 110) X dX12_init_626 (by decide) ?_
  refine ac_iastL (m0 := 5) (i := 96) (uX12_len5 _ _) X dX12_init_628 (by decide) (by decide) ?_
  refine ac_dup X dX12_init_629 rfl ?_
  refine ac_bipush (v := 97) X dX12_init_630 (by decide) ?_
  refine ac_bipush (v := 97) X dX12_init_632 (by decide) ?_
  refine ac_iastL (m0 := 5) (i := 97) (uX12_len5 _ _) X dX12_init_634 (by decide) (by decide) ?_
  refine ac_dup X dX12_init_635 rfl ?_
  refine ac_bipush (v := 98) X dX12_init_636 (by decide) ?_
  refine ac_bipush (v := 109) X dX12_init_638 (by decide) ?_
  refine ac_iastL (m0 := 5) (i := 98) (uX12_len5 _ _) X dX12_init_640 (by decide) (by decide) ?_
  refine ac_dup X dX12_init_641 rfl ?_
  refine ac_bipush (v := 99) X dX12_init_642 (by decide) ?_
  refine ac_bipush (v := 101) X dX12_init_644 (by decide) ?_
  refine ac_iastL (m0 := 5) (i := 99) (uX12_len5 _ _) X dX12_init_646 (by decide) (by decide) ?_
  refine ac_dup X dX12_init_647 rfl ?_
  refine ac_bipush (v := 100) X dX12_init_648 (by decide) ?_
  refine ac_bipush (v := 115) X dX12_init_650 (by decide) ?_
  refine ac_iastL (m0 := 5) (i := 100) (uX12_len5 _ _) X dX12_init_652 (by decide) (by decide) ?_
  refine ac_dup X dX12_init_653 rfl ?_
  refine ac_bipush (v := 101) X dX12_init_654 (by decide) ?_
  refine ac_bipush (v := 32) X dX12_init_656 (by decide) ?_
  refine ac_iastL (m0 := 5) (i := 101) (uX12_len5 _ _) X dX12_init_658 (by decide) (by decide) ?_
  refine ac_dup X dX12_init_659 rfl ?_
  refine ac_bipush (v := 102) X dX12_init_660 (by decide) ?_
  refine ac_bipush (v := 102) X dX12_init_662 (by decide) ?_
  refine ac_iastL (m0 := 5) (i := 102) (uX12_len5 _ _) X dX12_init_664 (by decide) (by decide) ?_
  refine ac_dup X dX12_init_665 rfl ?_
  refine ac_bipush (v := 103) X dX12_init_666 (by decide) ?_
  refine ac_bipush (v := 114) X dX12_init_668 (by decide) ?_
  refine ac_iastL (m0 := 5) (i := 103) (uX12_len5 _ _) X dX12_init_670 (by decide) (by decide) ?_
  refine ac_dup X dX12_init_671 rfl ?_
  refine ac_bipush (v := 104) X dX12_init_672 (by decide) ?_
  refine ac_bipush (v := 105) X dX12_init_674 (by decide) ?_
  refine ac_iastL (m0 := 5) (i := 104) (uX12_len5 _ _) X dX12_init_676 (by decide) (by decide) ?_
  refine ac_dup X dX12_init_677 rfl ?_
  refine ac_bipush (v := 105) X dX12_init_678 (by decide) ?_
  refine ac_bipush (v := 103) X dX12_init_680 (by decide) ?_
  refine ac_iastL (m0 := 5) (i := 105) (uX12_len5 _ _) X dX12_init_682 (by decide) (by decide) ?_
  refine ac_dup X dX12_init_683 rfl ?_
  refine ac_bipush (v := 106) X dX12_init_684 (by decide) ?_
  refine ac_bipush (v := 104) X dX12_init_686 (by decide) ?_
  refine ac_iastL (m0 := 5) (i := 106) (uX12_len5 _ _) X dX12_init_688 (by decide) (by decide) ?_
  refine ac_dup X dX12_init_689 rfl ?_
  refine ac_bipush (v := 107) X dX12_init_690 (by decide) ?_
  refine ac_bipush (v := 116) X dX12_init_692 (by decide) ?_
  refine ac_iastL (m0 := 5) (i := 107) (uX12_len5 _ _) X dX12_init_694 (by decide) (by decide) ?_
  refine ac_dup X dX12_init_695 rfl ?_
  refine ac_bipush (v := 108) X dX12_init_696 (by decide) ?_
  refine ac_bipush (v := 32) X dX12_init_698 (by decide) ?_
  refine ac_iastL (m0 := 5) (i := 108) (uX12_len5 _ _) X dX12_init_700 (by decide) (by decide) ?_
  refine ac_dup X dX12_init_701 rfl ?_
  refine ac_bipush (v := 109) X dX12_init_702 (by decide) ?_
  refine ac_bipush (v := 98) X dX12_init_704 (by decide) ?_
  refine ac_iastL (m0 := 5) (i := 109) (uX12_len5 _ _) X dX12_init_706 (by decide) (by decide) ?_
  refine ac_dup X dX12_init_707 rfl ?_
  refine ac_bipush (v := 110) X dX12_init_708 (by decide) ?_
  refine ac_bipush (v := 114) X dX12_init_710 (by decide) ?_
  refine ac_iastL (m0 := 5) (i := 110) (uX12_len5 _ _) X dX12_init_712 (by decide) (by decide) ?_
  refine ac_dup X dX12_init_713 rfl ?_
  refine ac_bipush (v := 111) X dX12_init_714 (by decide) ?_
  refine ac_bipush (v := 101) X dX12_init_716 (by decide) ?_
  refine ac_iastL (m0 := 5) (i := 111) (uX12_len5 _ _) X dX12_init_718 (by decide) (by decide) ?_
  refine ac_dup X dX12_init_719 rfl ?_
  refine ac_bipush (v := 112) X dX12_init_720 (by decide) ?_
  refine ac_bipush (v := 97) X dX12_init_722 (by decide) ?_
  refine ac_iastL (m0 := 5) (i := 112) (uX12_len5 _ _) X dX12_init_724 (by decide) (by decide) ?_
  refine ac_dup X dX12_init_725 rfl ?_
  refine ac_bipush (v := 113) X dX12_init_726 (by decide) ?_
  refine ac_bipush (v := 116) X dX12_init_728 (by decide) ?_
  refine ac_iastL (m0 := 5) (i := 113) (uX12_len5 _ _) X dX12_init_730 (by decide) (by decide) ?_
  refine ac_dup X dX12_init_731 rfl ?_
  refine ac_bipush (v := 114) X dX12_init_732 (by decide) ?_
  refine ac_bipush (v := 104) X dX12_init_734 (by decide) ?_
  refine ac_iastL (m0 := 5) (i := 114) (uX12_len5 _ _) X dX12_init_736 (by decide) (by decide) ?_
  refine ac_dup X dX12_init_737 rfl ?_
  refine ac_bipush (v := 115) X dX12_init_738 (by decide) ?_
  refine ac_bipush (v := 32) X dX12_init_740 (by decide) ?_
  refine ac_iastL (m0 := 5) (i := 115) (uX12_len5 _ _) X dX12_init_742 (by decide) (by decide) ?_
  refine ac_dup X dX12_init_743 rfl ?_
  refine ac_bipush (v := 116) X dX12_init_744 (by decide) ?_
  refine ac_bipush (v := 103) X dX12_init_746 (by decide) ?_
  refine ac_iastL (m0 := 5) (i := 116) (uX12_len5 _ _) X dX12_init_748 (by decide) (by decide) ?_
  refine ac_dup X dX12_init_749 rfl ?_
  refine ac_bipush (v := 117) X dX12_init_750 (by decide) ?_
  refine ac_bipush (v := 108) X dX12_init_752 (by decide) ?_
  refine ac_iastL (m0 := 5) (i := 117) (uX12_len5 _ _) X dX12_init_754 (by decide) (by decide) ?_
  refine ac_dup X dX12_init_755 rfl ?_
  refine ac_bipush (v := 118) X dX12_init_756 (by decide) ?_
  refine ac_bipush (v := 97) X dX12_init_758 (by decide) ?_
  refine ac_iastL (m0 := 5) (i := 118) (uX12_len5 _ _) X dX12_init_760 (by decide) (by decide) ?_
  refine ac_dup X dX12_init_761 rfl ?_
  refine ac_bipush (v := 119) X dX12_init_762 (by decide) ?_
  refine ac_bipush (v := 115) X dX12_init_764 (by decide) ?_
  refine ac_iastL (m0 := 5) (i := 119) (uX12_len5 _ _) X dX12_init_766 (by decide) (by decide) ?_
  refine ac_dup X dX12_init_767 rfl ?_
  refine ac_bipush (v := 120) X dX12_init_768 (by decide) ?_
  refine ac_bipush (v := 115) X dX12_init_770 (by decide) ?_
  refine ac_iastL (m0 := 5) (i := 120) (uX12_len5 _ _) X dX12_init_772 (by decide) (by decide) ?_
  refine ac_dup X dX12_init_773 rfl ?_
  refine ac_bipush (v := 121) X dX12_init_774 (by decide) ?_
  refine ac_bipush (v := 32) X dX12_init_776 (by decide) ?_
  refine ac_iastL (m0 := 5) (i := 121) (uX12_len5 _ _) X dX12_init_778 (by decide) (by decide) ?_
  refine ac_dup X dX12_init_779 rfl ?_
  refine ac_bipush (v := 122) X dX12_init_780 (by decide) ?_
  refine ac_bipush (v := 115) X dX12_init_782 (by decide) ?_
  refine ac_iastL (m0 := 5) (i := 122) (uX12_len5 _ _) X dX12_init_784 (by decide) (by decide) ?_
  refine ac_dup X dX12_init_785 rfl ?_
  refine ac_bipush (v := 123) X dX12_init_786 (by decide) ?_
  refine ac_bipush (v := 117) X dX12_init_788 (by decide) ?_
  refine ac_iastL (m0 := 5) (i := 123) (uX12_len5 _ _) X dX12_init_790 (by decide) (by decide) ?_
  refine ac_dup X dX12_init_791 rfl ?_
  refine ac_bipush (v := 124) X dX12_init_792 (by decide) ?_
  refine ac_bipush (v := 103) X dX12_init_794 (by decide) ?_
  refine ac_iastL (m0 := 5) (i := 124) (uX12_len5 _ _) X dX12_init_796 (by decide) (by decide) ?_
  refine ac_dup X dX12_init_797 rfl ?_
  refine ac_bipush (v := 125) X dX12_init_798 (by decide) ?_
  refine ac_bipush (v := 97) X dX12_init_800 (by decide) ?_
  refine ac_iastL (m0 := 5) (i := 125) (uX12_len5 _ _) X dX12_init_802 (by decide) (by decide) ?_
  refine ac_dup X dX12_init_803 rfl ?_
  refine ac_bipush (v := 126) X dX12_init_804 (by decide) ?_
  refine ac_bipush (v := 114) X dX12_init_806 (by decide) ?_
  refine ac_iastL (m0 := 5) (i := 126) (uX12_len5 _ _) X dX12_init_808 (by decide) (by decide) ?_
  refine ac_dup X dX12_init_809 rfl ?_
  refine ac_bipush (v := 127) X dX12_init_810 (by decide) ?_
  refine ac_bipush (v := 32) X dX12_init_812 (by decide) ?_
  refine ac_iastL (m0 := 5) (i := 127) (uX12_len5 _ _) X dX12_init_814 (by decide) (by decide) ?_
  refine ac_dup X dX12_init_815 rfl ?_
  refine ac_sipush (v := 128) X dX12_init_816 (by decide) ?_
  refine ac_bipush (v := 115) X dX12_init_819 (by decide) ?_
  refine ac_iastL (m0 := 5) (i := 128) (uX12_len5 _ _) X dX12_init_821 (by decide) (by decide) ?_
  refine ac_dup X dX12_init_822 rfl ?_
  refine ac_sipush (v := 129) X dX12_init_823 (by decide) ?_
  refine ac_bipush (v := 97) X dX12_init_826 (by decide) ?_
  refine ac_iastL (m0 := 5) (i := 129) (uX12_len5 _ _) X dX12_init_828 (by decide) (by decide) ?_
  refine ac_dup X dX12_init_829 rfl ?_
  refine ac_sipush (v := 130) X dX12_init_830 (by decide) ?_
  refine ac_bipush (v := 121) X dX12_init_833 (by decide) ?_
  refine ac_iastL (m0 := 5) (i := 130) (uX12_len5 _ _) X dX12_init_835 (by decide) (by decide) ?_
  refine ac_dup X dX12_init_836 rfl ?_
  refine ac_sipush (v := 131) X dX12_init_837 (by decide) ?_
  refine ac_bipush (v := 115) X dX12_init_840 (by decide) ?_
  refine ac_iastL (m0 := 5) (i := 131) (uX12_len5 _ _) X dX12_init_842 (by decide) (by decide) ?_
  refine ac_dup X dX12_init_843 rfl ?_
  refine ac_sipush (v := 132) X dX12_init_844 (by decide) ?_
  refine ac_bipush (v := 32) X dX12_init_847 (by decide) ?_
  refine ac_iastL (m0 := 5) (i := 132) (uX12_len5 _ _) X dX12_init_849 (by decide) (by decide) ?_
  refine ac_is (T' := uX12_6 Z.2.2.2.1 (cB Z)) rfl ?_
  refine ac_putF (fs' := [.int 0, .ref (cB Z + 0), .ref (cB Z + 1), .int 0, .ref (cB Z + 2), .int 0, .int 0, .ref (cB Z + 3), .ref (cB Z + 4), .int 0, .int 0, .int 0, .int 0, .int 0, .ref (cB Z + 5), .null, .null, .null, .null, .null, .null, .null, .int 0, .int 0, .int 0, .null, .int 0, .int 0, .int 0, .int 0, .int 0, .int 0, .null, .int 0, .null, .int 0, .null, .null, .null, .null, .int 0, .null, .int 0, .null, .null, .null, .int 0, .null, .null, .null, .null, .null, .int 0, .null, .null, .int 0, .null, .null, .null, .int 0, .null, .int 0, .int 0, .int 0, .null]) X dX12_init_850 pf_RX12_25 rfl rfl (Nat.le_of_ble_eq_true rfl) rfl ?_
  refine ac_aload_n X dX12_init_853 rfl ?_
  refine ac_iconst (v := 2) X dX12_init_854 (by decide) ?_
  refine ac_newaiM (k := 2) (m := 6) (c' := 7) (n' := 1951) (uX12_len6 _ _) rfl rfl X dX12_init_855 aw_ci (by decide) (Nat.le_of_ble_eq_true rfl) (Nat.le_of_ble_eq_true rfl) ?_
  refine ac_is (T' := uX12_7 Z.2.2.2.1 (cB Z)) rfl ?_
  refine ac_putF (fs' := [.int 0, .ref (cB Z + 0), .ref (cB Z + 1), .int 0, .ref (cB Z + 2), .int 0, .int 0, .ref (cB Z + 3), .ref (cB Z + 4), .int 0, .int 0, .int 0, .int 0, .int 0, .ref (cB Z + 5), .ref (cB Z + 6), .null, .null, .null, .null, .null, .null, .int 0, .int 0, .int 0, .null, .int 0, .int 0, .int 0, .int 0, .int 0, .int 0, .null, .int 0, .null, .int 0, .null, .null, .null, .null, .int 0, .null, .int 0, .null, .null, .null, .int 0, .null, .null, .null, .null, .null, .int 0, .null, .null, .int 0, .null, .null, .null, .int 0, .null, .int 0, .int 0, .int 0, .null]) X dX12_init_857 pf_RX12_28 rfl rfl (Nat.le_of_ble_eq_true rfl) rfl ?_
  refine ac_aload_n X dX12_init_860 rfl ?_
  refine ac_bipush (v := 48) X dX12_init_861 (by decide) ?_
  refine ac_newaiM (k := 48) (m := 7) (c' := 8) (n' := 1999) (uX12_len7 _ _) rfl rfl X dX12_init_863 aw_ci (by decide) (Nat.le_of_ble_eq_true rfl) (Nat.le_of_ble_eq_true rfl) ?_
  refine ac_is (T' := uX12_8 Z.2.2.2.1 (cB Z)) rfl ?_
  refine ac_putF (fs' := [.int 0, .ref (cB Z + 0), .ref (cB Z + 1), .int 0, .ref (cB Z + 2), .int 0, .int 0, .ref (cB Z + 3), .ref (cB Z + 4), .int 0, .int 0, .int 0, .int 0, .int 0, .ref (cB Z + 5), .ref (cB Z + 6), .ref (cB Z + 7), .null, .null, .null, .null, .null, .int 0, .int 0, .int 0, .null, .int 0, .int 0, .int 0, .int 0, .int 0, .int 0, .null, .int 0, .null, .int 0, .null, .null, .null, .null, .int 0, .null, .int 0, .null, .null, .null, .int 0, .null, .null, .null, .null, .null, .int 0, .null, .null, .int 0, .null, .null, .null, .int 0, .null, .int 0, .int 0, .int 0, .null]) X dX12_init_865 pf_RX12_31 rfl rfl (Nat.le_of_ble_eq_true rfl) rfl ?_
  refine ac_aload_n X dX12_init_868 rfl ?_
  refine ac_bipush (v := 48) X dX12_init_869 (by decide) ?_
  refine ac_newaiM (k := 48) (m := 8) (c' := 9) (n' := 2047) (uX12_len8 _ _) rfl rfl X dX12_init_871 aw_ci (by decide) (Nat.le_of_ble_eq_true rfl) (Nat.le_of_ble_eq_true rfl) ?_
  refine ac_is (T' := uX12_9 Z.2.2.2.1 (cB Z)) rfl ?_
  refine ac_putF (fs' := [.int 0, .ref (cB Z + 0), .ref (cB Z + 1), .int 0, .ref (cB Z + 2), .int 0, .int 0, .ref (cB Z + 3), .ref (cB Z + 4), .int 0, .int 0, .int 0, .int 0, .int 0, .ref (cB Z + 5), .ref (cB Z + 6), .ref (cB Z + 7), .ref (cB Z + 8), .null, .null, .null, .null, .int 0, .int 0, .int 0, .null, .int 0, .int 0, .int 0, .int 0, .int 0, .int 0, .null, .int 0, .null, .int 0, .null, .null, .null, .null, .int 0, .null, .int 0, .null, .null, .null, .int 0, .null, .null, .null, .null, .null, .int 0, .null, .null, .int 0, .null, .null, .null, .int 0, .null, .int 0, .int 0, .int 0, .null]) X dX12_init_873 pf_RX12_34 rfl rfl (Nat.le_of_ble_eq_true rfl) rfl ?_
  refine ac_aload_n X dX12_init_876 rfl ?_
  refine ac_bipush (v := 48) X dX12_init_877 (by decide) ?_
  refine ac_newaiM (k := 48) (m := 9) (c' := 10) (n' := 2095) (uX12_len9 _ _) rfl rfl X dX12_init_879 aw_ci (by decide) (Nat.le_of_ble_eq_true rfl) (Nat.le_of_ble_eq_true rfl) ?_
  refine ac_is (T' := uX12_10 Z.2.2.2.1 (cB Z)) rfl ?_
  refine ac_putF (fs' := [.int 0, .ref (cB Z + 0), .ref (cB Z + 1), .int 0, .ref (cB Z + 2), .int 0, .int 0, .ref (cB Z + 3), .ref (cB Z + 4), .int 0, .int 0, .int 0, .int 0, .int 0, .ref (cB Z + 5), .ref (cB Z + 6), .ref (cB Z + 7), .ref (cB Z + 8), .ref (cB Z + 9), .null, .null, .null, .int 0, .int 0, .int 0, .null, .int 0, .int 0, .int 0, .int 0, .int 0, .int 0, .null, .int 0, .null, .int 0, .null, .null, .null, .null, .int 0, .null, .int 0, .null, .null, .null, .int 0, .null, .null, .null, .null, .null, .int 0, .null, .null, .int 0, .null, .null, .null, .int 0, .null, .int 0, .int 0, .int 0, .null]) X dX12_init_881 pf_RX12_37 rfl rfl (Nat.le_of_ble_eq_true rfl) rfl ?_
  refine ac_aload_n X dX12_init_884 rfl ?_
  refine ac_bipush (v := 48) X dX12_init_885 (by decide) ?_
  refine ac_newaiM (k := 48) (m := 10) (c' := 11) (n' := 2143) (uX12_len10 _ _) rfl rfl X dX12_init_887 aw_ci (by decide) (Nat.le_of_ble_eq_true rfl) (Nat.le_of_ble_eq_true rfl) ?_
  refine ac_is (T' := uX12_11 Z.2.2.2.1 (cB Z)) rfl ?_
  refine ac_putF (fs' := [.int 0, .ref (cB Z + 0), .ref (cB Z + 1), .int 0, .ref (cB Z + 2), .int 0, .int 0, .ref (cB Z + 3), .ref (cB Z + 4), .int 0, .int 0, .int 0, .int 0, .int 0, .ref (cB Z + 5), .ref (cB Z + 6), .ref (cB Z + 7), .ref (cB Z + 8), .ref (cB Z + 9), .ref (cB Z + 10), .null, .null, .int 0, .int 0, .int 0, .null, .int 0, .int 0, .int 0, .int 0, .int 0, .int 0, .null, .int 0, .null, .int 0, .null, .null, .null, .null, .int 0, .null, .int 0, .null, .null, .null, .int 0, .null, .null, .null, .null, .null, .int 0, .null, .null, .int 0, .null, .null, .null, .int 0, .null, .int 0, .int 0, .int 0, .null]) X dX12_init_889 pf_RX12_40 rfl rfl (Nat.le_of_ble_eq_true rfl) rfl ?_
  refine ac_aload_n X dX12_init_892 rfl ?_
  refine ac_sipush (v := 1200) X dX12_init_893 (by decide) ?_
  refine ac_newaiM (k := 1200) (m := 11) (c' := 12) (n' := 3343) (uX12_len11 _ _) rfl rfl X dX12_init_896 aw_ci (by decide) (Nat.le_of_ble_eq_true rfl) (Nat.le_of_ble_eq_true rfl) ?_
  refine ac_is (T' := uX12_12 Z.2.2.2.1 (cB Z)) rfl ?_
  refine ac_putF (fs' := [.int 0, .ref (cB Z + 0), .ref (cB Z + 1), .int 0, .ref (cB Z + 2), .int 0, .int 0, .ref (cB Z + 3), .ref (cB Z + 4), .int 0, .int 0, .int 0, .int 0, .int 0, .ref (cB Z + 5), .ref (cB Z + 6), .ref (cB Z + 7), .ref (cB Z + 8), .ref (cB Z + 9), .ref (cB Z + 10), .ref (cB Z + 11), .null, .int 0, .int 0, .int 0, .null, .int 0, .int 0, .int 0, .int 0, .int 0, .int 0, .null, .int 0, .null, .int 0, .null, .null, .null, .null, .int 0, .null, .int 0, .null, .null, .null, .int 0, .null, .null, .null, .null, .null, .int 0, .null, .null, .int 0, .null, .null, .null, .int 0, .null, .int 0, .int 0, .int 0, .null]) X dX12_init_898 pf_RX12_43 rfl rfl (Nat.le_of_ble_eq_true rfl) rfl ?_
  refine ac_aload_n X dX12_init_901 rfl ?_
  refine ac_sipush (v := 1200) X dX12_init_902 (by decide) ?_
  refine ac_newaiM (k := 1200) (m := 12) (c' := 13) (n' := 4543) (uX12_len12 _ _) rfl rfl X dX12_init_905 aw_ci (by decide) (Nat.le_of_ble_eq_true rfl) (Nat.le_of_ble_eq_true rfl) ?_
  refine ac_is (T' := uX12_13 Z.2.2.2.1 (cB Z)) rfl ?_
  refine ac_putF (fs' := [.int 0, .ref (cB Z + 0), .ref (cB Z + 1), .int 0, .ref (cB Z + 2), .int 0, .int 0, .ref (cB Z + 3), .ref (cB Z + 4), .int 0, .int 0, .int 0, .int 0, .int 0, .ref (cB Z + 5), .ref (cB Z + 6), .ref (cB Z + 7), .ref (cB Z + 8), .ref (cB Z + 9), .ref (cB Z + 10), .ref (cB Z + 11), .ref (cB Z + 12), .int 0, .int 0, .int 0, .null, .int 0, .int 0, .int 0, .int 0, .int 0, .int 0, .null, .int 0, .null, .int 0, .null, .null, .null, .null, .int 0, .null, .int 0, .null, .null, .null, .int 0, .null, .null, .null, .null, .null, .int 0, .null, .null, .int 0, .null, .null, .null, .int 0, .null, .int 0, .int 0, .int 0, .null]) X dX12_init_907 pf_RX12_46 rfl rfl (Nat.le_of_ble_eq_true rfl) rfl ?_
  refine ac_aload_n X dX12_init_910 rfl ?_
  refine ac_bipush (v := 40) X dX12_init_911 (by decide) ?_
  refine ac_newaiM (k := 40) (m := 13) (c' := 14) (n' := 4583) (uX12_len13 _ _) rfl rfl X dX12_init_913 aw_ci (by decide) (Nat.le_of_ble_eq_true rfl) (Nat.le_of_ble_eq_true rfl) ?_
  refine ac_is (T' := uX12_14 Z.2.2.2.1 (cB Z)) rfl ?_
  refine ac_putF (fs' := [.int 0, .ref (cB Z + 0), .ref (cB Z + 1), .int 0, .ref (cB Z + 2), .int 0, .int 0, .ref (cB Z + 3), .ref (cB Z + 4), .int 0, .int 0, .int 0, .int 0, .int 0, .ref (cB Z + 5), .ref (cB Z + 6), .ref (cB Z + 7), .ref (cB Z + 8), .ref (cB Z + 9), .ref (cB Z + 10), .ref (cB Z + 11), .ref (cB Z + 12), .int 0, .int 0, .int 0, .ref (cB Z + 13), .int 0, .int 0, .int 0, .int 0, .int 0, .int 0, .null, .int 0, .null, .int 0, .null, .null, .null, .null, .int 0, .null, .int 0, .null, .null, .null, .int 0, .null, .null, .null, .null, .null, .int 0, .null, .null, .int 0, .null, .null, .null, .int 0, .null, .int 0, .int 0, .int 0, .null]) X dX12_init_915 pf_RX12_49 rfl rfl (Nat.le_of_ble_eq_true rfl) rfl ?_
  refine ac_aload_n X dX12_init_918 rfl ?_
  refine ac_iconst (v := (-1)) X dX12_init_919 (by decide) ?_
  refine ac_put (fs' := [.int 0, .ref (cB Z + 0), .ref (cB Z + 1), .int 0, .ref (cB Z + 2), .int 0, .int 0, .ref (cB Z + 3), .ref (cB Z + 4), .int 0, .int 0, .int 0, .int 0, .int 0, .ref (cB Z + 5), .ref (cB Z + 6), .ref (cB Z + 7), .ref (cB Z + 8), .ref (cB Z + 9), .ref (cB Z + 10), .ref (cB Z + 11), .ref (cB Z + 12), .int 0, .int 0, .int 0, .ref (cB Z + 13), .int 0, .int 0, .int 0, .int 0, .int (-1), .int 0, .null, .int 0, .null, .int 0, .null, .null, .null, .null, .int 0, .null, .int 0, .null, .null, .null, .int 0, .null, .null, .null, .null, .null, .int 0, .null, .null, .int 0, .null, .null, .null, .int 0, .null, .int 0, .int 0, .int 0, .null]) X dX12_init_920 pf_RX12_52 rfl rfl (Nat.le_of_ble_eq_true rfl) rfl ?_
  refine ac_aload_n X dX12_init_923 rfl ?_
  refine ac_bipush (v := 96) X dX12_init_924 (by decide) ?_
  refine ac_newaiM (k := 96) (m := 14) (c' := 15) (n' := 4679) (uX12_len14 _ _) rfl rfl X dX12_init_926 aw_ci (by decide) (Nat.le_of_ble_eq_true rfl) (Nat.le_of_ble_eq_true rfl) ?_
  refine ac_is (T' := uX12_15 Z.2.2.2.1 (cB Z)) rfl ?_
  refine ac_putF (fs' := [.int 0, .ref (cB Z + 0), .ref (cB Z + 1), .int 0, .ref (cB Z + 2), .int 0, .int 0, .ref (cB Z + 3), .ref (cB Z + 4), .int 0, .int 0, .int 0, .int 0, .int 0, .ref (cB Z + 5), .ref (cB Z + 6), .ref (cB Z + 7), .ref (cB Z + 8), .ref (cB Z + 9), .ref (cB Z + 10), .ref (cB Z + 11), .ref (cB Z + 12), .int 0, .int 0, .int 0, .ref (cB Z + 13), .int 0, .int 0, .int 0, .int 0, .int (-1), .int 0, .ref (cB Z + 14), .int 0, .null, .int 0, .null, .null, .null, .null, .int 0, .null, .int 0, .null, .null, .null, .int 0, .null, .null, .null, .null, .null, .int 0, .null, .null, .int 0, .null, .null, .null, .int 0, .null, .int 0, .int 0, .int 0, .null]) X dX12_init_928 pf_RX12_56 rfl rfl (Nat.le_of_ble_eq_true rfl) rfl ?_
  refine ac_aload_n X dX12_init_931 rfl ?_
  refine ac_sipush (v := 128) X dX12_init_932 (by decide) ?_
  refine ac_newaiM (k := 128) (m := 15) (c' := 16) (n' := 4807) (uX12_len15 _ _) rfl rfl X dX12_init_935 aw_ci (by decide) (Nat.le_of_ble_eq_true rfl) (Nat.le_of_ble_eq_true rfl) ?_
  refine ac_is (T' := uX12_16 Z.2.2.2.1 (cB Z)) rfl ?_
  refine ac_putF (fs' := [.int 0, .ref (cB Z + 0), .ref (cB Z + 1), .int 0, .ref (cB Z + 2), .int 0, .int 0, .ref (cB Z + 3), .ref (cB Z + 4), .int 0, .int 0, .int 0, .int 0, .int 0, .ref (cB Z + 5), .ref (cB Z + 6), .ref (cB Z + 7), .ref (cB Z + 8), .ref (cB Z + 9), .ref (cB Z + 10), .ref (cB Z + 11), .ref (cB Z + 12), .int 0, .int 0, .int 0, .ref (cB Z + 13), .int 0, .int 0, .int 0, .int 0, .int (-1), .int 0, .ref (cB Z + 14), .int 0, .ref (cB Z + 15), .int 0, .null, .null, .null, .null, .int 0, .null, .int 0, .null, .null, .null, .int 0, .null, .null, .null, .null, .null, .int 0, .null, .null, .int 0, .null, .null, .null, .int 0, .null, .int 0, .int 0, .int 0, .null]) X dX12_init_937 pf_RX12_59 rfl rfl (Nat.le_of_ble_eq_true rfl) rfl ?_
  refine ac_aload_n X dX12_init_940 rfl ?_
  refine ac_bipush (v := 28) X dX12_init_941 (by decide) ?_
  refine ac_newaiM (k := 28) (m := 16) (c' := 17) (n' := 4835) (uX12_len16 _ _) rfl rfl X dX12_init_943 aw_ci (by decide) (Nat.le_of_ble_eq_true rfl) (Nat.le_of_ble_eq_true rfl) ?_
  refine ac_is (T' := uX12_17 Z.2.2.2.1 (cB Z)) rfl ?_
  refine ac_putF (fs' := [.int 0, .ref (cB Z + 0), .ref (cB Z + 1), .int 0, .ref (cB Z + 2), .int 0, .int 0, .ref (cB Z + 3), .ref (cB Z + 4), .int 0, .int 0, .int 0, .int 0, .int 0, .ref (cB Z + 5), .ref (cB Z + 6), .ref (cB Z + 7), .ref (cB Z + 8), .ref (cB Z + 9), .ref (cB Z + 10), .ref (cB Z + 11), .ref (cB Z + 12), .int 0, .int 0, .int 0, .ref (cB Z + 13), .int 0, .int 0, .int 0, .int 0, .int (-1), .int 0, .ref (cB Z + 14), .int 0, .ref (cB Z + 15), .int 0, .ref (cB Z + 16), .null, .null, .null, .int 0, .null, .int 0, .null, .null, .null, .int 0, .null, .null, .null, .null, .null, .int 0, .null, .null, .int 0, .null, .null, .null, .int 0, .null, .int 0, .int 0, .int 0, .null]) X dX12_init_945 pf_RX12_62 rfl rfl (Nat.le_of_ble_eq_true rfl) rfl ?_
  refine ac_aload_n X dX12_init_948 rfl ?_
  refine ac_sipush (v := 168) X dX12_init_949 (by decide) ?_
  refine ac_newaiM (k := 168) (m := 17) (c' := 18) (n' := 5003) (uX12_len17 _ _) rfl rfl X dX12_init_952 aw_ci (by decide) (Nat.le_of_ble_eq_true rfl) (Nat.le_of_ble_eq_true rfl) ?_
  refine ac_is (T' := uX12_18 Z.2.2.2.1 (cB Z)) rfl ?_
  refine ac_putF (fs' := [.int 0, .ref (cB Z + 0), .ref (cB Z + 1), .int 0, .ref (cB Z + 2), .int 0, .int 0, .ref (cB Z + 3), .ref (cB Z + 4), .int 0, .int 0, .int 0, .int 0, .int 0, .ref (cB Z + 5), .ref (cB Z + 6), .ref (cB Z + 7), .ref (cB Z + 8), .ref (cB Z + 9), .ref (cB Z + 10), .ref (cB Z + 11), .ref (cB Z + 12), .int 0, .int 0, .int 0, .ref (cB Z + 13), .int 0, .int 0, .int 0, .int 0, .int (-1), .int 0, .ref (cB Z + 14), .int 0, .ref (cB Z + 15), .int 0, .ref (cB Z + 16), .ref (cB Z + 17), .null, .null, .int 0, .null, .int 0, .null, .null, .null, .int 0, .null, .null, .null, .null, .null, .int 0, .null, .null, .int 0, .null, .null, .null, .int 0, .null, .int 0, .int 0, .int 0, .null]) X dX12_init_954 pf_RX12_65 rfl rfl (Nat.le_of_ble_eq_true rfl) rfl ?_
  refine ac_aload_n X dX12_init_957 rfl ?_
  refine ac_bipush (v := 8) X dX12_init_958 (by decide) ?_
  refine ac_newaiM (k := 8) (m := 18) (c' := 19) (n' := 5011) (uX12_len18 _ _) rfl rfl X dX12_init_960 aw_ci (by decide) (Nat.le_of_ble_eq_true rfl) (Nat.le_of_ble_eq_true rfl) ?_
  refine ac_is (T' := uX12_19 Z.2.2.2.1 (cB Z)) rfl ?_
  refine ac_putF (fs' := [.int 0, .ref (cB Z + 0), .ref (cB Z + 1), .int 0, .ref (cB Z + 2), .int 0, .int 0, .ref (cB Z + 3), .ref (cB Z + 4), .int 0, .int 0, .int 0, .int 0, .int 0, .ref (cB Z + 5), .ref (cB Z + 6), .ref (cB Z + 7), .ref (cB Z + 8), .ref (cB Z + 9), .ref (cB Z + 10), .ref (cB Z + 11), .ref (cB Z + 12), .int 0, .int 0, .int 0, .ref (cB Z + 13), .int 0, .int 0, .int 0, .int 0, .int (-1), .int 0, .ref (cB Z + 14), .int 0, .ref (cB Z + 15), .int 0, .ref (cB Z + 16), .ref (cB Z + 17), .ref (cB Z + 18), .null, .int 0, .null, .int 0, .null, .null, .null, .int 0, .null, .null, .null, .null, .null, .int 0, .null, .null, .int 0, .null, .null, .null, .int 0, .null, .int 0, .int 0, .int 0, .null]) X dX12_init_962 pf_RX12_68 rfl rfl (Nat.le_of_ble_eq_true rfl) rfl ?_
  refine ac_aload_n X dX12_init_965 rfl ?_
  refine ac_sipush (v := 420) X dX12_init_966 (by decide) ?_
  refine ac_newaiM (k := 420) (m := 19) (c' := 20) (n' := 5431) (uX12_len19 _ _) rfl rfl X dX12_init_969 aw_ci (by decide) (Nat.le_of_ble_eq_true rfl) (Nat.le_of_ble_eq_true rfl) ?_
  refine ac_is (T' := uX12_20 Z.2.2.2.1 (cB Z)) rfl ?_
  refine ac_putF (fs' := [.int 0, .ref (cB Z + 0), .ref (cB Z + 1), .int 0, .ref (cB Z + 2), .int 0, .int 0, .ref (cB Z + 3), .ref (cB Z + 4), .int 0, .int 0, .int 0, .int 0, .int 0, .ref (cB Z + 5), .ref (cB Z + 6), .ref (cB Z + 7), .ref (cB Z + 8), .ref (cB Z + 9), .ref (cB Z + 10), .ref (cB Z + 11), .ref (cB Z + 12), .int 0, .int 0, .int 0, .ref (cB Z + 13), .int 0, .int 0, .int 0, .int 0, .int (-1), .int 0, .ref (cB Z + 14), .int 0, .ref (cB Z + 15), .int 0, .ref (cB Z + 16), .ref (cB Z + 17), .ref (cB Z + 18), .ref (cB Z + 19), .int 0, .null, .int 0, .null, .null, .null, .int 0, .null, .null, .null, .null, .null, .int 0, .null, .null, .int 0, .null, .null, .null, .int 0, .null, .int 0, .int 0, .int 0, .null]) X dX12_init_971 pf_RX12_71 rfl rfl (Nat.le_of_ble_eq_true rfl) rfl ?_
  refine ac_aload_n X dX12_init_974 rfl ?_
  refine ac_bipush (v := 16) X dX12_init_975 (by decide) ?_
  refine ac_newaiM (k := 16) (m := 20) (c' := 21) (n' := 5447) (uX12_len20 _ _) rfl rfl X dX12_init_977 aw_ci (by decide) (Nat.le_of_ble_eq_true rfl) (Nat.le_of_ble_eq_true rfl) ?_
  refine ac_is (T' := uX12_21 Z.2.2.2.1 (cB Z)) rfl ?_
  refine ac_putF (fs' := [.int 0, .ref (cB Z + 0), .ref (cB Z + 1), .int 0, .ref (cB Z + 2), .int 0, .int 0, .ref (cB Z + 3), .ref (cB Z + 4), .int 0, .int 0, .int 0, .int 0, .int 0, .ref (cB Z + 5), .ref (cB Z + 6), .ref (cB Z + 7), .ref (cB Z + 8), .ref (cB Z + 9), .ref (cB Z + 10), .ref (cB Z + 11), .ref (cB Z + 12), .int 0, .int 0, .int 0, .ref (cB Z + 13), .int 0, .int 0, .int 0, .int 0, .int (-1), .int 0, .ref (cB Z + 14), .int 0, .ref (cB Z + 15), .int 0, .ref (cB Z + 16), .ref (cB Z + 17), .ref (cB Z + 18), .ref (cB Z + 19), .int 0, .ref (cB Z + 20), .int 0, .null, .null, .null, .int 0, .null, .null, .null, .null, .null, .int 0, .null, .null, .int 0, .null, .null, .null, .int 0, .null, .int 0, .int 0, .int 0, .null]) X dX12_init_979 pf_RX12_74 rfl rfl (Nat.le_of_ble_eq_true rfl) rfl ?_
  refine ac_aload_n X dX12_init_982 rfl ?_
  refine ac_bipush (v := 10) X dX12_init_983 (by decide) ?_
  refine ac_newaiM (k := 10) (m := 21) (c' := 22) (n' := 5457) (uX12_len21 _ _) rfl rfl X dX12_init_985 aw_ci (by decide) (Nat.le_of_ble_eq_true rfl) (Nat.le_of_ble_eq_true rfl) ?_
  refine ac_is (T' := uX12_22 Z.2.2.2.1 (cB Z)) rfl ?_
  refine ac_putF (fs' := [.int 0, .ref (cB Z + 0), .ref (cB Z + 1), .int 0, .ref (cB Z + 2), .int 0, .int 0, .ref (cB Z + 3), .ref (cB Z + 4), .int 0, .int 0, .int 0, .int 0, .int 0, .ref (cB Z + 5), .ref (cB Z + 6), .ref (cB Z + 7), .ref (cB Z + 8), .ref (cB Z + 9), .ref (cB Z + 10), .ref (cB Z + 11), .ref (cB Z + 12), .int 0, .int 0, .int 0, .ref (cB Z + 13), .int 0, .int 0, .int 0, .int 0, .int (-1), .int 0, .ref (cB Z + 14), .int 0, .ref (cB Z + 15), .int 0, .ref (cB Z + 16), .ref (cB Z + 17), .ref (cB Z + 18), .ref (cB Z + 19), .int 0, .ref (cB Z + 20), .int 0, .ref (cB Z + 21), .null, .null, .int 0, .null, .null, .null, .null, .null, .int 0, .null, .null, .int 0, .null, .null, .null, .int 0, .null, .int 0, .int 0, .int 0, .null]) X dX12_init_987 pf_RX12_77 rfl rfl (Nat.le_of_ble_eq_true rfl) rfl ?_
  refine ac_aload_n X dX12_init_990 rfl ?_
  refine ac_bipush (v := 10) X dX12_init_991 (by decide) ?_
  refine ac_newaiM (k := 10) (m := 22) (c' := 23) (n' := 5467) (uX12_len22 _ _) rfl rfl X dX12_init_993 aw_ci (by decide) (Nat.le_of_ble_eq_true rfl) (Nat.le_of_ble_eq_true rfl) ?_
  refine ac_is (T' := uX12_23 Z.2.2.2.1 (cB Z)) rfl ?_
  refine ac_putF (fs' := [.int 0, .ref (cB Z + 0), .ref (cB Z + 1), .int 0, .ref (cB Z + 2), .int 0, .int 0, .ref (cB Z + 3), .ref (cB Z + 4), .int 0, .int 0, .int 0, .int 0, .int 0, .ref (cB Z + 5), .ref (cB Z + 6), .ref (cB Z + 7), .ref (cB Z + 8), .ref (cB Z + 9), .ref (cB Z + 10), .ref (cB Z + 11), .ref (cB Z + 12), .int 0, .int 0, .int 0, .ref (cB Z + 13), .int 0, .int 0, .int 0, .int 0, .int (-1), .int 0, .ref (cB Z + 14), .int 0, .ref (cB Z + 15), .int 0, .ref (cB Z + 16), .ref (cB Z + 17), .ref (cB Z + 18), .ref (cB Z + 19), .int 0, .ref (cB Z + 20), .int 0, .ref (cB Z + 21), .ref (cB Z + 22), .null, .int 0, .null, .null, .null, .null, .null, .int 0, .null, .null, .int 0, .null, .null, .null, .int 0, .null, .int 0, .int 0, .int 0, .null]) X dX12_init_995 pf_RX12_80 rfl rfl (Nat.le_of_ble_eq_true rfl) rfl ?_
  refine ac_aload_n X dX12_init_998 rfl ?_
  refine ac_bipush (v := 10) X dX12_init_999 (by decide) ?_
  refine ac_newaiM (k := 10) (m := 23) (c' := 24) (n' := 5477) (uX12_len23 _ _) rfl rfl X dX12_init_1001 aw_ci (by decide) (Nat.le_of_ble_eq_true rfl) (Nat.le_of_ble_eq_true rfl) ?_
  refine ac_is (T' := uX12_24 Z.2.2.2.1 (cB Z)) rfl ?_
  refine ac_putF (fs' := [.int 0, .ref (cB Z + 0), .ref (cB Z + 1), .int 0, .ref (cB Z + 2), .int 0, .int 0, .ref (cB Z + 3), .ref (cB Z + 4), .int 0, .int 0, .int 0, .int 0, .int 0, .ref (cB Z + 5), .ref (cB Z + 6), .ref (cB Z + 7), .ref (cB Z + 8), .ref (cB Z + 9), .ref (cB Z + 10), .ref (cB Z + 11), .ref (cB Z + 12), .int 0, .int 0, .int 0, .ref (cB Z + 13), .int 0, .int 0, .int 0, .int 0, .int (-1), .int 0, .ref (cB Z + 14), .int 0, .ref (cB Z + 15), .int 0, .ref (cB Z + 16), .ref (cB Z + 17), .ref (cB Z + 18), .ref (cB Z + 19), .int 0, .ref (cB Z + 20), .int 0, .ref (cB Z + 21), .ref (cB Z + 22), .ref (cB Z + 23), .int 0, .null, .null, .null, .null, .null, .int 0, .null, .null, .int 0, .null, .null, .null, .int 0, .null, .int 0, .int 0, .int 0, .null]) X dX12_init_1003 pf_RX12_83 rfl rfl (Nat.le_of_ble_eq_true rfl) rfl ?_
  refine ac_aload_n X dX12_init_1006 rfl ?_
  refine ac_bipush (v := 14) X dX12_init_1007 (by decide) ?_
  refine ac_newaiM (k := 14) (m := 24) (c' := 25) (n' := 5491) (uX12_len24 _ _) rfl rfl X dX12_init_1009 aw_ci (by decide) (Nat.le_of_ble_eq_true rfl) (Nat.le_of_ble_eq_true rfl) ?_
  refine ac_is (T' := uX12_25 Z.2.2.2.1 (cB Z)) rfl ?_
  refine ac_putF (fs' := [.int 0, .ref (cB Z + 0), .ref (cB Z + 1), .int 0, .ref (cB Z + 2), .int 0, .int 0, .ref (cB Z + 3), .ref (cB Z + 4), .int 0, .int 0, .int 0, .int 0, .int 0, .ref (cB Z + 5), .ref (cB Z + 6), .ref (cB Z + 7), .ref (cB Z + 8), .ref (cB Z + 9), .ref (cB Z + 10), .ref (cB Z + 11), .ref (cB Z + 12), .int 0, .int 0, .int 0, .ref (cB Z + 13), .int 0, .int 0, .int 0, .int 0, .int (-1), .int 0, .ref (cB Z + 14), .int 0, .ref (cB Z + 15), .int 0, .ref (cB Z + 16), .ref (cB Z + 17), .ref (cB Z + 18), .ref (cB Z + 19), .int 0, .ref (cB Z + 20), .int 0, .ref (cB Z + 21), .ref (cB Z + 22), .ref (cB Z + 23), .int 0, .ref (cB Z + 24), .null, .null, .null, .null, .int 0, .null, .null, .int 0, .null, .null, .null, .int 0, .null, .int 0, .int 0, .int 0, .null]) X dX12_init_1011 pf_RX12_86 rfl rfl (Nat.le_of_ble_eq_true rfl) rfl ?_
  refine ac_aload_n X dX12_init_1014 rfl ?_
  refine ac_bipush (v := 14) X dX12_init_1015 (by decide) ?_
  refine ac_newaiM (k := 14) (m := 25) (c' := 26) (n' := 5505) (uX12_len25 _ _) rfl rfl X dX12_init_1017 aw_ci (by decide) (Nat.le_of_ble_eq_true rfl) (Nat.le_of_ble_eq_true rfl) ?_
  refine ac_is (T' := uX12_26 Z.2.2.2.1 (cB Z)) rfl ?_
  refine ac_putF (fs' := [.int 0, .ref (cB Z + 0), .ref (cB Z + 1), .int 0, .ref (cB Z + 2), .int 0, .int 0, .ref (cB Z + 3), .ref (cB Z + 4), .int 0, .int 0, .int 0, .int 0, .int 0, .ref (cB Z + 5), .ref (cB Z + 6), .ref (cB Z + 7), .ref (cB Z + 8), .ref (cB Z + 9), .ref (cB Z + 10), .ref (cB Z + 11), .ref (cB Z + 12), .int 0, .int 0, .int 0, .ref (cB Z + 13), .int 0, .int 0, .int 0, .int 0, .int (-1), .int 0, .ref (cB Z + 14), .int 0, .ref (cB Z + 15), .int 0, .ref (cB Z + 16), .ref (cB Z + 17), .ref (cB Z + 18), .ref (cB Z + 19), .int 0, .ref (cB Z + 20), .int 0, .ref (cB Z + 21), .ref (cB Z + 22), .ref (cB Z + 23), .int 0, .ref (cB Z + 24), .ref (cB Z + 25), .null, .null, .null, .int 0, .null, .null, .int 0, .null, .null, .null, .int 0, .null, .int 0, .int 0, .int 0, .null]) X dX12_init_1019 pf_RX12_89 rfl rfl (Nat.le_of_ble_eq_true rfl) rfl ?_
  refine ac_aload_n X dX12_init_1022 rfl ?_
  refine ac_bipush (v := 14) X dX12_init_1023 (by decide) ?_
  refine ac_newaiM (k := 14) (m := 26) (c' := 27) (n' := 5519) (uX12_len26 _ _) rfl rfl X dX12_init_1025 aw_ci (by decide) (Nat.le_of_ble_eq_true rfl) (Nat.le_of_ble_eq_true rfl) ?_
  refine ac_is (T' := uX12_27 Z.2.2.2.1 (cB Z)) rfl ?_
  refine ac_putF (fs' := [.int 0, .ref (cB Z + 0), .ref (cB Z + 1), .int 0, .ref (cB Z + 2), .int 0, .int 0, .ref (cB Z + 3), .ref (cB Z + 4), .int 0, .int 0, .int 0, .int 0, .int 0, .ref (cB Z + 5), .ref (cB Z + 6), .ref (cB Z + 7), .ref (cB Z + 8), .ref (cB Z + 9), .ref (cB Z + 10), .ref (cB Z + 11), .ref (cB Z + 12), .int 0, .int 0, .int 0, .ref (cB Z + 13), .int 0, .int 0, .int 0, .int 0, .int (-1), .int 0, .ref (cB Z + 14), .int 0, .ref (cB Z + 15), .int 0, .ref (cB Z + 16), .ref (cB Z + 17), .ref (cB Z + 18), .ref (cB Z + 19), .int 0, .ref (cB Z + 20), .int 0, .ref (cB Z + 21), .ref (cB Z + 22), .ref (cB Z + 23), .int 0, .ref (cB Z + 24), .ref (cB Z + 25), .ref (cB Z + 26), .null, .null, .int 0, .null, .null, .int 0, .null, .null, .null, .int 0, .null, .int 0, .int 0, .int 0, .null]) X dX12_init_1027 pf_RX12_92 rfl rfl (Nat.le_of_ble_eq_true rfl) rfl ?_
  refine ac_aload_n X dX12_init_1030 rfl ?_
  refine ac_iconst (v := 2) X dX12_init_1031 (by decide) ?_
  refine ac_newaiM (k := 2) (m := 27) (c' := 28) (n' := 5521) (uX12_len27 _ _) rfl rfl X dX12_init_1032 aw_ci (by decide) (Nat.le_of_ble_eq_true rfl) (Nat.le_of_ble_eq_true rfl) ?_
  refine ac_is (T' := uX12_28 Z.2.2.2.1 (cB Z)) rfl ?_
  refine ac_putF (fs' := [.int 0, .ref (cB Z + 0), .ref (cB Z + 1), .int 0, .ref (cB Z + 2), .int 0, .int 0, .ref (cB Z + 3), .ref (cB Z + 4), .int 0, .int 0, .int 0, .int 0, .int 0, .ref (cB Z + 5), .ref (cB Z + 6), .ref (cB Z + 7), .ref (cB Z + 8), .ref (cB Z + 9), .ref (cB Z + 10), .ref (cB Z + 11), .ref (cB Z + 12), .int 0, .int 0, .int 0, .ref (cB Z + 13), .int 0, .int 0, .int 0, .int 0, .int (-1), .int 0, .ref (cB Z + 14), .int 0, .ref (cB Z + 15), .int 0, .ref (cB Z + 16), .ref (cB Z + 17), .ref (cB Z + 18), .ref (cB Z + 19), .int 0, .ref (cB Z + 20), .int 0, .ref (cB Z + 21), .ref (cB Z + 22), .ref (cB Z + 23), .int 0, .ref (cB Z + 24), .ref (cB Z + 25), .ref (cB Z + 26), .ref (cB Z + 27), .null, .int 0, .null, .null, .int 0, .null, .null, .null, .int 0, .null, .int 0, .int 0, .int 0, .null]) X dX12_init_1034 pf_RX12_95 rfl rfl (Nat.le_of_ble_eq_true rfl) rfl ?_
  refine ac_aload_n X dX12_init_1037 rfl ?_
  refine ac_bipush (v := 12) X dX12_init_1038 (by decide) ?_
  refine ac_newaiM (k := 12) (m := 28) (c' := 29) (n' := 5533) (uX12_len28 _ _) rfl rfl X dX12_init_1040 aw_ci (by decide) (Nat.le_of_ble_eq_true rfl) (Nat.le_of_ble_eq_true rfl) ?_
  refine ac_is (T' := uX12_29 Z.2.2.2.1 (cB Z)) rfl ?_
  refine ac_putF (fs' := [.int 0, .ref (cB Z + 0), .ref (cB Z + 1), .int 0, .ref (cB Z + 2), .int 0, .int 0, .ref (cB Z + 3), .ref (cB Z + 4), .int 0, .int 0, .int 0, .int 0, .int 0, .ref (cB Z + 5), .ref (cB Z + 6), .ref (cB Z + 7), .ref (cB Z + 8), .ref (cB Z + 9), .ref (cB Z + 10), .ref (cB Z + 11), .ref (cB Z + 12), .int 0, .int 0, .int 0, .ref (cB Z + 13), .int 0, .int 0, .int 0, .int 0, .int (-1), .int 0, .ref (cB Z + 14), .int 0, .ref (cB Z + 15), .int 0, .ref (cB Z + 16), .ref (cB Z + 17), .ref (cB Z + 18), .ref (cB Z + 19), .int 0, .ref (cB Z + 20), .int 0, .ref (cB Z + 21), .ref (cB Z + 22), .ref (cB Z + 23), .int 0, .ref (cB Z + 24), .ref (cB Z + 25), .ref (cB Z + 26), .ref (cB Z + 27), .ref (cB Z + 28), .int 0, .null, .null, .int 0, .null, .null, .null, .int 0, .null, .int 0, .int 0, .int 0, .null]) X dX12_init_1042 pf_RX12_98 rfl rfl (Nat.le_of_ble_eq_true rfl) rfl ?_
  refine ac_aload_n X dX12_init_1045 rfl ?_
  refine ac_bipush (v := 6) X dX12_init_1046 (by decide) ?_
  refine ac_newaiM (k := 6) (m := 29) (c' := 30) (n' := 5539) (uX12_len29 _ _) rfl rfl X dX12_init_1048 aw_ci (by decide) (Nat.le_of_ble_eq_true rfl) (Nat.le_of_ble_eq_true rfl) ?_
  refine ac_is (T' := uX12_30 Z.2.2.2.1 (cB Z)) rfl ?_
  refine ac_putF (fs' := [.int 0, .ref (cB Z + 0), .ref (cB Z + 1), .int 0, .ref (cB Z + 2), .int 0, .int 0, .ref (cB Z + 3), .ref (cB Z + 4), .int 0, .int 0, .int 0, .int 0, .int 0, .ref (cB Z + 5), .ref (cB Z + 6), .ref (cB Z + 7), .ref (cB Z + 8), .ref (cB Z + 9), .ref (cB Z + 10), .ref (cB Z + 11), .ref (cB Z + 12), .int 0, .int 0, .int 0, .ref (cB Z + 13), .int 0, .int 0, .int 0, .int 0, .int (-1), .int 0, .ref (cB Z + 14), .int 0, .ref (cB Z + 15), .int 0, .ref (cB Z + 16), .ref (cB Z + 17), .ref (cB Z + 18), .ref (cB Z + 19), .int 0, .ref (cB Z + 20), .int 0, .ref (cB Z + 21), .ref (cB Z + 22), .ref (cB Z + 23), .int 0, .ref (cB Z + 24), .ref (cB Z + 25), .ref (cB Z + 26), .ref (cB Z + 27), .ref (cB Z + 28), .int 0, .ref (cB Z + 29), .null, .int 0, .null, .null, .null, .int 0, .null, .int 0, .int 0, .int 0, .null]) X dX12_init_1050 pf_RX12_101 rfl rfl (Nat.le_of_ble_eq_true rfl) rfl ?_
  refine ac_aload_n X dX12_init_1053 rfl ?_
  refine ac_bipush (v := 64) X dX12_init_1054 (by decide) ?_
  refine ac_newaiM (k := 64) (m := 30) (c' := 31) (n' := 5603) (uX12_len30 _ _) rfl rfl X dX12_init_1056 aw_ci (by decide) (Nat.le_of_ble_eq_true rfl) (Nat.le_of_ble_eq_true rfl) ?_
  refine ac_is (T' := uX12_31 Z.2.2.2.1 (cB Z)) rfl ?_
  refine ac_putF (fs' := [.int 0, .ref (cB Z + 0), .ref (cB Z + 1), .int 0, .ref (cB Z + 2), .int 0, .int 0, .ref (cB Z + 3), .ref (cB Z + 4), .int 0, .int 0, .int 0, .int 0, .int 0, .ref (cB Z + 5), .ref (cB Z + 6), .ref (cB Z + 7), .ref (cB Z + 8), .ref (cB Z + 9), .ref (cB Z + 10), .ref (cB Z + 11), .ref (cB Z + 12), .int 0, .int 0, .int 0, .ref (cB Z + 13), .int 0, .int 0, .int 0, .int 0, .int (-1), .int 0, .ref (cB Z + 14), .int 0, .ref (cB Z + 15), .int 0, .ref (cB Z + 16), .ref (cB Z + 17), .ref (cB Z + 18), .ref (cB Z + 19), .int 0, .ref (cB Z + 20), .int 0, .ref (cB Z + 21), .ref (cB Z + 22), .ref (cB Z + 23), .int 0, .ref (cB Z + 24), .ref (cB Z + 25), .ref (cB Z + 26), .ref (cB Z + 27), .ref (cB Z + 28), .int 0, .ref (cB Z + 29), .ref (cB Z + 30), .int 0, .null, .null, .null, .int 0, .null, .int 0, .int 0, .int 0, .null]) X dX12_init_1058 pf_RX12_104 rfl rfl (Nat.le_of_ble_eq_true rfl) rfl ?_
  refine ac_aload_n X dX12_init_1061 rfl ?_
  refine ac_bipush (v := 8) X dX12_init_1062 (by decide) ?_
  refine ac_newaiM (k := 8) (m := 31) (c' := 32) (n' := 5611) (uX12_len31 _ _) rfl rfl X dX12_init_1064 aw_ci (by decide) (Nat.le_of_ble_eq_true rfl) (Nat.le_of_ble_eq_true rfl) ?_
  refine ac_is (T' := uX12_32 Z.2.2.2.1 (cB Z)) rfl ?_
  refine ac_putF (fs' := [.int 0, .ref (cB Z + 0), .ref (cB Z + 1), .int 0, .ref (cB Z + 2), .int 0, .int 0, .ref (cB Z + 3), .ref (cB Z + 4), .int 0, .int 0, .int 0, .int 0, .int 0, .ref (cB Z + 5), .ref (cB Z + 6), .ref (cB Z + 7), .ref (cB Z + 8), .ref (cB Z + 9), .ref (cB Z + 10), .ref (cB Z + 11), .ref (cB Z + 12), .int 0, .int 0, .int 0, .ref (cB Z + 13), .int 0, .int 0, .int 0, .int 0, .int (-1), .int 0, .ref (cB Z + 14), .int 0, .ref (cB Z + 15), .int 0, .ref (cB Z + 16), .ref (cB Z + 17), .ref (cB Z + 18), .ref (cB Z + 19), .int 0, .ref (cB Z + 20), .int 0, .ref (cB Z + 21), .ref (cB Z + 22), .ref (cB Z + 23), .int 0, .ref (cB Z + 24), .ref (cB Z + 25), .ref (cB Z + 26), .ref (cB Z + 27), .ref (cB Z + 28), .int 0, .ref (cB Z + 29), .ref (cB Z + 30), .int 0, .ref (cB Z + 31), .null, .null, .int 0, .null, .int 0, .int 0, .int 0, .null]) X dX12_init_1066 pf_RX12_107 rfl rfl (Nat.le_of_ble_eq_true rfl) rfl ?_
  refine ac_aload_n X dX12_init_1069 rfl ?_
  refine ac_bipush (v := 41) X dX12_init_1070 (by decide) ?_
  refine ac_newaiM (k := 41) (m := 32) (c' := 33) (n' := 5652) (uX12_len32 _ _) rfl rfl X dX12_init_1072 aw_ci (by decide) (Nat.le_of_ble_eq_true rfl) (Nat.le_of_ble_eq_true rfl) ?_
  refine ac_is (T' := uX12_33 Z.2.2.2.1 (cB Z)) rfl ?_
  refine ac_putF (fs' := [.int 0, .ref (cB Z + 0), .ref (cB Z + 1), .int 0, .ref (cB Z + 2), .int 0, .int 0, .ref (cB Z + 3), .ref (cB Z + 4), .int 0, .int 0, .int 0, .int 0, .int 0, .ref (cB Z + 5), .ref (cB Z + 6), .ref (cB Z + 7), .ref (cB Z + 8), .ref (cB Z + 9), .ref (cB Z + 10), .ref (cB Z + 11), .ref (cB Z + 12), .int 0, .int 0, .int 0, .ref (cB Z + 13), .int 0, .int 0, .int 0, .int 0, .int (-1), .int 0, .ref (cB Z + 14), .int 0, .ref (cB Z + 15), .int 0, .ref (cB Z + 16), .ref (cB Z + 17), .ref (cB Z + 18), .ref (cB Z + 19), .int 0, .ref (cB Z + 20), .int 0, .ref (cB Z + 21), .ref (cB Z + 22), .ref (cB Z + 23), .int 0, .ref (cB Z + 24), .ref (cB Z + 25), .ref (cB Z + 26), .ref (cB Z + 27), .ref (cB Z + 28), .int 0, .ref (cB Z + 29), .ref (cB Z + 30), .int 0, .ref (cB Z + 31), .ref (cB Z + 32), .null, .int 0, .null, .int 0, .int 0, .int 0, .null]) X dX12_init_1074 pf_RX12_110 rfl rfl (Nat.le_of_ble_eq_true rfl) rfl ?_
  refine ac_aload_n X dX12_init_1077 rfl ?_
  refine ac_bipush (v := 41) X dX12_init_1078 (by decide) ?_
  refine ac_newaiM (k := 41) (m := 33) (c' := 34) (n' := 5693) (uX12_len33 _ _) rfl rfl X dX12_init_1080 aw_ci (by decide) (Nat.le_of_ble_eq_true rfl) (Nat.le_of_ble_eq_true rfl) ?_
  refine ac_is (T' := uX12_34 Z.2.2.2.1 (cB Z)) rfl ?_
  refine ac_putF (fs' := [.int 0, .ref (cB Z + 0), .ref (cB Z + 1), .int 0, .ref (cB Z + 2), .int 0, .int 0, .ref (cB Z + 3), .ref (cB Z + 4), .int 0, .int 0, .int 0, .int 0, .int 0, .ref (cB Z + 5), .ref (cB Z + 6), .ref (cB Z + 7), .ref (cB Z + 8), .ref (cB Z + 9), .ref (cB Z + 10), .ref (cB Z + 11), .ref (cB Z + 12), .int 0, .int 0, .int 0, .ref (cB Z + 13), .int 0, .int 0, .int 0, .int 0, .int (-1), .int 0, .ref (cB Z + 14), .int 0, .ref (cB Z + 15), .int 0, .ref (cB Z + 16), .ref (cB Z + 17), .ref (cB Z + 18), .ref (cB Z + 19), .int 0, .ref (cB Z + 20), .int 0, .ref (cB Z + 21), .ref (cB Z + 22), .ref (cB Z + 23), .int 0, .ref (cB Z + 24), .ref (cB Z + 25), .ref (cB Z + 26), .ref (cB Z + 27), .ref (cB Z + 28), .int 0, .ref (cB Z + 29), .ref (cB Z + 30), .int 0, .ref (cB Z + 31), .ref (cB Z + 32), .ref (cB Z + 33), .int 0, .null, .int 0, .int 0, .int 0, .null]) X dX12_init_1082 pf_RX12_113 rfl rfl (Nat.le_of_ble_eq_true rfl) rfl ?_
  refine ac_aload_n X dX12_init_1085 rfl ?_
  refine ac_iconst (v := 4) X dX12_init_1086 (by decide) ?_
  refine ac_newaiM (k := 4) (m := 34) (c' := 35) (n' := 5697) (uX12_len34 _ _) rfl rfl X dX12_init_1087 aw_ci (by decide) (Nat.le_of_ble_eq_true rfl) (Nat.le_of_ble_eq_true rfl) ?_
  refine ac_is (T' := uX12_35 Z.2.2.2.1 (cB Z)) rfl ?_
  refine ac_putF (fs' := [.int 0, .ref (cB Z + 0), .ref (cB Z + 1), .int 0, .ref (cB Z + 2), .int 0, .int 0, .ref (cB Z + 3), .ref (cB Z + 4), .int 0, .int 0, .int 0, .int 0, .int 0, .ref (cB Z + 5), .ref (cB Z + 6), .ref (cB Z + 7), .ref (cB Z + 8), .ref (cB Z + 9), .ref (cB Z + 10), .ref (cB Z + 11), .ref (cB Z + 12), .int 0, .int 0, .int 0, .ref (cB Z + 13), .int 0, .int 0, .int 0, .int 0, .int (-1), .int 0, .ref (cB Z + 14), .int 0, .ref (cB Z + 15), .int 0, .ref (cB Z + 16), .ref (cB Z + 17), .ref (cB Z + 18), .ref (cB Z + 19), .int 0, .ref (cB Z + 20), .int 0, .ref (cB Z + 21), .ref (cB Z + 22), .ref (cB Z + 23), .int 0, .ref (cB Z + 24), .ref (cB Z + 25), .ref (cB Z + 26), .ref (cB Z + 27), .ref (cB Z + 28), .int 0, .ref (cB Z + 29), .ref (cB Z + 30), .int 0, .ref (cB Z + 31), .ref (cB Z + 32), .ref (cB Z + 33), .int 0, .ref (cB Z + 34), .int 0, .int 0, .int 0, .null]) X dX12_init_1089 pf_RX12_116 rfl rfl (Nat.le_of_ble_eq_true rfl) rfl ?_
  refine ac_aload_n X dX12_init_1092 rfl ?_
  refine ac_sipush (v := 2400) X dX12_init_1093 (by decide) ?_
  refine ac_newaiM (k := 2400) (m := 35) (c' := 36) (n' := 8097) (uX12_len35 _ _) rfl rfl X dX12_init_1096 aw_ci (by decide) (Nat.le_of_ble_eq_true rfl) (Nat.le_of_ble_eq_true rfl) ?_
  refine ac_is (T' := uX12_36 Z.2.2.2.1 (cB Z)) rfl ?_
  refine ac_putF (fs' := [.int 0, .ref (cB Z + 0), .ref (cB Z + 1), .int 0, .ref (cB Z + 2), .int 0, .int 0, .ref (cB Z + 3), .ref (cB Z + 4), .int 0, .int 0, .int 0, .int 0, .int 0, .ref (cB Z + 5), .ref (cB Z + 6), .ref (cB Z + 7), .ref (cB Z + 8), .ref (cB Z + 9), .ref (cB Z + 10), .ref (cB Z + 11), .ref (cB Z + 12), .int 0, .int 0, .int 0, .ref (cB Z + 13), .int 0, .int 0, .int 0, .int 0, .int (-1), .int 0, .ref (cB Z + 14), .int 0, .ref (cB Z + 15), .int 0, .ref (cB Z + 16), .ref (cB Z + 17), .ref (cB Z + 18), .ref (cB Z + 19), .int 0, .ref (cB Z + 20), .int 0, .ref (cB Z + 21), .ref (cB Z + 22), .ref (cB Z + 23), .int 0, .ref (cB Z + 24), .ref (cB Z + 25), .ref (cB Z + 26), .ref (cB Z + 27), .ref (cB Z + 28), .int 0, .ref (cB Z + 29), .ref (cB Z + 30), .int 0, .ref (cB Z + 31), .ref (cB Z + 32), .ref (cB Z + 33), .int 0, .ref (cB Z + 34), .int 0, .int 0, .int 0, .ref (cB Z + 35)]) X dX12_init_1098 pf_RX12_119 rfl rfl (Nat.le_of_ble_eq_true rfl) rfl ?_
  exact ac_vret X dX12_init_1101 (Eq.trans rfl he.symm) (Eq.trans rfl hT.symm) (by decide) (by decide)
