/-! ===== facts: words, fields, shapes ===== -/
set_option maxRecDepth 100000 in
theorem tb_eq : tables_1 = tables_1_1 ++ (tables_1_2 ++ (tables_1_3 ++ (tables_1_4 ++ (tables_1_5 ++ (tables_1_6 ++ (tables_1_7 ++ (tables_1_8 ++ tables_1_9))))))) := rfl
set_option maxRecDepth 100000 in
theorem pv_eq : lw_privs = lw_privs_1 ++ (lw_privs_2 ++ (lw_privs_3 ++ (lw_privs_4 ++ (lw_privs_5 ++ (lw_privs_6 ++ (lw_privs_7 ++ (lw_privs_8 ++ lw_privs_9))))))) := rfl
set_option maxRecDepth 100000 in
theorem TS_p1 {w : Cond} (i : Nat) (h : tables_1_1[i]? = some w) (hg : goodWord w = true) : w ∈ TS := List.mem_filter.mpr ⟨List.mem_append_right _ (by rw [tb_eq]; exact List.mem_append_left _ (List.mem_of_getElem? h)), hg⟩
set_option maxRecDepth 100000 in
theorem TS_s1 {y : MethodName} {n : Nat} (i : Nat) (h : lw_privs_1[i]? = some (y, n)) (hg : goodWord (.selects y.cls y y) = true) : Cond.selects y.cls y y ∈ TS := List.mem_filter.mpr ⟨List.mem_append_left _ (List.mem_map.mpr ⟨(y, n), by rw [pv_eq]; exact List.mem_append_left _ (List.mem_of_getElem? h), rfl⟩), hg⟩
set_option maxRecDepth 100000 in
theorem TS_p2 {w : Cond} (i : Nat) (h : tables_1_2[i]? = some w) (hg : goodWord w = true) : w ∈ TS := List.mem_filter.mpr ⟨List.mem_append_right _ (by rw [tb_eq]; exact List.mem_append_right _ (List.mem_append_left _ (List.mem_of_getElem? h))), hg⟩
set_option maxRecDepth 100000 in
theorem TS_s2 {y : MethodName} {n : Nat} (i : Nat) (h : lw_privs_2[i]? = some (y, n)) (hg : goodWord (.selects y.cls y y) = true) : Cond.selects y.cls y y ∈ TS := List.mem_filter.mpr ⟨List.mem_append_left _ (List.mem_map.mpr ⟨(y, n), by rw [pv_eq]; exact List.mem_append_right _ (List.mem_append_left _ (List.mem_of_getElem? h)), rfl⟩), hg⟩
set_option maxRecDepth 100000 in
theorem TS_p3 {w : Cond} (i : Nat) (h : tables_1_3[i]? = some w) (hg : goodWord w = true) : w ∈ TS := List.mem_filter.mpr ⟨List.mem_append_right _ (by rw [tb_eq]; exact List.mem_append_right _ (List.mem_append_right _ (List.mem_append_left _ (List.mem_of_getElem? h)))), hg⟩
set_option maxRecDepth 100000 in
theorem TS_s3 {y : MethodName} {n : Nat} (i : Nat) (h : lw_privs_3[i]? = some (y, n)) (hg : goodWord (.selects y.cls y y) = true) : Cond.selects y.cls y y ∈ TS := List.mem_filter.mpr ⟨List.mem_append_left _ (List.mem_map.mpr ⟨(y, n), by rw [pv_eq]; exact List.mem_append_right _ (List.mem_append_right _ (List.mem_append_left _ (List.mem_of_getElem? h))), rfl⟩), hg⟩
set_option maxRecDepth 100000 in
theorem TS_p4 {w : Cond} (i : Nat) (h : tables_1_4[i]? = some w) (hg : goodWord w = true) : w ∈ TS := List.mem_filter.mpr ⟨List.mem_append_right _ (by rw [tb_eq]; exact List.mem_append_right _ (List.mem_append_right _ (List.mem_append_right _ (List.mem_append_left _ (List.mem_of_getElem? h))))), hg⟩
set_option maxRecDepth 100000 in
theorem TS_s4 {y : MethodName} {n : Nat} (i : Nat) (h : lw_privs_4[i]? = some (y, n)) (hg : goodWord (.selects y.cls y y) = true) : Cond.selects y.cls y y ∈ TS := List.mem_filter.mpr ⟨List.mem_append_left _ (List.mem_map.mpr ⟨(y, n), by rw [pv_eq]; exact List.mem_append_right _ (List.mem_append_right _ (List.mem_append_right _ (List.mem_append_left _ (List.mem_of_getElem? h)))), rfl⟩), hg⟩
set_option maxRecDepth 100000 in
theorem TS_p5 {w : Cond} (i : Nat) (h : tables_1_5[i]? = some w) (hg : goodWord w = true) : w ∈ TS := List.mem_filter.mpr ⟨List.mem_append_right _ (by rw [tb_eq]; exact List.mem_append_right _ (List.mem_append_right _ (List.mem_append_right _ (List.mem_append_right _ (List.mem_append_left _ (List.mem_of_getElem? h)))))), hg⟩
set_option maxRecDepth 100000 in
theorem TS_s5 {y : MethodName} {n : Nat} (i : Nat) (h : lw_privs_5[i]? = some (y, n)) (hg : goodWord (.selects y.cls y y) = true) : Cond.selects y.cls y y ∈ TS := List.mem_filter.mpr ⟨List.mem_append_left _ (List.mem_map.mpr ⟨(y, n), by rw [pv_eq]; exact List.mem_append_right _ (List.mem_append_right _ (List.mem_append_right _ (List.mem_append_right _ (List.mem_append_left _ (List.mem_of_getElem? h))))), rfl⟩), hg⟩
set_option maxRecDepth 100000 in
theorem TS_p6 {w : Cond} (i : Nat) (h : tables_1_6[i]? = some w) (hg : goodWord w = true) : w ∈ TS := List.mem_filter.mpr ⟨List.mem_append_right _ (by rw [tb_eq]; exact List.mem_append_right _ (List.mem_append_right _ (List.mem_append_right _ (List.mem_append_right _ (List.mem_append_right _ (List.mem_append_left _ (List.mem_of_getElem? h))))))), hg⟩
set_option maxRecDepth 100000 in
theorem TS_s6 {y : MethodName} {n : Nat} (i : Nat) (h : lw_privs_6[i]? = some (y, n)) (hg : goodWord (.selects y.cls y y) = true) : Cond.selects y.cls y y ∈ TS := List.mem_filter.mpr ⟨List.mem_append_left _ (List.mem_map.mpr ⟨(y, n), by rw [pv_eq]; exact List.mem_append_right _ (List.mem_append_right _ (List.mem_append_right _ (List.mem_append_right _ (List.mem_append_right _ (List.mem_append_left _ (List.mem_of_getElem? h)))))), rfl⟩), hg⟩
set_option maxRecDepth 100000 in
theorem TS_p7 {w : Cond} (i : Nat) (h : tables_1_7[i]? = some w) (hg : goodWord w = true) : w ∈ TS := List.mem_filter.mpr ⟨List.mem_append_right _ (by rw [tb_eq]; exact List.mem_append_right _ (List.mem_append_right _ (List.mem_append_right _ (List.mem_append_right _ (List.mem_append_right _ (List.mem_append_right _ (List.mem_append_left _ (List.mem_of_getElem? h)))))))), hg⟩
set_option maxRecDepth 100000 in
theorem TS_s7 {y : MethodName} {n : Nat} (i : Nat) (h : lw_privs_7[i]? = some (y, n)) (hg : goodWord (.selects y.cls y y) = true) : Cond.selects y.cls y y ∈ TS := List.mem_filter.mpr ⟨List.mem_append_left _ (List.mem_map.mpr ⟨(y, n), by rw [pv_eq]; exact List.mem_append_right _ (List.mem_append_right _ (List.mem_append_right _ (List.mem_append_right _ (List.mem_append_right _ (List.mem_append_right _ (List.mem_append_left _ (List.mem_of_getElem? h))))))), rfl⟩), hg⟩
set_option maxRecDepth 100000 in
theorem TS_p8 {w : Cond} (i : Nat) (h : tables_1_8[i]? = some w) (hg : goodWord w = true) : w ∈ TS := List.mem_filter.mpr ⟨List.mem_append_right _ (by rw [tb_eq]; exact List.mem_append_right _ (List.mem_append_right _ (List.mem_append_right _ (List.mem_append_right _ (List.mem_append_right _ (List.mem_append_right _ (List.mem_append_right _ (List.mem_append_left _ (List.mem_of_getElem? h))))))))), hg⟩
set_option maxRecDepth 100000 in
theorem TS_s8 {y : MethodName} {n : Nat} (i : Nat) (h : lw_privs_8[i]? = some (y, n)) (hg : goodWord (.selects y.cls y y) = true) : Cond.selects y.cls y y ∈ TS := List.mem_filter.mpr ⟨List.mem_append_left _ (List.mem_map.mpr ⟨(y, n), by rw [pv_eq]; exact List.mem_append_right _ (List.mem_append_right _ (List.mem_append_right _ (List.mem_append_right _ (List.mem_append_right _ (List.mem_append_right _ (List.mem_append_right _ (List.mem_append_left _ (List.mem_of_getElem? h)))))))), rfl⟩), hg⟩
set_option maxRecDepth 100000 in
theorem TS_p9 {w : Cond} (i : Nat) (h : tables_1_9[i]? = some w) (hg : goodWord w = true) : w ∈ TS := List.mem_filter.mpr ⟨List.mem_append_right _ (by rw [tb_eq]; exact List.mem_append_right _ (List.mem_append_right _ (List.mem_append_right _ (List.mem_append_right _ (List.mem_append_right _ (List.mem_append_right _ (List.mem_append_right _ (List.mem_append_right _ ((List.mem_of_getElem? h)))))))))), hg⟩
set_option maxRecDepth 100000 in
theorem TS_s9 {y : MethodName} {n : Nat} (i : Nat) (h : lw_privs_9[i]? = some (y, n)) (hg : goodWord (.selects y.cls y y) = true) : Cond.selects y.cls y y ∈ TS := List.mem_filter.mpr ⟨List.mem_append_left _ (List.mem_map.mpr ⟨(y, n), by rw [pv_eq]; exact List.mem_append_right _ (List.mem_append_right _ (List.mem_append_right _ (List.mem_append_right _ (List.mem_append_right _ (List.mem_append_right _ (List.mem_append_right _ (List.mem_append_right _ ((List.mem_of_getElem? h))))))))), rfl⟩), hg⟩
set_option maxRecDepth 100000 in
theorem iw_of {C : String} {T : u_T} {N : Nat} (h : ∀ k, k < N → u_lay C T k ∈ TS) : ∀ w ∈ u_ws C T N, w ∈ TS := by
  intro w hw
  obtain ⟨k, hk, rfl⟩ := List.mem_map.mp hw
  exact h k (by simpa using hk)
set_option maxRecDepth 100000 in
theorem iw_RX0 : ∀ w ∈ u_ws RX0 TX0 13, w ∈ TS := iw_of (fun k hk => match k, hk with
  | 0, _ => (TS_p1 84 rfl rfl)
  | 1, _ => (TS_p1 86 rfl rfl)
  | 2, _ => (TS_p1 88 rfl rfl)
  | 3, _ => (TS_p1 90 rfl rfl)
  | 4, _ => (TS_p1 92 rfl rfl)
  | 5, _ => (TS_p1 94 rfl rfl)
  | 6, _ => (TS_p1 96 rfl rfl)
  | 7, _ => (TS_p1 98 rfl rfl)
  | 8, _ => (TS_p1 100 rfl rfl)
  | 9, _ => (TS_p1 102 rfl rfl)
  | 10, _ => (TS_p1 104 rfl rfl)
  | 11, _ => (TS_p1 106 rfl rfl)
  | 12, _ => (TS_p1 108 rfl rfl)
  | k + 13, h => absurd h (by omega))
set_option maxRecDepth 100000 in
theorem iw_RX1 : ∀ w ∈ u_ws RX1 TX1 8, w ∈ TS := iw_of (fun k hk => match k, hk with
  | 0, _ => (TS_p1 128 rfl rfl)
  | 1, _ => (TS_p1 130 rfl rfl)
  | 2, _ => (TS_p1 132 rfl rfl)
  | 3, _ => (TS_p1 134 rfl rfl)
  | 4, _ => (TS_p1 136 rfl rfl)
  | 5, _ => (TS_p1 138 rfl rfl)
  | 6, _ => (TS_p1 140 rfl rfl)
  | 7, _ => (TS_p1 142 rfl rfl)
  | k + 8, h => absurd h (by omega))
set_option maxRecDepth 100000 in
theorem iw_RX3 : ∀ w ∈ u_ws RX3 TX3 5, w ∈ TS := iw_of (fun k hk => match k, hk with
  | 0, _ => (TS_p1 187 rfl rfl)
  | 1, _ => (TS_p1 189 rfl rfl)
  | 2, _ => (TS_p1 191 rfl rfl)
  | 3, _ => (TS_p1 193 rfl rfl)
  | 4, _ => (TS_p1 195 rfl rfl)
  | k + 5, h => absurd h (by omega))
set_option maxRecDepth 100000 in
theorem iw_RX4 : ∀ w ∈ u_ws RX4 TX4 7, w ∈ TS := iw_of (fun k hk => match k, hk with
  | 0, _ => (TS_p2 132 rfl rfl)
  | 1, _ => (TS_p2 134 rfl rfl)
  | 2, _ => (TS_p2 136 rfl rfl)
  | 3, _ => (TS_p2 138 rfl rfl)
  | 4, _ => (TS_p2 140 rfl rfl)
  | 5, _ => (TS_p2 142 rfl rfl)
  | 6, _ => (TS_p2 144 rfl rfl)
  | k + 7, h => absurd h (by omega))
set_option maxRecDepth 100000 in
theorem iw_RX5 : ∀ w ∈ u_ws RX5 TX5 5, w ∈ TS := iw_of (fun k hk => match k, hk with
  | 0, _ => (TS_p1 163 rfl rfl)
  | 1, _ => (TS_p1 165 rfl rfl)
  | 2, _ => (TS_p1 167 rfl rfl)
  | 3, _ => (TS_p1 169 rfl rfl)
  | 4, _ => (TS_p1 171 rfl rfl)
  | k + 5, h => absurd h (by omega))
set_option maxRecDepth 100000 in
theorem iw_RX6 : ∀ w ∈ u_ws RX6 TX6 10, w ∈ TS := iw_of (fun k hk => match k, hk with
  | 0, _ => (TS_p2 95 rfl rfl)
  | 1, _ => (TS_p2 97 rfl rfl)
  | 2, _ => (TS_p2 99 rfl rfl)
  | 3, _ => (TS_p2 101 rfl rfl)
  | 4, _ => (TS_p2 103 rfl rfl)
  | 5, _ => (TS_p2 105 rfl rfl)
  | 6, _ => (TS_p2 107 rfl rfl)
  | 7, _ => (TS_p2 109 rfl rfl)
  | 8, _ => (TS_p2 111 rfl rfl)
  | 9, _ => (TS_p2 113 rfl rfl)
  | k + 10, h => absurd h (by omega))
set_option maxRecDepth 100000 in
theorem iw_RX7 : ∀ w ∈ u_ws RX7 TX7 2, w ∈ TS := iw_of (fun k hk => match k, hk with
  | 0, _ => (TS_p1 217 rfl rfl)
  | 1, _ => (TS_p1 219 rfl rfl)
  | k + 2, h => absurd h (by omega))
set_option maxRecDepth 100000 in
theorem iw_RX8 : ∀ w ∈ u_ws RX8 TX8 12, w ∈ TS := iw_of (fun k hk => match k, hk with
  | 0, _ => (TS_p2 12 rfl rfl)
  | 1, _ => (TS_p2 14 rfl rfl)
  | 2, _ => (TS_p2 16 rfl rfl)
  | 3, _ => (TS_p2 18 rfl rfl)
  | 4, _ => (TS_p2 20 rfl rfl)
  | 5, _ => (TS_p2 22 rfl rfl)
  | 6, _ => (TS_p2 24 rfl rfl)
  | 7, _ => (TS_p2 26 rfl rfl)
  | 8, _ => (TS_p2 28 rfl rfl)
  | 9, _ => (TS_p2 30 rfl rfl)
  | 10, _ => (TS_p2 32 rfl rfl)
  | 11, _ => (TS_p2 34 rfl rfl)
  | k + 12, h => absurd h (by omega))
set_option maxRecDepth 100000 in
theorem iw_RX9 : ∀ w ∈ u_ws RX9 TX9 4, w ∈ TS := iw_of (fun k hk => match k, hk with
  | 0, _ => (TS_p2 157 rfl rfl)
  | 1, _ => (TS_p2 159 rfl rfl)
  | 2, _ => (TS_p2 161 rfl rfl)
  | 3, _ => (TS_p2 163 rfl rfl)
  | k + 4, h => absurd h (by omega))
set_option maxRecDepth 100000 in
theorem iw_RX10 : ∀ w ∈ u_ws RX10 TX10 7, w ∈ TS := iw_of (fun k hk => match k, hk with
  | 0, _ => (TS_p2 51 rfl rfl)
  | 1, _ => (TS_p2 53 rfl rfl)
  | 2, _ => (TS_p2 55 rfl rfl)
  | 3, _ => (TS_p2 57 rfl rfl)
  | 4, _ => (TS_p2 59 rfl rfl)
  | 5, _ => (TS_p2 61 rfl rfl)
  | 6, _ => (TS_p2 63 rfl rfl)
  | k + 7, h => absurd h (by omega))
set_option maxRecDepth 100000 in
theorem iw_RX11 : ∀ w ∈ u_ws RX11 TX11 9, w ∈ TS := iw_of (fun k hk => match k, hk with
  | 0, _ => (TS_p2 176 rfl rfl)
  | 1, _ => (TS_p2 178 rfl rfl)
  | 2, _ => (TS_p2 180 rfl rfl)
  | 3, _ => (TS_p2 182 rfl rfl)
  | 4, _ => (TS_p2 184 rfl rfl)
  | 5, _ => (TS_p2 186 rfl rfl)
  | 6, _ => (TS_p2 188 rfl rfl)
  | 7, _ => (TS_p2 190 rfl rfl)
  | 8, _ => (TS_p2 192 rfl rfl)
  | k + 9, h => absurd h (by omega))
set_option maxRecDepth 100000 in
theorem iw_RX12 : ∀ w ∈ u_ws RX12 TX12 65, w ∈ TS := iw_of (fun k hk => match k, hk with
  | 0, _ => (TS_p6 129 rfl rfl)
  | 1, _ => (TS_p6 131 rfl rfl)
  | 2, _ => (TS_p6 133 rfl rfl)
  | 3, _ => (TS_p6 135 rfl rfl)
  | 4, _ => (TS_p6 137 rfl rfl)
  | 5, _ => (TS_p6 139 rfl rfl)
  | 6, _ => (TS_p6 141 rfl rfl)
  | 7, _ => (TS_p6 143 rfl rfl)
  | 8, _ => (TS_p6 145 rfl rfl)
  | 9, _ => (TS_p6 147 rfl rfl)
  | 10, _ => (TS_p6 149 rfl rfl)
  | 11, _ => (TS_p6 151 rfl rfl)
  | 12, _ => (TS_p6 153 rfl rfl)
  | 13, _ => (TS_p6 155 rfl rfl)
  | 14, _ => (TS_p6 157 rfl rfl)
  | 15, _ => (TS_p6 159 rfl rfl)
  | 16, _ => (TS_p6 161 rfl rfl)
  | 17, _ => (TS_p6 163 rfl rfl)
  | 18, _ => (TS_p6 165 rfl rfl)
  | 19, _ => (TS_p6 167 rfl rfl)
  | 20, _ => (TS_p6 169 rfl rfl)
  | 21, _ => (TS_p6 171 rfl rfl)
  | 22, _ => (TS_p6 173 rfl rfl)
  | 23, _ => (TS_p6 175 rfl rfl)
  | 24, _ => (TS_p6 177 rfl rfl)
  | 25, _ => (TS_p6 179 rfl rfl)
  | 26, _ => (TS_p6 181 rfl rfl)
  | 27, _ => (TS_p6 183 rfl rfl)
  | 28, _ => (TS_p6 185 rfl rfl)
  | 29, _ => (TS_p6 187 rfl rfl)
  | 30, _ => (TS_p6 189 rfl rfl)
  | 31, _ => (TS_p6 191 rfl rfl)
  | 32, _ => (TS_p6 193 rfl rfl)
  | 33, _ => (TS_p6 195 rfl rfl)
  | 34, _ => (TS_p6 197 rfl rfl)
  | 35, _ => (TS_p6 199 rfl rfl)
  | 36, _ => (TS_p6 201 rfl rfl)
  | 37, _ => (TS_p6 203 rfl rfl)
  | 38, _ => (TS_p6 205 rfl rfl)
  | 39, _ => (TS_p6 207 rfl rfl)
  | 40, _ => (TS_p6 209 rfl rfl)
  | 41, _ => (TS_p6 211 rfl rfl)
  | 42, _ => (TS_p6 213 rfl rfl)
  | 43, _ => (TS_p6 215 rfl rfl)
  | 44, _ => (TS_p6 217 rfl rfl)
  | 45, _ => (TS_p6 219 rfl rfl)
  | 46, _ => (TS_p6 221 rfl rfl)
  | 47, _ => (TS_p6 223 rfl rfl)
  | 48, _ => (TS_p6 225 rfl rfl)
  | 49, _ => (TS_p6 227 rfl rfl)
  | 50, _ => (TS_p6 229 rfl rfl)
  | 51, _ => (TS_p6 231 rfl rfl)
  | 52, _ => (TS_p6 233 rfl rfl)
  | 53, _ => (TS_p6 235 rfl rfl)
  | 54, _ => (TS_p6 237 rfl rfl)
  | 55, _ => (TS_p6 239 rfl rfl)
  | 56, _ => (TS_p7 1 rfl rfl)
  | 57, _ => (TS_p7 3 rfl rfl)
  | 58, _ => (TS_p7 5 rfl rfl)
  | 59, _ => (TS_p7 7 rfl rfl)
  | 60, _ => (TS_p7 9 rfl rfl)
  | 61, _ => (TS_p7 11 rfl rfl)
  | 62, _ => (TS_p7 13 rfl rfl)
  | 63, _ => (TS_p7 15 rfl rfl)
  | 64, _ => (TS_p7 17 rfl rfl)
  | k + 65, h => absurd h (by omega))
set_option maxRecDepth 100000 in
theorem iu_RX11 : IO 0 0 10 := ⟨by decide +kernel, by decide +kernel⟩
set_option maxRecDepth 100000 in
theorem iu_RX4 : IO 0 172 3 := ⟨by decide +kernel, by decide +kernel⟩
set_option maxRecDepth 100000 in
theorem iu_RX6 : IO 0 173 5 := ⟨by decide +kernel, by decide +kernel⟩
set_option maxRecDepth 100000 in
theorem iu_RX9 : IO 0 195 8 := ⟨by decide +kernel, by decide +kernel⟩
set_option maxRecDepth 100000 in
theorem iu_RX12 : IO 1 0 11 := ⟨by decide +kernel, by decide +kernel⟩
set_option maxRecDepth 100000 in
theorem fl_RX0_15 : FL RX0 15 0 1 := ⟨RX0, TX0, 13, rfl, by decide, iw_RX0, (TS_p1 44 rfl rfl)⟩
set_option maxRecDepth 100000 in
theorem fl_RX0_19 : FL RX0 19 0 2 := ⟨RX0, TX0, 13, rfl, by decide, iw_RX0, (TS_p1 47 rfl rfl)⟩
set_option maxRecDepth 100000 in
theorem fl_RX0_23 : FL RX0 23 0 3 := ⟨RX0, TX0, 13, rfl, by decide, iw_RX0, (TS_p1 51 rfl rfl)⟩
set_option maxRecDepth 100000 in
theorem fl_RX0_26 : FL RX0 26 0 4 := ⟨RX0, TX0, 13, rfl, by decide, iw_RX0, (TS_p1 55 rfl rfl)⟩
set_option maxRecDepth 100000 in
theorem fl_RX0_29 : FL RX0 29 0 5 := ⟨RX0, TX0, 13, rfl, by decide, iw_RX0, (TS_p1 58 rfl rfl)⟩
set_option maxRecDepth 100000 in
theorem fl_RX0_32 : FL RX0 32 0 6 := ⟨RX0, TX0, 13, rfl, by decide, iw_RX0, (TS_p1 61 rfl rfl)⟩
set_option maxRecDepth 100000 in
theorem fl_RX0_35 : FL RX0 35 0 7 := ⟨RX0, TX0, 13, rfl, by decide, iw_RX0, (TS_p1 65 rfl rfl)⟩
set_option maxRecDepth 100000 in
theorem fl_RX0_38 : FL RX0 38 0 8 := ⟨RX0, TX0, 13, rfl, by decide, iw_RX0, (TS_p1 69 rfl rfl)⟩
set_option maxRecDepth 100000 in
theorem fl_RX0_41 : FL RX0 41 0 9 := ⟨RX0, TX0, 13, rfl, by decide, iw_RX0, (TS_p1 72 rfl rfl)⟩
set_option maxRecDepth 100000 in
theorem fl_RX0_44 : FL RX0 44 0 10 := ⟨RX0, TX0, 13, rfl, by decide, iw_RX0, (TS_p1 75 rfl rfl)⟩
set_option maxRecDepth 100000 in
theorem fl_RX0_47 : FL RX0 47 0 11 := ⟨RX0, TX0, 13, rfl, by decide, iw_RX0, (TS_p1 79 rfl rfl)⟩
set_option maxRecDepth 100000 in
theorem fl_RX0_50 : FL RX0 50 0 12 := ⟨RX0, TX0, 13, rfl, by decide, iw_RX0, (TS_p1 81 rfl rfl)⟩
set_option maxRecDepth 100000 in
theorem fl_RX1_9 : FL RX1 9 1 0 := ⟨RX1, TX1, 8, rfl, by decide, iw_RX1, (TS_p1 118 rfl rfl)⟩
set_option maxRecDepth 100000 in
theorem fl_RX1_15 : FL RX1 15 1 1 := ⟨RX1, TX1, 8, rfl, by decide, iw_RX1, (TS_p1 121 rfl rfl)⟩
set_option maxRecDepth 100000 in
theorem fl_RX1_18 : FL RX1 18 1 2 := ⟨RX1, TX1, 8, rfl, by decide, iw_RX1, (TS_p1 122 rfl rfl)⟩
set_option maxRecDepth 100000 in
theorem fl_RX1_22 : FL RX1 22 1 3 := ⟨RX1, TX1, 8, rfl, by decide, iw_RX1, (TS_p1 123 rfl rfl)⟩
set_option maxRecDepth 100000 in
theorem fl_RX1_25 : FL RX1 25 1 4 := ⟨RX1, TX1, 8, rfl, by decide, iw_RX1, (TS_p1 124 rfl rfl)⟩
set_option maxRecDepth 100000 in
theorem fl_RX1_28 : FL RX1 28 1 5 := ⟨RX1, TX1, 8, rfl, by decide, iw_RX1, (TS_p1 125 rfl rfl)⟩
set_option maxRecDepth 100000 in
theorem fl_RX1_31 : FL RX1 31 1 6 := ⟨RX1, TX1, 8, rfl, by decide, iw_RX1, (TS_p1 126 rfl rfl)⟩
set_option maxRecDepth 100000 in
theorem fl_RX1_34 : FL RX1 34 1 7 := ⟨RX1, TX1, 8, rfl, by decide, iw_RX1, (TS_p1 127 rfl rfl)⟩
set_option maxRecDepth 100000 in
theorem fl_RX1_51 : FL RX1 51 0 2 := ⟨RX0, TX0, 13, rfl, by decide, iw_RX0, (TS_p1 50 rfl rfl)⟩
set_option maxRecDepth 100000 in
theorem fl_RX1_56 : FL RX1 56 0 3 := ⟨RX0, TX0, 13, rfl, by decide, iw_RX0, (TS_p1 53 rfl rfl)⟩
set_option maxRecDepth 100000 in
theorem fl_RX1_75 : FL RX1 75 0 5 := ⟨RX0, TX0, 13, rfl, by decide, iw_RX0, (TS_p1 60 rfl rfl)⟩
set_option maxRecDepth 100000 in
theorem fl_RX1_84 : FL RX1 84 0 6 := ⟨RX0, TX0, 13, rfl, by decide, iw_RX0, (TS_p1 63 rfl rfl)⟩
set_option maxRecDepth 100000 in
theorem fl_RX1_87 : FL RX1 87 0 7 := ⟨RX0, TX0, 13, rfl, by decide, iw_RX0, (TS_p1 67 rfl rfl)⟩
set_option maxRecDepth 100000 in
theorem fl_RX1_90 : FL RX1 90 0 8 := ⟨RX0, TX0, 13, rfl, by decide, iw_RX0, (TS_p1 71 rfl rfl)⟩
set_option maxRecDepth 100000 in
theorem fl_RX1_93 : FL RX1 93 0 4 := ⟨RX0, TX0, 13, rfl, by decide, iw_RX0, (TS_p1 57 rfl rfl)⟩
set_option maxRecDepth 100000 in
theorem fl_RX1_99 : FL RX1 99 0 10 := ⟨RX0, TX0, 13, rfl, by decide, iw_RX0, (TS_p1 78 rfl rfl)⟩
set_option maxRecDepth 100000 in
theorem fl_RX10_14 : FL RX10 14 9 0 := ⟨RX10, TX10, 7, rfl, by decide, iw_RX10, (TS_p2 37 rfl rfl)⟩
set_option maxRecDepth 100000 in
theorem fl_RX10_23 : FL RX10 23 9 1 := ⟨RX10, TX10, 7, rfl, by decide, iw_RX10, (TS_p2 39 rfl rfl)⟩
set_option maxRecDepth 100000 in
theorem fl_RX10_30 : FL RX10 30 9 2 := ⟨RX10, TX10, 7, rfl, by decide, iw_RX10, (TS_p2 41 rfl rfl)⟩
set_option maxRecDepth 100000 in
theorem fl_RX10_34 : FL RX10 34 9 3 := ⟨RX10, TX10, 7, rfl, by decide, iw_RX10, (TS_p2 43 rfl rfl)⟩
set_option maxRecDepth 100000 in
theorem fl_RX10_40 : FL RX10 40 9 4 := ⟨RX10, TX10, 7, rfl, by decide, iw_RX10, (TS_p2 45 rfl rfl)⟩
set_option maxRecDepth 100000 in
theorem fl_RX10_47 : FL RX10 47 9 5 := ⟨RX10, TX10, 7, rfl, by decide, iw_RX10, (TS_p2 47 rfl rfl)⟩
set_option maxRecDepth 100000 in
theorem fl_RX10_51 : FL RX10 51 9 6 := ⟨RX10, TX10, 7, rfl, by decide, iw_RX10, (TS_p2 49 rfl rfl)⟩
set_option maxRecDepth 100000 in
theorem fl_RX10_77 : FL RX10 77 4 0 := ⟨RX5, TX5, 5, rfl, by decide, iw_RX5, (TS_p1 152 rfl rfl)⟩
set_option maxRecDepth 100000 in
theorem fl_RX10_81 : FL RX10 81 4 1 := ⟨RX5, TX5, 5, rfl, by decide, iw_RX5, (TS_p1 156 rfl rfl)⟩
set_option maxRecDepth 100000 in
theorem fl_RX10_84 : FL RX10 84 0 10 := ⟨RX0, TX0, 13, rfl, by decide, iw_RX0, (TS_p1 76 rfl rfl)⟩
set_option maxRecDepth 100000 in
theorem fl_RX10_86 : FL RX10 86 4 3 := ⟨RX5, TX5, 5, rfl, by decide, iw_RX5, (TS_p1 160 rfl rfl)⟩
set_option maxRecDepth 100000 in
theorem fl_RX10_93 : FL RX10 93 4 4 := ⟨RX5, TX5, 5, rfl, by decide, iw_RX5, (TS_p1 162 rfl rfl)⟩
set_option maxRecDepth 100000 in
theorem fl_RX10_100 : FL RX10 100 4 2 := ⟨RX5, TX5, 5, rfl, by decide, iw_RX5, (TS_p1 158 rfl rfl)⟩
set_option maxRecDepth 100000 in
theorem fl_RX10_107 : FL RX10 107 0 1 := ⟨RX0, TX0, 13, rfl, by decide, iw_RX0, (TS_p1 46 rfl rfl)⟩
set_option maxRecDepth 100000 in
theorem fl_RX10_110 : FL RX10 110 0 3 := ⟨RX0, TX0, 13, rfl, by decide, iw_RX0, (TS_p1 52 rfl rfl)⟩
set_option maxRecDepth 100000 in
theorem fl_RX10_124 : FL RX10 124 0 9 := ⟨RX0, TX0, 13, rfl, by decide, iw_RX0, (TS_p1 73 rfl rfl)⟩
set_option maxRecDepth 100000 in
theorem fl_RX10_127 : FL RX10 127 0 6 := ⟨RX0, TX0, 13, rfl, by decide, iw_RX0, (TS_p1 62 rfl rfl)⟩
set_option maxRecDepth 100000 in
theorem fl_RX10_151 : FL RX10 151 0 2 := ⟨RX0, TX0, 13, rfl, by decide, iw_RX0, (TS_p1 49 rfl rfl)⟩
set_option maxRecDepth 100000 in
theorem fl_RX10_160 : FL RX10 160 0 8 := ⟨RX0, TX0, 13, rfl, by decide, iw_RX0, (TS_p1 70 rfl rfl)⟩
set_option maxRecDepth 100000 in
theorem fl_RX10_163 : FL RX10 163 0 0 := ⟨RX0, TX0, 13, rfl, by decide, iw_RX0, (TS_p1 43 rfl rfl)⟩
set_option maxRecDepth 100000 in
theorem fl_RX10_171 : FL RX10 171 0 5 := ⟨RX0, TX0, 13, rfl, by decide, iw_RX0, (TS_p1 59 rfl rfl)⟩
set_option maxRecDepth 100000 in
theorem fl_RX10_182 : FL RX10 182 0 4 := ⟨RX0, TX0, 13, rfl, by decide, iw_RX0, (TS_p1 56 rfl rfl)⟩
set_option maxRecDepth 100000 in
theorem fl_RX10_185 : FL RX10 185 0 7 := ⟨RX0, TX0, 13, rfl, by decide, iw_RX0, (TS_p1 66 rfl rfl)⟩
set_option maxRecDepth 100000 in
theorem fl_RX10_188 : FL RX10 188 0 12 := ⟨RX0, TX0, 13, rfl, by decide, iw_RX0, (TS_p1 82 rfl rfl)⟩
set_option maxRecDepth 100000 in
theorem fl_RX11_10 : FL RX11 10 10 0 := ⟨RX11, TX11, 9, rfl, by decide, iw_RX11, (TS_p2 167 rfl rfl)⟩
set_option maxRecDepth 100000 in
theorem fl_RX11_16 : FL RX11 16 10 1 := ⟨RX11, TX11, 9, rfl, by decide, iw_RX11, (TS_p2 168 rfl rfl)⟩
set_option maxRecDepth 100000 in
theorem fl_RX11_19 : FL RX11 19 10 2 := ⟨RX11, TX11, 9, rfl, by decide, iw_RX11, (TS_p2 169 rfl rfl)⟩
set_option maxRecDepth 100000 in
theorem fl_RX11_28 : FL RX11 28 10 3 := ⟨RX11, TX11, 9, rfl, by decide, iw_RX11, (TS_p2 170 rfl rfl)⟩
set_option maxRecDepth 100000 in
theorem fl_RX11_32 : FL RX11 32 10 4 := ⟨RX11, TX11, 9, rfl, by decide, iw_RX11, (TS_p2 171 rfl rfl)⟩
set_option maxRecDepth 100000 in
theorem fl_RX11_36 : FL RX11 36 10 5 := ⟨RX11, TX11, 9, rfl, by decide, iw_RX11, (TS_p2 172 rfl rfl)⟩
set_option maxRecDepth 100000 in
theorem fl_RX11_40 : FL RX11 40 10 6 := ⟨RX11, TX11, 9, rfl, by decide, iw_RX11, (TS_p2 173 rfl rfl)⟩
set_option maxRecDepth 100000 in
theorem fl_RX11_46 : FL RX11 46 10 7 := ⟨RX11, TX11, 9, rfl, by decide, iw_RX11, (TS_p2 174 rfl rfl)⟩
set_option maxRecDepth 100000 in
theorem fl_RX11_53 : FL RX11 53 10 8 := ⟨RX11, TX11, 9, rfl, by decide, iw_RX11, (TS_p2 175 rfl rfl)⟩
set_option maxRecDepth 100000 in
theorem fl_RX11_57 : FL RX11 57 9 0 := ⟨RX10, TX10, 7, rfl, by decide, iw_RX10, (TS_p2 38 rfl rfl)⟩
set_option maxRecDepth 100000 in
theorem fl_RX11_60 : FL RX11 60 0 11 := ⟨RX0, TX0, 13, rfl, by decide, iw_RX0, (TS_p1 80 rfl rfl)⟩
set_option maxRecDepth 100000 in
theorem fl_RX11_66 : FL RX11 66 0 1 := ⟨RX0, TX0, 13, rfl, by decide, iw_RX0, (TS_p1 45 rfl rfl)⟩
set_option maxRecDepth 100000 in
theorem fl_RX11_77 : FL RX11 77 0 2 := ⟨RX0, TX0, 13, rfl, by decide, iw_RX0, (TS_p1 48 rfl rfl)⟩
set_option maxRecDepth 100000 in
theorem fl_RX11_107 : FL RX11 107 0 10 := ⟨RX0, TX0, 13, rfl, by decide, iw_RX0, (TS_p1 77 rfl rfl)⟩
set_option maxRecDepth 100000 in
theorem fl_RX11_114 : FL RX11 114 3 0 := ⟨RX4, TX4, 7, rfl, by decide, iw_RX4, (TS_p2 123 rfl rfl)⟩
set_option maxRecDepth 100000 in
theorem fl_RX11_127 : FL RX11 127 5 0 := ⟨RX6, TX6, 10, rfl, by decide, iw_RX6, (TS_p2 82 rfl rfl)⟩
set_option maxRecDepth 100000 in
theorem fl_RX11_136 : FL RX11 136 9 1 := ⟨RX10, TX10, 7, rfl, by decide, iw_RX10, (TS_p2 40 rfl rfl)⟩
set_option maxRecDepth 100000 in
theorem fl_RX11_144 : FL RX11 144 9 2 := ⟨RX10, TX10, 7, rfl, by decide, iw_RX10, (TS_p2 42 rfl rfl)⟩
set_option maxRecDepth 100000 in
theorem fl_RX11_152 : FL RX11 152 9 3 := ⟨RX10, TX10, 7, rfl, by decide, iw_RX10, (TS_p2 44 rfl rfl)⟩
set_option maxRecDepth 100000 in
theorem fl_RX11_155 : FL RX11 155 9 4 := ⟨RX10, TX10, 7, rfl, by decide, iw_RX10, (TS_p2 46 rfl rfl)⟩
set_option maxRecDepth 100000 in
theorem fl_RX11_163 : FL RX11 163 3 1 := ⟨RX4, TX4, 7, rfl, by decide, iw_RX4, (TS_p2 125 rfl rfl)⟩
set_option maxRecDepth 100000 in
theorem fl_RX11_166 : FL RX11 166 3 2 := ⟨RX4, TX4, 7, rfl, by decide, iw_RX4, (TS_p2 127 rfl rfl)⟩
set_option maxRecDepth 100000 in
theorem fl_RX11_189 : FL RX11 189 0 12 := ⟨RX0, TX0, 13, rfl, by decide, iw_RX0, (TS_p1 83 rfl rfl)⟩
set_option maxRecDepth 100000 in
theorem fl_RX11_192 : FL RX11 192 9 6 := ⟨RX10, TX10, 7, rfl, by decide, iw_RX10, (TS_p2 50 rfl rfl)⟩
set_option maxRecDepth 100000 in
theorem fl_RX11_199 : FL RX11 199 0 3 := ⟨RX0, TX0, 13, rfl, by decide, iw_RX0, (TS_p1 54 rfl rfl)⟩
set_option maxRecDepth 100000 in
theorem fl_RX11_206 : FL RX11 206 0 7 := ⟨RX0, TX0, 13, rfl, by decide, iw_RX0, (TS_p1 68 rfl rfl)⟩
set_option maxRecDepth 100000 in
theorem fl_RX11_209 : FL RX11 209 0 6 := ⟨RX0, TX0, 13, rfl, by decide, iw_RX0, (TS_p1 64 rfl rfl)⟩
set_option maxRecDepth 100000 in
theorem fl_RX11_212 : FL RX11 212 0 9 := ⟨RX0, TX0, 13, rfl, by decide, iw_RX0, (TS_p1 74 rfl rfl)⟩
set_option maxRecDepth 100000 in
theorem fl_RX11_222 : FL RX11 222 9 5 := ⟨RX10, TX10, 7, rfl, by decide, iw_RX10, (TS_p2 48 rfl rfl)⟩
set_option maxRecDepth 100000 in
theorem fl_RX11_226 : FL RX11 226 7 0 := ⟨RX8, TX8, 12, rfl, by decide, iw_RX8, (TS_p1 223 rfl rfl)⟩
set_option maxRecDepth 100000 in
theorem fl_RX11_248 : FL RX11 248 6 1 := ⟨RX7, TX7, 2, rfl, by decide, iw_RX7, (TS_p1 216 rfl rfl)⟩
set_option maxRecDepth 100000 in
theorem fl_RX11_277 : FL RX11 277 7 1 := ⟨RX8, TX8, 12, rfl, by decide, iw_RX8, (TS_p1 226 rfl rfl)⟩
set_option maxRecDepth 100000 in
theorem fl_RX11_280 : FL RX11 280 7 2 := ⟨RX8, TX8, 12, rfl, by decide, iw_RX8, (TS_p1 229 rfl rfl)⟩
set_option maxRecDepth 100000 in
theorem fl_RX11_283 : FL RX11 283 7 3 := ⟨RX8, TX8, 12, rfl, by decide, iw_RX8, (TS_p1 232 rfl rfl)⟩
set_option maxRecDepth 100000 in
theorem fl_RX11_305 : FL RX11 305 7 4 := ⟨RX8, TX8, 12, rfl, by decide, iw_RX8, (TS_p1 235 rfl rfl)⟩
set_option maxRecDepth 100000 in
theorem fl_RX11_308 : FL RX11 308 7 5 := ⟨RX8, TX8, 12, rfl, by decide, iw_RX8, (TS_p1 238 rfl rfl)⟩
set_option maxRecDepth 100000 in
theorem fl_RX11_311 : FL RX11 311 7 6 := ⟨RX8, TX8, 12, rfl, by decide, iw_RX8, (TS_p2 1 rfl rfl)⟩
set_option maxRecDepth 100000 in
theorem fl_RX11_334 : FL RX11 334 7 7 := ⟨RX8, TX8, 12, rfl, by decide, iw_RX8, (TS_p2 3 rfl rfl)⟩
set_option maxRecDepth 100000 in
theorem fl_RX11_337 : FL RX11 337 7 8 := ⟨RX8, TX8, 12, rfl, by decide, iw_RX8, (TS_p2 5 rfl rfl)⟩
set_option maxRecDepth 100000 in
theorem fl_RX11_359 : FL RX11 359 7 9 := ⟨RX8, TX8, 12, rfl, by decide, iw_RX8, (TS_p2 7 rfl rfl)⟩
set_option maxRecDepth 100000 in
theorem fl_RX11_376 : FL RX11 376 7 10 := ⟨RX8, TX8, 12, rfl, by decide, iw_RX8, (TS_p2 9 rfl rfl)⟩
set_option maxRecDepth 100000 in
theorem fl_RX11_386 : FL RX11 386 7 11 := ⟨RX8, TX8, 12, rfl, by decide, iw_RX8, (TS_p2 11 rfl rfl)⟩
set_option maxRecDepth 100000 in
theorem fl_RX11_395 : FL RX11 395 1 0 := ⟨RX1, TX1, 8, rfl, by decide, iw_RX1, (TS_p1 120 rfl rfl)⟩
set_option maxRecDepth 100000 in
theorem fl_RX11_396 : FL RX11 396 4 0 := ⟨RX5, TX5, 5, rfl, by decide, iw_RX5, (TS_p1 154 rfl rfl)⟩
set_option maxRecDepth 100000 in
theorem fl_RX11_399 : FL RX11 399 2 0 := ⟨RX3, TX3, 5, rfl, by decide, iw_RX3, (TS_p1 182 rfl rfl)⟩
set_option maxRecDepth 100000 in
theorem fl_RX12_7 : FL RX12 7 11 1 := ⟨RX12, TX12, 65, rfl, by decide, iw_RX12, (TS_p6 65 rfl rfl)⟩
set_option maxRecDepth 100000 in
theorem fl_RX12_13 : FL RX12 13 11 2 := ⟨RX12, TX12, 65, rfl, by decide, iw_RX12, (TS_p6 66 rfl rfl)⟩
set_option maxRecDepth 100000 in
theorem fl_RX12_16 : FL RX12 16 11 4 := ⟨RX12, TX12, 65, rfl, by decide, iw_RX12, (TS_p6 68 rfl rfl)⟩
set_option maxRecDepth 100000 in
theorem fl_RX12_19 : FL RX12 19 11 7 := ⟨RX12, TX12, 65, rfl, by decide, iw_RX12, (TS_p6 71 rfl rfl)⟩
set_option maxRecDepth 100000 in
theorem fl_RX12_22 : FL RX12 22 11 8 := ⟨RX12, TX12, 65, rfl, by decide, iw_RX12, (TS_p6 72 rfl rfl)⟩
set_option maxRecDepth 100000 in
theorem fl_RX12_25 : FL RX12 25 11 14 := ⟨RX12, TX12, 65, rfl, by decide, iw_RX12, (TS_p6 78 rfl rfl)⟩
set_option maxRecDepth 100000 in
theorem fl_RX12_28 : FL RX12 28 11 15 := ⟨RX12, TX12, 65, rfl, by decide, iw_RX12, (TS_p6 79 rfl rfl)⟩
set_option maxRecDepth 100000 in
theorem fl_RX12_31 : FL RX12 31 11 16 := ⟨RX12, TX12, 65, rfl, by decide, iw_RX12, (TS_p6 80 rfl rfl)⟩
set_option maxRecDepth 100000 in
theorem fl_RX12_34 : FL RX12 34 11 17 := ⟨RX12, TX12, 65, rfl, by decide, iw_RX12, (TS_p6 81 rfl rfl)⟩
set_option maxRecDepth 100000 in
theorem fl_RX12_37 : FL RX12 37 11 18 := ⟨RX12, TX12, 65, rfl, by decide, iw_RX12, (TS_p6 82 rfl rfl)⟩
set_option maxRecDepth 100000 in
theorem fl_RX12_40 : FL RX12 40 11 19 := ⟨RX12, TX12, 65, rfl, by decide, iw_RX12, (TS_p6 83 rfl rfl)⟩
set_option maxRecDepth 100000 in
theorem fl_RX12_43 : FL RX12 43 11 20 := ⟨RX12, TX12, 65, rfl, by decide, iw_RX12, (TS_p6 84 rfl rfl)⟩
set_option maxRecDepth 100000 in
theorem fl_RX12_46 : FL RX12 46 11 21 := ⟨RX12, TX12, 65, rfl, by decide, iw_RX12, (TS_p6 85 rfl rfl)⟩
set_option maxRecDepth 100000 in
theorem fl_RX12_49 : FL RX12 49 11 25 := ⟨RX12, TX12, 65, rfl, by decide, iw_RX12, (TS_p6 89 rfl rfl)⟩
set_option maxRecDepth 100000 in
theorem fl_RX12_52 : FL RX12 52 11 30 := ⟨RX12, TX12, 65, rfl, by decide, iw_RX12, (TS_p6 94 rfl rfl)⟩
set_option maxRecDepth 100000 in
theorem fl_RX12_56 : FL RX12 56 11 32 := ⟨RX12, TX12, 65, rfl, by decide, iw_RX12, (TS_p6 96 rfl rfl)⟩
set_option maxRecDepth 100000 in
theorem fl_RX12_59 : FL RX12 59 11 34 := ⟨RX12, TX12, 65, rfl, by decide, iw_RX12, (TS_p6 98 rfl rfl)⟩
set_option maxRecDepth 100000 in
theorem fl_RX12_62 : FL RX12 62 11 36 := ⟨RX12, TX12, 65, rfl, by decide, iw_RX12, (TS_p6 100 rfl rfl)⟩
set_option maxRecDepth 100000 in
theorem fl_RX12_65 : FL RX12 65 11 37 := ⟨RX12, TX12, 65, rfl, by decide, iw_RX12, (TS_p6 101 rfl rfl)⟩
set_option maxRecDepth 100000 in
theorem fl_RX12_68 : FL RX12 68 11 38 := ⟨RX12, TX12, 65, rfl, by decide, iw_RX12, (TS_p6 102 rfl rfl)⟩
set_option maxRecDepth 100000 in
theorem fl_RX12_71 : FL RX12 71 11 39 := ⟨RX12, TX12, 65, rfl, by decide, iw_RX12, (TS_p6 103 rfl rfl)⟩
set_option maxRecDepth 100000 in
theorem fl_RX12_74 : FL RX12 74 11 41 := ⟨RX12, TX12, 65, rfl, by decide, iw_RX12, (TS_p6 105 rfl rfl)⟩
set_option maxRecDepth 100000 in
theorem fl_RX12_77 : FL RX12 77 11 43 := ⟨RX12, TX12, 65, rfl, by decide, iw_RX12, (TS_p6 107 rfl rfl)⟩
set_option maxRecDepth 100000 in
theorem fl_RX12_80 : FL RX12 80 11 44 := ⟨RX12, TX12, 65, rfl, by decide, iw_RX12, (TS_p6 108 rfl rfl)⟩
set_option maxRecDepth 100000 in
theorem fl_RX12_83 : FL RX12 83 11 45 := ⟨RX12, TX12, 65, rfl, by decide, iw_RX12, (TS_p6 109 rfl rfl)⟩
set_option maxRecDepth 100000 in
theorem fl_RX12_86 : FL RX12 86 11 47 := ⟨RX12, TX12, 65, rfl, by decide, iw_RX12, (TS_p6 111 rfl rfl)⟩
set_option maxRecDepth 100000 in
theorem fl_RX12_89 : FL RX12 89 11 48 := ⟨RX12, TX12, 65, rfl, by decide, iw_RX12, (TS_p6 112 rfl rfl)⟩
set_option maxRecDepth 100000 in
theorem fl_RX12_92 : FL RX12 92 11 49 := ⟨RX12, TX12, 65, rfl, by decide, iw_RX12, (TS_p6 113 rfl rfl)⟩
set_option maxRecDepth 100000 in
theorem fl_RX12_95 : FL RX12 95 11 50 := ⟨RX12, TX12, 65, rfl, by decide, iw_RX12, (TS_p6 114 rfl rfl)⟩
set_option maxRecDepth 100000 in
theorem fl_RX12_98 : FL RX12 98 11 51 := ⟨RX12, TX12, 65, rfl, by decide, iw_RX12, (TS_p6 115 rfl rfl)⟩
set_option maxRecDepth 100000 in
theorem fl_RX12_101 : FL RX12 101 11 53 := ⟨RX12, TX12, 65, rfl, by decide, iw_RX12, (TS_p6 117 rfl rfl)⟩
set_option maxRecDepth 100000 in
theorem fl_RX12_104 : FL RX12 104 11 54 := ⟨RX12, TX12, 65, rfl, by decide, iw_RX12, (TS_p6 118 rfl rfl)⟩
set_option maxRecDepth 100000 in
theorem fl_RX12_107 : FL RX12 107 11 56 := ⟨RX12, TX12, 65, rfl, by decide, iw_RX12, (TS_p6 120 rfl rfl)⟩
set_option maxRecDepth 100000 in
theorem fl_RX12_110 : FL RX12 110 11 57 := ⟨RX12, TX12, 65, rfl, by decide, iw_RX12, (TS_p6 121 rfl rfl)⟩
set_option maxRecDepth 100000 in
theorem fl_RX12_113 : FL RX12 113 11 58 := ⟨RX12, TX12, 65, rfl, by decide, iw_RX12, (TS_p6 122 rfl rfl)⟩
set_option maxRecDepth 100000 in
theorem fl_RX12_116 : FL RX12 116 11 60 := ⟨RX12, TX12, 65, rfl, by decide, iw_RX12, (TS_p6 124 rfl rfl)⟩
set_option maxRecDepth 100000 in
theorem fl_RX12_119 : FL RX12 119 11 64 := ⟨RX12, TX12, 65, rfl, by decide, iw_RX12, (TS_p6 128 rfl rfl)⟩
set_option maxRecDepth 100000 in
theorem fl_RX12_125 : FL RX12 125 11 3 := ⟨RX12, TX12, 65, rfl, by decide, iw_RX12, (TS_p6 67 rfl rfl)⟩
set_option maxRecDepth 100000 in
theorem fl_RX12_128 : FL RX12 128 11 5 := ⟨RX12, TX12, 65, rfl, by decide, iw_RX12, (TS_p6 69 rfl rfl)⟩
set_option maxRecDepth 100000 in
theorem fl_RX12_134 : FL RX12 134 11 6 := ⟨RX12, TX12, 65, rfl, by decide, iw_RX12, (TS_p6 70 rfl rfl)⟩
set_option maxRecDepth 100000 in
theorem fl_RX12_149 : FL RX12 149 11 9 := ⟨RX12, TX12, 65, rfl, by decide, iw_RX12, (TS_p6 73 rfl rfl)⟩
set_option maxRecDepth 100000 in
theorem fl_RX12_156 : FL RX12 156 11 10 := ⟨RX12, TX12, 65, rfl, by decide, iw_RX12, (TS_p6 74 rfl rfl)⟩
set_option maxRecDepth 100000 in
theorem fl_RX12_163 : FL RX12 163 11 11 := ⟨RX12, TX12, 65, rfl, by decide, iw_RX12, (TS_p6 75 rfl rfl)⟩
set_option maxRecDepth 100000 in
theorem fl_RX12_166 : FL RX12 166 11 12 := ⟨RX12, TX12, 65, rfl, by decide, iw_RX12, (TS_p6 76 rfl rfl)⟩
set_option maxRecDepth 100000 in
theorem fl_RX12_169 : FL RX12 169 11 13 := ⟨RX12, TX12, 65, rfl, by decide, iw_RX12, (TS_p6 77 rfl rfl)⟩
set_option maxRecDepth 100000 in
theorem fl_RX12_185 : FL RX12 185 11 27 := ⟨RX12, TX12, 65, rfl, by decide, iw_RX12, (TS_p6 91 rfl rfl)⟩
set_option maxRecDepth 100000 in
theorem fl_RX12_188 : FL RX12 188 11 28 := ⟨RX12, TX12, 65, rfl, by decide, iw_RX12, (TS_p6 92 rfl rfl)⟩
set_option maxRecDepth 100000 in
theorem fl_RX12_191 : FL RX12 191 11 23 := ⟨RX12, TX12, 65, rfl, by decide, iw_RX12, (TS_p6 87 rfl rfl)⟩
set_option maxRecDepth 100000 in
theorem fl_RX12_219 : FL RX12 219 11 26 := ⟨RX12, TX12, 65, rfl, by decide, iw_RX12, (TS_p6 90 rfl rfl)⟩
set_option maxRecDepth 100000 in
theorem fl_RX12_222 : FL RX12 222 11 24 := ⟨RX12, TX12, 65, rfl, by decide, iw_RX12, (TS_p6 88 rfl rfl)⟩
set_option maxRecDepth 100000 in
theorem fl_RX12_244 : FL RX12 244 11 22 := ⟨RX12, TX12, 65, rfl, by decide, iw_RX12, (TS_p6 86 rfl rfl)⟩
set_option maxRecDepth 100000 in
theorem fl_RX12_281 : FL RX12 281 11 35 := ⟨RX12, TX12, 65, rfl, by decide, iw_RX12, (TS_p6 99 rfl rfl)⟩
set_option maxRecDepth 100000 in
theorem fl_RX12_284 : FL RX12 284 11 31 := ⟨RX12, TX12, 65, rfl, by decide, iw_RX12, (TS_p6 95 rfl rfl)⟩
set_option maxRecDepth 100000 in
theorem fl_RX12_287 : FL RX12 287 11 33 := ⟨RX12, TX12, 65, rfl, by decide, iw_RX12, (TS_p6 97 rfl rfl)⟩
set_option maxRecDepth 100000 in
theorem fl_RX12_290 : FL RX12 290 11 29 := ⟨RX12, TX12, 65, rfl, by decide, iw_RX12, (TS_p6 93 rfl rfl)⟩
set_option maxRecDepth 100000 in
theorem fl_RX12_416 : FL RX12 416 11 40 := ⟨RX12, TX12, 65, rfl, by decide, iw_RX12, (TS_p6 104 rfl rfl)⟩
set_option maxRecDepth 100000 in
theorem fl_RX12_427 : FL RX12 427 11 42 := ⟨RX12, TX12, 65, rfl, by decide, iw_RX12, (TS_p6 106 rfl rfl)⟩
set_option maxRecDepth 100000 in
theorem fl_RX12_436 : FL RX12 436 11 46 := ⟨RX12, TX12, 65, rfl, by decide, iw_RX12, (TS_p6 110 rfl rfl)⟩
set_option maxRecDepth 100000 in
theorem fl_RX12_453 : FL RX12 453 11 52 := ⟨RX12, TX12, 65, rfl, by decide, iw_RX12, (TS_p6 116 rfl rfl)⟩
set_option maxRecDepth 100000 in
theorem fl_RX12_465 : FL RX12 465 11 55 := ⟨RX12, TX12, 65, rfl, by decide, iw_RX12, (TS_p6 119 rfl rfl)⟩
set_option maxRecDepth 100000 in
theorem fl_RX12_472 : FL RX12 472 11 59 := ⟨RX12, TX12, 65, rfl, by decide, iw_RX12, (TS_p6 123 rfl rfl)⟩
set_option maxRecDepth 100000 in
theorem fl_RX12_478 : FL RX12 478 11 63 := ⟨RX12, TX12, 65, rfl, by decide, iw_RX12, (TS_p6 127 rfl rfl)⟩
set_option maxRecDepth 100000 in
theorem fl_RX12_481 : FL RX12 481 11 61 := ⟨RX12, TX12, 65, rfl, by decide, iw_RX12, (TS_p6 125 rfl rfl)⟩
set_option maxRecDepth 100000 in
theorem fl_RX12_487 : FL RX12 487 11 62 := ⟨RX12, TX12, 65, rfl, by decide, iw_RX12, (TS_p6 126 rfl rfl)⟩
set_option maxRecDepth 100000 in
theorem fl_RX3_9 : FL RX3 9 2 0 := ⟨RX3, TX3, 5, rfl, by decide, iw_RX3, (TS_p1 180 rfl rfl)⟩
set_option maxRecDepth 100000 in
theorem fl_RX3_15 : FL RX3 15 2 1 := ⟨RX3, TX3, 5, rfl, by decide, iw_RX3, (TS_p1 183 rfl rfl)⟩
set_option maxRecDepth 100000 in
theorem fl_RX3_19 : FL RX3 19 2 2 := ⟨RX3, TX3, 5, rfl, by decide, iw_RX3, (TS_p1 184 rfl rfl)⟩
set_option maxRecDepth 100000 in
theorem fl_RX3_22 : FL RX3 22 2 3 := ⟨RX3, TX3, 5, rfl, by decide, iw_RX3, (TS_p1 185 rfl rfl)⟩
set_option maxRecDepth 100000 in
theorem fl_RX3_25 : FL RX3 25 2 4 := ⟨RX3, TX3, 5, rfl, by decide, iw_RX3, (TS_p1 186 rfl rfl)⟩
set_option maxRecDepth 100000 in
theorem fl_RX4_12 : FL RX4 12 3 0 := ⟨RX4, TX4, 7, rfl, by decide, iw_RX4, (TS_p2 122 rfl rfl)⟩
set_option maxRecDepth 100000 in
theorem fl_RX4_25 : FL RX4 25 3 3 := ⟨RX4, TX4, 7, rfl, by decide, iw_RX4, (TS_p2 128 rfl rfl)⟩
set_option maxRecDepth 100000 in
theorem fl_RX4_31 : FL RX4 31 3 4 := ⟨RX4, TX4, 7, rfl, by decide, iw_RX4, (TS_p2 129 rfl rfl)⟩
set_option maxRecDepth 100000 in
theorem fl_RX4_38 : FL RX4 38 3 5 := ⟨RX4, TX4, 7, rfl, by decide, iw_RX4, (TS_p2 130 rfl rfl)⟩
set_option maxRecDepth 100000 in
theorem fl_RX4_45 : FL RX4 45 3 6 := ⟨RX4, TX4, 7, rfl, by decide, iw_RX4, (TS_p2 131 rfl rfl)⟩
set_option maxRecDepth 100000 in
theorem fl_RX4_55 : FL RX4 55 5 1 := ⟨RX6, TX6, 10, rfl, by decide, iw_RX6, (TS_p2 84 rfl rfl)⟩
set_option maxRecDepth 100000 in
theorem fl_RX4_58 : FL RX4 58 5 2 := ⟨RX6, TX6, 10, rfl, by decide, iw_RX6, (TS_p2 86 rfl rfl)⟩
set_option maxRecDepth 100000 in
theorem fl_RX4_73 : FL RX4 73 1 0 := ⟨RX1, TX1, 8, rfl, by decide, iw_RX1, (TS_p1 119 rfl rfl)⟩
set_option maxRecDepth 100000 in
theorem fl_RX4_76 : FL RX4 76 4 0 := ⟨RX5, TX5, 5, rfl, by decide, iw_RX5, (TS_p1 153 rfl rfl)⟩
set_option maxRecDepth 100000 in
theorem fl_RX4_88 : FL RX4 88 2 0 := ⟨RX3, TX3, 5, rfl, by decide, iw_RX3, (TS_p1 181 rfl rfl)⟩
set_option maxRecDepth 100000 in
theorem fl_RX4_180 : FL RX4 180 5 3 := ⟨RX6, TX6, 10, rfl, by decide, iw_RX6, (TS_p2 88 rfl rfl)⟩
set_option maxRecDepth 100000 in
theorem fl_RX5_9 : FL RX5 9 4 0 := ⟨RX5, TX5, 5, rfl, by decide, iw_RX5, (TS_p1 151 rfl rfl)⟩
set_option maxRecDepth 100000 in
theorem fl_RX5_15 : FL RX5 15 4 1 := ⟨RX5, TX5, 5, rfl, by decide, iw_RX5, (TS_p1 155 rfl rfl)⟩
set_option maxRecDepth 100000 in
theorem fl_RX5_19 : FL RX5 19 4 2 := ⟨RX5, TX5, 5, rfl, by decide, iw_RX5, (TS_p1 157 rfl rfl)⟩
set_option maxRecDepth 100000 in
theorem fl_RX5_22 : FL RX5 22 4 3 := ⟨RX5, TX5, 5, rfl, by decide, iw_RX5, (TS_p1 159 rfl rfl)⟩
set_option maxRecDepth 100000 in
theorem fl_RX5_25 : FL RX5 25 4 4 := ⟨RX5, TX5, 5, rfl, by decide, iw_RX5, (TS_p1 161 rfl rfl)⟩
set_option maxRecDepth 100000 in
theorem fl_RX6_9 : FL RX6 9 5 0 := ⟨RX6, TX6, 10, rfl, by decide, iw_RX6, (TS_p2 81 rfl rfl)⟩
set_option maxRecDepth 100000 in
theorem fl_RX6_15 : FL RX6 15 5 1 := ⟨RX6, TX6, 10, rfl, by decide, iw_RX6, (TS_p2 83 rfl rfl)⟩
set_option maxRecDepth 100000 in
theorem fl_RX6_18 : FL RX6 18 5 2 := ⟨RX6, TX6, 10, rfl, by decide, iw_RX6, (TS_p2 85 rfl rfl)⟩
set_option maxRecDepth 100000 in
theorem fl_RX6_24 : FL RX6 24 5 4 := ⟨RX6, TX6, 10, rfl, by decide, iw_RX6, (TS_p2 89 rfl rfl)⟩
set_option maxRecDepth 100000 in
theorem fl_RX6_27 : FL RX6 27 5 5 := ⟨RX6, TX6, 10, rfl, by decide, iw_RX6, (TS_p2 90 rfl rfl)⟩
set_option maxRecDepth 100000 in
theorem fl_RX6_30 : FL RX6 30 5 6 := ⟨RX6, TX6, 10, rfl, by decide, iw_RX6, (TS_p2 91 rfl rfl)⟩
set_option maxRecDepth 100000 in
theorem fl_RX6_34 : FL RX6 34 5 7 := ⟨RX6, TX6, 10, rfl, by decide, iw_RX6, (TS_p2 92 rfl rfl)⟩
set_option maxRecDepth 100000 in
theorem fl_RX6_37 : FL RX6 37 5 8 := ⟨RX6, TX6, 10, rfl, by decide, iw_RX6, (TS_p2 93 rfl rfl)⟩
set_option maxRecDepth 100000 in
theorem fl_RX6_40 : FL RX6 40 5 9 := ⟨RX6, TX6, 10, rfl, by decide, iw_RX6, (TS_p2 94 rfl rfl)⟩
set_option maxRecDepth 100000 in
theorem fl_RX7_13 : FL RX7 13 6 0 := ⟨RX7, TX7, 2, rfl, by decide, iw_RX7, (TS_p1 213 rfl rfl)⟩
set_option maxRecDepth 100000 in
theorem fl_RX7_19 : FL RX7 19 6 1 := ⟨RX7, TX7, 2, rfl, by decide, iw_RX7, (TS_p1 214 rfl rfl)⟩
set_option maxRecDepth 100000 in
theorem fl_RX8_12 : FL RX8 12 7 0 := ⟨RX8, TX8, 12, rfl, by decide, iw_RX8, (TS_p1 222 rfl rfl)⟩
set_option maxRecDepth 100000 in
theorem fl_RX8_18 : FL RX8 18 7 1 := ⟨RX8, TX8, 12, rfl, by decide, iw_RX8, (TS_p1 224 rfl rfl)⟩
set_option maxRecDepth 100000 in
theorem fl_RX8_21 : FL RX8 21 7 2 := ⟨RX8, TX8, 12, rfl, by decide, iw_RX8, (TS_p1 227 rfl rfl)⟩
set_option maxRecDepth 100000 in
theorem fl_RX8_24 : FL RX8 24 7 3 := ⟨RX8, TX8, 12, rfl, by decide, iw_RX8, (TS_p1 230 rfl rfl)⟩
set_option maxRecDepth 100000 in
theorem fl_RX8_27 : FL RX8 27 7 4 := ⟨RX8, TX8, 12, rfl, by decide, iw_RX8, (TS_p1 233 rfl rfl)⟩
set_option maxRecDepth 100000 in
theorem fl_RX8_30 : FL RX8 30 7 5 := ⟨RX8, TX8, 12, rfl, by decide, iw_RX8, (TS_p1 236 rfl rfl)⟩
set_option maxRecDepth 100000 in
theorem fl_RX8_33 : FL RX8 33 7 6 := ⟨RX8, TX8, 12, rfl, by decide, iw_RX8, (TS_p1 239 rfl rfl)⟩
set_option maxRecDepth 100000 in
theorem fl_RX8_36 : FL RX8 36 7 7 := ⟨RX8, TX8, 12, rfl, by decide, iw_RX8, (TS_p2 2 rfl rfl)⟩
set_option maxRecDepth 100000 in
theorem fl_RX8_39 : FL RX8 39 7 8 := ⟨RX8, TX8, 12, rfl, by decide, iw_RX8, (TS_p2 4 rfl rfl)⟩
set_option maxRecDepth 100000 in
theorem fl_RX8_42 : FL RX8 42 7 9 := ⟨RX8, TX8, 12, rfl, by decide, iw_RX8, (TS_p2 6 rfl rfl)⟩
set_option maxRecDepth 100000 in
theorem fl_RX8_45 : FL RX8 45 7 10 := ⟨RX8, TX8, 12, rfl, by decide, iw_RX8, (TS_p2 8 rfl rfl)⟩
set_option maxRecDepth 100000 in
theorem fl_RX8_48 : FL RX8 48 7 11 := ⟨RX8, TX8, 12, rfl, by decide, iw_RX8, (TS_p2 10 rfl rfl)⟩
set_option maxRecDepth 100000 in
theorem fl_RX9_9 : FL RX9 9 8 0 := ⟨RX9, TX9, 4, rfl, by decide, iw_RX9, (TS_p2 153 rfl rfl)⟩
set_option maxRecDepth 100000 in
theorem fl_RX9_15 : FL RX9 15 8 1 := ⟨RX9, TX9, 4, rfl, by decide, iw_RX9, (TS_p2 154 rfl rfl)⟩
set_option maxRecDepth 100000 in
theorem fl_RX9_18 : FL RX9 18 8 2 := ⟨RX9, TX9, 4, rfl, by decide, iw_RX9, (TS_p2 155 rfl rfl)⟩
set_option maxRecDepth 100000 in
theorem fl_RX9_22 : FL RX9 22 8 3 := ⟨RX9, TX9, 4, rfl, by decide, iw_RX9, (TS_p2 156 rfl rfl)⟩
set_option maxRecDepth 100000 in
theorem fl_RX9_25 : FL RX9 25 6 1 := ⟨RX7, TX7, 2, rfl, by decide, iw_RX7, (TS_p1 215 rfl rfl)⟩
set_option maxRecDepth 100000 in
theorem fl_RX9_48 : FL RX9 48 7 2 := ⟨RX8, TX8, 12, rfl, by decide, iw_RX8, (TS_p1 228 rfl rfl)⟩
set_option maxRecDepth 100000 in
theorem fl_RX9_54 : FL RX9 54 7 1 := ⟨RX8, TX8, 12, rfl, by decide, iw_RX8, (TS_p1 225 rfl rfl)⟩
set_option maxRecDepth 100000 in
theorem fl_RX9_57 : FL RX9 57 7 3 := ⟨RX8, TX8, 12, rfl, by decide, iw_RX8, (TS_p1 231 rfl rfl)⟩
set_option maxRecDepth 100000 in
theorem fl_RX9_68 : FL RX9 68 7 4 := ⟨RX8, TX8, 12, rfl, by decide, iw_RX8, (TS_p1 234 rfl rfl)⟩
set_option maxRecDepth 100000 in
theorem fl_RX9_71 : FL RX9 71 7 5 := ⟨RX8, TX8, 12, rfl, by decide, iw_RX8, (TS_p1 237 rfl rfl)⟩
set_option maxRecDepth 100000 in
theorem fl_RX9_74 : FL RX9 74 7 6 := ⟨RX8, TX8, 12, rfl, by decide, iw_RX8, (TS_p2 0 rfl rfl)⟩
set_option maxRecDepth 100000 in
theorem fp_RX0_15 : FP RX0 15 0 1 .int := ⟨RX0, TX0, 13, tyX0, rfl, by decide, iw_RX0, (TS_p1 44 rfl rfl), tyX0_ok, nmX0, rfl, by decide +kernel⟩
set_option maxRecDepth 100000 in
theorem fp_RX0_41 : FP RX0 41 0 9 .int := ⟨RX0, TX0, 13, tyX0, rfl, by decide, iw_RX0, (TS_p1 72 rfl rfl), tyX0_ok, nmX0, rfl, by decide +kernel⟩
set_option maxRecDepth 100000 in
theorem fp_RX0_44 : FP RX0 44 0 10 .int := ⟨RX0, TX0, 13, tyX0, rfl, by decide, iw_RX0, (TS_p1 75 rfl rfl), tyX0_ok, nmX0, rfl, by decide +kernel⟩
set_option maxRecDepth 100000 in
theorem fp_RX0_47 : FP RX0 47 0 11 .int := ⟨RX0, TX0, 13, tyX0, rfl, by decide, iw_RX0, (TS_p1 79 rfl rfl), tyX0_ok, nmX0, rfl, by decide +kernel⟩
set_option maxRecDepth 100000 in
theorem fp_RX0_50 : FP RX0 50 0 12 .int := ⟨RX0, TX0, 13, tyX0, rfl, by decide, iw_RX0, (TS_p1 81 rfl rfl), tyX0_ok, nmX0, rfl, by decide +kernel⟩
set_option maxRecDepth 100000 in
theorem fp_RX1_9 : FP RX1 9 1 0 .int := ⟨RX1, TX1, 8, tyX1, rfl, by decide, iw_RX1, (TS_p1 118 rfl rfl), tyX1_ok, nmX1, rfl, by decide +kernel⟩
set_option maxRecDepth 100000 in
theorem fp_RX1_15 : FP RX1 15 1 1 .int := ⟨RX1, TX1, 8, tyX1, rfl, by decide, iw_RX1, (TS_p1 121 rfl rfl), tyX1_ok, nmX1, rfl, by decide +kernel⟩
set_option maxRecDepth 100000 in
theorem fp_RX10_84 : FP RX10 84 0 10 .int := ⟨RX0, TX0, 13, tyX0, rfl, by decide, iw_RX0, (TS_p1 76 rfl rfl), tyX0_ok, nmX0, rfl, by decide +kernel⟩
set_option maxRecDepth 100000 in
theorem fp_RX10_124 : FP RX10 124 0 9 .int := ⟨RX0, TX0, 13, tyX0, rfl, by decide, iw_RX0, (TS_p1 73 rfl rfl), tyX0_ok, nmX0, rfl, by decide +kernel⟩
set_option maxRecDepth 100000 in
theorem fp_RX10_188 : FP RX10 188 0 12 .int := ⟨RX0, TX0, 13, tyX0, rfl, by decide, iw_RX0, (TS_p1 82 rfl rfl), tyX0_ok, nmX0, rfl, by decide +kernel⟩
set_option maxRecDepth 100000 in
theorem fp_RX11_19 : FP RX11 19 10 2 .boolean := ⟨RX11, TX11, 9, tyX11, rfl, by decide, iw_RX11, (TS_p2 169 rfl rfl), tyX11_ok, nmX11, rfl, by decide +kernel⟩
set_option maxRecDepth 100000 in
theorem fp_RX11_36 : FP RX11 36 10 5 .int := ⟨RX11, TX11, 9, tyX11, rfl, by decide, iw_RX11, (TS_p2 172 rfl rfl), tyX11_ok, nmX11, rfl, by decide +kernel⟩
set_option maxRecDepth 100000 in
theorem fp_RX11_40 : FP RX11 40 10 6 .int := ⟨RX11, TX11, 9, tyX11, rfl, by decide, iw_RX11, (TS_p2 173 rfl rfl), tyX11_ok, nmX11, rfl, by decide +kernel⟩
set_option maxRecDepth 100000 in
theorem fp_RX11_60 : FP RX11 60 0 11 .int := ⟨RX0, TX0, 13, tyX0, rfl, by decide, iw_RX0, (TS_p1 80 rfl rfl), tyX0_ok, nmX0, rfl, by decide +kernel⟩
set_option maxRecDepth 100000 in
theorem fp_RX12_52 : FP RX12 52 11 30 .int := ⟨RX12, TX12, 65, tyX12, rfl, by decide, iw_RX12, (TS_p6 94 rfl rfl), tyX12_ok, nmX12, rfl, by decide +kernel⟩
set_option maxRecDepth 100000 in
theorem fp_RX12_122 : FP RX12 122 11 0 .int := ⟨RX12, TX12, 65, tyX12, rfl, by decide, iw_RX12, (TS_p6 64 rfl rfl), tyX12_ok, nmX12, rfl, by decide +kernel⟩
set_option maxRecDepth 100000 in
theorem fp_RX12_125 : FP RX12 125 11 3 .int := ⟨RX12, TX12, 65, tyX12, rfl, by decide, iw_RX12, (TS_p6 67 rfl rfl), tyX12_ok, nmX12, rfl, by decide +kernel⟩
set_option maxRecDepth 100000 in
theorem fp_RX12_128 : FP RX12 128 11 5 .boolean := ⟨RX12, TX12, 65, tyX12, rfl, by decide, iw_RX12, (TS_p6 69 rfl rfl), tyX12_ok, nmX12, rfl, by decide +kernel⟩
set_option maxRecDepth 100000 in
theorem fp_RX12_134 : FP RX12 134 11 6 .int := ⟨RX12, TX12, 65, tyX12, rfl, by decide, iw_RX12, (TS_p6 70 rfl rfl), tyX12_ok, nmX12, rfl, by decide +kernel⟩
set_option maxRecDepth 100000 in
theorem fp_RX12_149 : FP RX12 149 11 9 .int := ⟨RX12, TX12, 65, tyX12, rfl, by decide, iw_RX12, (TS_p6 73 rfl rfl), tyX12_ok, nmX12, rfl, by decide +kernel⟩
set_option maxRecDepth 100000 in
theorem fp_RX12_156 : FP RX12 156 11 10 .int := ⟨RX12, TX12, 65, tyX12, rfl, by decide, iw_RX12, (TS_p6 74 rfl rfl), tyX12_ok, nmX12, rfl, by decide +kernel⟩
set_option maxRecDepth 100000 in
theorem fp_RX12_163 : FP RX12 163 11 11 .int := ⟨RX12, TX12, 65, tyX12, rfl, by decide, iw_RX12, (TS_p6 75 rfl rfl), tyX12_ok, nmX12, rfl, by decide +kernel⟩
set_option maxRecDepth 100000 in
theorem fp_RX12_166 : FP RX12 166 11 12 .int := ⟨RX12, TX12, 65, tyX12, rfl, by decide, iw_RX12, (TS_p6 76 rfl rfl), tyX12_ok, nmX12, rfl, by decide +kernel⟩
set_option maxRecDepth 100000 in
theorem fp_RX12_169 : FP RX12 169 11 13 .int := ⟨RX12, TX12, 65, tyX12, rfl, by decide, iw_RX12, (TS_p6 77 rfl rfl), tyX12_ok, nmX12, rfl, by decide +kernel⟩
set_option maxRecDepth 100000 in
theorem fp_RX12_185 : FP RX12 185 11 27 .int := ⟨RX12, TX12, 65, tyX12, rfl, by decide, iw_RX12, (TS_p6 91 rfl rfl), tyX12_ok, nmX12, rfl, by decide +kernel⟩
set_option maxRecDepth 100000 in
theorem fp_RX12_188 : FP RX12 188 11 28 .int := ⟨RX12, TX12, 65, tyX12, rfl, by decide, iw_RX12, (TS_p6 92 rfl rfl), tyX12_ok, nmX12, rfl, by decide +kernel⟩
set_option maxRecDepth 100000 in
theorem fp_RX12_191 : FP RX12 191 11 23 .int := ⟨RX12, TX12, 65, tyX12, rfl, by decide, iw_RX12, (TS_p6 87 rfl rfl), tyX12_ok, nmX12, rfl, by decide +kernel⟩
set_option maxRecDepth 100000 in
theorem fp_RX12_219 : FP RX12 219 11 26 .int := ⟨RX12, TX12, 65, tyX12, rfl, by decide, iw_RX12, (TS_p6 90 rfl rfl), tyX12_ok, nmX12, rfl, by decide +kernel⟩
set_option maxRecDepth 100000 in
theorem fp_RX12_222 : FP RX12 222 11 24 .int := ⟨RX12, TX12, 65, tyX12, rfl, by decide, iw_RX12, (TS_p6 88 rfl rfl), tyX12_ok, nmX12, rfl, by decide +kernel⟩
set_option maxRecDepth 100000 in
theorem fp_RX12_244 : FP RX12 244 11 22 .int := ⟨RX12, TX12, 65, tyX12, rfl, by decide, iw_RX12, (TS_p6 86 rfl rfl), tyX12_ok, nmX12, rfl, by decide +kernel⟩
set_option maxRecDepth 100000 in
theorem fp_RX12_281 : FP RX12 281 11 35 .int := ⟨RX12, TX12, 65, tyX12, rfl, by decide, iw_RX12, (TS_p6 99 rfl rfl), tyX12_ok, nmX12, rfl, by decide +kernel⟩
set_option maxRecDepth 100000 in
theorem fp_RX12_284 : FP RX12 284 11 31 .int := ⟨RX12, TX12, 65, tyX12, rfl, by decide, iw_RX12, (TS_p6 95 rfl rfl), tyX12_ok, nmX12, rfl, by decide +kernel⟩
set_option maxRecDepth 100000 in
theorem fp_RX12_287 : FP RX12 287 11 33 .int := ⟨RX12, TX12, 65, tyX12, rfl, by decide, iw_RX12, (TS_p6 97 rfl rfl), tyX12_ok, nmX12, rfl, by decide +kernel⟩
set_option maxRecDepth 100000 in
theorem fp_RX12_290 : FP RX12 290 11 29 .int := ⟨RX12, TX12, 65, tyX12, rfl, by decide, iw_RX12, (TS_p6 93 rfl rfl), tyX12_ok, nmX12, rfl, by decide +kernel⟩
set_option maxRecDepth 100000 in
theorem fp_RX12_416 : FP RX12 416 11 40 .int := ⟨RX12, TX12, 65, tyX12, rfl, by decide, iw_RX12, (TS_p6 104 rfl rfl), tyX12_ok, nmX12, rfl, by decide +kernel⟩
set_option maxRecDepth 100000 in
theorem fp_RX12_427 : FP RX12 427 11 42 .int := ⟨RX12, TX12, 65, tyX12, rfl, by decide, iw_RX12, (TS_p6 106 rfl rfl), tyX12_ok, nmX12, rfl, by decide +kernel⟩
set_option maxRecDepth 100000 in
theorem fp_RX12_436 : FP RX12 436 11 46 .int := ⟨RX12, TX12, 65, tyX12, rfl, by decide, iw_RX12, (TS_p6 110 rfl rfl), tyX12_ok, nmX12, rfl, by decide +kernel⟩
set_option maxRecDepth 100000 in
theorem fp_RX12_453 : FP RX12 453 11 52 .int := ⟨RX12, TX12, 65, tyX12, rfl, by decide, iw_RX12, (TS_p6 116 rfl rfl), tyX12_ok, nmX12, rfl, by decide +kernel⟩
set_option maxRecDepth 100000 in
theorem fp_RX12_465 : FP RX12 465 11 55 .int := ⟨RX12, TX12, 65, tyX12, rfl, by decide, iw_RX12, (TS_p6 119 rfl rfl), tyX12_ok, nmX12, rfl, by decide +kernel⟩
set_option maxRecDepth 100000 in
theorem fp_RX12_472 : FP RX12 472 11 59 .int := ⟨RX12, TX12, 65, tyX12, rfl, by decide, iw_RX12, (TS_p6 123 rfl rfl), tyX12_ok, nmX12, rfl, by decide +kernel⟩
set_option maxRecDepth 100000 in
theorem fp_RX12_478 : FP RX12 478 11 63 .int := ⟨RX12, TX12, 65, tyX12, rfl, by decide, iw_RX12, (TS_p6 127 rfl rfl), tyX12_ok, nmX12, rfl, by decide +kernel⟩
set_option maxRecDepth 100000 in
theorem fp_RX12_481 : FP RX12 481 11 61 .boolean := ⟨RX12, TX12, 65, tyX12, rfl, by decide, iw_RX12, (TS_p6 125 rfl rfl), tyX12_ok, nmX12, rfl, by decide +kernel⟩
set_option maxRecDepth 100000 in
theorem fp_RX12_487 : FP RX12 487 11 62 .boolean := ⟨RX12, TX12, 65, tyX12, rfl, by decide, iw_RX12, (TS_p6 126 rfl rfl), tyX12_ok, nmX12, rfl, by decide +kernel⟩
set_option maxRecDepth 100000 in
theorem fp_RX3_9 : FP RX3 9 2 0 .int := ⟨RX3, TX3, 5, tyX3, rfl, by decide, iw_RX3, (TS_p1 180 rfl rfl), tyX3_ok, nmX3, rfl, by decide +kernel⟩
set_option maxRecDepth 100000 in
theorem fp_RX4_18 : FP RX4 18 3 1 .int := ⟨RX4, TX4, 7, tyX4, rfl, by decide, iw_RX4, (TS_p2 124 rfl rfl), tyX4_ok, nmX4, rfl, by decide +kernel⟩
set_option maxRecDepth 100000 in
theorem fp_RX4_22 : FP RX4 22 3 2 .int := ⟨RX4, TX4, 7, tyX4, rfl, by decide, iw_RX4, (TS_p2 126 rfl rfl), tyX4_ok, nmX4, rfl, by decide +kernel⟩
set_option maxRecDepth 100000 in
theorem fp_RX4_25 : FP RX4 25 3 3 .int := ⟨RX4, TX4, 7, tyX4, rfl, by decide, iw_RX4, (TS_p2 128 rfl rfl), tyX4_ok, nmX4, rfl, by decide +kernel⟩
set_option maxRecDepth 100000 in
theorem fp_RX4_76 : FP RX4 76 4 0 .int := ⟨RX5, TX5, 5, tyX5, rfl, by decide, iw_RX5, (TS_p1 153 rfl rfl), tyX5_ok, nmX5, rfl, by decide +kernel⟩
set_option maxRecDepth 100000 in
theorem fp_RX4_88 : FP RX4 88 2 0 .int := ⟨RX3, TX3, 5, tyX3, rfl, by decide, iw_RX3, (TS_p1 181 rfl rfl), tyX3_ok, nmX3, rfl, by decide +kernel⟩
set_option maxRecDepth 100000 in
theorem fp_RX5_9 : FP RX5 9 4 0 .int := ⟨RX5, TX5, 5, tyX5, rfl, by decide, iw_RX5, (TS_p1 151 rfl rfl), tyX5_ok, nmX5, rfl, by decide +kernel⟩
set_option maxRecDepth 100000 in
theorem fp_RX6_9 : FP RX6 9 5 0 .int := ⟨RX6, TX6, 10, tyX6, rfl, by decide, iw_RX6, (TS_p2 81 rfl rfl), tyX6_ok, nmX6, rfl, by decide +kernel⟩
set_option maxRecDepth 100000 in
theorem fp_RX6_15 : FP RX6 15 5 1 .int := ⟨RX6, TX6, 10, tyX6, rfl, by decide, iw_RX6, (TS_p2 83 rfl rfl), tyX6_ok, nmX6, rfl, by decide +kernel⟩
set_option maxRecDepth 100000 in
theorem fp_RX6_18 : FP RX6 18 5 2 .int := ⟨RX6, TX6, 10, tyX6, rfl, by decide, iw_RX6, (TS_p2 85 rfl rfl), tyX6_ok, nmX6, rfl, by decide +kernel⟩
set_option maxRecDepth 100000 in
theorem fp_RX6_21 : FP RX6 21 5 3 .int := ⟨RX6, TX6, 10, tyX6, rfl, by decide, iw_RX6, (TS_p2 87 rfl rfl), tyX6_ok, nmX6, rfl, by decide +kernel⟩
set_option maxRecDepth 100000 in
theorem fp_RX6_24 : FP RX6 24 5 4 .int := ⟨RX6, TX6, 10, tyX6, rfl, by decide, iw_RX6, (TS_p2 89 rfl rfl), tyX6_ok, nmX6, rfl, by decide +kernel⟩
set_option maxRecDepth 100000 in
theorem fp_RX6_27 : FP RX6 27 5 5 .int := ⟨RX6, TX6, 10, tyX6, rfl, by decide, iw_RX6, (TS_p2 90 rfl rfl), tyX6_ok, nmX6, rfl, by decide +kernel⟩
set_option maxRecDepth 100000 in
theorem fp_RX7_19 : FP RX7 19 6 1 .int := ⟨RX7, TX7, 2, tyX7, rfl, by decide, iw_RX7, (TS_p1 214 rfl rfl), tyX7_ok, nmX7, rfl, by decide +kernel⟩
set_option maxRecDepth 100000 in
theorem gt_RX0_0 {k : Nat} (h : IO 0 k 0) : gR 0 k 0 = none := (by decide +kernel : ∀ k, k < 200 → gK 0 k = 3 → gR 0 k 0 = none) k h.1 h.2
set_option maxRecDepth 100000 in
theorem gt_RX0_1 {k : Nat} (h : IO 0 k 0) : gR 0 k 1 = none := (by decide +kernel : ∀ k, k < 200 → gK 0 k = 3 → gR 0 k 1 = none) k h.1 h.2
set_option maxRecDepth 100000 in
theorem gt_RX0_2 {k : Nat} (h : IO 0 k 0) : gR 0 k 2 = some (k + 1) := (by decide +kernel : ∀ k, k < 200 → gK 0 k = 3 → gR 0 k 2 = some (k + 1)) k h.1 h.2
set_option maxRecDepth 100000 in
theorem it_RX0_2 {k : Nat} (h : IO 0 k 0) : IA 0 (k + 1) 14 := (by decide +kernel : ∀ k, k < 200 → gK 0 k = 3 → k + 1 < 200 ∧ gK 0 (k + 1) = 0 ∧ gL 0 (k + 1) = 14) k h.1 h.2
set_option maxRecDepth 100000 in
theorem gt_RX0_3 {k : Nat} (h : IO 0 k 0) : gR 0 k 3 = some (k + 2) := (by decide +kernel : ∀ k, k < 200 → gK 0 k = 3 → gR 0 k 3 = some (k + 2)) k h.1 h.2
set_option maxRecDepth 100000 in
theorem it_RX0_3 {k : Nat} (h : IO 0 k 0) : IA 0 (k + 2) 14 := (by decide +kernel : ∀ k, k < 200 → gK 0 k = 3 → k + 2 < 200 ∧ gK 0 (k + 2) = 0 ∧ gL 0 (k + 2) = 14) k h.1 h.2
set_option maxRecDepth 100000 in
theorem gt_RX0_4 {k : Nat} (h : IO 0 k 0) : gR 0 k 4 = some (k + 3) := (by decide +kernel : ∀ k, k < 200 → gK 0 k = 3 → gR 0 k 4 = some (k + 3)) k h.1 h.2
set_option maxRecDepth 100000 in
theorem it_RX0_4 {k : Nat} (h : IO 0 k 0) : IA 0 (k + 3) 14 := (by decide +kernel : ∀ k, k < 200 → gK 0 k = 3 → k + 3 < 200 ∧ gK 0 (k + 3) = 0 ∧ gL 0 (k + 3) = 14) k h.1 h.2
set_option maxRecDepth 100000 in
theorem gt_RX0_5 {k : Nat} (h : IO 0 k 0) : gR 0 k 5 = some (k + 4) := (by decide +kernel : ∀ k, k < 200 → gK 0 k = 3 → gR 0 k 5 = some (k + 4)) k h.1 h.2
set_option maxRecDepth 100000 in
theorem it_RX0_5 {k : Nat} (h : IO 0 k 0) : IA 0 (k + 4) 14 := (by decide +kernel : ∀ k, k < 200 → gK 0 k = 3 → k + 4 < 200 ∧ gK 0 (k + 4) = 0 ∧ gL 0 (k + 4) = 14) k h.1 h.2
set_option maxRecDepth 100000 in
theorem gt_RX0_6 {k : Nat} (h : IO 0 k 0) : gR 0 k 6 = some (k + 5) := (by decide +kernel : ∀ k, k < 200 → gK 0 k = 3 → gR 0 k 6 = some (k + 5)) k h.1 h.2
set_option maxRecDepth 100000 in
theorem it_RX0_6 {k : Nat} (h : IO 0 k 0) : IA 0 (k + 5) 14 := (by decide +kernel : ∀ k, k < 200 → gK 0 k = 3 → k + 5 < 200 ∧ gK 0 (k + 5) = 0 ∧ gL 0 (k + 5) = 14) k h.1 h.2
set_option maxRecDepth 100000 in
theorem gt_RX0_7 {k : Nat} (h : IO 0 k 0) : gR 0 k 7 = some (k + 6) := (by decide +kernel : ∀ k, k < 200 → gK 0 k = 3 → gR 0 k 7 = some (k + 6)) k h.1 h.2
set_option maxRecDepth 100000 in
theorem it_RX0_7 {k : Nat} (h : IO 0 k 0) : IA 0 (k + 6) 14 := (by decide +kernel : ∀ k, k < 200 → gK 0 k = 3 → k + 6 < 200 ∧ gK 0 (k + 6) = 0 ∧ gL 0 (k + 6) = 14) k h.1 h.2
set_option maxRecDepth 100000 in
theorem gt_RX0_8 {k : Nat} (h : IO 0 k 0) : gR 0 k 8 = some (k + 7) := (by decide +kernel : ∀ k, k < 200 → gK 0 k = 3 → gR 0 k 8 = some (k + 7)) k h.1 h.2
set_option maxRecDepth 100000 in
theorem it_RX0_8 {k : Nat} (h : IO 0 k 0) : IA 0 (k + 7) 14 := (by decide +kernel : ∀ k, k < 200 → gK 0 k = 3 → k + 7 < 200 ∧ gK 0 (k + 7) = 0 ∧ gL 0 (k + 7) = 14) k h.1 h.2
set_option maxRecDepth 100000 in
theorem gt_RX0_9 {k : Nat} (h : IO 0 k 0) : gR 0 k 9 = none := (by decide +kernel : ∀ k, k < 200 → gK 0 k = 3 → gR 0 k 9 = none) k h.1 h.2
set_option maxRecDepth 100000 in
theorem gt_RX0_10 {k : Nat} (h : IO 0 k 0) : gR 0 k 10 = none := (by decide +kernel : ∀ k, k < 200 → gK 0 k = 3 → gR 0 k 10 = none) k h.1 h.2
set_option maxRecDepth 100000 in
theorem gt_RX0_11 {k : Nat} (h : IO 0 k 0) : gR 0 k 11 = none := (by decide +kernel : ∀ k, k < 200 → gK 0 k = 3 → gR 0 k 11 = none) k h.1 h.2
set_option maxRecDepth 100000 in
theorem gt_RX0_12 {k : Nat} (h : IO 0 k 0) : gR 0 k 12 = none := (by decide +kernel : ∀ k, k < 200 → gK 0 k = 3 → gR 0 k 12 = none) k h.1 h.2
set_option maxRecDepth 100000 in
theorem gt_RX1_0 {k : Nat} (h : IO 0 k 1) : gR 0 k 0 = none := (by decide +kernel : ∀ k, k < 200 → gK 0 k = 4 → gR 0 k 0 = none) k h.1 h.2
set_option maxRecDepth 100000 in
theorem gt_RX1_1 {k : Nat} (h : IO 0 k 1) : gR 0 k 1 = none := (by decide +kernel : ∀ k, k < 200 → gK 0 k = 4 → gR 0 k 1 = none) k h.1 h.2
set_option maxRecDepth 100000 in
theorem gt_RX1_2 {k : Nat} (h : IO 0 k 1) : gR 0 k 2 = some (k + 1) := (by decide +kernel : ∀ k, k < 200 → gK 0 k = 4 → gR 0 k 2 = some (k + 1)) k h.1 h.2
set_option maxRecDepth 100000 in
theorem it_RX1_2 {k : Nat} (h : IO 0 k 1) : IA 0 (k + 1) 16 := (by decide +kernel : ∀ k, k < 200 → gK 0 k = 4 → k + 1 < 200 ∧ gK 0 (k + 1) = 0 ∧ gL 0 (k + 1) = 16) k h.1 h.2
set_option maxRecDepth 100000 in
theorem gt_RX1_3 {k : Nat} (h : IO 0 k 1) : gR 0 k 3 = some (k + 2) := (by decide +kernel : ∀ k, k < 200 → gK 0 k = 4 → gR 0 k 3 = some (k + 2)) k h.1 h.2
set_option maxRecDepth 100000 in
theorem it_RX1_3 {k : Nat} (h : IO 0 k 1) : IA 0 (k + 2) 16 := (by decide +kernel : ∀ k, k < 200 → gK 0 k = 4 → k + 2 < 200 ∧ gK 0 (k + 2) = 0 ∧ gL 0 (k + 2) = 16) k h.1 h.2
set_option maxRecDepth 100000 in
theorem gt_RX1_4 {k : Nat} (h : IO 0 k 1) : gR 0 k 4 = some (k + 3) := (by decide +kernel : ∀ k, k < 200 → gK 0 k = 4 → gR 0 k 4 = some (k + 3)) k h.1 h.2
set_option maxRecDepth 100000 in
theorem it_RX1_4 {k : Nat} (h : IO 0 k 1) : IA 0 (k + 3) 16 := (by decide +kernel : ∀ k, k < 200 → gK 0 k = 4 → k + 3 < 200 ∧ gK 0 (k + 3) = 0 ∧ gL 0 (k + 3) = 16) k h.1 h.2
set_option maxRecDepth 100000 in
theorem gt_RX1_5 {k : Nat} (h : IO 0 k 1) : gR 0 k 5 = some (k + 4) := (by decide +kernel : ∀ k, k < 200 → gK 0 k = 4 → gR 0 k 5 = some (k + 4)) k h.1 h.2
set_option maxRecDepth 100000 in
theorem it_RX1_5 {k : Nat} (h : IO 0 k 1) : IA 0 (k + 4) 16 := (by decide +kernel : ∀ k, k < 200 → gK 0 k = 4 → k + 4 < 200 ∧ gK 0 (k + 4) = 0 ∧ gL 0 (k + 4) = 16) k h.1 h.2
set_option maxRecDepth 100000 in
theorem gt_RX1_6 {k : Nat} (h : IO 0 k 1) : gR 0 k 6 = some (k + 5) := (by decide +kernel : ∀ k, k < 200 → gK 0 k = 4 → gR 0 k 6 = some (k + 5)) k h.1 h.2
set_option maxRecDepth 100000 in
theorem it_RX1_6 {k : Nat} (h : IO 0 k 1) : IA 0 (k + 5) 400 := (by decide +kernel : ∀ k, k < 200 → gK 0 k = 4 → k + 5 < 200 ∧ gK 0 (k + 5) = 0 ∧ gL 0 (k + 5) = 400) k h.1 h.2
set_option maxRecDepth 100000 in
theorem gt_RX1_7 {k : Nat} (h : IO 0 k 1) : gR 0 k 7 = some (k + 6) := (by decide +kernel : ∀ k, k < 200 → gK 0 k = 4 → gR 0 k 7 = some (k + 6)) k h.1 h.2
set_option maxRecDepth 100000 in
theorem it_RX1_7 {k : Nat} (h : IO 0 k 1) : IA 0 (k + 6) 64 := (by decide +kernel : ∀ k, k < 200 → gK 0 k = 4 → k + 6 < 200 ∧ gK 0 (k + 6) = 0 ∧ gL 0 (k + 6) = 64) k h.1 h.2
set_option maxRecDepth 100000 in
theorem gt_RX3_0 {k : Nat} (h : IO 0 k 2) : gR 0 k 0 = none := (by decide +kernel : ∀ k, k < 200 → gK 0 k = 5 → gR 0 k 0 = none) k h.1 h.2
set_option maxRecDepth 100000 in
theorem gt_RX3_1 {k : Nat} (h : IO 0 k 2) : gR 0 k 1 = some (k + 1) := (by decide +kernel : ∀ k, k < 200 → gK 0 k = 5 → gR 0 k 1 = some (k + 1)) k h.1 h.2
set_option maxRecDepth 100000 in
theorem it_RX3_1 {k : Nat} (h : IO 0 k 2) : IA 0 (k + 1) 16 := (by decide +kernel : ∀ k, k < 200 → gK 0 k = 5 → k + 1 < 200 ∧ gK 0 (k + 1) = 0 ∧ gL 0 (k + 1) = 16) k h.1 h.2
set_option maxRecDepth 100000 in
theorem gt_RX3_2 {k : Nat} (h : IO 0 k 2) : gR 0 k 2 = some (k + 2) := (by decide +kernel : ∀ k, k < 200 → gK 0 k = 5 → gR 0 k 2 = some (k + 2)) k h.1 h.2
set_option maxRecDepth 100000 in
theorem it_RX3_2 {k : Nat} (h : IO 0 k 2) : IA 0 (k + 2) 16 := (by decide +kernel : ∀ k, k < 200 → gK 0 k = 5 → k + 2 < 200 ∧ gK 0 (k + 2) = 0 ∧ gL 0 (k + 2) = 16) k h.1 h.2
set_option maxRecDepth 100000 in
theorem gt_RX3_3 {k : Nat} (h : IO 0 k 2) : gR 0 k 3 = some (k + 3) := (by decide +kernel : ∀ k, k < 200 → gK 0 k = 5 → gR 0 k 3 = some (k + 3)) k h.1 h.2
set_option maxRecDepth 100000 in
theorem it_RX3_3 {k : Nat} (h : IO 0 k 2) : IA 0 (k + 3) 96 := (by decide +kernel : ∀ k, k < 200 → gK 0 k = 5 → k + 3 < 200 ∧ gK 0 (k + 3) = 0 ∧ gL 0 (k + 3) = 96) k h.1 h.2
set_option maxRecDepth 100000 in
theorem gt_RX3_4 {k : Nat} (h : IO 0 k 2) : gR 0 k 4 = some (k + 4) := (by decide +kernel : ∀ k, k < 200 → gK 0 k = 5 → gR 0 k 4 = some (k + 4)) k h.1 h.2
set_option maxRecDepth 100000 in
theorem it_RX3_4 {k : Nat} (h : IO 0 k 2) : IA 0 (k + 4) 14 := (by decide +kernel : ∀ k, k < 200 → gK 0 k = 5 → k + 4 < 200 ∧ gK 0 (k + 4) = 0 ∧ gL 0 (k + 4) = 14) k h.1 h.2
set_option maxRecDepth 100000 in
theorem gu_RX4_0 : gR 0 172 0 = some 173 := by decide +kernel
set_option maxRecDepth 100000 in
theorem iu_RX4_0 : IO 0 173 5 := ⟨by decide +kernel, by decide +kernel⟩
set_option maxRecDepth 100000 in
theorem gu_RX4_1 : gR 0 172 1 = none := by decide +kernel
set_option maxRecDepth 100000 in
theorem gu_RX4_2 : gR 0 172 2 = none := by decide +kernel
set_option maxRecDepth 100000 in
theorem gu_RX4_3 : gR 0 172 3 = none := by decide +kernel
set_option maxRecDepth 100000 in
theorem gu_RX4_4 : gR 0 172 4 = some 178 := by decide +kernel
set_option maxRecDepth 100000 in
theorem iu_RX4_4 : IO 0 178 1 := ⟨by decide +kernel, by decide +kernel⟩
set_option maxRecDepth 100000 in
theorem gu_RX4_5 : gR 0 172 5 = some 185 := by decide +kernel
set_option maxRecDepth 100000 in
theorem iu_RX4_5 : IO 0 185 4 := ⟨by decide +kernel, by decide +kernel⟩
set_option maxRecDepth 100000 in
theorem gu_RX4_6 : gR 0 172 6 = some 190 := by decide +kernel
set_option maxRecDepth 100000 in
theorem iu_RX4_6 : IO 0 190 2 := ⟨by decide +kernel, by decide +kernel⟩
set_option maxRecDepth 100000 in
theorem gt_RX5_0 {k : Nat} (h : IO 0 k 4) : gR 0 k 0 = none := (by decide +kernel : ∀ k, k < 200 → gK 0 k = 7 → gR 0 k 0 = none) k h.1 h.2
set_option maxRecDepth 100000 in
theorem gt_RX5_1 {k : Nat} (h : IO 0 k 4) : gR 0 k 1 = some (k + 1) := (by decide +kernel : ∀ k, k < 200 → gK 0 k = 7 → gR 0 k 1 = some (k + 1)) k h.1 h.2
set_option maxRecDepth 100000 in
theorem it_RX5_1 {k : Nat} (h : IO 0 k 4) : IA 0 (k + 1) 16 := (by decide +kernel : ∀ k, k < 200 → gK 0 k = 7 → k + 1 < 200 ∧ gK 0 (k + 1) = 0 ∧ gL 0 (k + 1) = 16) k h.1 h.2
set_option maxRecDepth 100000 in
theorem gt_RX5_2 {k : Nat} (h : IO 0 k 4) : gR 0 k 2 = some (k + 2) := (by decide +kernel : ∀ k, k < 200 → gK 0 k = 7 → gR 0 k 2 = some (k + 2)) k h.1 h.2
set_option maxRecDepth 100000 in
theorem it_RX5_2 {k : Nat} (h : IO 0 k 4) : IA 0 (k + 2) 16 := (by decide +kernel : ∀ k, k < 200 → gK 0 k = 7 → k + 2 < 200 ∧ gK 0 (k + 2) = 0 ∧ gL 0 (k + 2) = 16) k h.1 h.2
set_option maxRecDepth 100000 in
theorem gt_RX5_3 {k : Nat} (h : IO 0 k 4) : gR 0 k 3 = some (k + 3) := (by decide +kernel : ∀ k, k < 200 → gK 0 k = 7 → gR 0 k 3 = some (k + 3)) k h.1 h.2
set_option maxRecDepth 100000 in
theorem it_RX5_3 {k : Nat} (h : IO 0 k 4) : IA 0 (k + 3) 16 := (by decide +kernel : ∀ k, k < 200 → gK 0 k = 7 → k + 3 < 200 ∧ gK 0 (k + 3) = 0 ∧ gL 0 (k + 3) = 16) k h.1 h.2
set_option maxRecDepth 100000 in
theorem gt_RX5_4 {k : Nat} (h : IO 0 k 4) : gR 0 k 4 = some (k + 4) := (by decide +kernel : ∀ k, k < 200 → gK 0 k = 7 → gR 0 k 4 = some (k + 4)) k h.1 h.2
set_option maxRecDepth 100000 in
theorem it_RX5_4 {k : Nat} (h : IO 0 k 4) : IA 0 (k + 4) 16 := (by decide +kernel : ∀ k, k < 200 → gK 0 k = 7 → k + 4 < 200 ∧ gK 0 (k + 4) = 0 ∧ gL 0 (k + 4) = 16) k h.1 h.2
set_option maxRecDepth 100000 in
theorem gu_RX6_0 : gR 0 173 0 = none := by decide +kernel
set_option maxRecDepth 100000 in
theorem gu_RX6_1 : gR 0 173 1 = none := by decide +kernel
set_option maxRecDepth 100000 in
theorem gu_RX6_2 : gR 0 173 2 = none := by decide +kernel
set_option maxRecDepth 100000 in
theorem gu_RX6_3 : gR 0 173 3 = none := by decide +kernel
set_option maxRecDepth 100000 in
theorem gu_RX6_4 : gR 0 173 4 = none := by decide +kernel
set_option maxRecDepth 100000 in
theorem gu_RX6_5 : gR 0 173 5 = none := by decide +kernel
set_option maxRecDepth 100000 in
theorem gu_RX6_6 : gR 0 173 6 = some 174 := by decide +kernel
set_option maxRecDepth 100000 in
theorem iu_RX6_6 : IA 0 174 400 := ⟨by decide +kernel, by decide +kernel, by decide +kernel⟩
set_option maxRecDepth 100000 in
theorem gu_RX6_7 : gR 0 173 7 = some 175 := by decide +kernel
set_option maxRecDepth 100000 in
theorem iu_RX6_7 : IA 0 175 400 := ⟨by decide +kernel, by decide +kernel, by decide +kernel⟩
set_option maxRecDepth 100000 in
theorem gu_RX6_8 : gR 0 173 8 = some 176 := by decide +kernel
set_option maxRecDepth 100000 in
theorem iu_RX6_8 : IA 0 176 400 := ⟨by decide +kernel, by decide +kernel, by decide +kernel⟩
set_option maxRecDepth 100000 in
theorem gu_RX6_9 : gR 0 173 9 = some 177 := by decide +kernel
set_option maxRecDepth 100000 in
theorem iu_RX6_9 : IA 0 177 400 := ⟨by decide +kernel, by decide +kernel, by decide +kernel⟩
set_option maxRecDepth 100000 in
theorem gt_RX7_0 {k : Nat} (h : IO 0 k 6) : gR 0 k 0 = some (k + 1) := (by decide +kernel : ∀ k, k < 200 → gK 0 k = 9 → gR 0 k 0 = some (k + 1)) k h.1 h.2
set_option maxRecDepth 100000 in
theorem it_RX7_0 {k : Nat} (h : IO 0 k 6) : IA 0 (k + 1) (gL 0 (k + 1)) := (by decide +kernel : ∀ k, k < 200 → gK 0 k = 9 → k + 1 < 200 ∧ gK 0 (k + 1) = 0 ∧ gL 0 (k + 1) = (gL 0 (k + 1))) k h.1 h.2
set_option maxRecDepth 100000 in
theorem gt_RX7_1 {k : Nat} (h : IO 0 k 6) : gR 0 k 1 = none := (by decide +kernel : ∀ k, k < 200 → gK 0 k = 9 → gR 0 k 1 = none) k h.1 h.2
set_option maxRecDepth 100000 in
theorem gt_RX8_0 {k : Nat} (h : IO 0 k 7) : gR 0 k 0 = some (k + 1) := (by decide +kernel : ∀ k, k < 200 → gK 0 k = 10 → gR 0 k 0 = some (k + 1)) k h.1 h.2
set_option maxRecDepth 100000 in
theorem it_RX8_0 {k : Nat} (h : IO 0 k 7) : IO 0 (k + 1) 6 := (by decide +kernel : ∀ k, k < 200 → gK 0 k = 10 → k + 1 < 200 ∧ gK 0 (k + 1) = 9) k h.1 h.2
set_option maxRecDepth 100000 in
theorem gt_RX8_1 {k : Nat} (h : IO 0 k 7) : gR 0 k 1 = some (k + 3) := (by decide +kernel : ∀ k, k < 200 → gK 0 k = 10 → gR 0 k 1 = some (k + 3)) k h.1 h.2
set_option maxRecDepth 100000 in
theorem it_RX8_1 {k : Nat} (h : IO 0 k 7) : IO 0 (k + 3) 6 := (by decide +kernel : ∀ k, k < 200 → gK 0 k = 10 → k + 3 < 200 ∧ gK 0 (k + 3) = 9) k h.1 h.2
set_option maxRecDepth 100000 in
theorem gt_RX8_2 {k : Nat} (h : IO 0 k 7) : gR 0 k 2 = some (k + 5) := (by decide +kernel : ∀ k, k < 200 → gK 0 k = 10 → gR 0 k 2 = some (k + 5)) k h.1 h.2
set_option maxRecDepth 100000 in
theorem it_RX8_2 {k : Nat} (h : IO 0 k 7) : IO 0 (k + 5) 6 := (by decide +kernel : ∀ k, k < 200 → gK 0 k = 10 → k + 5 < 200 ∧ gK 0 (k + 5) = 9) k h.1 h.2
set_option maxRecDepth 100000 in
theorem gt_RX8_3 {k : Nat} (h : IO 0 k 7) : gR 0 k 3 = some (k + 7) := (by decide +kernel : ∀ k, k < 200 → gK 0 k = 10 → gR 0 k 3 = some (k + 7)) k h.1 h.2
set_option maxRecDepth 100000 in
theorem it_RX8_3 {k : Nat} (h : IO 0 k 7) : IO 0 (k + 7) 6 := (by decide +kernel : ∀ k, k < 200 → gK 0 k = 10 → k + 7 < 200 ∧ gK 0 (k + 7) = 9) k h.1 h.2
set_option maxRecDepth 100000 in
theorem gt_RX8_4 {k : Nat} (h : IO 0 k 7) : gR 0 k 4 = some (k + 9) := (by decide +kernel : ∀ k, k < 200 → gK 0 k = 10 → gR 0 k 4 = some (k + 9)) k h.1 h.2
set_option maxRecDepth 100000 in
theorem it_RX8_4 {k : Nat} (h : IO 0 k 7) : IO 0 (k + 9) 6 := (by decide +kernel : ∀ k, k < 200 → gK 0 k = 10 → k + 9 < 200 ∧ gK 0 (k + 9) = 9) k h.1 h.2
set_option maxRecDepth 100000 in
theorem gt_RX8_5 {k : Nat} (h : IO 0 k 7) : gR 0 k 5 = some (k + 11) := (by decide +kernel : ∀ k, k < 200 → gK 0 k = 10 → gR 0 k 5 = some (k + 11)) k h.1 h.2
set_option maxRecDepth 100000 in
theorem it_RX8_5 {k : Nat} (h : IO 0 k 7) : IO 0 (k + 11) 6 := (by decide +kernel : ∀ k, k < 200 → gK 0 k = 10 → k + 11 < 200 ∧ gK 0 (k + 11) = 9) k h.1 h.2
set_option maxRecDepth 100000 in
theorem gt_RX8_6 {k : Nat} (h : IO 0 k 7) : gR 0 k 6 = some (k + 13) := (by decide +kernel : ∀ k, k < 200 → gK 0 k = 10 → gR 0 k 6 = some (k + 13)) k h.1 h.2
set_option maxRecDepth 100000 in
theorem it_RX8_6 {k : Nat} (h : IO 0 k 7) : IO 0 (k + 13) 6 := (by decide +kernel : ∀ k, k < 200 → gK 0 k = 10 → k + 13 < 200 ∧ gK 0 (k + 13) = 9) k h.1 h.2
set_option maxRecDepth 100000 in
theorem gt_RX8_7 {k : Nat} (h : IO 0 k 7) : gR 0 k 7 = some (k + 15) := (by decide +kernel : ∀ k, k < 200 → gK 0 k = 10 → gR 0 k 7 = some (k + 15)) k h.1 h.2
set_option maxRecDepth 100000 in
theorem it_RX8_7 {k : Nat} (h : IO 0 k 7) : IO 0 (k + 15) 6 := (by decide +kernel : ∀ k, k < 200 → gK 0 k = 10 → k + 15 < 200 ∧ gK 0 (k + 15) = 9) k h.1 h.2
set_option maxRecDepth 100000 in
theorem gt_RX8_8 {k : Nat} (h : IO 0 k 7) : gR 0 k 8 = some (k + 17) := (by decide +kernel : ∀ k, k < 200 → gK 0 k = 10 → gR 0 k 8 = some (k + 17)) k h.1 h.2
set_option maxRecDepth 100000 in
theorem it_RX8_8 {k : Nat} (h : IO 0 k 7) : IO 0 (k + 17) 6 := (by decide +kernel : ∀ k, k < 200 → gK 0 k = 10 → k + 17 < 200 ∧ gK 0 (k + 17) = 9) k h.1 h.2
set_option maxRecDepth 100000 in
theorem gt_RX8_9 {k : Nat} (h : IO 0 k 7) : gR 0 k 9 = some (k + 19) := (by decide +kernel : ∀ k, k < 200 → gK 0 k = 10 → gR 0 k 9 = some (k + 19)) k h.1 h.2
set_option maxRecDepth 100000 in
theorem it_RX8_9 {k : Nat} (h : IO 0 k 7) : IO 0 (k + 19) 6 := (by decide +kernel : ∀ k, k < 200 → gK 0 k = 10 → k + 19 < 200 ∧ gK 0 (k + 19) = 9) k h.1 h.2
set_option maxRecDepth 100000 in
theorem gt_RX8_10 {k : Nat} (h : IO 0 k 7) : gR 0 k 10 = some (k + 21) := (by decide +kernel : ∀ k, k < 200 → gK 0 k = 10 → gR 0 k 10 = some (k + 21)) k h.1 h.2
set_option maxRecDepth 100000 in
theorem it_RX8_10 {k : Nat} (h : IO 0 k 7) : IO 0 (k + 21) 6 := (by decide +kernel : ∀ k, k < 200 → gK 0 k = 10 → k + 21 < 200 ∧ gK 0 (k + 21) = 9) k h.1 h.2
set_option maxRecDepth 100000 in
theorem gt_RX8_11 {k : Nat} (h : IO 0 k 7) : gR 0 k 11 = some (k + 23) := (by decide +kernel : ∀ k, k < 200 → gK 0 k = 10 → gR 0 k 11 = some (k + 23)) k h.1 h.2
set_option maxRecDepth 100000 in
theorem it_RX8_11 {k : Nat} (h : IO 0 k 7) : IO 0 (k + 23) 6 := (by decide +kernel : ∀ k, k < 200 → gK 0 k = 10 → k + 23 < 200 ∧ gK 0 (k + 23) = 9) k h.1 h.2
set_option maxRecDepth 100000 in
theorem gu_RX9_0 : gR 0 195 0 = some 196 := by decide +kernel
set_option maxRecDepth 100000 in
theorem iu_RX9_0 : IA 0 196 100 := ⟨by decide +kernel, by decide +kernel, by decide +kernel⟩
set_option maxRecDepth 100000 in
theorem gu_RX9_1 : gR 0 195 1 = some 197 := by decide +kernel
set_option maxRecDepth 100000 in
theorem iu_RX9_1 : IA 0 197 41 := ⟨by decide +kernel, by decide +kernel, by decide +kernel⟩
set_option maxRecDepth 100000 in
theorem gu_RX9_2 : gR 0 195 2 = some 198 := by decide +kernel
set_option maxRecDepth 100000 in
theorem iu_RX9_2 : IZ 0 198 41 := ⟨by decide +kernel, by decide +kernel, by decide +kernel⟩
set_option maxRecDepth 100000 in
theorem gu_RX9_3 : gR 0 195 3 = some 199 := by decide +kernel
set_option maxRecDepth 100000 in
theorem iu_RX9_3 : IA 0 199 8 := ⟨by decide +kernel, by decide +kernel, by decide +kernel⟩
set_option maxRecDepth 100000 in
theorem gt_RX10_0 {k : Nat} (h : IO 0 k 9) : gR 0 k 0 = some (k + 1) := (by decide +kernel : ∀ k, k < 200 → gK 0 k = 12 → gR 0 k 0 = some (k + 1)) k h.1 h.2
set_option maxRecDepth 100000 in
theorem it_RX10_0 {k : Nat} (h : IO 0 k 9) : IO 0 (k + 1) 0 := (by decide +kernel : ∀ k, k < 200 → gK 0 k = 12 → k + 1 < 200 ∧ gK 0 (k + 1) = 3) k h.1 h.2
set_option maxRecDepth 100000 in
theorem gt_RX10_1 {k : Nat} (h : IO 0 k 9) : gR 0 k 1 = some (k + 9) := (by decide +kernel : ∀ k, k < 200 → gK 0 k = 12 → gR 0 k 1 = some (k + 9)) k h.1 h.2
set_option maxRecDepth 100000 in
theorem it_RX10_1 {k : Nat} (h : IO 0 k 9) : IO 0 (k + 9) 1 := (by decide +kernel : ∀ k, k < 200 → gK 0 k = 12 → k + 9 < 200 ∧ gK 0 (k + 9) = 4) k h.1 h.2
set_option maxRecDepth 100000 in
theorem gt_RX10_2 {k : Nat} (h : IO 0 k 9) : gR 0 k 2 = some (k + 16) := (by decide +kernel : ∀ k, k < 200 → gK 0 k = 12 → gR 0 k 2 = some (k + 16)) k h.1 h.2
set_option maxRecDepth 100000 in
theorem it_RX10_2 {k : Nat} (h : IO 0 k 9) : IO 0 (k + 16) 4 := (by decide +kernel : ∀ k, k < 200 → gK 0 k = 12 → k + 16 < 200 ∧ gK 0 (k + 16) = 7) k h.1 h.2
set_option maxRecDepth 100000 in
theorem gt_RX10_3 {k : Nat} (h : IO 0 k 9) : gR 0 k 3 = some (k + 21) := (by decide +kernel : ∀ k, k < 200 → gK 0 k = 12 → gR 0 k 3 = some (k + 21)) k h.1 h.2
set_option maxRecDepth 100000 in
theorem it_RX10_3 {k : Nat} (h : IO 0 k 9) : IO 0 (k + 21) 4 := (by decide +kernel : ∀ k, k < 200 → gK 0 k = 12 → k + 21 < 200 ∧ gK 0 (k + 21) = 7) k h.1 h.2
set_option maxRecDepth 100000 in
theorem gt_RX10_4 {k : Nat} (h : IO 0 k 9) : gR 0 k 4 = some (k + 26) := (by decide +kernel : ∀ k, k < 200 → gK 0 k = 12 → gR 0 k 4 = some (k + 26)) k h.1 h.2
set_option maxRecDepth 100000 in
theorem it_RX10_4 {k : Nat} (h : IO 0 k 9) : IO 0 (k + 26) 2 := (by decide +kernel : ∀ k, k < 200 → gK 0 k = 12 → k + 26 < 200 ∧ gK 0 (k + 26) = 5) k h.1 h.2
set_option maxRecDepth 100000 in
theorem gt_RX10_5 {k : Nat} (h : IO 0 k 9) : gR 0 k 5 = some (k + 31) := (by decide +kernel : ∀ k, k < 200 → gK 0 k = 12 → gR 0 k 5 = some (k + 31)) k h.1 h.2
set_option maxRecDepth 100000 in
theorem it_RX10_5 {k : Nat} (h : IO 0 k 9) : IO 0 (k + 31) 7 := (by decide +kernel : ∀ k, k < 200 → gK 0 k = 12 → k + 31 < 200 ∧ gK 0 (k + 31) = 10) k h.1 h.2
set_option maxRecDepth 100000 in
theorem gt_RX10_6 {k : Nat} (h : IO 0 k 9) : gR 0 k 6 = some (k + 56) := (by decide +kernel : ∀ k, k < 200 → gK 0 k = 12 → gR 0 k 6 = some (k + 56)) k h.1 h.2
set_option maxRecDepth 100000 in
theorem it_RX10_6 {k : Nat} (h : IO 0 k 9) : IA 0 (k + 56) 600 := (by decide +kernel : ∀ k, k < 200 → gK 0 k = 12 → k + 56 < 200 ∧ gK 0 (k + 56) = 0 ∧ gL 0 (k + 56) = 600) k h.1 h.2
set_option maxRecDepth 100000 in
theorem gu_RX11_0 : gR 0 0 0 = some 1 := by decide +kernel
set_option maxRecDepth 100000 in
theorem iu_RX11_0 : IO 0 1 9 := ⟨by decide +kernel, by decide +kernel⟩
set_option maxRecDepth 100000 in
theorem gu_RX11_1 : gR 0 0 1 = some 58 := by decide +kernel
set_option maxRecDepth 100000 in
theorem iu_RX11_1 : IO 0 58 9 := ⟨by decide +kernel, by decide +kernel⟩
set_option maxRecDepth 100000 in
theorem gu_RX11_2 : gR 0 0 2 = none := by decide +kernel
set_option maxRecDepth 100000 in
theorem gu_RX11_3 : gR 0 0 3 = some 115 := by decide +kernel
set_option maxRecDepth 100000 in
theorem iu_RX11_3 : IO 0 115 0 := ⟨by decide +kernel, by decide +kernel⟩
set_option maxRecDepth 100000 in
theorem gu_RX11_4 : gR 0 0 4 = some 123 := by decide +kernel
set_option maxRecDepth 100000 in
theorem iu_RX11_4 : IQ 0 123 6 := ⟨by decide +kernel, by decide +kernel, by decide +kernel⟩
set_option maxRecDepth 100000 in
theorem gu_RX11_5 : gR 0 0 5 = none := by decide +kernel
set_option maxRecDepth 100000 in
theorem gu_RX11_6 : gR 0 0 6 = none := by decide +kernel
set_option maxRecDepth 100000 in
theorem gu_RX11_7 : gR 0 0 7 = some 172 := by decide +kernel
set_option maxRecDepth 100000 in
theorem iu_RX11_7 : IO 0 172 3 := ⟨by decide +kernel, by decide +kernel⟩
set_option maxRecDepth 100000 in
theorem gu_RX11_8 : gR 0 0 8 = some 195 := by decide +kernel
set_option maxRecDepth 100000 in
theorem iu_RX11_8 : IO 0 195 8 := ⟨by decide +kernel, by decide +kernel⟩
set_option maxRecDepth 100000 in
theorem gu_RX12_0 : gR 1 0 0 = none := by decide +kernel
set_option maxRecDepth 100000 in
theorem gu_RX12_1 : gR 1 0 1 = some 1 := by decide +kernel
set_option maxRecDepth 100000 in
theorem iu_RX12_1 : IA 1 1 102 := ⟨by decide +kernel, by decide +kernel, by decide +kernel⟩
set_option maxRecDepth 100000 in
theorem gu_RX12_2 : gR 1 0 2 = some 2 := by decide +kernel
set_option maxRecDepth 100000 in
theorem iu_RX12_2 : IA 1 2 612 := ⟨by decide +kernel, by decide +kernel, by decide +kernel⟩
set_option maxRecDepth 100000 in
theorem gu_RX12_3 : gR 1 0 3 = none := by decide +kernel
set_option maxRecDepth 100000 in
theorem gu_RX12_4 : gR 1 0 4 = some 3 := by decide +kernel
set_option maxRecDepth 100000 in
theorem iu_RX12_4 : IA 1 3 102 := ⟨by decide +kernel, by decide +kernel, by decide +kernel⟩
set_option maxRecDepth 100000 in
theorem gu_RX12_5 : gR 1 0 5 = none := by decide +kernel
set_option maxRecDepth 100000 in
theorem gu_RX12_6 : gR 1 0 6 = none := by decide +kernel
set_option maxRecDepth 100000 in
theorem gu_RX12_7 : gR 1 0 7 = some 4 := by decide +kernel
set_option maxRecDepth 100000 in
theorem iu_RX12_7 : IA 1 4 600 := ⟨by decide +kernel, by decide +kernel, by decide +kernel⟩
set_option maxRecDepth 100000 in
theorem gu_RX12_8 : gR 1 0 8 = some 5 := by decide +kernel
set_option maxRecDepth 100000 in
theorem iu_RX12_8 : IA 1 5 400 := ⟨by decide +kernel, by decide +kernel, by decide +kernel⟩
set_option maxRecDepth 100000 in
theorem gu_RX12_9 : gR 1 0 9 = none := by decide +kernel
set_option maxRecDepth 100000 in
theorem gu_RX12_10 : gR 1 0 10 = none := by decide +kernel
set_option maxRecDepth 100000 in
theorem gu_RX12_11 : gR 1 0 11 = none := by decide +kernel
set_option maxRecDepth 100000 in
theorem gu_RX12_12 : gR 1 0 12 = none := by decide +kernel
set_option maxRecDepth 100000 in
theorem gu_RX12_13 : gR 1 0 13 = none := by decide +kernel
set_option maxRecDepth 100000 in
theorem gu_RX12_14 : gR 1 0 14 = some 6 := by decide +kernel
set_option maxRecDepth 100000 in
theorem iu_RX12_14 : IA 1 6 133 := ⟨by decide +kernel, by decide +kernel, by decide +kernel⟩
set_option maxRecDepth 100000 in
theorem gu_RX12_15 : gR 1 0 15 = some 7 := by decide +kernel
set_option maxRecDepth 100000 in
theorem iu_RX12_15 : IA 1 7 2 := ⟨by decide +kernel, by decide +kernel, by decide +kernel⟩
set_option maxRecDepth 100000 in
theorem gu_RX12_16 : gR 1 0 16 = some 8 := by decide +kernel
set_option maxRecDepth 100000 in
theorem iu_RX12_16 : IA 1 8 48 := ⟨by decide +kernel, by decide +kernel, by decide +kernel⟩
set_option maxRecDepth 100000 in
theorem gu_RX12_17 : gR 1 0 17 = some 9 := by decide +kernel
set_option maxRecDepth 100000 in
theorem iu_RX12_17 : IA 1 9 48 := ⟨by decide +kernel, by decide +kernel, by decide +kernel⟩
set_option maxRecDepth 100000 in
theorem gu_RX12_18 : gR 1 0 18 = some 10 := by decide +kernel
set_option maxRecDepth 100000 in
theorem iu_RX12_18 : IA 1 10 48 := ⟨by decide +kernel, by decide +kernel, by decide +kernel⟩
set_option maxRecDepth 100000 in
theorem gu_RX12_19 : gR 1 0 19 = some 11 := by decide +kernel
set_option maxRecDepth 100000 in
theorem iu_RX12_19 : IA 1 11 48 := ⟨by decide +kernel, by decide +kernel, by decide +kernel⟩
set_option maxRecDepth 100000 in
theorem gu_RX12_20 : gR 1 0 20 = some 12 := by decide +kernel
set_option maxRecDepth 100000 in
theorem iu_RX12_20 : IA 1 12 1200 := ⟨by decide +kernel, by decide +kernel, by decide +kernel⟩
set_option maxRecDepth 100000 in
theorem gu_RX12_21 : gR 1 0 21 = some 13 := by decide +kernel
set_option maxRecDepth 100000 in
theorem iu_RX12_21 : IA 1 13 1200 := ⟨by decide +kernel, by decide +kernel, by decide +kernel⟩
set_option maxRecDepth 100000 in
theorem gu_RX12_22 : gR 1 0 22 = none := by decide +kernel
set_option maxRecDepth 100000 in
theorem gu_RX12_23 : gR 1 0 23 = none := by decide +kernel
set_option maxRecDepth 100000 in
theorem gu_RX12_24 : gR 1 0 24 = none := by decide +kernel
set_option maxRecDepth 100000 in
theorem gu_RX12_25 : gR 1 0 25 = some 14 := by decide +kernel
set_option maxRecDepth 100000 in
theorem iu_RX12_25 : IA 1 14 40 := ⟨by decide +kernel, by decide +kernel, by decide +kernel⟩
set_option maxRecDepth 100000 in
theorem gu_RX12_26 : gR 1 0 26 = none := by decide +kernel
set_option maxRecDepth 100000 in
theorem gu_RX12_27 : gR 1 0 27 = none := by decide +kernel
set_option maxRecDepth 100000 in
theorem gu_RX12_28 : gR 1 0 28 = none := by decide +kernel
set_option maxRecDepth 100000 in
theorem gu_RX12_29 : gR 1 0 29 = none := by decide +kernel
set_option maxRecDepth 100000 in
theorem gu_RX12_30 : gR 1 0 30 = none := by decide +kernel
set_option maxRecDepth 100000 in
theorem gu_RX12_31 : gR 1 0 31 = none := by decide +kernel
set_option maxRecDepth 100000 in
theorem gu_RX12_32 : gR 1 0 32 = some 15 := by decide +kernel
set_option maxRecDepth 100000 in
theorem iu_RX12_32 : IA 1 15 96 := ⟨by decide +kernel, by decide +kernel, by decide +kernel⟩
set_option maxRecDepth 100000 in
theorem gu_RX12_33 : gR 1 0 33 = none := by decide +kernel
set_option maxRecDepth 100000 in
theorem gu_RX12_34 : gR 1 0 34 = some 16 := by decide +kernel
set_option maxRecDepth 100000 in
theorem iu_RX12_34 : IA 1 16 128 := ⟨by decide +kernel, by decide +kernel, by decide +kernel⟩
set_option maxRecDepth 100000 in
theorem gu_RX12_35 : gR 1 0 35 = none := by decide +kernel
set_option maxRecDepth 100000 in
theorem gu_RX12_36 : gR 1 0 36 = some 17 := by decide +kernel
set_option maxRecDepth 100000 in
theorem iu_RX12_36 : IA 1 17 28 := ⟨by decide +kernel, by decide +kernel, by decide +kernel⟩
set_option maxRecDepth 100000 in
theorem gu_RX12_37 : gR 1 0 37 = some 18 := by decide +kernel
set_option maxRecDepth 100000 in
theorem iu_RX12_37 : IA 1 18 168 := ⟨by decide +kernel, by decide +kernel, by decide +kernel⟩
set_option maxRecDepth 100000 in
theorem gu_RX12_38 : gR 1 0 38 = some 19 := by decide +kernel
set_option maxRecDepth 100000 in
theorem iu_RX12_38 : IA 1 19 8 := ⟨by decide +kernel, by decide +kernel, by decide +kernel⟩
set_option maxRecDepth 100000 in
theorem gu_RX12_39 : gR 1 0 39 = some 20 := by decide +kernel
set_option maxRecDepth 100000 in
theorem iu_RX12_39 : IA 1 20 420 := ⟨by decide +kernel, by decide +kernel, by decide +kernel⟩
set_option maxRecDepth 100000 in
theorem gu_RX12_40 : gR 1 0 40 = none := by decide +kernel
set_option maxRecDepth 100000 in
theorem gu_RX12_41 : gR 1 0 41 = some 21 := by decide +kernel
set_option maxRecDepth 100000 in
theorem iu_RX12_41 : IA 1 21 16 := ⟨by decide +kernel, by decide +kernel, by decide +kernel⟩
set_option maxRecDepth 100000 in
theorem gu_RX12_42 : gR 1 0 42 = none := by decide +kernel
set_option maxRecDepth 100000 in
theorem gu_RX12_43 : gR 1 0 43 = some 22 := by decide +kernel
set_option maxRecDepth 100000 in
theorem iu_RX12_43 : IA 1 22 10 := ⟨by decide +kernel, by decide +kernel, by decide +kernel⟩
set_option maxRecDepth 100000 in
theorem gu_RX12_44 : gR 1 0 44 = some 23 := by decide +kernel
set_option maxRecDepth 100000 in
theorem iu_RX12_44 : IA 1 23 10 := ⟨by decide +kernel, by decide +kernel, by decide +kernel⟩
set_option maxRecDepth 100000 in
theorem gu_RX12_45 : gR 1 0 45 = some 24 := by decide +kernel
set_option maxRecDepth 100000 in
theorem iu_RX12_45 : IA 1 24 10 := ⟨by decide +kernel, by decide +kernel, by decide +kernel⟩
set_option maxRecDepth 100000 in
theorem gu_RX12_46 : gR 1 0 46 = none := by decide +kernel
set_option maxRecDepth 100000 in
theorem gu_RX12_47 : gR 1 0 47 = some 25 := by decide +kernel
set_option maxRecDepth 100000 in
theorem iu_RX12_47 : IA 1 25 14 := ⟨by decide +kernel, by decide +kernel, by decide +kernel⟩
set_option maxRecDepth 100000 in
theorem gu_RX12_48 : gR 1 0 48 = some 26 := by decide +kernel
set_option maxRecDepth 100000 in
theorem iu_RX12_48 : IA 1 26 14 := ⟨by decide +kernel, by decide +kernel, by decide +kernel⟩
set_option maxRecDepth 100000 in
theorem gu_RX12_49 : gR 1 0 49 = some 27 := by decide +kernel
set_option maxRecDepth 100000 in
theorem iu_RX12_49 : IA 1 27 14 := ⟨by decide +kernel, by decide +kernel, by decide +kernel⟩
set_option maxRecDepth 100000 in
theorem gu_RX12_50 : gR 1 0 50 = some 28 := by decide +kernel
set_option maxRecDepth 100000 in
theorem iu_RX12_50 : IA 1 28 2 := ⟨by decide +kernel, by decide +kernel, by decide +kernel⟩
set_option maxRecDepth 100000 in
theorem gu_RX12_51 : gR 1 0 51 = some 29 := by decide +kernel
set_option maxRecDepth 100000 in
theorem iu_RX12_51 : IA 1 29 12 := ⟨by decide +kernel, by decide +kernel, by decide +kernel⟩
set_option maxRecDepth 100000 in
theorem gu_RX12_52 : gR 1 0 52 = none := by decide +kernel
set_option maxRecDepth 100000 in
theorem gu_RX12_53 : gR 1 0 53 = some 30 := by decide +kernel
set_option maxRecDepth 100000 in
theorem iu_RX12_53 : IA 1 30 6 := ⟨by decide +kernel, by decide +kernel, by decide +kernel⟩
set_option maxRecDepth 100000 in
theorem gu_RX12_54 : gR 1 0 54 = some 31 := by decide +kernel
set_option maxRecDepth 100000 in
theorem iu_RX12_54 : IA 1 31 64 := ⟨by decide +kernel, by decide +kernel, by decide +kernel⟩
set_option maxRecDepth 100000 in
theorem gu_RX12_55 : gR 1 0 55 = none := by decide +kernel
set_option maxRecDepth 100000 in
theorem gu_RX12_56 : gR 1 0 56 = some 32 := by decide +kernel
set_option maxRecDepth 100000 in
theorem iu_RX12_56 : IA 1 32 8 := ⟨by decide +kernel, by decide +kernel, by decide +kernel⟩
set_option maxRecDepth 100000 in
theorem gu_RX12_57 : gR 1 0 57 = some 33 := by decide +kernel
set_option maxRecDepth 100000 in
theorem iu_RX12_57 : IA 1 33 41 := ⟨by decide +kernel, by decide +kernel, by decide +kernel⟩
set_option maxRecDepth 100000 in
theorem gu_RX12_58 : gR 1 0 58 = some 34 := by decide +kernel
set_option maxRecDepth 100000 in
theorem iu_RX12_58 : IA 1 34 41 := ⟨by decide +kernel, by decide +kernel, by decide +kernel⟩
set_option maxRecDepth 100000 in
theorem gu_RX12_59 : gR 1 0 59 = none := by decide +kernel
set_option maxRecDepth 100000 in
theorem gu_RX12_60 : gR 1 0 60 = some 35 := by decide +kernel
set_option maxRecDepth 100000 in
theorem iu_RX12_60 : IA 1 35 4 := ⟨by decide +kernel, by decide +kernel, by decide +kernel⟩
set_option maxRecDepth 100000 in
theorem gu_RX12_61 : gR 1 0 61 = none := by decide +kernel
set_option maxRecDepth 100000 in
theorem gu_RX12_62 : gR 1 0 62 = none := by decide +kernel
set_option maxRecDepth 100000 in
theorem gu_RX12_63 : gR 1 0 63 = none := by decide +kernel
set_option maxRecDepth 100000 in
theorem gu_RX12_64 : gR 1 0 64 = some 36 := by decide +kernel
set_option maxRecDepth 100000 in
theorem iu_RX12_64 : IA 1 36 2400 := ⟨by decide +kernel, by decide +kernel, by decide +kernel⟩
set_option maxRecDepth 100000 in
theorem rdq_io {x : Int32} {r : Nat} (h : rdq 6 123 x = some r) : IO 0 r 0 := by
  unfold rdq at h
  split at h
  · cases h
  · next hx =>
    have hj : x.toNatClampNeg < 6 := Nat.lt_of_not_le (fun q => hx (Or.inr q))
    have e := (by decide +kernel : ∀ j, j < 6 → gR 0 123 j = some (124 + 8 * j)) _ hj
    rw [e] at h
    cases h
    exact (by decide +kernel : ∀ j, j < 6 → 124 + 8 * j < 200 ∧ gK 0 (124 + 8 * j) = 3) _ hj
