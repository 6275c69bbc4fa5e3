/-! ===== constructors: words ===== -/
set_option maxRecDepth 100000 in
theorem oi_RX0_3 : Cond.methodLink RX0 3 Lib.objectInit ∈ TS ∧ Cond.instanceMethod Lib.objectInit ∈ TS ∧ Cond.code Lib.objectInit ⟨#[0xb1]⟩ 1 none ∈ TS := ⟨(TS_p1 41 rfl rfl), (TS_p1 28 rfl rfl), (TS_p1 29 rfl rfl)⟩
set_option maxRecDepth 100000 in
theorem pf_RX0_9 : FPC RX0 9 0 0 (.boolean) true := ⟨RX0, TX0, 13, tyX0, rfl, by decide, iw_RX0, (TS_p1 42 rfl rfl), tyX0_ok, nmX0, rfl, by decide +kernel, rfl⟩
set_option maxRecDepth 100000 in
theorem pf_RX0_15 : FPC RX0 15 0 1 (.int) false := ⟨RX0, TX0, 13, tyX0, rfl, by decide, iw_RX0, (TS_p1 44 rfl rfl), tyX0_ok, nmX0, rfl, by decide +kernel, rfl⟩
set_option maxRecDepth 100000 in
theorem aw_ci : Cond.arrayClass .int ∈ TS := (TS_p1 111 rfl rfl)
set_option maxRecDepth 100000 in
theorem pf_RX0_19 : FPC RX0 19 0 2 (.array .int) true := ⟨RX0, TX0, 13, tyX0, rfl, by decide, iw_RX0, (TS_p1 47 rfl rfl), tyX0_ok, nmX0, rfl, by decide +kernel, rfl⟩
set_option maxRecDepth 100000 in
theorem pf_RX0_23 : FPC RX0 23 0 3 (.array .int) true := ⟨RX0, TX0, 13, tyX0, rfl, by decide, iw_RX0, (TS_p1 51 rfl rfl), tyX0_ok, nmX0, rfl, by decide +kernel, rfl⟩
set_option maxRecDepth 100000 in
theorem pf_RX0_26 : FPC RX0 26 0 4 (.array .int) true := ⟨RX0, TX0, 13, tyX0, rfl, by decide, iw_RX0, (TS_p1 55 rfl rfl), tyX0_ok, nmX0, rfl, by decide +kernel, rfl⟩
set_option maxRecDepth 100000 in
theorem pf_RX0_29 : FPC RX0 29 0 5 (.array .int) true := ⟨RX0, TX0, 13, tyX0, rfl, by decide, iw_RX0, (TS_p1 58 rfl rfl), tyX0_ok, nmX0, rfl, by decide +kernel, rfl⟩
set_option maxRecDepth 100000 in
theorem pf_RX0_32 : FPC RX0 32 0 6 (.array .int) true := ⟨RX0, TX0, 13, tyX0, rfl, by decide, iw_RX0, (TS_p1 61 rfl rfl), tyX0_ok, nmX0, rfl, by decide +kernel, rfl⟩
set_option maxRecDepth 100000 in
theorem pf_RX0_35 : FPC RX0 35 0 7 (.array .int) true := ⟨RX0, TX0, 13, tyX0, rfl, by decide, iw_RX0, (TS_p1 65 rfl rfl), tyX0_ok, nmX0, rfl, by decide +kernel, rfl⟩
set_option maxRecDepth 100000 in
theorem pf_RX0_38 : FPC RX0 38 0 8 (.array .int) true := ⟨RX0, TX0, 13, tyX0, rfl, by decide, iw_RX0, (TS_p1 69 rfl rfl), tyX0_ok, nmX0, rfl, by decide +kernel, rfl⟩
set_option maxRecDepth 100000 in
theorem pf_RX0_41 : FPC RX0 41 0 9 (.int) false := ⟨RX0, TX0, 13, tyX0, rfl, by decide, iw_RX0, (TS_p1 72 rfl rfl), tyX0_ok, nmX0, rfl, by decide +kernel, rfl⟩
set_option maxRecDepth 100000 in
theorem pf_RX0_44 : FPC RX0 44 0 10 (.int) false := ⟨RX0, TX0, 13, tyX0, rfl, by decide, iw_RX0, (TS_p1 75 rfl rfl), tyX0_ok, nmX0, rfl, by decide +kernel, rfl⟩
set_option maxRecDepth 100000 in
theorem pf_RX0_47 : FPC RX0 47 0 11 (.int) false := ⟨RX0, TX0, 13, tyX0, rfl, by decide, iw_RX0, (TS_p1 79 rfl rfl), tyX0_ok, nmX0, rfl, by decide +kernel, rfl⟩
set_option maxRecDepth 100000 in
theorem pf_RX0_50 : FPC RX0 50 0 12 (.int) false := ⟨RX0, TX0, 13, tyX0, rfl, by decide, iw_RX0, (TS_p1 81 rfl rfl), tyX0_ok, nmX0, rfl, by decide +kernel, rfl⟩
set_option maxRecDepth 100000 in
theorem oi_RX1_3 : Cond.methodLink RX1 3 Lib.objectInit ∈ TS ∧ Cond.instanceMethod Lib.objectInit ∈ TS ∧ Cond.code Lib.objectInit ⟨#[0xb1]⟩ 1 none ∈ TS := ⟨(TS_p1 117 rfl rfl), (TS_p1 28 rfl rfl), (TS_p1 29 rfl rfl)⟩
set_option maxRecDepth 100000 in
theorem pf_RX1_9 : FPC RX1 9 1 0 (.int) false := ⟨RX1, TX1, 8, tyX1, rfl, by decide, iw_RX1, (TS_p1 118 rfl rfl), tyX1_ok, nmX1, rfl, by decide +kernel, rfl⟩
set_option maxRecDepth 100000 in
theorem pf_RX1_15 : FPC RX1 15 1 1 (.int) false := ⟨RX1, TX1, 8, tyX1, rfl, by decide, iw_RX1, (TS_p1 121 rfl rfl), tyX1_ok, nmX1, rfl, by decide +kernel, rfl⟩
set_option maxRecDepth 100000 in
theorem pf_RX1_18 : FPC RX1 18 1 2 (.array .int) true := ⟨RX1, TX1, 8, tyX1, rfl, by decide, iw_RX1, (TS_p1 122 rfl rfl), tyX1_ok, nmX1, rfl, by decide +kernel, rfl⟩
set_option maxRecDepth 100000 in
theorem pf_RX1_22 : FPC RX1 22 1 3 (.array .int) true := ⟨RX1, TX1, 8, tyX1, rfl, by decide, iw_RX1, (TS_p1 123 rfl rfl), tyX1_ok, nmX1, rfl, by decide +kernel, rfl⟩
set_option maxRecDepth 100000 in
theorem pf_RX1_25 : FPC RX1 25 1 4 (.array .int) true := ⟨RX1, TX1, 8, tyX1, rfl, by decide, iw_RX1, (TS_p1 124 rfl rfl), tyX1_ok, nmX1, rfl, by decide +kernel, rfl⟩
set_option maxRecDepth 100000 in
theorem pf_RX1_28 : FPC RX1 28 1 5 (.array .int) true := ⟨RX1, TX1, 8, tyX1, rfl, by decide, iw_RX1, (TS_p1 125 rfl rfl), tyX1_ok, nmX1, rfl, by decide +kernel, rfl⟩
set_option maxRecDepth 100000 in
theorem pf_RX1_31 : FPC RX1 31 1 6 (.array .int) true := ⟨RX1, TX1, 8, tyX1, rfl, by decide, iw_RX1, (TS_p1 126 rfl rfl), tyX1_ok, nmX1, rfl, by decide +kernel, rfl⟩
set_option maxRecDepth 100000 in
theorem pf_RX1_34 : FPC RX1 34 1 7 (.array .int) true := ⟨RX1, TX1, 8, tyX1, rfl, by decide, iw_RX1, (TS_p1 127 rfl rfl), tyX1_ok, nmX1, rfl, by decide +kernel, rfl⟩
set_option maxRecDepth 100000 in
theorem oi_RX3_3 : Cond.methodLink RX3 3 Lib.objectInit ∈ TS ∧ Cond.instanceMethod Lib.objectInit ∈ TS ∧ Cond.code Lib.objectInit ⟨#[0xb1]⟩ 1 none ∈ TS := ⟨(TS_p1 179 rfl rfl), (TS_p1 28 rfl rfl), (TS_p1 29 rfl rfl)⟩
set_option maxRecDepth 100000 in
theorem pf_RX3_9 : FPC RX3 9 2 0 (.int) false := ⟨RX3, TX3, 5, tyX3, rfl, by decide, iw_RX3, (TS_p1 180 rfl rfl), tyX3_ok, nmX3, rfl, by decide +kernel, rfl⟩
set_option maxRecDepth 100000 in
theorem pf_RX3_15 : FPC RX3 15 2 1 (.array .int) true := ⟨RX3, TX3, 5, tyX3, rfl, by decide, iw_RX3, (TS_p1 183 rfl rfl), tyX3_ok, nmX3, rfl, by decide +kernel, rfl⟩
set_option maxRecDepth 100000 in
theorem pf_RX3_19 : FPC RX3 19 2 2 (.array .int) true := ⟨RX3, TX3, 5, tyX3, rfl, by decide, iw_RX3, (TS_p1 184 rfl rfl), tyX3_ok, nmX3, rfl, by decide +kernel, rfl⟩
set_option maxRecDepth 100000 in
theorem pf_RX3_22 : FPC RX3 22 2 3 (.array .int) true := ⟨RX3, TX3, 5, tyX3, rfl, by decide, iw_RX3, (TS_p1 185 rfl rfl), tyX3_ok, nmX3, rfl, by decide +kernel, rfl⟩
set_option maxRecDepth 100000 in
theorem pf_RX3_25 : FPC RX3 25 2 4 (.array .int) true := ⟨RX3, TX3, 5, tyX3, rfl, by decide, iw_RX3, (TS_p1 186 rfl rfl), tyX3_ok, nmX3, rfl, by decide +kernel, rfl⟩
set_option maxRecDepth 100000 in
theorem oi_RX5_3 : Cond.methodLink RX5 3 Lib.objectInit ∈ TS ∧ Cond.instanceMethod Lib.objectInit ∈ TS ∧ Cond.code Lib.objectInit ⟨#[0xb1]⟩ 1 none ∈ TS := ⟨(TS_p1 150 rfl rfl), (TS_p1 28 rfl rfl), (TS_p1 29 rfl rfl)⟩
set_option maxRecDepth 100000 in
theorem pf_RX5_9 : FPC RX5 9 4 0 (.int) false := ⟨RX5, TX5, 5, tyX5, rfl, by decide, iw_RX5, (TS_p1 151 rfl rfl), tyX5_ok, nmX5, rfl, by decide +kernel, rfl⟩
set_option maxRecDepth 100000 in
theorem pf_RX5_15 : FPC RX5 15 4 1 (.array .int) true := ⟨RX5, TX5, 5, tyX5, rfl, by decide, iw_RX5, (TS_p1 155 rfl rfl), tyX5_ok, nmX5, rfl, by decide +kernel, rfl⟩
set_option maxRecDepth 100000 in
theorem pf_RX5_19 : FPC RX5 19 4 2 (.array .int) true := ⟨RX5, TX5, 5, tyX5, rfl, by decide, iw_RX5, (TS_p1 157 rfl rfl), tyX5_ok, nmX5, rfl, by decide +kernel, rfl⟩
set_option maxRecDepth 100000 in
theorem pf_RX5_22 : FPC RX5 22 4 3 (.array .int) true := ⟨RX5, TX5, 5, tyX5, rfl, by decide, iw_RX5, (TS_p1 159 rfl rfl), tyX5_ok, nmX5, rfl, by decide +kernel, rfl⟩
set_option maxRecDepth 100000 in
theorem pf_RX5_25 : FPC RX5 25 4 4 (.array .int) true := ⟨RX5, TX5, 5, tyX5, rfl, by decide, iw_RX5, (TS_p1 161 rfl rfl), tyX5_ok, nmX5, rfl, by decide +kernel, rfl⟩
set_option maxRecDepth 100000 in
theorem oi_RX6_3 : Cond.methodLink RX6 3 Lib.objectInit ∈ TS ∧ Cond.instanceMethod Lib.objectInit ∈ TS ∧ Cond.code Lib.objectInit ⟨#[0xb1]⟩ 1 none ∈ TS := ⟨(TS_p2 80 rfl rfl), (TS_p1 28 rfl rfl), (TS_p1 29 rfl rfl)⟩
set_option maxRecDepth 100000 in
theorem pf_RX6_9 : FPC RX6 9 5 0 (.int) false := ⟨RX6, TX6, 10, tyX6, rfl, by decide, iw_RX6, (TS_p2 81 rfl rfl), tyX6_ok, nmX6, rfl, by decide +kernel, rfl⟩
set_option maxRecDepth 100000 in
theorem pf_RX6_15 : FPC RX6 15 5 1 (.int) false := ⟨RX6, TX6, 10, tyX6, rfl, by decide, iw_RX6, (TS_p2 83 rfl rfl), tyX6_ok, nmX6, rfl, by decide +kernel, rfl⟩
set_option maxRecDepth 100000 in
theorem pf_RX6_18 : FPC RX6 18 5 2 (.int) false := ⟨RX6, TX6, 10, tyX6, rfl, by decide, iw_RX6, (TS_p2 85 rfl rfl), tyX6_ok, nmX6, rfl, by decide +kernel, rfl⟩
set_option maxRecDepth 100000 in
theorem pf_RX6_21 : FPC RX6 21 5 3 (.int) false := ⟨RX6, TX6, 10, tyX6, rfl, by decide, iw_RX6, (TS_p2 87 rfl rfl), tyX6_ok, nmX6, rfl, by decide +kernel, rfl⟩
set_option maxRecDepth 100000 in
theorem pf_RX6_24 : FPC RX6 24 5 4 (.int) false := ⟨RX6, TX6, 10, tyX6, rfl, by decide, iw_RX6, (TS_p2 89 rfl rfl), tyX6_ok, nmX6, rfl, by decide +kernel, rfl⟩
set_option maxRecDepth 100000 in
theorem pf_RX6_27 : FPC RX6 27 5 5 (.int) false := ⟨RX6, TX6, 10, tyX6, rfl, by decide, iw_RX6, (TS_p2 90 rfl rfl), tyX6_ok, nmX6, rfl, by decide +kernel, rfl⟩
set_option maxRecDepth 100000 in
theorem pf_RX6_30 : FPC RX6 30 5 6 (.array .int) true := ⟨RX6, TX6, 10, tyX6, rfl, by decide, iw_RX6, (TS_p2 91 rfl rfl), tyX6_ok, nmX6, rfl, by decide +kernel, rfl⟩
set_option maxRecDepth 100000 in
theorem pf_RX6_34 : FPC RX6 34 5 7 (.array .int) true := ⟨RX6, TX6, 10, tyX6, rfl, by decide, iw_RX6, (TS_p2 92 rfl rfl), tyX6_ok, nmX6, rfl, by decide +kernel, rfl⟩
set_option maxRecDepth 100000 in
theorem pf_RX6_37 : FPC RX6 37 5 8 (.array .int) true := ⟨RX6, TX6, 10, tyX6, rfl, by decide, iw_RX6, (TS_p2 93 rfl rfl), tyX6_ok, nmX6, rfl, by decide +kernel, rfl⟩
set_option maxRecDepth 100000 in
theorem pf_RX6_40 : FPC RX6 40 5 9 (.array .int) true := ⟨RX6, TX6, 10, tyX6, rfl, by decide, iw_RX6, (TS_p2 94 rfl rfl), tyX6_ok, nmX6, rfl, by decide +kernel, rfl⟩
set_option maxRecDepth 100000 in
theorem oi_RX7_1 : Cond.methodLink RX7 1 Lib.objectInit ∈ TS ∧ Cond.instanceMethod Lib.objectInit ∈ TS ∧ Cond.code Lib.objectInit ⟨#[0xb1]⟩ 1 none ∈ TS := ⟨(TS_p1 209 rfl rfl), (TS_p1 28 rfl rfl), (TS_p1 29 rfl rfl)⟩
set_option maxRecDepth 100000 in
theorem mc_RX7_7 : Cond.methodLink RX7 7 Lib.Math.max.name ∈ TS ∧ Cond.static Lib.Math.max.name ∈ TS ∧ Cond.initialized "java/lang/Math" ∈ TS ∧ Cond.code Lib.Math.max.name Lib.Math.max.code 2 (some .int) ∈ TS := ⟨(TS_p1 210 rfl rfl), (TS_p1 211 rfl rfl), (TS_p1 9 rfl rfl), (TS_p1 212 rfl rfl)⟩
set_option maxRecDepth 100000 in
theorem pf_RX7_13 : FPC RX7 13 6 0 (.array .int) true := ⟨RX7, TX7, 2, tyX7, rfl, by decide, iw_RX7, (TS_p1 213 rfl rfl), tyX7_ok, nmX7, rfl, by decide +kernel, rfl⟩
set_option maxRecDepth 100000 in
theorem pf_RX7_19 : FPC RX7 19 6 1 (.int) false := ⟨RX7, TX7, 2, tyX7, rfl, by decide, iw_RX7, (TS_p1 214 rfl rfl), tyX7_ok, nmX7, rfl, by decide +kernel, rfl⟩
set_option maxRecDepth 100000 in
theorem oi_RX9_3 : Cond.methodLink RX9 3 Lib.objectInit ∈ TS ∧ Cond.instanceMethod Lib.objectInit ∈ TS ∧ Cond.code Lib.objectInit ⟨#[0xb1]⟩ 1 none ∈ TS := ⟨(TS_p2 152 rfl rfl), (TS_p1 28 rfl rfl), (TS_p1 29 rfl rfl)⟩
set_option maxRecDepth 100000 in
theorem pf_RX9_9 : FPC RX9 9 8 0 (.array .int) true := ⟨RX9, TX9, 4, tyX9, rfl, by decide, iw_RX9, (TS_p2 153 rfl rfl), tyX9_ok, nmX9, rfl, by decide +kernel, rfl⟩
set_option maxRecDepth 100000 in
theorem pf_RX9_15 : FPC RX9 15 8 1 (.array .int) true := ⟨RX9, TX9, 4, tyX9, rfl, by decide, iw_RX9, (TS_p2 154 rfl rfl), tyX9_ok, nmX9, rfl, by decide +kernel, rfl⟩
set_option maxRecDepth 100000 in
theorem aw_cz : Cond.arrayClass .boolean ∈ TS := (TS_p2 166 rfl rfl)
set_option maxRecDepth 100000 in
theorem pf_RX9_18 : FPC RX9 18 8 2 (.array .boolean) true := ⟨RX9, TX9, 4, tyX9, rfl, by decide, iw_RX9, (TS_p2 155 rfl rfl), tyX9_ok, nmX9, rfl, by decide +kernel, rfl⟩
set_option maxRecDepth 100000 in
theorem pf_RX9_22 : FPC RX9 22 8 3 (.array .int) true := ⟨RX9, TX9, 4, tyX9, rfl, by decide, iw_RX9, (TS_p2 156 rfl rfl), tyX9_ok, nmX9, rfl, by decide +kernel, rfl⟩
set_option maxRecDepth 100000 in
theorem oi_RX8_1 : Cond.methodLink RX8 1 Lib.objectInit ∈ TS ∧ Cond.instanceMethod Lib.objectInit ∈ TS ∧ Cond.code Lib.objectInit ⟨#[0xb1]⟩ 1 none ∈ TS := ⟨(TS_p1 203 rfl rfl), (TS_p1 28 rfl rfl), (TS_p1 29 rfl rfl)⟩
set_option maxRecDepth 100000 in
theorem nw_RX8_7 : Cond.classLink RX8 7 RX7 ∈ TS ∧ Cond.instantiable RX7 2 ∈ TS ∧ Cond.initialized RX7 ∈ TS := ⟨(TS_p1 204 rfl rfl), (TS_p1 205 rfl rfl), (TS_p1 8 rfl rfl)⟩
set_option maxRecDepth 100000 in
theorem df_RX7 : ∀ j, j < 2 → defaultValue (tyX7 j) = vp_V [.null, .int 0] j := fun j hj => match j, hj with
  | 0, _ => rfl
  | 1, _ => rfl
  | k + 2, h => absurd h (by omega)
set_option maxRecDepth 100000 in
theorem ci_RX8_9 : CI RX8 9 yX7_init cX7_init 2 1 := ⟨(TS_p1 206 rfl rfl), (TS_p1 207 rfl rfl), (TS_p1 8 rfl rfl), (TS_p1 208 rfl rfl), rfl, ⟨by decide, by decide, by decide +kernel⟩⟩
set_option maxRecDepth 100000 in
theorem pf_RX8_12 : FPC RX8 12 7 0 (.object "HiccupLane$Row") true := ⟨RX8, TX8, 12, tyX8, rfl, by decide, iw_RX8, (TS_p1 222 rfl rfl), tyX8_ok, nmX8, rfl, by decide +kernel, rfl⟩
set_option maxRecDepth 100000 in
theorem pf_RX8_18 : FPC RX8 18 7 1 (.object "HiccupLane$Row") true := ⟨RX8, TX8, 12, tyX8, rfl, by decide, iw_RX8, (TS_p1 224 rfl rfl), tyX8_ok, nmX8, rfl, by decide +kernel, rfl⟩
set_option maxRecDepth 100000 in
theorem pf_RX8_21 : FPC RX8 21 7 2 (.object "HiccupLane$Row") true := ⟨RX8, TX8, 12, tyX8, rfl, by decide, iw_RX8, (TS_p1 227 rfl rfl), tyX8_ok, nmX8, rfl, by decide +kernel, rfl⟩
set_option maxRecDepth 100000 in
theorem pf_RX8_24 : FPC RX8 24 7 3 (.object "HiccupLane$Row") true := ⟨RX8, TX8, 12, tyX8, rfl, by decide, iw_RX8, (TS_p1 230 rfl rfl), tyX8_ok, nmX8, rfl, by decide +kernel, rfl⟩
set_option maxRecDepth 100000 in
theorem pf_RX8_27 : FPC RX8 27 7 4 (.object "HiccupLane$Row") true := ⟨RX8, TX8, 12, tyX8, rfl, by decide, iw_RX8, (TS_p1 233 rfl rfl), tyX8_ok, nmX8, rfl, by decide +kernel, rfl⟩
set_option maxRecDepth 100000 in
theorem pf_RX8_30 : FPC RX8 30 7 5 (.object "HiccupLane$Row") true := ⟨RX8, TX8, 12, tyX8, rfl, by decide, iw_RX8, (TS_p1 236 rfl rfl), tyX8_ok, nmX8, rfl, by decide +kernel, rfl⟩
set_option maxRecDepth 100000 in
theorem pf_RX8_33 : FPC RX8 33 7 6 (.object "HiccupLane$Row") true := ⟨RX8, TX8, 12, tyX8, rfl, by decide, iw_RX8, (TS_p1 239 rfl rfl), tyX8_ok, nmX8, rfl, by decide +kernel, rfl⟩
set_option maxRecDepth 100000 in
theorem pf_RX8_36 : FPC RX8 36 7 7 (.object "HiccupLane$Row") true := ⟨RX8, TX8, 12, tyX8, rfl, by decide, iw_RX8, (TS_p2 2 rfl rfl), tyX8_ok, nmX8, rfl, by decide +kernel, rfl⟩
set_option maxRecDepth 100000 in
theorem pf_RX8_39 : FPC RX8 39 7 8 (.object "HiccupLane$Row") true := ⟨RX8, TX8, 12, tyX8, rfl, by decide, iw_RX8, (TS_p2 4 rfl rfl), tyX8_ok, nmX8, rfl, by decide +kernel, rfl⟩
set_option maxRecDepth 100000 in
theorem pf_RX8_42 : FPC RX8 42 7 9 (.object "HiccupLane$Row") true := ⟨RX8, TX8, 12, tyX8, rfl, by decide, iw_RX8, (TS_p2 6 rfl rfl), tyX8_ok, nmX8, rfl, by decide +kernel, rfl⟩
set_option maxRecDepth 100000 in
theorem pf_RX8_45 : FPC RX8 45 7 10 (.object "HiccupLane$Row") true := ⟨RX8, TX8, 12, tyX8, rfl, by decide, iw_RX8, (TS_p2 8 rfl rfl), tyX8_ok, nmX8, rfl, by decide +kernel, rfl⟩
set_option maxRecDepth 100000 in
theorem pf_RX8_48 : FPC RX8 48 7 11 (.object "HiccupLane$Row") true := ⟨RX8, TX8, 12, tyX8, rfl, by decide, iw_RX8, (TS_p2 10 rfl rfl), tyX8_ok, nmX8, rfl, by decide +kernel, rfl⟩
set_option maxRecDepth 100000 in
theorem oi_RX4_3 : Cond.methodLink RX4 3 Lib.objectInit ∈ TS ∧ Cond.instanceMethod Lib.objectInit ∈ TS ∧ Cond.code Lib.objectInit ⟨#[0xb1]⟩ 1 none ∈ TS := ⟨(TS_p2 74 rfl rfl), (TS_p1 28 rfl rfl), (TS_p1 29 rfl rfl)⟩
set_option maxRecDepth 100000 in
theorem nw_RX4_9 : Cond.classLink RX4 9 RX6 ∈ TS ∧ Cond.instantiable RX6 10 ∈ TS ∧ Cond.initialized RX6 ∈ TS := ⟨(TS_p2 75 rfl rfl), (TS_p2 76 rfl rfl), (TS_p1 11 rfl rfl)⟩
set_option maxRecDepth 100000 in
theorem df_RX6 : ∀ j, j < 10 → defaultValue (tyX6 j) = vp_V [.int 0, .int 0, .int 0, .int 0, .int 0, .int 0, .null, .null, .null, .null] j := fun j hj => match j, hj with
  | 0, _ => rfl
  | 1, _ => rfl
  | 2, _ => rfl
  | 3, _ => rfl
  | 4, _ => rfl
  | 5, _ => rfl
  | 6, _ => rfl
  | 7, _ => rfl
  | 8, _ => rfl
  | 9, _ => rfl
  | k + 10, h => absurd h (by omega)
set_option maxRecDepth 100000 in
theorem ci_RX4_11 : CI RX4 11 yX6_init cX6_init 1 0 := ⟨(TS_p2 77 rfl rfl), (TS_p2 78 rfl rfl), (TS_p1 11 rfl rfl), (TS_p2 79 rfl rfl), rfl, ⟨by decide, by decide, by decide +kernel⟩⟩
set_option maxRecDepth 100000 in
theorem pf_RX4_12 : FPC RX4 12 3 0 (.object "HiccupLane$Reader") true := ⟨RX4, TX4, 7, tyX4, rfl, by decide, iw_RX4, (TS_p2 122 rfl rfl), tyX4_ok, nmX4, rfl, by decide +kernel, rfl⟩
set_option maxRecDepth 100000 in
theorem pf_RX4_18 : FPC RX4 18 3 1 (.int) false := ⟨RX4, TX4, 7, tyX4, rfl, by decide, iw_RX4, (TS_p2 124 rfl rfl), tyX4_ok, nmX4, rfl, by decide +kernel, rfl⟩
set_option maxRecDepth 100000 in
theorem pf_RX4_22 : FPC RX4 22 3 2 (.int) false := ⟨RX4, TX4, 7, tyX4, rfl, by decide, iw_RX4, (TS_p2 126 rfl rfl), tyX4_ok, nmX4, rfl, by decide +kernel, rfl⟩
set_option maxRecDepth 100000 in
theorem pf_RX4_25 : FPC RX4 25 3 3 (.int) false := ⟨RX4, TX4, 7, tyX4, rfl, by decide, iw_RX4, (TS_p2 128 rfl rfl), tyX4_ok, nmX4, rfl, by decide +kernel, rfl⟩
set_option maxRecDepth 100000 in
theorem nw_RX4_28 : Cond.classLink RX4 28 RX1 ∈ TS ∧ Cond.instantiable RX1 8 ∈ TS ∧ Cond.initialized RX1 ∈ TS := ⟨(TS_p2 116 rfl rfl), (TS_p1 113 rfl rfl), (TS_p1 4 rfl rfl)⟩
set_option maxRecDepth 100000 in
theorem df_RX1 : ∀ j, j < 8 → defaultValue (tyX1 j) = vp_V [.int 0, .int 0, .null, .null, .null, .null, .null, .null] j := fun j hj => match j, hj with
  | 0, _ => rfl
  | 1, _ => rfl
  | 2, _ => rfl
  | 3, _ => rfl
  | 4, _ => rfl
  | 5, _ => rfl
  | 6, _ => rfl
  | 7, _ => rfl
  | k + 8, h => absurd h (by omega)
set_option maxRecDepth 100000 in
theorem ci_RX4_30 : CI RX4 30 yX1_init cX1_init 1 0 := ⟨(TS_p2 117 rfl rfl), (TS_p1 115 rfl rfl), (TS_p1 4 rfl rfl), (TS_p1 116 rfl rfl), rfl, ⟨by decide, by decide, by decide +kernel⟩⟩
set_option maxRecDepth 100000 in
theorem pf_RX4_31 : FPC RX4 31 3 4 (.object "HiccupLane$Law") true := ⟨RX4, TX4, 7, tyX4, rfl, by decide, iw_RX4, (TS_p2 129 rfl rfl), tyX4_ok, nmX4, rfl, by decide +kernel, rfl⟩
set_option maxRecDepth 100000 in
theorem nw_RX4_35 : Cond.classLink RX4 35 RX5 ∈ TS ∧ Cond.instantiable RX5 5 ∈ TS ∧ Cond.initialized RX5 ∈ TS := ⟨(TS_p2 118 rfl rfl), (TS_p1 146 rfl rfl), (TS_p1 5 rfl rfl)⟩
set_option maxRecDepth 100000 in
theorem df_RX5 : ∀ j, j < 5 → defaultValue (tyX5 j) = vp_V [.int 0, .null, .null, .null, .null] j := fun j hj => match j, hj with
  | 0, _ => rfl
  | 1, _ => rfl
  | 2, _ => rfl
  | 3, _ => rfl
  | 4, _ => rfl
  | k + 5, h => absurd h (by omega)
set_option maxRecDepth 100000 in
theorem ci_RX4_37 : CI RX4 37 yX5_init cX5_init 1 0 := ⟨(TS_p2 119 rfl rfl), (TS_p1 148 rfl rfl), (TS_p1 5 rfl rfl), (TS_p1 149 rfl rfl), rfl, ⟨by decide, by decide, by decide +kernel⟩⟩
set_option maxRecDepth 100000 in
theorem pf_RX4_38 : FPC RX4 38 3 5 (.object "HiccupLane$Plan") true := ⟨RX4, TX4, 7, tyX4, rfl, by decide, iw_RX4, (TS_p2 130 rfl rfl), tyX4_ok, nmX4, rfl, by decide +kernel, rfl⟩
set_option maxRecDepth 100000 in
theorem nw_RX4_42 : Cond.classLink RX4 42 RX3 ∈ TS ∧ Cond.instantiable RX3 5 ∈ TS ∧ Cond.initialized RX3 ∈ TS := ⟨(TS_p2 120 rfl rfl), (TS_p1 175 rfl rfl), (TS_p1 6 rfl rfl)⟩
set_option maxRecDepth 100000 in
theorem df_RX3 : ∀ j, j < 5 → defaultValue (tyX3 j) = vp_V [.int 0, .null, .null, .null, .null] j := fun j hj => match j, hj with
  | 0, _ => rfl
  | 1, _ => rfl
  | 2, _ => rfl
  | 3, _ => rfl
  | 4, _ => rfl
  | k + 5, h => absurd h (by omega)
set_option maxRecDepth 100000 in
theorem ci_RX4_44 : CI RX4 44 yX3_init cX3_init 1 0 := ⟨(TS_p2 121 rfl rfl), (TS_p1 177 rfl rfl), (TS_p1 6 rfl rfl), (TS_p1 178 rfl rfl), rfl, ⟨by decide, by decide, by decide +kernel⟩⟩
set_option maxRecDepth 100000 in
theorem pf_RX4_45 : FPC RX4 45 3 6 (.object "HiccupLane$Orders") true := ⟨RX4, TX4, 7, tyX4, rfl, by decide, iw_RX4, (TS_p2 131 rfl rfl), tyX4_ok, nmX4, rfl, by decide +kernel, rfl⟩
set_option maxRecDepth 100000 in
theorem oi_RX10_3 : Cond.methodLink RX10 3 Lib.objectInit ∈ TS ∧ Cond.instanceMethod Lib.objectInit ∈ TS ∧ Cond.code Lib.objectInit ⟨#[0xb1]⟩ 1 none ∈ TS := ⟨(TS_p1 35 rfl rfl), (TS_p1 28 rfl rfl), (TS_p1 29 rfl rfl)⟩
set_option maxRecDepth 100000 in
theorem nw_RX10_9 : Cond.classLink RX10 9 RX0 ∈ TS ∧ Cond.instantiable RX0 13 ∈ TS ∧ Cond.initialized RX0 ∈ TS := ⟨(TS_p1 36 rfl rfl), (TS_p1 37 rfl rfl), (TS_p1 3 rfl rfl)⟩
set_option maxRecDepth 100000 in
theorem df_RX0 : ∀ j, j < 13 → defaultValue (tyX0 j) = vp_V [.int 0, .int 0, .null, .null, .null, .null, .null, .null, .null, .int 0, .int 0, .int 0, .int 0] j := fun j hj => match j, hj with
  | 0, _ => rfl
  | 1, _ => rfl
  | 2, _ => rfl
  | 3, _ => rfl
  | 4, _ => rfl
  | 5, _ => rfl
  | 6, _ => rfl
  | 7, _ => rfl
  | 8, _ => rfl
  | 9, _ => rfl
  | 10, _ => rfl
  | 11, _ => rfl
  | 12, _ => rfl
  | k + 13, h => absurd h (by omega)
set_option maxRecDepth 100000 in
theorem ci_RX10_11 : CI RX10 11 yX0_init cX0_init 2 1 := ⟨(TS_p1 38 rfl rfl), (TS_p1 39 rfl rfl), (TS_p1 3 rfl rfl), (TS_p1 40 rfl rfl), rfl, ⟨by decide, by decide, by decide +kernel⟩⟩
set_option maxRecDepth 100000 in
theorem pf_RX10_14 : FPC RX10 14 9 0 (.object "HiccupLane$Lane") true := ⟨RX10, TX10, 7, tyX10, rfl, by decide, iw_RX10, (TS_p2 37 rfl rfl), tyX10_ok, nmX10, rfl, by decide +kernel, rfl⟩
set_option maxRecDepth 100000 in
theorem nw_RX10_20 : Cond.classLink RX10 20 RX1 ∈ TS ∧ Cond.instantiable RX1 8 ∈ TS ∧ Cond.initialized RX1 ∈ TS := ⟨(TS_p1 112 rfl rfl), (TS_p1 113 rfl rfl), (TS_p1 4 rfl rfl)⟩
set_option maxRecDepth 100000 in
theorem ci_RX10_22 : CI RX10 22 yX1_init cX1_init 1 0 := ⟨(TS_p1 114 rfl rfl), (TS_p1 115 rfl rfl), (TS_p1 4 rfl rfl), (TS_p1 116 rfl rfl), rfl, ⟨by decide, by decide, by decide +kernel⟩⟩
set_option maxRecDepth 100000 in
theorem pf_RX10_23 : FPC RX10 23 9 1 (.object "HiccupLane$Law") true := ⟨RX10, TX10, 7, tyX10, rfl, by decide, iw_RX10, (TS_p2 39 rfl rfl), tyX10_ok, nmX10, rfl, by decide +kernel, rfl⟩
set_option maxRecDepth 100000 in
theorem nw_RX10_27 : Cond.classLink RX10 27 RX5 ∈ TS ∧ Cond.instantiable RX5 5 ∈ TS ∧ Cond.initialized RX5 ∈ TS := ⟨(TS_p1 145 rfl rfl), (TS_p1 146 rfl rfl), (TS_p1 5 rfl rfl)⟩
set_option maxRecDepth 100000 in
theorem ci_RX10_29 : CI RX10 29 yX5_init cX5_init 1 0 := ⟨(TS_p1 147 rfl rfl), (TS_p1 148 rfl rfl), (TS_p1 5 rfl rfl), (TS_p1 149 rfl rfl), rfl, ⟨by decide, by decide, by decide +kernel⟩⟩
set_option maxRecDepth 100000 in
theorem pf_RX10_30 : FPC RX10 30 9 2 (.object "HiccupLane$Plan") true := ⟨RX10, TX10, 7, tyX10, rfl, by decide, iw_RX10, (TS_p2 41 rfl rfl), tyX10_ok, nmX10, rfl, by decide +kernel, rfl⟩
set_option maxRecDepth 100000 in
theorem pf_RX10_34 : FPC RX10 34 9 3 (.object "HiccupLane$Plan") true := ⟨RX10, TX10, 7, tyX10, rfl, by decide, iw_RX10, (TS_p2 43 rfl rfl), tyX10_ok, nmX10, rfl, by decide +kernel, rfl⟩
set_option maxRecDepth 100000 in
theorem nw_RX10_37 : Cond.classLink RX10 37 RX3 ∈ TS ∧ Cond.instantiable RX3 5 ∈ TS ∧ Cond.initialized RX3 ∈ TS := ⟨(TS_p1 174 rfl rfl), (TS_p1 175 rfl rfl), (TS_p1 6 rfl rfl)⟩
set_option maxRecDepth 100000 in
theorem ci_RX10_39 : CI RX10 39 yX3_init cX3_init 1 0 := ⟨(TS_p1 176 rfl rfl), (TS_p1 177 rfl rfl), (TS_p1 6 rfl rfl), (TS_p1 178 rfl rfl), rfl, ⟨by decide, by decide, by decide +kernel⟩⟩
set_option maxRecDepth 100000 in
theorem pf_RX10_40 : FPC RX10 40 9 4 (.object "HiccupLane$Orders") true := ⟨RX10, TX10, 7, tyX10, rfl, by decide, iw_RX10, (TS_p2 45 rfl rfl), tyX10_ok, nmX10, rfl, by decide +kernel, rfl⟩
set_option maxRecDepth 100000 in
theorem nw_RX10_44 : Cond.classLink RX10 44 RX8 ∈ TS ∧ Cond.instantiable RX8 12 ∈ TS ∧ Cond.initialized RX8 ∈ TS := ⟨(TS_p1 198 rfl rfl), (TS_p1 199 rfl rfl), (TS_p1 7 rfl rfl)⟩
set_option maxRecDepth 100000 in
theorem df_RX8 : ∀ j, j < 12 → defaultValue (tyX8 j) = vp_V [.null, .null, .null, .null, .null, .null, .null, .null, .null, .null, .null, .null] j := fun j hj => match j, hj with
  | 0, _ => rfl
  | 1, _ => rfl
  | 2, _ => rfl
  | 3, _ => rfl
  | 4, _ => rfl
  | 5, _ => rfl
  | 6, _ => rfl
  | 7, _ => rfl
  | 8, _ => rfl
  | 9, _ => rfl
  | 10, _ => rfl
  | 11, _ => rfl
  | k + 12, h => absurd h (by omega)
set_option maxRecDepth 100000 in
theorem ci_RX10_46 : CI RX10 46 yX8_init cX8_init 1 0 := ⟨(TS_p1 200 rfl rfl), (TS_p1 201 rfl rfl), (TS_p1 7 rfl rfl), (TS_p1 202 rfl rfl), rfl, ⟨by decide, by decide, by decide +kernel⟩⟩
set_option maxRecDepth 100000 in
theorem pf_RX10_47 : FPC RX10 47 9 5 (.object "HiccupLane$Rows") true := ⟨RX10, TX10, 7, tyX10, rfl, by decide, iw_RX10, (TS_p2 47 rfl rfl), tyX10_ok, nmX10, rfl, by decide +kernel, rfl⟩
set_option maxRecDepth 100000 in
theorem pf_RX10_51 : FPC RX10 51 9 6 (.array .int) true := ⟨RX10, TX10, 7, tyX10, rfl, by decide, iw_RX10, (TS_p2 49 rfl rfl), tyX10_ok, nmX10, rfl, by decide +kernel, rfl⟩
set_option maxRecDepth 100000 in
theorem oi_RX11_1 : Cond.methodLink RX11 1 Lib.objectInit ∈ TS ∧ Cond.instanceMethod Lib.objectInit ∈ TS ∧ Cond.code Lib.objectInit ⟨#[0xb1]⟩ 1 none ∈ TS := ⟨(TS_p1 27 rfl rfl), (TS_p1 28 rfl rfl), (TS_p1 29 rfl rfl)⟩
set_option maxRecDepth 100000 in
theorem nw_RX11_7 : Cond.classLink RX11 7 RX10 ∈ TS ∧ Cond.instantiable RX10 7 ∈ TS ∧ Cond.initialized RX10 ∈ TS := ⟨(TS_p1 30 rfl rfl), (TS_p1 31 rfl rfl), (TS_p1 2 rfl rfl)⟩
set_option maxRecDepth 100000 in
theorem df_RX10 : ∀ j, j < 7 → defaultValue (tyX10 j) = vp_V [.null, .null, .null, .null, .null, .null, .null] j := fun j hj => match j, hj with
  | 0, _ => rfl
  | 1, _ => rfl
  | 2, _ => rfl
  | 3, _ => rfl
  | 4, _ => rfl
  | 5, _ => rfl
  | 6, _ => rfl
  | k + 7, h => absurd h (by omega)
set_option maxRecDepth 100000 in
theorem ci_RX11_9 : CI RX11 9 yX10_init cX10_init 1 0 := ⟨(TS_p1 32 rfl rfl), (TS_p1 33 rfl rfl), (TS_p1 2 rfl rfl), (TS_p1 34 rfl rfl), rfl, ⟨by decide, by decide, by decide +kernel⟩⟩
set_option maxRecDepth 100000 in
theorem pf_RX11_10 : FPC RX11 10 10 0 (.object "HiccupLane$World") true := ⟨RX11, TX11, 9, tyX11, rfl, by decide, iw_RX11, (TS_p2 167 rfl rfl), tyX11_ok, nmX11, rfl, by decide +kernel, rfl⟩
set_option maxRecDepth 100000 in
theorem pf_RX11_16 : FPC RX11 16 10 1 (.object "HiccupLane$World") true := ⟨RX11, TX11, 9, tyX11, rfl, by decide, iw_RX11, (TS_p2 168 rfl rfl), tyX11_ok, nmX11, rfl, by decide +kernel, rfl⟩
set_option maxRecDepth 100000 in
theorem pf_RX11_19 : FPC RX11 19 10 2 (.boolean) false := ⟨RX11, TX11, 9, tyX11, rfl, by decide, iw_RX11, (TS_p2 169 rfl rfl), tyX11_ok, nmX11, rfl, by decide +kernel, rfl⟩
set_option maxRecDepth 100000 in
theorem nw_RX11_23 : Cond.classLink RX11 23 RX0 ∈ TS ∧ Cond.instantiable RX0 13 ∈ TS ∧ Cond.initialized RX0 ∈ TS := ⟨(TS_p2 66 rfl rfl), (TS_p1 37 rfl rfl), (TS_p1 3 rfl rfl)⟩
set_option maxRecDepth 100000 in
theorem ci_RX11_25 : CI RX11 25 yX0_init cX0_init 2 1 := ⟨(TS_p2 67 rfl rfl), (TS_p1 39 rfl rfl), (TS_p1 3 rfl rfl), (TS_p1 40 rfl rfl), rfl, ⟨by decide, by decide, by decide +kernel⟩⟩
set_option maxRecDepth 100000 in
theorem pf_RX11_28 : FPC RX11 28 10 3 (.object "HiccupLane$Lane") true := ⟨RX11, TX11, 9, tyX11, rfl, by decide, iw_RX11, (TS_p2 170 rfl rfl), tyX11_ok, nmX11, rfl, by decide +kernel, rfl⟩
set_option maxRecDepth 100000 in
theorem aq_23 : Cond.classLink RX11 23 RX0 ∈ TS := (TS_p2 66 rfl rfl)
set_option maxRecDepth 100000 in
theorem pf_RX11_32 : FPC RX11 32 10 4 (.array (.object "HiccupLane$Lane")) true := ⟨RX11, TX11, 9, tyX11, rfl, by decide, iw_RX11, (TS_p2 171 rfl rfl), tyX11_ok, nmX11, rfl, by decide +kernel, rfl⟩
set_option maxRecDepth 100000 in
theorem pf_RX11_36 : FPC RX11 36 10 5 (.int) false := ⟨RX11, TX11, 9, tyX11, rfl, by decide, iw_RX11, (TS_p2 172 rfl rfl), tyX11_ok, nmX11, rfl, by decide +kernel, rfl⟩
set_option maxRecDepth 100000 in
theorem pf_RX11_40 : FPC RX11 40 10 6 (.int) false := ⟨RX11, TX11, 9, tyX11, rfl, by decide, iw_RX11, (TS_p2 173 rfl rfl), tyX11_ok, nmX11, rfl, by decide +kernel, rfl⟩
set_option maxRecDepth 100000 in
theorem nw_RX11_43 : Cond.classLink RX11 43 RX4 ∈ TS ∧ Cond.instantiable RX4 7 ∈ TS ∧ Cond.initialized RX4 ∈ TS := ⟨(TS_p2 69 rfl rfl), (TS_p2 70 rfl rfl), (TS_p1 10 rfl rfl)⟩
set_option maxRecDepth 100000 in
theorem df_RX4 : ∀ j, j < 7 → defaultValue (tyX4 j) = vp_V [.null, .int 0, .int 0, .int 0, .null, .null, .null] j := fun j hj => match j, hj with
  | 0, _ => rfl
  | 1, _ => rfl
  | 2, _ => rfl
  | 3, _ => rfl
  | 4, _ => rfl
  | 5, _ => rfl
  | 6, _ => rfl
  | k + 7, h => absurd h (by omega)
set_option maxRecDepth 100000 in
theorem ci_RX11_45 : CI RX11 45 yX4_init cX4_init 1 0 := ⟨(TS_p2 71 rfl rfl), (TS_p2 72 rfl rfl), (TS_p1 10 rfl rfl), (TS_p2 73 rfl rfl), rfl, ⟨by decide, by decide, by decide +kernel⟩⟩
set_option maxRecDepth 100000 in
theorem pf_RX11_46 : FPC RX11 46 10 7 (.object "HiccupLane$Parser") true := ⟨RX11, TX11, 9, tyX11, rfl, by decide, iw_RX11, (TS_p2 174 rfl rfl), tyX11_ok, nmX11, rfl, by decide +kernel, rfl⟩
set_option maxRecDepth 100000 in
theorem nw_RX11_50 : Cond.classLink RX11 50 RX9 ∈ TS ∧ Cond.instantiable RX9 4 ∈ TS ∧ Cond.initialized RX9 ∈ TS := ⟨(TS_p2 147 rfl rfl), (TS_p2 148 rfl rfl), (TS_p1 12 rfl rfl)⟩
set_option maxRecDepth 100000 in
theorem df_RX9 : ∀ j, j < 4 → defaultValue (tyX9 j) = vp_V [.null, .null, .null, .null] j := fun j hj => match j, hj with
  | 0, _ => rfl
  | 1, _ => rfl
  | 2, _ => rfl
  | 3, _ => rfl
  | k + 4, h => absurd h (by omega)
set_option maxRecDepth 100000 in
theorem ci_RX11_52 : CI RX11 52 yX9_init cX9_init 1 0 := ⟨(TS_p2 149 rfl rfl), (TS_p2 150 rfl rfl), (TS_p1 12 rfl rfl), (TS_p2 151 rfl rfl), rfl, ⟨by decide, by decide, by decide +kernel⟩⟩
set_option maxRecDepth 100000 in
theorem pf_RX11_53 : FPC RX11 53 10 8 (.object "HiccupLane$Thinker") true := ⟨RX11, TX11, 9, tyX11, rfl, by decide, iw_RX11, (TS_p2 175 rfl rfl), tyX11_ok, nmX11, rfl, by decide +kernel, rfl⟩
set_option maxRecDepth 100000 in
theorem oi_RX12_1 : Cond.methodLink RX12 1 Lib.objectInit ∈ TS ∧ Cond.instanceMethod Lib.objectInit ∈ TS ∧ Cond.code Lib.objectInit ⟨#[0xb1]⟩ 1 none ∈ TS := ⟨(TS_p6 63 rfl rfl), (TS_p1 28 rfl rfl), (TS_p1 29 rfl rfl)⟩
set_option maxRecDepth 100000 in
theorem pf_RX12_7 : FPC RX12 7 11 1 (.array .int) true := ⟨RX12, TX12, 65, tyX12, rfl, by decide, iw_RX12, (TS_p6 65 rfl rfl), tyX12_ok, nmX12, rfl, by decide +kernel, rfl⟩
set_option maxRecDepth 100000 in
theorem pf_RX12_13 : FPC RX12 13 11 2 (.array .int) true := ⟨RX12, TX12, 65, tyX12, rfl, by decide, iw_RX12, (TS_p6 66 rfl rfl), tyX12_ok, nmX12, rfl, by decide +kernel, rfl⟩
set_option maxRecDepth 100000 in
theorem pf_RX12_16 : FPC RX12 16 11 4 (.array .int) true := ⟨RX12, TX12, 65, tyX12, rfl, by decide, iw_RX12, (TS_p6 68 rfl rfl), tyX12_ok, nmX12, rfl, by decide +kernel, rfl⟩
set_option maxRecDepth 100000 in
theorem pf_RX12_19 : FPC RX12 19 11 7 (.array .int) true := ⟨RX12, TX12, 65, tyX12, rfl, by decide, iw_RX12, (TS_p6 71 rfl rfl), tyX12_ok, nmX12, rfl, by decide +kernel, rfl⟩
set_option maxRecDepth 100000 in
theorem pf_RX12_22 : FPC RX12 22 11 8 (.array .int) true := ⟨RX12, TX12, 65, tyX12, rfl, by decide, iw_RX12, (TS_p6 72 rfl rfl), tyX12_ok, nmX12, rfl, by decide +kernel, rfl⟩
set_option maxRecDepth 100000 in
theorem pf_RX12_25 : FPC RX12 25 11 14 (.array .int) true := ⟨RX12, TX12, 65, tyX12, rfl, by decide, iw_RX12, (TS_p6 78 rfl rfl), tyX12_ok, nmX12, rfl, by decide +kernel, rfl⟩
set_option maxRecDepth 100000 in
theorem pf_RX12_28 : FPC RX12 28 11 15 (.array .int) true := ⟨RX12, TX12, 65, tyX12, rfl, by decide, iw_RX12, (TS_p6 79 rfl rfl), tyX12_ok, nmX12, rfl, by decide +kernel, rfl⟩
set_option maxRecDepth 100000 in
theorem pf_RX12_31 : FPC RX12 31 11 16 (.array .int) true := ⟨RX12, TX12, 65, tyX12, rfl, by decide, iw_RX12, (TS_p6 80 rfl rfl), tyX12_ok, nmX12, rfl, by decide +kernel, rfl⟩
set_option maxRecDepth 100000 in
theorem pf_RX12_34 : FPC RX12 34 11 17 (.array .int) true := ⟨RX12, TX12, 65, tyX12, rfl, by decide, iw_RX12, (TS_p6 81 rfl rfl), tyX12_ok, nmX12, rfl, by decide +kernel, rfl⟩
set_option maxRecDepth 100000 in
theorem pf_RX12_37 : FPC RX12 37 11 18 (.array .int) true := ⟨RX12, TX12, 65, tyX12, rfl, by decide, iw_RX12, (TS_p6 82 rfl rfl), tyX12_ok, nmX12, rfl, by decide +kernel, rfl⟩
set_option maxRecDepth 100000 in
theorem pf_RX12_40 : FPC RX12 40 11 19 (.array .int) true := ⟨RX12, TX12, 65, tyX12, rfl, by decide, iw_RX12, (TS_p6 83 rfl rfl), tyX12_ok, nmX12, rfl, by decide +kernel, rfl⟩
set_option maxRecDepth 100000 in
theorem pf_RX12_43 : FPC RX12 43 11 20 (.array .int) true := ⟨RX12, TX12, 65, tyX12, rfl, by decide, iw_RX12, (TS_p6 84 rfl rfl), tyX12_ok, nmX12, rfl, by decide +kernel, rfl⟩
set_option maxRecDepth 100000 in
theorem pf_RX12_46 : FPC RX12 46 11 21 (.array .int) true := ⟨RX12, TX12, 65, tyX12, rfl, by decide, iw_RX12, (TS_p6 85 rfl rfl), tyX12_ok, nmX12, rfl, by decide +kernel, rfl⟩
set_option maxRecDepth 100000 in
theorem pf_RX12_49 : FPC RX12 49 11 25 (.array .int) true := ⟨RX12, TX12, 65, tyX12, rfl, by decide, iw_RX12, (TS_p6 89 rfl rfl), tyX12_ok, nmX12, rfl, by decide +kernel, rfl⟩
set_option maxRecDepth 100000 in
theorem pf_RX12_52 : FPC RX12 52 11 30 (.int) false := ⟨RX12, TX12, 65, tyX12, rfl, by decide, iw_RX12, (TS_p6 94 rfl rfl), tyX12_ok, nmX12, rfl, by decide +kernel, rfl⟩
set_option maxRecDepth 100000 in
theorem pf_RX12_56 : FPC RX12 56 11 32 (.array .int) true := ⟨RX12, TX12, 65, tyX12, rfl, by decide, iw_RX12, (TS_p6 96 rfl rfl), tyX12_ok, nmX12, rfl, by decide +kernel, rfl⟩
set_option maxRecDepth 100000 in
theorem pf_RX12_59 : FPC RX12 59 11 34 (.array .int) true := ⟨RX12, TX12, 65, tyX12, rfl, by decide, iw_RX12, (TS_p6 98 rfl rfl), tyX12_ok, nmX12, rfl, by decide +kernel, rfl⟩
set_option maxRecDepth 100000 in
theorem pf_RX12_62 : FPC RX12 62 11 36 (.array .int) true := ⟨RX12, TX12, 65, tyX12, rfl, by decide, iw_RX12, (TS_p6 100 rfl rfl), tyX12_ok, nmX12, rfl, by decide +kernel, rfl⟩
set_option maxRecDepth 100000 in
theorem pf_RX12_65 : FPC RX12 65 11 37 (.array .int) true := ⟨RX12, TX12, 65, tyX12, rfl, by decide, iw_RX12, (TS_p6 101 rfl rfl), tyX12_ok, nmX12, rfl, by decide +kernel, rfl⟩
set_option maxRecDepth 100000 in
theorem pf_RX12_68 : FPC RX12 68 11 38 (.array .int) true := ⟨RX12, TX12, 65, tyX12, rfl, by decide, iw_RX12, (TS_p6 102 rfl rfl), tyX12_ok, nmX12, rfl, by decide +kernel, rfl⟩
set_option maxRecDepth 100000 in
theorem pf_RX12_71 : FPC RX12 71 11 39 (.array .int) true := ⟨RX12, TX12, 65, tyX12, rfl, by decide, iw_RX12, (TS_p6 103 rfl rfl), tyX12_ok, nmX12, rfl, by decide +kernel, rfl⟩
set_option maxRecDepth 100000 in
theorem pf_RX12_74 : FPC RX12 74 11 41 (.array .int) true := ⟨RX12, TX12, 65, tyX12, rfl, by decide, iw_RX12, (TS_p6 105 rfl rfl), tyX12_ok, nmX12, rfl, by decide +kernel, rfl⟩
set_option maxRecDepth 100000 in
theorem pf_RX12_77 : FPC RX12 77 11 43 (.array .int) true := ⟨RX12, TX12, 65, tyX12, rfl, by decide, iw_RX12, (TS_p6 107 rfl rfl), tyX12_ok, nmX12, rfl, by decide +kernel, rfl⟩
set_option maxRecDepth 100000 in
theorem pf_RX12_80 : FPC RX12 80 11 44 (.array .int) true := ⟨RX12, TX12, 65, tyX12, rfl, by decide, iw_RX12, (TS_p6 108 rfl rfl), tyX12_ok, nmX12, rfl, by decide +kernel, rfl⟩
set_option maxRecDepth 100000 in
theorem pf_RX12_83 : FPC RX12 83 11 45 (.array .int) true := ⟨RX12, TX12, 65, tyX12, rfl, by decide, iw_RX12, (TS_p6 109 rfl rfl), tyX12_ok, nmX12, rfl, by decide +kernel, rfl⟩
set_option maxRecDepth 100000 in
theorem pf_RX12_86 : FPC RX12 86 11 47 (.array .int) true := ⟨RX12, TX12, 65, tyX12, rfl, by decide, iw_RX12, (TS_p6 111 rfl rfl), tyX12_ok, nmX12, rfl, by decide +kernel, rfl⟩
set_option maxRecDepth 100000 in
theorem pf_RX12_89 : FPC RX12 89 11 48 (.array .int) true := ⟨RX12, TX12, 65, tyX12, rfl, by decide, iw_RX12, (TS_p6 112 rfl rfl), tyX12_ok, nmX12, rfl, by decide +kernel, rfl⟩
set_option maxRecDepth 100000 in
theorem pf_RX12_92 : FPC RX12 92 11 49 (.array .int) true := ⟨RX12, TX12, 65, tyX12, rfl, by decide, iw_RX12, (TS_p6 113 rfl rfl), tyX12_ok, nmX12, rfl, by decide +kernel, rfl⟩
set_option maxRecDepth 100000 in
theorem pf_RX12_95 : FPC RX12 95 11 50 (.array .int) true := ⟨RX12, TX12, 65, tyX12, rfl, by decide, iw_RX12, (TS_p6 114 rfl rfl), tyX12_ok, nmX12, rfl, by decide +kernel, rfl⟩
set_option maxRecDepth 100000 in
theorem pf_RX12_98 : FPC RX12 98 11 51 (.array .int) true := ⟨RX12, TX12, 65, tyX12, rfl, by decide, iw_RX12, (TS_p6 115 rfl rfl), tyX12_ok, nmX12, rfl, by decide +kernel, rfl⟩
set_option maxRecDepth 100000 in
theorem pf_RX12_101 : FPC RX12 101 11 53 (.array .int) true := ⟨RX12, TX12, 65, tyX12, rfl, by decide, iw_RX12, (TS_p6 117 rfl rfl), tyX12_ok, nmX12, rfl, by decide +kernel, rfl⟩
set_option maxRecDepth 100000 in
theorem pf_RX12_104 : FPC RX12 104 11 54 (.array .int) true := ⟨RX12, TX12, 65, tyX12, rfl, by decide, iw_RX12, (TS_p6 118 rfl rfl), tyX12_ok, nmX12, rfl, by decide +kernel, rfl⟩
set_option maxRecDepth 100000 in
theorem pf_RX12_107 : FPC RX12 107 11 56 (.array .int) true := ⟨RX12, TX12, 65, tyX12, rfl, by decide, iw_RX12, (TS_p6 120 rfl rfl), tyX12_ok, nmX12, rfl, by decide +kernel, rfl⟩
set_option maxRecDepth 100000 in
theorem pf_RX12_110 : FPC RX12 110 11 57 (.array .int) true := ⟨RX12, TX12, 65, tyX12, rfl, by decide, iw_RX12, (TS_p6 121 rfl rfl), tyX12_ok, nmX12, rfl, by decide +kernel, rfl⟩
set_option maxRecDepth 100000 in
theorem pf_RX12_113 : FPC RX12 113 11 58 (.array .int) true := ⟨RX12, TX12, 65, tyX12, rfl, by decide, iw_RX12, (TS_p6 122 rfl rfl), tyX12_ok, nmX12, rfl, by decide +kernel, rfl⟩
set_option maxRecDepth 100000 in
theorem pf_RX12_116 : FPC RX12 116 11 60 (.array .int) true := ⟨RX12, TX12, 65, tyX12, rfl, by decide, iw_RX12, (TS_p6 124 rfl rfl), tyX12_ok, nmX12, rfl, by decide +kernel, rfl⟩
set_option maxRecDepth 100000 in
theorem pf_RX12_119 : FPC RX12 119 11 64 (.array .int) true := ⟨RX12, TX12, 65, tyX12, rfl, by decide, iw_RX12, (TS_p6 128 rfl rfl), tyX12_ok, nmX12, rfl, by decide +kernel, rfl⟩
