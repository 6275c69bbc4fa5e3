/-! ===== the methods, as functions over memories ===== -/
def st_X0_copyFrom_10 (a0 : Nat) (a1 : Nat) (x2 : Int32) (s : Mem) : Option ((Int32 × Mem) ⊕ (Mem)) :=
  if (s a0 1) ≤ x2 then
  some (.inr (s))
  else
  (rd 14 (s (a1 + 1)) x2).bind fun v2 =>
  (wr 14 s (a0 + 1) x2 v2).bind fun s3 =>
  (rd 14 (s3 (a1 + 2)) x2).bind fun v4 =>
  (wr 14 s3 (a0 + 2) x2 v4).bind fun s5 =>
  (rd 14 (s5 (a1 + 3)) x2).bind fun v6 =>
  (wr 14 s5 (a0 + 3) x2 v6).bind fun s7 =>
  (rd 14 (s7 (a1 + 4)) x2).bind fun v8 =>
  (wr 14 s7 (a0 + 4) x2 v8).bind fun s9 =>
  (rd 14 (s9 (a1 + 5)) x2).bind fun v10 =>
  (wr 14 s9 (a0 + 5) x2 v10).bind fun s11 =>
  (rd 14 (s11 (a1 + 6)) x2).bind fun v12 =>
  (wr 14 s11 (a0 + 6) x2 v12).bind fun s13 =>
  (rd 14 (s13 (a1 + 7)) x2).bind fun v14 =>
  (wr 14 s13 (a0 + 7) x2 v14).bind fun s15 =>
  some (.inl ((x2 + 1), s15))
def f_X0_copyFrom (a0 : Nat) (a1 : Nat) (s : Mem) : Option (Mem) :=
  (it FUEL (fun y => st_X0_copyFrom_10 a0 a1 y.1 y.2) (0, (mset s a0 1 (s a1 1)))).bind fun r16 =>
  some (mset (mset (mset (mset r16 a0 9 (r16 a1 9)) a0 10 ((mset r16 a0 9 (r16 a1 9)) a1 10)) a0 11 ((mset (mset r16 a0 9 (r16 a1 9)) a0 10 ((mset r16 a0 9 (r16 a1 9)) a1 10)) a1 11)) a0 12 ((mset (mset (mset r16 a0 9 (r16 a1 9)) a0 10 ((mset r16 a0 9 (r16 a1 9)) a1 10)) a0 11 ((mset (mset r16 a0 9 (r16 a1 9)) a0 10 ((mset r16 a0 9 (r16 a1 9)) a1 10)) a1 11)) a1 12))
def f_X0_has (a0 : Nat) (x1 : Int32) (s : Mem) : Option (Int32 × Mem) :=
  if x1 < 0 then
  some (0, s)
  else
  if (s a0 1) ≤ x1 then
  some (0, s)
  else
  some (1, s)
def f_X0_welcome (a0 : Nat) (x1 : Int32) (s : Mem) : Option (Int32 × Mem) :=
  if (s a0 1) < 14 then
  (wr 14 s (a0 + 1) (s a0 1) x1).bind fun s2 =>
  (wr 14 s2 (a0 + 2) (s a0 1) 0).bind fun s3 =>
  (wr 14 s3 (a0 + 3) (s a0 1) (-1)).bind fun s4 =>
  (wr 14 s4 (a0 + 4) (s a0 1) 0).bind fun s5 =>
  (wr 14 s5 (a0 + 5) (s a0 1) 0).bind fun s6 =>
  (wr 14 s6 (a0 + 6) (s a0 1) 0).bind fun s7 =>
  (wr 14 s7 (a0 + 7) (s a0 1) 0).bind fun s8 =>
  some ((s a0 1), (mset s8 a0 1 ((s8 a0 1) + 1)))
  else
  some ((-1), s)
def f_X0_hiccup (a0 : Nat) (x1 : Int32) (x2 : Int32) (s : Mem) : Option (Mem) :=
  (wr 14 s (a0 + 2) x1 (jmmax 0 (jmmin 99 x2))).bind fun s1 =>
  (rd 14 (s1 (a0 + 2)) x1).bind fun v2 =>
  if v2 = 0 then
  (wr 14 s1 (a0 + 3) x1 (-1)).bind fun s4 =>
  (wr 14 s4 (a0 + 4) x1 0).bind fun s5 =>
  some s5
  else
  some s1
def f_X0_blame (a0 : Nat) (x1 : Int32) (x2 : Int32) (s : Mem) : Option (Mem) :=
  (wr 14 s (a0 + 3) x1 x2).bind fun s1 =>
  (wr 14 s1 (a0 + 4) x1 0).bind fun s2 =>
  some s2
def st_X0_havers_4 (a0 : Nat) (x1 : Int32) (x2 : Int32) (s : Mem) : Option ((Int32 × Int32 × Mem) ⊕ (Int32 × Mem)) :=
  if (s a0 1) ≤ x2 then
  some (.inr (x1, s))
  else
  (rd 14 (s (a0 + 2)) x2).bind fun v2 =>
  if v2 ≤ 0 then
  some (.inl (x1, (x2 + 1), s))
  else
  some (.inl ((x1 ||| (1 <<< (x2 &&& 31))), (x2 + 1), s))
def f_X0_havers (a0 : Nat) (s : Mem) : Option (Int32 × Mem) :=
  (it FUEL (fun y => st_X0_havers_4 a0 y.1 y.2.1 y.2.2) (0, 0, s)).bind fun r4 =>
  some (r4.1, r4.2)
def st_X0_sum_4 (a0 : Nat) (a1 : Nat) (n1 : Nat) (x2 : Int32) (x3 : Int32) (s : Mem) : Option ((Int32 × Int32 × Mem) ⊕ (Int32 × Mem)) :=
  if (s a0 1) ≤ x3 then
  some (.inr (x2, s))
  else
  if (Int32.ofNat n1) ≤ x3 then
  some (.inr (x2, s))
  else
  (rd n1 (s a1) x3).bind fun v3 =>
  some (.inl ((x2 + v3), (x3 + 1), s))
def f_X0_sum (a0 : Nat) (a1 : Nat) (n1 : Nat) (s : Mem) : Option (Int32 × Mem) :=
  (it FUEL (fun y => st_X0_sum_4 a0 a1 n1 y.1 y.2.1 y.2.2) (0, 0, s)).bind fun r4 =>
  some (r4.1, r4.2)
def st_X0_stepsBack_12 (a0 : Nat) (x2 : Int32) (x3 : Int32) (x4 : Int32) (x5 : Int32) (s : Mem) : Option ((Int32 × Int32 × Int32 × Int32 × Mem) ⊕ (Nat × Int32 × Mem)) :=
  if 14 ≤ x5 then
  some (.inr (1, x2, s))
  else
  (rd 14 (s (a0 + 3)) x3).bind fun v2 =>
  (f_X0_has a0 v2 s).bind fun r3 =>
  if r3.1 = 0 then
  some (.inr (1, x2, r3.2))
  else
  (rd 14 (r3.2 (a0 + 3)) x3).bind fun v5 =>
  if ((x4 >>> (v5 &&& 31)) &&& 1) = 1 then
  some (.inr (0, (x2 + 1), r3.2))
  else
  some (.inl ((x2 + 1), v5, (x4 ||| (1 <<< (v5 &&& 31))), (x5 + 1), r3.2))
def f_X0_stepsBack (a0 : Nat) (x1 : Int32) (s : Mem) : Option (Int32 × Mem) :=
  (it FUEL (fun y => st_X0_stepsBack_12 a0 y.1 y.2.1 y.2.2.1 y.2.2.2.1 y.2.2.2.2) (0, x1, (1 <<< (x1 &&& 31)), 0, s)).bind fun r7 =>
  if r7.1 = 0 then some (r7.2.1, r7.2.2) else some (r7.2.1, r7.2.2)
def f_X0_told (a0 : Nat) (x1 : Int32) (x2 : Int32) (s : Mem) : Option (Int32 × Mem) :=
  if x2 = 0 then
  (rd 14 (s (a0 + 1)) x1).bind fun v2 =>
  some (v2, s)
  else if x2 = 1 then
  (rd 14 (s (a0 + 2)) x1).bind fun v4 =>
  some (v4, s)
  else if x2 = 2 then
  (rd 14 (s (a0 + 3)) x1).bind fun v6 =>
  some (v6, s)
  else if x2 = 3 then
  (rd 14 (s (a0 + 4)) x1).bind fun v8 =>
  some (v8, s)
  else if x2 = 4 then
  (rd 14 (s (a0 + 5)) x1).bind fun v10 =>
  some (v10, s)
  else if x2 = 5 then
  (rd 14 (s (a0 + 6)) x1).bind fun v12 =>
  some (v12, s)
  else 
  (rd 14 (s (a0 + 7)) x1).bind fun v13 =>
  some (v13, s)
def f_X0_draw (a0 : Nat) (x1 : Int32) (s : Mem) : Option (Int32 × Mem) :=
  if x1 ≤ 0 then
  some (0, (mset s a0 11 (((s a0 11) * 1664525) + 1013904223)))
  else
  if x1 = 0 then none else
  some (((ush ((mset s a0 11 (((s a0 11) * 1664525) + 1013904223)) a0 11) 8) % x1), (mset s a0 11 (((s a0 11) * 1664525) + 1013904223)))
def f_X1_copyFrom (a0 : Nat) (a1 : Nat) (s : Mem) : Option (Mem) :=
  (cpy 16 16 (mset (mset s a0 0 (s a1 0)) a0 1 ((mset s a0 0 (s a1 0)) a1 1)) (a1 + 1) 0 (a0 + 1) 0 16).bind fun s1 =>
  (cpy 16 16 s1 (a1 + 2) 0 (a0 + 2) 0 16).bind fun s2 =>
  (cpy 16 16 s2 (a1 + 3) 0 (a0 + 3) 0 16).bind fun s3 =>
  (cpy 16 16 s3 (a1 + 4) 0 (a0 + 4) 0 16).bind fun s4 =>
  (cpy 400 400 s4 (a1 + 5) 0 (a0 + 5) 0 (s4 a0 1)).bind fun s5 =>
  some s5
def f_X1_clear (a0 : Nat) (s : Mem) : Option (Mem) :=
  some (mset (mset s a0 0 0) a0 1 0)
def f_X1_beginLine (a0 : Nat) (x1 : Int32) (s : Mem) : Option (Mem) :=
  if 16 ≤ (s a0 0) then
  some s
  else
  (wr 16 s (a0 + 1) (s a0 0) x1).bind fun s2 =>
  (wr 16 s2 (a0 + 2) (s2 a0 0) (s2 a0 1)).bind fun s3 =>
  some s3
def f_X1_beginWhen (a0 : Nat) (s : Mem) : Option (Mem) :=
  if 16 ≤ (s a0 0) then
  some s
  else
  (wr 16 s (a0 + 3) (s a0 0) (s a0 1)).bind fun s2 =>
  some s2
def f_X1_endLine (a0 : Nat) (s : Mem) : Option (Mem) :=
  if 16 ≤ (s a0 0) then
  some s
  else
  (wr 16 s (a0 + 4) (s a0 0) (s a0 1)).bind fun s2 =>
  some (mset s2 a0 0 ((s2 a0 0) + 1))
def f_X1_emit (a0 : Nat) (x1 : Int32) (s : Mem) : Option (Mem) :=
  if 400 ≤ (s a0 1) then
  some s
  else
  (wr 400 s (a0 + 5) (s a0 1) x1).bind fun s2 =>
  some (mset s2 a0 1 ((s2 a0 1) + 1))
def f_J6_bitCount_0f7a4 (x0 : Int32) (s : Mem) : Option (Int32 × Mem) :=
  some (((((((((x0 - ((ush x0 1) &&& 1431655765)) &&& 858993459) + ((ush (x0 - ((ush x0 1) &&& 1431655765)) 2) &&& 858993459)) + (ush (((x0 - ((ush x0 1) &&& 1431655765)) &&& 858993459) + ((ush (x0 - ((ush x0 1) &&& 1431655765)) 2) &&& 858993459)) 4)) &&& 252645135) + (ush (((((x0 - ((ush x0 1) &&& 1431655765)) &&& 858993459) + ((ush (x0 - ((ush x0 1) &&& 1431655765)) 2) &&& 858993459)) + (ush (((x0 - ((ush x0 1) &&& 1431655765)) &&& 858993459) + ((ush (x0 - ((ush x0 1) &&& 1431655765)) 2) &&& 858993459)) 4)) &&& 252645135) 8)) + (ush ((((((x0 - ((ush x0 1) &&& 1431655765)) &&& 858993459) + ((ush (x0 - ((ush x0 1) &&& 1431655765)) 2) &&& 858993459)) + (ush (((x0 - ((ush x0 1) &&& 1431655765)) &&& 858993459) + ((ush (x0 - ((ush x0 1) &&& 1431655765)) 2) &&& 858993459)) 4)) &&& 252645135) + (ush (((((x0 - ((ush x0 1) &&& 1431655765)) &&& 858993459) + ((ush (x0 - ((ush x0 1) &&& 1431655765)) 2) &&& 858993459)) + (ush (((x0 - ((ush x0 1) &&& 1431655765)) &&& 858993459) + ((ush (x0 - ((ush x0 1) &&& 1431655765)) 2) &&& 858993459)) 4)) &&& 252645135) 8)) 16)) &&& 63), s)
def f_X1_fact (a1 : Nat) (x0 : Int32) (x2 : Int32) (s : Mem) : Option (Int32 × Mem) :=
  if x0 = 0 then
  (rd 14 (s (a1 + 1)) x2).bind fun v2 =>
  some (v2, s)
  else if x0 = 1 then
  (rd 14 (s (a1 + 2)) x2).bind fun v4 =>
  some (v4, s)
  else if x0 = 2 then
  (rd 14 (s (a1 + 4)) x2).bind fun v6 =>
  (f_J6_bitCount_0f7a4 v6 s).bind fun r7 =>
  some (r7.1, r7.2)
  else if x0 = 3 then
  (rd 14 (s (a1 + 5)) x2).bind fun v9 =>
  some (v9, s)
  else if x0 = 4 then
  (rd 14 (s (a1 + 6)) x2).bind fun v11 =>
  some (v11, s)
  else if x0 = 5 then
  (rd 14 (s (a1 + 7)) x2).bind fun v13 =>
  some (v13, s)
  else if x0 = 6 then
  (rd 14 (s (a1 + 3)) x2).bind fun v15 =>
  if v15 = (-1) then
  some (0, s)
  else
  (rd 14 (s (a1 + 3)) x2).bind fun v17 =>
  some ((jabs (v17 - x2)), s)
  else 
  some ((s a1 10), s)
def f_X1_joined (x0 : Int32) (x1 : Int32) (x2 : Int32) (s : Mem) : Option (Int32 × Mem) :=
  if x0 = 20000 then
  some ((x1 + x2), s)
  else if x0 = 20001 then
  some ((x1 - x2), s)
  else if x0 = 20002 then
  some ((x1 * x2), s)
  else if x0 = 20003 then
  if x2 = 0 then
  some (0, s)
  else
  if x2 = 0 then none else
  some ((x1 / x2), s)
  else if x0 = 20004 then
  if x2 ≤ x1 then
  some (0, s)
  else
  some (1, s)
  else if x0 = 20005 then
  if x1 = x2 then
  some (1, s)
  else
  some (0, s)
  else if x0 = 20006 then
  if x1 ≤ x2 then
  some (0, s)
  else
  some (1, s)
  else if x0 = 20007 then
  some ((x1 &&& x2), s)
  else 
  some ((x1 ||| x2), s)
def jn_X1_value_121 (a0 : Nat) (a3 : Nat) (x2 : Int32) (x4 : Int32) (x5 : Int32) (x6 : Int32) (t1 : Int32) (t2 : Int32) (s : Mem) : Option ((Int32 × Int32 × Mem) ⊕ (Int32 × Mem)) :=
  (wr 64 s (a0 + 6) t1 t2).bind fun s14 =>
  some (.inl (x5, (x6 + 1), s14))
def jn_X1_value_76 (a0 : Nat) (a3 : Nat) (x2 : Int32) (x4 : Int32) (x5 : Int32) (x6 : Int32) (t1 : Int32) (t2 : Int32) (s : Mem) : Option ((Int32 × Int32 × Mem) ⊕ (Int32 × Mem)) :=
  (wr 64 s (a0 + 6) t1 t2).bind fun s18 =>
  some (.inl ((x5 + 1), (x6 + 1), s18))
def st_X1_value_6 (a0 : Nat) (a3 : Nat) (x2 : Int32) (x4 : Int32) (x5 : Int32) (x6 : Int32) (s : Mem) : Option ((Int32 × Int32 × Mem) ⊕ (Int32 × Mem)) :=
  if x2 ≤ x6 then
  some (.inr (x5, s))
  else
  if (s a0 1) ≤ x6 then
  some (.inr (x5, s))
  else
  (rd 400 (s (a0 + 5)) x6).bind fun v3 =>
  if 20000 ≤ v3 then
  if v3 = 20009 then
  if x5 ≤ 0 then
  some (.inl (x5, (x6 + 1), s))
  else
  (rd 64 (s (a0 + 6)) (x5 - 1)).bind fun v12 =>
  if v12 = 0 then
  jn_X1_value_121 a0 a3 x2 x4 x5 x6 (x5 - 1) 1 s
  else
  jn_X1_value_121 a0 a3 x2 x4 x5 x6 (x5 - 1) 0 s
  else
  if x5 ≤ 1 then
  some (.inl (x5, (x6 + 1), s))
  else
  (rd 64 (s (a0 + 6)) ((x5 + (-1)) - 1)).bind fun v7 =>
  (rd 64 (s (a0 + 6)) (x5 + (-1))).bind fun v8 =>
  (f_X1_joined v3 v7 v8 s).bind fun r9 =>
  (wr 64 r9.2 (a0 + 6) ((x5 + (-1)) - 1) r9.1).bind fun s10 =>
  some (.inl ((x5 + (-1)), (x6 + 1), s10))
  else
  if 64 ≤ x5 then
  some (.inl (x5, (x6 + 1), s))
  else
  if 10000 ≤ v3 then
  (f_X1_fact a3 (v3 - 10000) x4 s).bind fun r17 =>
  jn_X1_value_76 a0 a3 x2 x4 x5 x6 x5 r17.1 r17.2
  else
  jn_X1_value_76 a0 a3 x2 x4 x5 x6 x5 v3 s
def jn_X1_value_170 (a0 : Nat) (a3 : Nat) (x5 : Int32) (s : Mem) : Option (Int32 × Mem) :=
  if x5 ≤ 0 then
  some (0, s)
  else
  (rd 64 (s (a0 + 6)) (x5 - 1)).bind fun v21 =>
  some (v21, s)
def f_X1_value (a0 : Nat) (a3 : Nat) (x1 : Int32) (x2 : Int32) (x4 : Int32) (s : Mem) : Option (Int32 × Mem) :=
  (it FUEL (fun y => st_X1_value_6 a0 a3 x2 x4 y.1 y.2.1 y.2.2) (0, x1, s)).bind fun r19 =>
  jn_X1_value_170 a0 a3 r19.1 r19.2
def f_X1_bound (x0 : Int32) (x1 : Int32) (s : Mem) : Option (Int32 × Mem) :=
  if x0 = 0 then
  some ((jmmax 1 (jmmin 99 x1)), s)
  else if x0 = 1 then
  some ((jmmax 0 (jmmin 1000 x1)), s)
  else 
  some ((jmmax 0 (jmmin 99 x1)), s)
def st_X1_ask_3 (a0 : Nat) (a2 : Nat) (x1 : Int32) (x3 : Int32) (x4 : Int32) (s : Mem) : Option ((Int32 × Mem) ⊕ (Nat × Int32 × Mem)) :=
  if (s a0 0) ≤ x4 then
  some (.inr (1, 0, s))
  else
  (rd 16 (s (a0 + 1)) x4).bind fun v2 =>
  if v2 = x1 then
  (rd 16 (s (a0 + 3)) x4).bind fun v4 =>
  (rd 16 (s (a0 + 4)) x4).bind fun v5 =>
  if v4 = v5 then
  some (.inr (0, x4, s))
  else
  (rd 16 (s (a0 + 3)) x4).bind fun v7 =>
  (rd 16 (s (a0 + 4)) x4).bind fun v8 =>
  (f_X1_value a0 a2 v7 v8 x3 s).bind fun r9 =>
  if r9.1 = 0 then
  some (.inl ((x4 + 1), r9.2))
  else
  some (.inr (0, x4, r9.2))
  else
  some (.inl ((x4 + 1), s))
def jn_X1_ask_63 (a0 : Nat) (a2 : Nat) (x1 : Int32) (x3 : Int32) (x4 : Int32) (s : Mem) : Option (Int32 × Mem) :=
  (rd 16 (s (a0 + 2)) x4).bind fun v12 =>
  (rd 16 (s (a0 + 3)) x4).bind fun v13 =>
  (f_X1_value a0 a2 v12 v13 x3 s).bind fun r14 =>
  (f_X1_bound x1 r14.1 r14.2).bind fun r15 =>
  some (r15.1, r15.2)
def f_X1_ask (a0 : Nat) (a2 : Nat) (x1 : Int32) (x3 : Int32) (s : Mem) : Option (Int32 × Mem) :=
  (it FUEL (fun y => st_X1_ask_3 a0 a2 x1 x3 y.1 y.2) (0, s)).bind fun r11 =>
  if r11.1 = 0 then jn_X1_ask_63 a0 a2 x1 x3 r11.2.1 r11.2.2 else if x1 = 0 then
  (rd 14 (r11.2.2 (a2 + 1)) x3).bind fun v17 =>
  (f_X1_bound 0 (20 - v17) r11.2.2).bind fun r18 =>
  some (r18.1, r18.2)
  else if x1 = 1 then
  (rd 14 (r11.2.2 (a2 + 1)) x3).bind fun v20 =>
  (f_X1_bound 1 (50 + (20 * v20)) r11.2.2).bind fun r21 =>
  some (r21.1, r21.2)
  else 
  (rd 14 (r11.2.2 (a2 + 2)) x3).bind fun v22 =>
  (f_X1_bound 2 (v22 / 2) r11.2.2).bind fun r23 =>
  some (r23.1, r23.2)
def st_X2_turned_6 (x1 : Int32) (x2 : Int32) (x3 : Int32) (s : Mem) : Option ((Int32 × Int32 × Int32 × Mem) ⊕ (Nat × Int32 × Mem)) :=
  if 6 ≤ x3 then
  some (.inr (1, x1, s))
  else
  if x2 ≤ 0 then
  some (.inr (1, x1, s))
  else
  (rd 10 tuF (x2 % 10)).bind fun v3 =>
  if v3 = (-1) then
  some (.inr (0, 0, s))
  else
  some (.inl (((x1 * 10) + v3), (x2 / 10), (x3 + 1), s))
def f_X2_turned (x0 : Int32) (s : Mem) : Option (Int32 × Mem) :=
  (it FUEL (fun y => st_X2_turned_6 y.1 y.2.1 y.2.2.1 y.2.2.2) (0, x0, 0, s)).bind fun r5 =>
  if r5.1 = 0 then some ((-1), r5.2.2) else some (r5.2.1, r5.2.2)
def st_X2_mirrored_33 (x2 : Int32) (x3 : Int32) (x4 : Int32) (s : Mem) : Option ((Int32 × Int32 × Int32 × Mem) ⊕ (Nat × Int32 × Mem)) :=
  if 3 ≤ x4 then
  some (.inr (1, x3, s))
  else
  if x2 ≤ 0 then
  some (.inr (1, x3, s))
  else
  (rd 10 tuF (x2 % 10)).bind fun v4 =>
  if v4 = (-1) then
  some (.inr (0, 0, s))
  else
  some (.inl ((x2 / 10), ((x3 * 10) + v4), (x4 + 1), s))
def jn_X2_mirrored_28 (x0 : Int32) (x2 : Int32) (s : Mem) : Option (Int32 × Mem) :=
  (it FUEL (fun y => st_X2_mirrored_33 y.1 y.2.1 y.2.2.1 y.2.2.2) (x2, x0, 0, s)).bind fun r6 =>
  if r6.1 = 0 then some ((-1), r6.2.2) else some (r6.2.1, r6.2.2)
def f_X2_mirrored (x0 : Int32) (x1 : Int32) (s : Mem) : Option (Int32 × Mem) :=
  if x1 = 0 then
  jn_X2_mirrored_28 x0 x0 s
  else
  (rd 10 tuF (x0 % 10)).bind fun v7 =>
  if v7 = (x0 % 10) then
  jn_X2_mirrored_28 x0 (x0 / 10) s
  else
  some ((-1), s)
def jn_X2_evenTurnedAbove_34 (x0 : Int32) (x1 : Int32) (x2 : Int32) (s : Mem) : Option ((Int32 × Int32 × Mem) ⊕ (Int32 × Mem)) :=
  (f_X2_mirrored x2 0 s).bind fun r4 =>
  if r4.1 ≤ x0 then
  some (.inl (x1, (x2 + 1), r4.2))
  else
  if x1 = (-1) then
  some (.inl (r4.1, (x2 + 1), r4.2))
  else
  if x1 ≤ r4.1 then
  some (.inl (x1, (x2 + 1), r4.2))
  else
  some (.inl (r4.1, (x2 + 1), r4.2))
def jn_X2_evenTurnedAbove_32 (x0 : Int32) (x2 : Int32) (x3 : Int32) (s : Mem) : Option ((Int32 × Int32 × Mem) ⊕ (Int32 × Mem)) :=
  jn_X2_evenTurnedAbove_34 x0 x3 x2 s
def st_X2_evenTurnedAbove_4 (x0 : Int32) (x1 : Int32) (x2 : Int32) (s : Mem) : Option ((Int32 × Int32 × Mem) ⊕ (Int32 × Mem)) :=
  if 1000 ≤ x2 then
  some (.inr (x1, s))
  else
  (f_X2_mirrored x2 1 s).bind fun r2 =>
  if r2.1 ≤ x0 then
  jn_X2_evenTurnedAbove_34 x0 x1 x2 r2.2
  else
  if x1 = (-1) then
  jn_X2_evenTurnedAbove_32 x0 x2 r2.1 r2.2
  else
  if x1 ≤ r2.1 then
  jn_X2_evenTurnedAbove_34 x0 x1 x2 r2.2
  else
  jn_X2_evenTurnedAbove_32 x0 x2 r2.1 r2.2
def f_X2_evenTurnedAbove (x0 : Int32) (s : Mem) : Option (Int32 × Mem) :=
  (it FUEL (fun y => st_X2_evenTurnedAbove_4 x0 y.1 y.2.1 y.2.2) ((-1), 0, s)).bind fun r10 =>
  some (r10.1, r10.2)
def jn_X2_evenTurnedUpTo_30 (x0 : Int32) (x1 : Int32) (x2 : Int32) (s : Mem) : Option ((Int32 × Int32 × Mem) ⊕ (Int32 × Mem)) :=
  (f_X2_mirrored x2 0 s).bind fun r4 =>
  if r4.1 = (-1) then
  some (.inl (x1, (x2 + 1), r4.2))
  else
  if x0 < r4.1 then
  some (.inl (x1, (x2 + 1), r4.2))
  else
  if x2 ≤ 0 then
  some (.inl (x1, (x2 + 1), r4.2))
  else
  some (.inl ((x1 + 1), (x2 + 1), r4.2))
def st_X2_evenTurnedUpTo_4 (x0 : Int32) (x1 : Int32) (x2 : Int32) (s : Mem) : Option ((Int32 × Int32 × Mem) ⊕ (Int32 × Mem)) :=
  if 1000 ≤ x2 then
  some (.inr (x1, s))
  else
  (f_X2_mirrored x2 1 s).bind fun r2 =>
  if r2.1 = (-1) then
  jn_X2_evenTurnedUpTo_30 x0 x1 x2 r2.2
  else
  if x0 < r2.1 then
  jn_X2_evenTurnedUpTo_30 x0 x1 x2 r2.2
  else
  jn_X2_evenTurnedUpTo_30 x0 (x1 + 1) x2 r2.2
def f_X2_evenTurnedUpTo (x0 : Int32) (s : Mem) : Option (Int32 × Mem) :=
  (it FUEL (fun y => st_X2_evenTurnedUpTo_4 x0 y.1 y.2.1 y.2.2) (0, 0, s)).bind fun r9 =>
  some (r9.1, r9.2)
def jn_X2_digitCount_81 (x0 : Int32) (x1 : Int32) (x3 : Int32) (t0 : Int32) (t1 : Int32) (t2 : Int32) (s : Mem) : Option ((Int32 × Int32 × Mem) ⊕ (Int32 × Mem)) :=
  some (.inl ((t0 + (t1 + t2)), (x3 * 10), s))
def jn_X2_digitCount_45 (x0 : Int32) (x1 : Int32) (x2 : Int32) (x3 : Int32) (x5 : Int32) (x6 : Int32) (t0 : Int32) (s : Mem) : Option ((Int32 × Int32 × Mem) ⊕ (Int32 × Mem)) :=
  if t0 < 0 then
  some (.inl (x2, (x3 * 10), s))
  else
  if x5 ≤ x1 then
  if x5 = x1 then
  jn_X2_digitCount_81 x0 x1 x3 x2 (t0 * x3) (x6 + 1) s
  else
  jn_X2_digitCount_81 x0 x1 x3 x2 (t0 * x3) 0 s
  else
  jn_X2_digitCount_81 x0 x1 x3 x2 (t0 * x3) x3 s
def st_X2_digitCount_4 (x0 : Int32) (x1 : Int32) (x2 : Int32) (x3 : Int32) (s : Mem) : Option ((Int32 × Int32 × Mem) ⊕ (Int32 × Mem)) :=
  if 1000 < x3 then
  some (.inr (x2, s))
  else
  if x3 = 0 then none else
  if x3 = 0 then none else
  if x3 = 0 then none else
  if x1 = 0 then
  jn_X2_digitCount_45 x0 x1 x2 x3 ((x0 / x3) % 10) (x0 % x3) (((x0 / x3) / 10) - 1) s
  else
  jn_X2_digitCount_45 x0 x1 x2 x3 ((x0 / x3) % 10) (x0 % x3) ((x0 / x3) / 10) s
def f_X2_digitCount (x0 : Int32) (x1 : Int32) (s : Mem) : Option (Int32 × Mem) :=
  (it FUEL (fun y => st_X2_digitCount_4 x0 x1 y.1 y.2.1 y.2.2) (0, 1, s)).bind fun r9 =>
  some (r9.1, r9.2)
def st_X2_digitOf_4 (x1 : Int32) (x2 : Int32) (x3 : Int32) (s : Mem) : Option ((Int32 × Int32 × Mem) ⊕ (Int32 × Mem)) :=
  if x1 ≤ x3 then
  some (.inr (x2, s))
  else
  some (.inl ((x2 / 10), (x3 + 1), s))
def f_X2_digitOf (x0 : Int32) (x1 : Int32) (s : Mem) : Option (Int32 × Mem) :=
  (it FUEL (fun y => st_X2_digitOf_4 x1 y.1 y.2.1 y.2.2) (x0, 0, s)).bind fun r2 =>
  some ((r2.1 % 10), r2.2)
def st_X2_digitAt_7 (x0 : Int32) (x2 : Int32) (x3 : Int32) (x4 : Int32) (s : Mem) : Option ((Int32 × Int32 × Int32 × Mem) ⊕ (Nat × Int32 × Int32 × Int32 × Mem)) :=
  if 4 < x4 then
  some (.inr (1, 0, 0, 0, s))
  else
  if x0 < x3 then
  some (.inr (1, 0, 0, 0, s))
  else
  if ((((jmmin x0 ((x3 * 10) - 1)) - x3) + 1) * x4) ≤ x2 then
  some (.inl ((x2 - ((((jmmin x0 ((x3 * 10) - 1)) - x3) + 1) * x4)), (x3 * 10), (x4 + 1), s))
  else
  some (.inr (0, x2, x3, x4, s))
def f_X2_digitAt (x0 : Int32) (x1 : Int32) (s : Mem) : Option (Int32 × Mem) :=
  (it FUEL (fun y => st_X2_digitAt_7 x0 y.1 y.2.1 y.2.2.1 y.2.2.2) (x1, 1, 1, s)).bind fun r4 =>
  if r4.1 = 0 then if r4.2.2.2.1 = 0 then none else
  if r4.2.2.2.1 = 0 then none else
  (f_X2_digitOf (r4.2.2.1 + (r4.2.1 / r4.2.2.2.1)) ((r4.2.2.2.1 - 1) - (r4.2.1 % r4.2.2.2.1)) r4.2.2.2.2).bind fun r7 =>
  some (r7.1, r7.2) else some ((-1), r4.2.2.2.2)
def f_X2_hasBeat (x0 : Int32) (x1 : Int32) (x2 : Int32) (s : Mem) : Option (Int32 × Mem) :=
  if x1 ≤ 0 then
  some (0, s)
  else
  if x1 = 0 then none else
  if x0 ≤ ((x2 * x0) % x1) then
  some (0, s)
  else
  some (1, s)
def st_X2_longestWay_13 (x0 : Int32) (x1 : Int32) (x2 : Int32) (x3 : Int32) (x4 : Int32) (s : Mem) : Option ((Int32 × Int32 × Int32 × Mem) ⊕ (Int32 × Mem)) :=
  if x1 < x4 then
  some (.inr (x2, s))
  else
  (f_X2_hasBeat x0 x1 x4 s).bind fun r3 =>
  if r3.1 = 0 then
  some (.inl (x2, x3, (x4 + 1), r3.2))
  else
  some (.inl ((jmmax x2 (x4 - x3)), x4, (x4 + 1), r3.2))
def f_X2_longestWay (x0 : Int32) (x1 : Int32) (s : Mem) : Option (Int32 × Mem) :=
  if x0 = 0 then
  some (0, s)
  else
  (it FUEL (fun y => st_X2_longestWay_13 x0 x1 y.1 y.2.1 y.2.2.1 y.2.2.2) (0, 0, 1, s)).bind fun r5 =>
  some (r5.1, r5.2)
def st_X2_digitSum_7 (x1 : Int32) (x2 : Int32) (x3 : Int32) (x4 : Int32) (s : Mem) : Option ((Int32 × Int32 × Int32 × Mem) ⊕ (Int32 × Mem)) :=
  if 32 ≤ x4 then
  some (.inr (x2, s))
  else
  if x3 ≤ 0 then
  some (.inr (x2, s))
  else
  if x1 ≤ 1 then
  some (.inr (x2, s))
  else
  if x1 = 0 then none else
  if x1 = 0 then none else
  some (.inl ((x2 + (x3 % x1)), (x3 / x1), (x4 + 1), s))
def f_X2_digitSum (x0 : Int32) (x1 : Int32) (s : Mem) : Option (Int32 × Mem) :=
  (it FUEL (fun y => st_X2_digitSum_7 x1 y.1 y.2.1 y.2.2.1 y.2.2.2) (0, x0, 0, s)).bind fun r6 =>
  some (r6.1, r6.2)
def st_X2_readsAlike_7 (x0 : Int32) (x1 : Int32) (x2 : Int32) (x3 : Int32) (x4 : Int32) (s : Mem) : Option ((Int32 × Int32 × Int32 × Mem) ⊕ (Int32 × Mem)) :=
  if 32 ≤ x4 then
  some (.inr (x2, s))
  else
  if x3 ≤ 0 then
  some (.inr (x2, s))
  else
  if x1 ≤ 1 then
  some (.inr (x2, s))
  else
  if x1 = 0 then none else
  if x1 = 0 then none else
  some (.inl (((x2 * x1) + (x3 % x1)), (x3 / x1), (x4 + 1), s))
def jn_X2_readsAlike_41 (x0 : Int32) (x2 : Int32) (s : Mem) : Option (Int32 × Mem) :=
  if x2 = x0 then
  some (1, s)
  else
  some (0, s)
def f_X2_readsAlike (x0 : Int32) (x1 : Int32) (s : Mem) : Option (Int32 × Mem) :=
  (it FUEL (fun y => st_X2_readsAlike_7 x0 x1 y.1 y.2.1 y.2.2.1 y.2.2.2) (0, x0, 0, s)).bind fun r6 =>
  jn_X2_readsAlike_41 x0 r6.1 r6.2
def st_X2_leastAlikeBase_2 (x0 : Int32) (x1 : Int32) (s : Mem) : Option ((Int32 × Mem) ⊕ (Nat × Int32 × Mem)) :=
  if 16 < x1 then
  some (.inr (1, 0, s))
  else
  (f_X2_readsAlike x0 x1 s).bind fun r2 =>
  if r2.1 = 0 then
  some (.inl ((x1 + 1), r2.2))
  else
  some (.inr (0, x1, r2.2))
def f_X2_leastAlikeBase (x0 : Int32) (s : Mem) : Option (Int32 × Mem) :=
  (it FUEL (fun y => st_X2_leastAlikeBase_2 x0 y.1 y.2) (2, s)).bind fun r4 =>
  if r4.1 = 0 then some (r4.2.1, r4.2.2) else some ((-1), r4.2.2)
def st_X2_isSquare_2 (x0 : Int32) (x1 : Int32) (s : Mem) : Option ((Int32 × Mem) ⊕ (Nat × Mem)) :=
  if 100 < x1 then
  some (.inr (1, s))
  else
  if (x1 * x1) = x0 then
  some (.inr (0, s))
  else
  some (.inl ((x1 + 1), s))
def f_X2_isSquare (x0 : Int32) (s : Mem) : Option (Int32 × Mem) :=
  (it FUEL (fun y => st_X2_isSquare_2 x0 y.1 y.2) (1, s)).bind fun r3 =>
  if r3.1 = 0 then some (1, r3.2) else some (0, r3.2)
def st_X2_waysOfTwoSquares_12 (x0 : Int32) (x1 : Int32) (x3 : Int32) (x2 : Int32) (s : Mem) : Option ((Int32 × Mem) ⊕ (Int32 × Mem)) :=
  if x2 ≤ x3 then
  some (.inr (x2, s))
  else
  if ((x3 * x3) + (x2 * x2)) ≤ x0 then
  some (.inr (x2, s))
  else
  some (.inl ((x2 + (-1)), s))
def jn_X2_waysOfTwoSquares_34 (x0 : Int32) (x1 : Int32) (x2 : Int32) (x3 : Int32) (s : Mem) : Option ((Int32 × Int32 × Int32 × Mem) ⊕ (Int32 × Mem)) :=
  if ((x3 * x3) + (x2 * x2)) = x0 then
  some (.inl ((x1 + 1), x2, (x3 + 1), s))
  else
  some (.inl (x1, x2, (x3 + 1), s))
def st_X2_waysOfTwoSquares_7 (x0 : Int32) (x1 : Int32) (x2 : Int32) (x3 : Int32) (s : Mem) : Option ((Int32 × Int32 × Int32 × Mem) ⊕ (Int32 × Mem)) :=
  if x2 < x3 then
  some (.inr (x1, s))
  else
  (it FUEL (fun y => st_X2_waysOfTwoSquares_12 x0 x1 x3 y.1 y.2) (x2, s)).bind fun r4 =>
  jn_X2_waysOfTwoSquares_34 x0 x1 r4.1 x3 r4.2
def f_X2_waysOfTwoSquares (x0 : Int32) (s : Mem) : Option (Int32 × Mem) :=
  (it FUEL (fun y => st_X2_waysOfTwoSquares_7 x0 y.1 y.2.1 y.2.2.1 y.2.2.2) (0, 100, 0, s)).bind fun r6 =>
  some (r6.1, r6.2)
def st_X2_fewestSquares_22 (x1 : Int32) (x2 : Int32) (s : Mem) : Option ((Int32 × Int32 × Mem) ⊕ (Int32 × Mem)) :=
  if 16 ≤ x2 then
  some (.inr (x1, s))
  else
  if (x1 % 4) = 0 then
  some (.inl ((x1 / 4), (x2 + 1), s))
  else
  some (.inr (x1, s))
def jn_X2_fewestSquares_44 (x1 : Int32) (s : Mem) : Option (Int32 × Mem) :=
  if (x1 % 8) = 7 then
  some (4, s)
  else
  some (3, s)
def f_X2_fewestSquares (x0 : Int32) (s : Mem) : Option (Int32 × Mem) :=
  (f_X2_isSquare x0 s).bind fun r1 =>
  if r1.1 = 0 then
  (f_X2_waysOfTwoSquares x0 r1.2).bind fun r3 =>
  if r3.1 ≤ 0 then
  (it FUEL (fun y => st_X2_fewestSquares_22 y.1 y.2.1 y.2.2) (x0, 0, r3.2)).bind fun r7 =>
  jn_X2_fewestSquares_44 r7.1 r7.2
  else
  some (2, r3.2)
  else
  some (1, r1.2)
def f_X3_copyFrom (a0 : Nat) (a1 : Nat) (s : Mem) : Option (Mem) :=
  (cpy 16 16 (mset s a0 0 (s a1 0)) (a1 + 1) 0 (a0 + 1) 0 16).bind fun s1 =>
  (cpy 16 16 s1 (a1 + 2) 0 (a0 + 2) 0 16).bind fun s2 =>
  (cpy 96 96 s2 (a1 + 3) 0 (a0 + 3) 0 96).bind fun s3 =>
  some s3
def f_X3_beginLine (a0 : Nat) (x1 : Int32) (s : Mem) : Option (Mem) :=
  if 16 ≤ (s a0 0) then
  some s
  else
  (wr 16 s (a0 + 1) (s a0 0) x1).bind fun s2 =>
  (wr 16 s2 (a0 + 2) (s2 a0 0) 0).bind fun s3 =>
  some s3
def f_X3_addName (a0 : Nat) (x1 : Int32) (s : Mem) : Option (Mem) :=
  if 16 ≤ (s a0 0) then
  some s
  else
  (rd 16 (s (a0 + 2)) (s a0 0)).bind fun v2 =>
  if 6 ≤ v2 then
  some s
  else
  (rd 16 (s (a0 + 2)) (s a0 0)).bind fun v4 =>
  (wr 96 s (a0 + 3) (((s a0 0) * 6) + v4) x1).bind fun s5 =>
  (rd 16 (s5 (a0 + 2)) (s5 a0 0)).bind fun v6 =>
  (wr 16 s5 (a0 + 2) (s5 a0 0) (v6 + 1)).bind fun s7 =>
  some s7
def f_X3_endLine (a0 : Nat) (s : Mem) : Option (Mem) :=
  if 16 ≤ (s a0 0) then
  some s
  else
  some (mset s a0 0 ((s a0 0) + 1))
def st_X3_lastLineOf_7 (a0 : Nat) (x1 : Int32) (x2 : Int32) (s : Mem) : Option ((Int32 × Mem) ⊕ (Nat × Int32 × Mem)) :=
  if x2 < 0 then
  some (.inr (1, 0, s))
  else
  (rd 16 (s (a0 + 1)) x2).bind fun v2 =>
  if v2 = x1 then
  some (.inr (0, x2, s))
  else
  some (.inl ((x2 + (-1)), s))
def f_X3_lastLineOf (a0 : Nat) (x1 : Int32) (s : Mem) : Option (Int32 × Mem) :=
  (it FUEL (fun y => st_X3_lastLineOf_7 a0 x1 y.1 y.2) (((s a0 0) - 1), s)).bind fun r4 =>
  if r4.1 = 0 then some (r4.2.1, r4.2.2) else some ((-1), r4.2.2)
def st_X3_fill_101 (a0 : Nat) (x2 : Int32) (x4 : Int32) (x3 : Int32) (x6 : Int32) (s : Mem) : Option ((Int32 × Int32 × Mem) ⊕ (Int32 × Mem)) :=
  if x2 ≤ x6 then
  some (.inr (x3, s))
  else
  if ((x4 >>> (x6 &&& 31)) &&& 1) = 0 then
  if 14 ≤ x3 then
  some (.inl (x3, (x6 + 1), s))
  else
  (wr 14 s (a0 + 4) x3 x6).bind fun s6 =>
  some (.inl ((x3 + 1), (x6 + 1), s6))
  else
  some (.inl (x3, (x6 + 1), s))
def jn_X3_fill_98 (a0 : Nat) (x2 : Int32) (x3 : Int32) (x4 : Int32) (s : Mem) : Option (Int32 × Mem) :=
  (it FUEL (fun y => st_X3_fill_101 a0 x2 x4 y.1 y.2.1 y.2.2) (x3, 0, s)).bind fun r7 =>
  some (r7.1, r7.2)
def st_X3_fill_23 (a0 : Nat) (x2 : Int32) (x5 : Int32) (x3 : Int32) (x4 : Int32) (x6 : Int32) (s : Mem) : Option ((Int32 × Int32 × Int32 × Mem) ⊕ (Int32 × Int32 × Mem)) :=
  (rd 16 (s (a0 + 2)) x5).bind fun v8 =>
  if v8 ≤ x6 then
  some (.inr (x3, x4, s))
  else
  (rd 96 (s (a0 + 3)) ((x5 * 6) + x6)).bind fun v10 =>
  if x2 ≤ v10 then
  some (.inl (x3, x4, (x6 + 1), s))
  else
  if ((x4 >>> (v10 &&& 31)) &&& 1) = 0 then
  if 14 ≤ x3 then
  some (.inl (x3, x4, (x6 + 1), s))
  else
  (wr 14 s (a0 + 4) x3 v10).bind fun s14 =>
  some (.inl ((x3 + 1), (x4 ||| (1 <<< (v10 &&& 31))), (x6 + 1), s14))
  else
  some (.inl (x3, x4, (x6 + 1), s))
def f_X3_fill (a0 : Nat) (x1 : Int32) (x2 : Int32) (s : Mem) : Option (Int32 × Mem) :=
  (f_X3_lastLineOf a0 x1 s).bind fun r1 =>
  if r1.1 = (-1) then
  jn_X3_fill_98 a0 x2 0 (1 <<< (x1 &&& 31)) r1.2
  else
  (it FUEL (fun y => st_X3_fill_23 a0 x2 r1.1 y.1 y.2.1 y.2.2.1 y.2.2.2) (0, (1 <<< (x1 &&& 31)), 0, r1.2)).bind fun r15 =>
  jn_X3_fill_98 a0 x2 r15.1 r15.2.1 r15.2.2
def f_X3_nameAt (a0 : Nat) (x1 : Int32) (x2 : Int32) (x3 : Int32) (s : Mem) : Option (Int32 × Mem) :=
  (f_X3_fill a0 x1 x3 s).bind fun r1 =>
  if x2 < 0 then
  some ((-1), r1.2)
  else
  if r1.1 ≤ x2 then
  some ((-1), r1.2)
  else
  (rd 14 (r1.2 (a0 + 4)) x2).bind fun v4 =>
  some (v4, r1.2)
def st_X3_firstUntried_11 (a0 : Nat) (x3 : Int32) (x4 : Int32) (x5 : Int32) (s : Mem) : Option ((Int32 × Mem) ⊕ (Nat × Int32 × Mem)) :=
  if x4 ≤ x5 then
  some (.inr (1, 0, s))
  else
  (rd 14 (s (a0 + 4)) x5).bind fun v3 =>
  if ((x3 >>> (v3 &&& 31)) &&& 1) = 0 then
  some (.inr (0, x5, s))
  else
  some (.inl ((x5 + 1), s))
def f_X3_firstUntried (a0 : Nat) (x1 : Int32) (x2 : Int32) (x3 : Int32) (s : Mem) : Option (Int32 × Mem) :=
  (f_X3_fill a0 x1 x2 s).bind fun r1 =>
  (it FUEL (fun y => st_X3_firstUntried_11 a0 x3 r1.1 y.1 y.2) (0, r1.2)).bind fun r5 =>
  if r5.1 = 0 then (rd 14 (r5.2.2 (a0 + 4)) r5.2.1).bind fun v6 =>
  some (v6, r5.2.2) else some ((-1), r5.2.2)
def jn_X6_isLetter_24 (s : Mem) : Option (Int32 × Mem) :=
  some (1, s)
def jn_X6_isLetter_12 (x0 : Int32) (s : Mem) : Option (Int32 × Mem) :=
  if x0 < 65 then
  some (0, s)
  else
  if 90 < x0 then
  some (0, s)
  else
  jn_X6_isLetter_24 s
def f_X6_isLetter (x0 : Int32) (s : Mem) : Option (Int32 × Mem) :=
  if x0 < 97 then
  jn_X6_isLetter_12 x0 s
  else
  if x0 ≤ 122 then
  jn_X6_isLetter_24 s
  else
  jn_X6_isLetter_12 x0 s
def st_X6_lettersEnd_2 (x2 : Int32) (s : Mem) : Option ((Int32 × Mem) ⊕ (Int32 × Mem)) :=
  if (s 173 0) ≤ x2 then
  some (.inr (x2, s))
  else
  (rd 400 (s 174) x2).bind fun v2 =>
  (f_X6_isLetter v2 s).bind fun r3 =>
  if r3.1 = 0 then
  some (.inr (x2, r3.2))
  else
  some (.inl ((x2 + 1), r3.2))
def f_X6_lettersEnd (x1 : Int32) (s : Mem) : Option (Int32 × Mem) :=
  (it FUEL (fun y => st_X6_lettersEnd_2 y.1 y.2) (x1, s)).bind fun r5 =>
  some (r5.1, r5.2)
def f_J0_coder_7d493 (a0 : Nat) (s : Mem) : Option (Int32 × Mem) :=
  if (1 : Int32) = 0 then
  some (1, s)
  else
  some (0, s)
def f_J0_length_8abf5 (a0 : Nat) (s : Mem) : Option (Int32 × Mem) :=
  (f_J0_coder_7d493 a0 s).bind fun r1 =>
  some (((Int32.ofNat (byL a0)) >>> (r1.1 &&& 31)), r1.2)
def f_J0_isLatin1_aae02 (a0 : Nat) (s : Mem) : Option (Int32 × Mem) :=
  if (1 : Int32) = 0 then
  some (0, s)
  else
  if (0 : Int32) = 0 then
  some (1, s)
  else
  some (0, s)
def jn_J3_checkIndex_8e157_9 (x0 : Int32) (x1 : Int32) (s : Mem) : Option (Int32 × Mem) :=
  none
def f_J3_checkIndex_8e157 (x0 : Int32) (x1 : Int32) (s : Mem) : Option (Int32 × Mem) :=
  if x0 < 0 then
  jn_J3_checkIndex_8e157_9 x0 x1 s
  else
  if x0 < x1 then
  some (x0, s)
  else
  jn_J3_checkIndex_8e157_9 x0 x1 s
def f_J0_checkIndex_df160 (x0 : Int32) (x1 : Int32) (s : Mem) : Option (Mem) :=
  (f_J3_checkIndex_8e157 x0 x1 s).bind fun r2 =>
  some r2.2
def f_J1_charAt_3b067 (a0 : Nat) (x1 : Int32) (s : Mem) : Option (Int32 × Mem) :=
  (f_J0_checkIndex_df160 x1 (Int32.ofNat (byL a0)) s).bind fun r1 =>
  (rd (byL a0) (byF a0) x1).bind fun v2 =>
  if ¬ vp_nar .char (i2c (v2 &&& 255)) = (i2c (v2 &&& 255)) then none else some ((i2c (v2 &&& 255)), r1)
def f_J0_charAt_5068e (a0 : Nat) (x1 : Int32) (s : Mem) : Option (Int32 × Mem) :=
  (f_J0_isLatin1_aae02 a0 s).bind fun r1 =>
  if r1.1 = 0 then
  none
  else
  (f_J1_charAt_3b067 a0 x1 r1.2).bind fun r3 =>
  if ¬ vp_nar .char r3.1 = r3.1 then none else some (r3.1, r3.2)
def st_X6_isAt_3 (x1 : Int32) (x2 : Int32) (x3 : Int32) (x4 : Int32) (s : Mem) : Option ((Int32 × Mem) ⊕ (Nat × Mem)) :=
  if x3 ≤ x4 then
  some (.inr (1, s))
  else
  (f_J0_length_8abf5 0 s).bind fun r2 =>
  if r2.1 ≤ ((x1 + x4) - x2) then
  some (.inr (0, r2.2))
  else
  (f_J0_charAt_5068e 0 ((x1 + x4) - x2) r2.2).bind fun r4 =>
  (rd 400 (r4.2 174) x4).bind fun v5 =>
  if r4.1 = v5 then
  some (.inl ((x4 + 1), r4.2))
  else
  some (.inr (0, r4.2))
def f_X6_isAt (x1 : Int32) (x2 : Int32) (x3 : Int32) (s : Mem) : Option (Int32 × Mem) :=
  (it FUEL (fun y => st_X6_isAt_3 x1 x2 x3 y.1 y.2) (x2, s)).bind fun r7 =>
  if r7.1 = 0 then some (0, r7.2) else some (1, r7.2)
def jn_X6_keyword_54 (x1 : Int32) (x2 : Int32) (x3 : Int32) (x5 : Int32) (s : Mem) : Option ((Int32 × Int32 × Int32 × Mem) ⊕ (Nat × Int32 × Mem)) :=
  some (.inl ((x3 + 1), (x5 + 1), (x5 + 1), s))
def st_X6_keyword_8 (x1 : Int32) (x2 : Int32) (x3 : Int32) (x4 : Int32) (x5 : Int32) (s : Mem) : Option ((Int32 × Int32 × Int32 × Mem) ⊕ (Nat × Int32 × Mem)) :=
  (f_J0_length_8abf5 0 s).bind fun r1 =>
  if r1.1 ≤ x5 then
  some (.inr (1, 0, r1.2))
  else
  (f_J0_charAt_5068e 0 x5 r1.2).bind fun r3 =>
  if r3.1 = 32 then
  if (x5 - x4) = (x2 - x1) then
  (f_X6_isAt x4 x1 x2 r3.2).bind fun r6 =>
  if r6.1 = 0 then
  jn_X6_keyword_54 x1 x2 x3 x5 r6.2
  else
  some (.inr (0, x3, r6.2))
  else
  jn_X6_keyword_54 x1 x2 x3 x5 r3.2
  else
  some (.inl (x3, x4, (x5 + 1), r3.2))
def f_X6_keyword (x1 : Int32) (x2 : Int32) (s : Mem) : Option (Int32 × Mem) :=
  (it FUEL (fun y => st_X6_keyword_8 x1 x2 y.1 y.2.1 y.2.2.1 y.2.2.2) (0, 0, 0, s)).bind fun r8 =>
  if r8.1 = 0 then some (r8.2.1, r8.2.2) else some ((-1), r8.2.2)
def f_X6_addToken (x1 : Int32) (x2 : Int32) (x3 : Int32) (s : Mem) : Option (Mem) :=
  if 400 ≤ (s 173 4) then
  some s
  else
  (wr 400 s 175 (s 173 4) x1).bind fun s2 =>
  (wr 400 s2 176 (s2 173 4) x2).bind fun s3 =>
  (wr 400 s3 177 (s3 173 4) x3).bind fun s4 =>
  some (mset s4 173 4 ((s4 173 4) + 1))
def f_X6_isDigit (x0 : Int32) (s : Mem) : Option (Int32 × Mem) :=
  if x0 < 48 then
  some (0, s)
  else
  if 57 < x0 then
  some (0, s)
  else
  some (1, s)
def st_X6_digitsEnd_2 (x2 : Int32) (s : Mem) : Option ((Int32 × Mem) ⊕ (Int32 × Mem)) :=
  if (s 173 0) ≤ x2 then
  some (.inr (x2, s))
  else
  (rd 400 (s 174) x2).bind fun v2 =>
  (f_X6_isDigit v2 s).bind fun r3 =>
  if r3.1 = 0 then
  some (.inr (x2, r3.2))
  else
  some (.inl ((x2 + 1), r3.2))
def f_X6_digitsEnd (x1 : Int32) (s : Mem) : Option (Int32 × Mem) :=
  (it FUEL (fun y => st_X6_digitsEnd_2 y.1 y.2) (x1, s)).bind fun r5 =>
  some (r5.1, r5.2)
def st_X6_number_5 (x2 : Int32) (x3 : Int32) (x4 : Int32) (s : Mem) : Option ((Int32 × Int32 × Mem) ⊕ (Int32 × Mem)) :=
  if x2 ≤ x4 then
  some (.inr (x3, s))
  else
  (rd 400 (s 174) x4).bind fun v2 =>
  some (.inl ((((x3 * 10) + v2) - 48), (x4 + 1), s))
def f_X6_number (x1 : Int32) (x2 : Int32) (s : Mem) : Option (Int32 × Mem) :=
  (it FUEL (fun y => st_X6_number_5 x2 y.1 y.2.1 y.2.2) (0, x1, s)).bind fun r3 =>
  some (r3.1, r3.2)
def f_J1_canEncode_9a6ad (x0 : Int32) (s : Mem) : Option (Int32 × Mem) :=
  if x0 < 0 then
  some (0, s)
  else
  if 255 < x0 then
  some (0, s)
  else
  some (1, s)
def st_J1_indexOfChar_4cfef_7 (a0 : Nat) (x3 : Int32) (x4 : Int32) (x5 : Int32) (s : Mem) : Option ((Int32 × Mem) ⊕ (Nat × Int32 × Mem)) :=
  if x3 ≤ x5 then
  some (.inr (1, 0, s))
  else
  (rd (byL a0) (byF a0) x5).bind fun v2 =>
  if v2 = x4 then
  some (.inr (0, x5, s))
  else
  some (.inl ((x5 + 1), s))
def f_J1_indexOfChar_4cfef (a0 : Nat) (x1 : Int32) (x2 : Int32) (x3 : Int32) (s : Mem) : Option (Int32 × Mem) :=
  (it FUEL (fun y => st_J1_indexOfChar_4cfef_7 a0 x3 (i2b x1) y.1 y.2) (x2, s)).bind fun r4 =>
  if r4.1 = 0 then some (r4.2.1, r4.2.2) else some ((-1), r4.2.2)
def f_J1_indexOf_4cfef (a0 : Nat) (x1 : Int32) (x2 : Int32) (x3 : Int32) (s : Mem) : Option (Int32 × Mem) :=
  (f_J1_canEncode_9a6ad x1 s).bind fun r1 =>
  if r1.1 = 0 then
  some ((-1), r1.2)
  else
  if (jmmax x2 0) < (jmmin x3 (Int32.ofNat (byL a0))) then
  (f_J1_indexOfChar_4cfef a0 x1 (jmmax x2 0) (jmmin x3 (Int32.ofNat (byL a0))) r1.2).bind fun r4 =>
  some (r4.1, r4.2)
  else
  some ((-1), r1.2)
def f_J0_indexOf_7cf53 (a0 : Nat) (x1 : Int32) (x2 : Int32) (s : Mem) : Option (Int32 × Mem) :=
  (f_J0_isLatin1_aae02 a0 s).bind fun r1 =>
  if r1.1 = 0 then
  (f_J0_length_8abf5 a0 r1.2).bind fun r3 =>
  none
  else
  (f_J0_length_8abf5 a0 r1.2).bind fun r4 =>
  (f_J1_indexOf_4cfef a0 x1 x2 r4.1 r4.2).bind fun r5 =>
  some (r5.1, r5.2)
def f_J0_indexOf_0f7a4 (a0 : Nat) (x1 : Int32) (s : Mem) : Option (Int32 × Mem) :=
  (f_J0_indexOf_7cf53 a0 x1 0 s).bind fun r1 =>
  some (r1.1, r1.2)
def jn_X6_advance_77 (x1 : Int32) (t1 : Int32) (s : Mem) : Option (Mem) :=
  if x1 = 0 then
  (rd 400 ((mset s 173 2 t1) 177) ((mset s 173 2 t1) 173 5)).bind fun v8 =>
  some (mset (mset s 173 2 t1) 173 3 v8)
  else
  some (mset (mset s 173 2 t1) 173 3 ((mset s 173 2 t1) 173 0))
def jn_X6_advance_56 (x1 : Int32) (t1 : Int32) (s : Mem) : Option (Mem) :=
  if x1 = 0 then
  (rd 400 ((mset s 173 1 t1) 176) ((mset s 173 1 t1) 173 5)).bind fun v6 =>
  jn_X6_advance_77 x1 v6 (mset s 173 1 t1)
  else
  jn_X6_advance_77 x1 (-1) (mset s 173 1 t1)
def jn_X6_advance_37 (t0 : Int32) (s : Mem) : Option (Mem) :=
  if t0 = 0 then
  (rd 400 (s 175) (s 173 5)).bind fun v4 =>
  jn_X6_advance_56 t0 v4 s
  else
  jn_X6_advance_56 t0 0 s
def jn_X6_advance_21 (s : Mem) : Option (Mem) :=
  if (s 173 5) < (s 173 4) then
  jn_X6_advance_37 0 s
  else
  jn_X6_advance_37 1 s
def f_X6_advance (s : Mem) : Option (Mem) :=
  if (s 173 4) ≤ (s 173 5) then
  jn_X6_advance_21 s
  else
  jn_X6_advance_21 (mset s 173 5 ((s 173 5) + 1))
def jn_X6_begin_150 (x1 : Int32) (x2 : Int32) (x3 : Int32) (x4 : Int32) (t1 : Int32) (s : Mem) : Option ((Int32 × Int32 × Mem) ⊕ (Mem)) :=
  (f_X6_addToken t1 x3 x1 s).bind fun r12 =>
  some (.inl (x4, (x2 + 1), r12))
def jn_X6_begin_108 (x1 : Int32) (x2 : Int32) (x4 : Int32) (t1 : Int32) (s : Mem) : Option ((Int32 × Int32 × Mem) ⊕ (Mem)) :=
  (f_X6_number x1 x4 s).bind fun r15 =>
  (f_X6_addToken t1 r15.1 x1 r15.2).bind fun r16 =>
  some (.inl (x4, (x2 + 1), r16))
def jn_X6_begin_71 (x1 : Int32) (x2 : Int32) (x4 : Int32) (x5 : Int32) (t1 : Int32) (s : Mem) : Option ((Int32 × Int32 × Mem) ⊕ (Mem)) :=
  (f_X6_addToken t1 x5 x1 s).bind fun r20 =>
  some (.inl (x4, (x2 + 1), r20))
def st_X6_begin_9 (x1 : Int32) (x2 : Int32) (s : Mem) : Option ((Int32 × Int32 × Mem) ⊕ (Mem)) :=
  if 400 ≤ x2 then
  some (.inr (s))
  else
  if (s 173 0) ≤ x1 then
  some (.inr (s))
  else
  (rd 400 (s 174) x1).bind fun v3 =>
  (f_X6_isLetter v3 s).bind fun r4 =>
  if r4.1 = 0 then
  (f_X6_isDigit v3 r4.2).bind fun r6 =>
  if r6.1 = 0 then
  if v3 = 32 then
  some (.inl ((x1 + 1), (x2 + 1), r6.2))
  else
  if v3 = 10 then
  some (.inl ((x1 + 1), (x2 + 1), r6.2))
  else
  (f_J0_indexOf_0f7a4 1 (i2c v3) r6.2).bind fun r10 =>
  if r10.1 < 0 then
  jn_X6_begin_150 x1 x2 v3 (x1 + 1) 4 r10.2
  else
  jn_X6_begin_150 x1 x2 v3 (x1 + 1) 3 r10.2
  else
  (f_X6_digitsEnd x1 r6.2).bind fun r13 =>
  if 4 < (r13.1 - x1) then
  jn_X6_begin_108 x1 x2 r13.1 4 r13.2
  else
  jn_X6_begin_108 x1 x2 r13.1 2 r13.2
  else
  (f_X6_lettersEnd x1 r4.2).bind fun r17 =>
  (f_X6_keyword x1 r17.1 r17.2).bind fun r18 =>
  if r18.1 = (-1) then
  jn_X6_begin_71 x1 x2 r17.1 r18.1 4 r18.2
  else
  jn_X6_begin_71 x1 x2 r17.1 r18.1 1 r18.2
def jn_X6_begin_164 (s : Mem) : Option (Mem) :=
  (f_X6_advance (mset s 173 5 (-1))).bind fun r22 =>
  some r22
def f_X6_begin (s : Mem) : Option (Mem) :=
  (it FUEL (fun y => st_X6_begin_9 y.1 y.2.1 y.2.2) (0, 0, (mset s 173 4 0))).bind fun r21 =>
  jn_X6_begin_164 r21
def f_X4_begin (x1 : Int32) (s : Mem) : Option (Mem) :=
  (f_X6_begin (mset (mset (mset s 172 1 0) 172 2 (-1)) 172 3 x1)).bind fun r1 =>
  some r1
def f_X4_fail (x1 : Int32) (s : Mem) : Option (Int32 × Mem) :=
  some (0, (mset (mset s 172 1 x1) 172 2 ((mset s 172 1 x1) 173 3)))
def jn_X4_beginsLine_24 (s : Mem) : Option (Int32 × Mem) :=
  some (1, s)
def f_X4_beginsLine (x1 : Int32) (x2 : Int32) (s : Mem) : Option (Int32 × Mem) :=
  if x1 = 0 then
  (f_X4_fail 1 s).bind fun r5 =>
  if ¬ (r5.1 = 0 ∨ r5.1 = 1) then none else some (r5.1, r5.2)
  else
  if x2 < 16 then
  jn_X4_beginsLine_24 s
  else
  (f_X4_fail 3 s).bind fun r3 =>
  if r3.1 = 0 then
  some (0, r3.2)
  else
  jn_X4_beginsLine_24 r3.2
def f_X4_isFact (s : Mem) : Option (Int32 × Mem) :=
  if (s 173 1) = 1 then
  if (s 173 2) < 3 then
  some (0, s)
  else
  if 10 < (s 173 2) then
  some (0, s)
  else
  some (1, s)
  else
  some (0, s)
def jn_X4_readUnit_82 (s : Mem) : Option (Int32 × Mem) :=
  (f_X4_fail 1 s).bind fun r3 =>
  if ¬ (r3.1 = 0 ∨ r3.1 = 1) then none else some (r3.1, r3.2)
def jn_X4_readUnit_88 (s : Mem) : Option (Int32 × Mem) :=
  (f_X6_advance s).bind fun r8 =>
  some (1, r8)
def jn_X4_readUnit_31 (s : Mem) : Option (Int32 × Mem) :=
  (f_X1_emit 178 (s 173 2) s).bind fun r10 =>
  jn_X4_readUnit_88 r10
def f_X4_readUnit (x1 : Int32) (s : Mem) : Option (Int32 × Mem) :=
  if (s 173 1) = 2 then
  if x1 = 0 then
  jn_X4_readUnit_31 s
  else
  if (s 173 2) = 0 then
  (f_X4_fail 2 s).bind fun r12 =>
  if ¬ (r12.1 = 0 ∨ r12.1 = 1) then none else some (r12.1, r12.2)
  else
  jn_X4_readUnit_31 s
  else
  if x1 = 0 then
  (f_X4_isFact s).bind fun r5 =>
  if r5.1 = 0 then
  jn_X4_readUnit_82 r5.2
  else
  (f_X1_emit 178 ((10000 + (r5.2 173 2)) - 3) r5.2).bind fun r7 =>
  jn_X4_readUnit_88 r7
  else
  jn_X4_readUnit_82 s
def f_X6_isSign (x1 : Int32) (s : Mem) : Option (Int32 × Mem) :=
  if (s 173 1) = 3 then
  if (s 173 2) = x1 then
  some (1, s)
  else
  some (0, s)
  else
  some (0, s)
def f_X4_eitherSign (x1 : Int32) (x2 : Int32) (x3 : Int32) (x4 : Int32) (s : Mem) : Option (Int32 × Mem) :=
  (f_X6_isSign x1 s).bind fun r1 =>
  if r1.1 = 0 then
  (f_X6_isSign x3 r1.2).bind fun r3 =>
  if r3.1 = 0 then
  some ((-1), r3.2)
  else
  some (x4, r3.2)
  else
  some (x2, r1.2)
def jn_X4_readSum_102 (x1 : Int32) (x2 : Int32) (x3 : Int32) (s : Mem) : Option ((Int32 × Int32 × Int32 × Mem) ⊕ (Nat × Mem)) :=
  (f_X6_advance s).bind fun r8 =>
  some (.inl (x1, x2, (x3 + 1), r8))
def jn_X4_readSum_80 (x2 : Int32) (x3 : Int32) (s : Mem) : Option ((Int32 × Int32 × Int32 × Mem) ⊕ (Nat × Mem)) :=
  (f_X4_eitherSign 43 20000 45 20001 s).bind fun r10 =>
  if r10.1 = (-1) then
  some (.inr (1, r10.2))
  else
  jn_X4_readSum_102 r10.1 x2 x3 r10.2
def jn_X4_readSum_47 (x1 : Int32) (x3 : Int32) (s : Mem) : Option ((Int32 × Int32 × Int32 × Mem) ⊕ (Nat × Mem)) :=
  (f_X4_eitherSign 42 20002 47 20003 s).bind fun r6 =>
  if r6.1 = (-1) then
  if x1 = (-1) then
  jn_X4_readSum_80 r6.1 x3 r6.2
  else
  (f_X1_emit 178 x1 r6.2).bind fun r12 =>
  jn_X4_readSum_80 r6.1 x3 r12
  else
  jn_X4_readSum_102 x1 r6.1 x3 r6.2
def jn_X4_readSum_26 (x1 : Int32) (x2 : Int32) (x3 : Int32) (t1 : Int32) (s : Mem) : Option ((Int32 × Int32 × Int32 × Mem) ⊕ (Nat × Mem)) :=
  (f_X4_readUnit t1 s).bind fun r3 =>
  if r3.1 = 0 then
  some (.inr (0, r3.2))
  else
  if x2 = (-1) then
  jn_X4_readSum_47 x1 x3 r3.2
  else
  (f_X1_emit 178 x2 r3.2).bind fun r13 =>
  jn_X4_readSum_47 x1 x3 r13
def st_X4_readSum_6 (x1 : Int32) (x2 : Int32) (x3 : Int32) (s : Mem) : Option ((Int32 × Int32 × Int32 × Mem) ⊕ (Nat × Mem)) :=
  if 400 ≤ x3 then
  some (.inr (2, s))
  else
  if x2 = 20003 then
  jn_X4_readSum_26 x1 x2 x3 1 s
  else
  jn_X4_readSum_26 x1 x2 x3 0 s
def f_X4_readSum (s : Mem) : Option (Int32 × Mem) :=
  (it FUEL (fun y => st_X4_readSum_6 y.1 y.2.1 y.2.2.1 y.2.2.2) ((-1), (-1), 0, s)).bind fun r14 =>
  if r14.1 = 0 then some (0, r14.2) else if r14.1 = 1 then some (1, r14.2) else (f_X4_fail 1 r14.2).bind fun r15 =>
  if ¬ (r15.1 = 0 ∨ r15.1 = 1) then none else some (r15.1, r15.2)
def f_X6_isWord (x1 : Int32) (s : Mem) : Option (Int32 × Mem) :=
  if (s 173 1) = 1 then
  if (s 173 2) = x1 then
  some (1, s)
  else
  some (0, s)
  else
  some (0, s)
def f_X4_takeSign (x1 : Int32) (s : Mem) : Option (Int32 × Mem) :=
  (f_X6_isSign x1 s).bind fun r1 =>
  if r1.1 = 0 then
  (f_X4_fail 1 r1.2).bind fun r4 =>
  if ¬ (r4.1 = 0 ∨ r4.1 = 1) then none else some (r4.1, r4.2)
  else
  (f_X6_advance r1.2).bind fun r3 =>
  some (1, r3)
def f_X4_comparing (s : Mem) : Option (Int32 × Mem) :=
  (f_X6_isSign 60 s).bind fun r1 =>
  if r1.1 = 0 then
  (f_X6_isSign 61 r1.2).bind fun r3 =>
  if r3.1 = 0 then
  (f_X6_isSign 62 r3.2).bind fun r5 =>
  if r5.1 = 0 then
  some ((-1), r5.2)
  else
  some (20006, r5.2)
  else
  some (20005, r3.2)
  else
  some (20004, r1.2)
def jn_X4_readEither_83 (cl : Int32 → Mem → Option (Int32 × Mem)) (x1 : Int32) (x2 : Int32) (x3 : Int32) (x4 : Int32) (s : Mem) : Option ((Int32 × Int32 × Int32 × Mem) ⊕ (Nat × Mem)) :=
  (f_X6_advance s).bind fun r7 =>
  some (.inl (x2, x3, (x4 + 1), r7))
def jn_X4_readEither_67 (cl : Int32 → Mem → Option (Int32 × Mem)) (x1 : Int32) (x3 : Int32) (x4 : Int32) (s : Mem) : Option ((Int32 × Int32 × Int32 × Mem) ⊕ (Nat × Mem)) :=
  (f_X6_isWord 12 s).bind fun r9 =>
  if r9.1 = 0 then
  some (.inr (1, r9.2))
  else
  jn_X4_readEither_83 cl x1 r9.1 x3 x4 r9.2
def jn_X4_readEither_39 (cl : Int32 → Mem → Option (Int32 × Mem)) (x1 : Int32) (x2 : Int32) (x4 : Int32) (s : Mem) : Option ((Int32 × Int32 × Int32 × Mem) ⊕ (Nat × Mem)) :=
  (f_X6_isWord 13 s).bind fun r5 =>
  if r5.1 = 0 then
  if x2 = 0 then
  jn_X4_readEither_67 cl x1 r5.1 x4 r5.2
  else
  (f_X1_emit 178 20008 r5.2).bind fun r11 =>
  jn_X4_readEither_67 cl x1 r5.1 x4 r11
  else
  jn_X4_readEither_83 cl x1 x2 r5.1 x4 r5.2
def st_X4_readEither_7 (cl : Int32 → Mem → Option (Int32 × Mem)) (x1 : Int32) (x2 : Int32) (x3 : Int32) (x4 : Int32) (s : Mem) : Option ((Int32 × Int32 × Int32 × Mem) ⊕ (Nat × Mem)) :=
  if 400 ≤ x4 then
  some (.inr (2, s))
  else
  (cl x1 s).bind fun r2 =>
  if r2.1 = 0 then
  some (.inr (0, r2.2))
  else
  if x3 = 0 then
  jn_X4_readEither_39 cl x1 x2 x4 r2.2
  else
  (f_X1_emit 178 20007 r2.2).bind fun r12 =>
  jn_X4_readEither_39 cl x1 x2 x4 r12
def f_X4_readEither (cl : Int32 → Mem → Option (Int32 × Mem)) (x1 : Int32) (s : Mem) : Option (Int32 × Mem) :=
  (it FUEL (fun y => st_X4_readEither_7 cl x1 y.1 y.2.1 y.2.2.1 y.2.2.2) (0, 0, 0, s)).bind fun r13 =>
  if r13.1 = 0 then some (0, r13.2) else if r13.1 = 1 then some (1, r13.2) else (f_X4_fail 1 r13.2).bind fun r14 =>
  if ¬ (r14.1 = 0 ∨ r14.1 = 1) then none else some (r14.1, r14.2)
def jn_X4_readClaim_26 (cl ei : Int32 → Mem → Option (Int32 × Mem)) (x1 : Int32) (x2 : Int32) (s : Mem) : Option (Int32 × Mem) :=
  if x1 < 8 then
  (f_X6_advance s).bind fun r4 =>
  if x2 = 0 then
  (ei (x1 + 1) r4).bind fun r9 =>
  if r9.1 = 0 then
  some (0, r9.2)
  else
  (f_X4_takeSign 41 r9.2).bind fun r11 =>
  if r11.1 = 0 then
  some (0, r11.2)
  else
  some (1, r11.2)
  else
  (cl (x1 + 1) r4).bind fun r6 =>
  if r6.1 = 0 then
  some (0, r6.2)
  else
  (f_X1_emit 178 20009 r6.2).bind fun r8 =>
  some (1, r8)
  else
  (f_X4_fail 3 s).bind fun r13 =>
  if ¬ (r13.1 = 0 ∨ r13.1 = 1) then none else some (r13.1, r13.2)
def f_X4_readClaim (cl ei : Int32 → Mem → Option (Int32 × Mem)) (x1 : Int32) (s : Mem) : Option (Int32 × Mem) :=
  (f_X6_isWord 14 s).bind fun r1 =>
  if r1.1 = 0 then
  (f_X6_isSign 40 r1.2).bind fun r15 =>
  if r15.1 = 0 then
  (f_X4_readSum r15.2).bind fun r17 =>
  if r17.1 = 0 then
  some (0, r17.2)
  else
  (f_X4_comparing r17.2).bind fun r19 =>
  if r19.1 = (-1) then
  (f_X4_fail 1 r19.2).bind fun r25 =>
  if ¬ (r25.1 = 0 ∨ r25.1 = 1) then none else some (r25.1, r25.2)
  else
  (f_X6_advance r19.2).bind fun r21 =>
  (f_X4_readSum r21).bind fun r22 =>
  if r22.1 = 0 then
  some (0, r22.2)
  else
  (f_X1_emit 178 r19.1 r22.2).bind fun r24 =>
  some (1, r24)
  else
  jn_X4_readClaim_26 cl ei x1 r1.1 r15.2
  else
  jn_X4_readClaim_26 cl ei x1 r1.1 r1.2
def F_claim : Nat → Int32 → Mem → Option (Int32 × Mem)
  | 0 => fun _ _ => none
  | d + 1 => f_X4_readClaim (F_claim d) (f_X4_readEither (F_claim d))
def f_X4_readEither0 (x : Int32) (s : Mem) : Option (Int32 × Mem) := f_X4_readEither (F_claim 12) x s
def jn_X4_readLawLine_66 (s : Mem) : Option (Int32 × Mem) :=
  (f_X1_endLine 178 s).bind fun r8 =>
  (f_X4_takeSign 59 r8).bind fun r9 =>
  if ¬ (r9.1 = 0 ∨ r9.1 = 1) then none else some (r9.1, r9.2)
def f_X4_readLawLine (s : Mem) : Option (Int32 × Mem) :=
  (f_X1_beginLine 178 (s 173 2) s).bind fun r1 =>
  (f_X6_advance r1).bind fun r2 =>
  (f_X4_readSum r2).bind fun r3 =>
  if r3.1 = 0 then
  some (0, r3.2)
  else
  (f_X1_beginWhen 178 r3.2).bind fun r5 =>
  (f_X6_isWord 11 r5).bind fun r6 =>
  if r6.1 = 0 then
  jn_X4_readLawLine_66 r6.2
  else
  (f_X6_advance r6.2).bind fun r11 =>
  (f_X4_readEither0 0 r11).bind fun r12 =>
  if r12.1 = 0 then
  some (0, r12.2)
  else
  jn_X4_readLawLine_66 r12.2
def jn_X4_readLaw_52 (a1 : Nat) (x2 : Int32) (t0 : Int32) (s : Mem) : Option ((Int32 × Mem) ⊕ (Nat × Mem)) :=
  (f_X4_beginsLine t0 x2 s).bind fun r5 =>
  if r5.1 = 0 then
  some (.inr (0, r5.2))
  else
  (f_X4_readLawLine r5.2).bind fun r7 =>
  if r7.1 = 0 then
  some (.inr (0, r7.2))
  else
  some (.inl ((x2 + 1), r7.2))
def jn_X4_readLaw_51 (a1 : Nat) (x2 : Int32) (s : Mem) : Option ((Int32 × Mem) ⊕ (Nat × Mem)) :=
  jn_X4_readLaw_52 a1 x2 0 s
def st_X4_readLaw_9 (a1 : Nat) (x2 : Int32) (s : Mem) : Option ((Int32 × Mem) ⊕ (Nat × Mem)) :=
  if 16 < x2 then
  some (.inr (1, s))
  else
  if (s 173 1) = 0 then
  some (.inr (1, s))
  else
  if (s 173 1) = 1 then
  if 2 < (s 173 2) then
  jn_X4_readLaw_51 a1 x2 s
  else
  jn_X4_readLaw_52 a1 x2 1 s
  else
  jn_X4_readLaw_51 a1 x2 s
def jn_X4_readLaw_77 (a1 : Nat) (s : Mem) : Option (Int32 × Mem) :=
  (f_X1_copyFrom a1 178 s).bind fun r11 =>
  some ((r11 178 0), r11)
def f_X4_readLaw (a1 : Nat) (s : Mem) : Option (Int32 × Mem) :=
  (f_X1_clear 178 s).bind fun r1 =>
  (it FUEL (fun y => st_X4_readLaw_9 a1 y.1 y.2) (0, r1)).bind fun r10 =>
  if r10.1 = 0 then some ((-1), r10.2) else jn_X4_readLaw_77 a1 r10.2
def jn_X4_isNumber_47 (s : Mem) : Option (Int32 × Mem) :=
  some (1, s)
def jn_X4_isNumber_39 (s : Mem) : Option (Int32 × Mem) :=
  (f_X4_fail 2 s).bind fun r3 =>
  if r3.1 = 0 then
  some (0, r3.2)
  else
  jn_X4_isNumber_47 r3.2
def f_X4_isNumber (x1 : Int32) (x2 : Int32) (s : Mem) : Option (Int32 × Mem) :=
  if (s 173 1) = 2 then
  if (s 173 2) < x1 then
  jn_X4_isNumber_39 s
  else
  if (s 173 2) ≤ x2 then
  jn_X4_isNumber_47 s
  else
  jn_X4_isNumber_39 s
  else
  (f_X4_fail 1 s).bind fun r6 =>
  if ¬ (r6.1 = 0 ∨ r6.1 = 1) then none else some (r6.1, r6.2)
def f_X4_takeNumber (x1 : Int32) (x2 : Int32) (s : Mem) : Option (Int32 × Mem) :=
  (f_X4_isNumber x1 x2 s).bind fun r1 =>
  if r1.1 = 0 then
  some ((-1), r1.2)
  else
  (f_X6_advance r1.2).bind fun r3 =>
  some ((r1.2 173 2), r3)
def jn_X4_isPerson_35 (s : Mem) : Option (Int32 × Mem) :=
  some (1, s)
def f_X4_isPerson (x1 : Int32) (s : Mem) : Option (Int32 × Mem) :=
  (f_X4_isNumber 0 ((s 172 3) - 1) s).bind fun r1 =>
  if r1.1 = 0 then
  some (0, r1.2)
  else
  if (r1.2 173 2) = x1 then
  (f_X4_fail 2 r1.2).bind fun r4 =>
  if r4.1 = 0 then
  some (0, r4.2)
  else
  jn_X4_isPerson_35 r4.2
  else
  jn_X4_isPerson_35 r1.2
def f_X4_takePerson (x1 : Int32) (s : Mem) : Option (Int32 × Mem) :=
  (f_X4_isPerson x1 s).bind fun r1 =>
  if r1.1 = 0 then
  some ((-1), r1.2)
  else
  (f_X6_advance r1.2).bind fun r3 =>
  some ((r1.2 173 2), r3)
def f_X4_cureKind (x0 : Int32) (s : Mem) : Option (Int32 × Mem) :=
  if x0 = 18 then
  some (1, s)
  else if x0 = 19 then
  some (2, s)
  else if x0 = 20 then
  some (3, s)
  else 
  some (4, s)
def f_X5_addLine (a0 : Nat) (x1 : Int32) (x2 : Int32) (x3 : Int32) (x4 : Int32) (s : Mem) : Option (Mem) :=
  if 16 ≤ (s a0 0) then
  some s
  else
  (wr 16 s (a0 + 1) (s a0 0) x1).bind fun s2 =>
  (wr 16 s2 (a0 + 2) (s2 a0 0) x2).bind fun s3 =>
  (wr 16 s3 (a0 + 3) (s3 a0 0) x3).bind fun s4 =>
  (wr 16 s4 (a0 + 4) (s4 a0 0) x4).bind fun s5 =>
  some (mset s5 a0 0 ((s5 a0 0) + 1))
def jn_X4_readCure_31 (s : Mem) : Option (Int32 × Mem) :=
  (f_X4_fail 1 s).bind fun r2 =>
  if ¬ (r2.1 = 0 ∨ r2.1 = 1) then none else some (r2.1, r2.2)
def jn_X4_readCure_91 (x1 : Int32) (x2 : Int32) (x3 : Int32) (x4 : Int32) (s : Mem) : Option (Int32 × Mem) :=
  if x4 = (-1) then
  some (0, s)
  else
  (f_X4_cureKind x2 s).bind fun r12 =>
  (f_X5_addLine 185 x1 r12.1 x3 x4 r12.2).bind fun r13 =>
  (f_X4_takeSign 59 r13).bind fun r14 =>
  if ¬ (r14.1 = 0 ∨ r14.1 = 1) then none else some (r14.1, r14.2)
def f_X4_readCure (x1 : Int32) (s : Mem) : Option (Int32 × Mem) :=
  if (s 173 1) = 1 then
  if (s 173 2) < 18 then
  jn_X4_readCure_31 s
  else
  if (s 173 2) ≤ 21 then
  (f_X6_advance s).bind fun r6 =>
  (f_X4_takePerson (-1) r6).bind fun r7 =>
  if r7.1 = (-1) then
  some (0, r7.2)
  else
  if (s 173 2) = 19 then
  (f_X4_takeNumber 1 99 r7.2).bind fun r17 =>
  jn_X4_readCure_91 x1 (s 173 2) r7.1 r17.1 r17.2
  else
  if (s 173 2) = 20 then
  (f_X4_takePerson r7.1 r7.2).bind fun r16 =>
  jn_X4_readCure_91 x1 (s 173 2) r7.1 r16.1 r16.2
  else
  jn_X4_readCure_91 x1 (s 173 2) r7.1 0 r7.2
  else
  jn_X4_readCure_31 s
  else
  jn_X4_readCure_31 s
def f_X4_takeWord (x1 : Int32) (s : Mem) : Option (Int32 × Mem) :=
  (f_X6_isWord x1 s).bind fun r1 =>
  if r1.1 = 0 then
  (f_X4_fail 1 r1.2).bind fun r4 =>
  if ¬ (r4.1 = 0 ∨ r4.1 = 1) then none else some (r4.1, r4.2)
  else
  (f_X6_advance r1.2).bind fun r3 =>
  some (1, r3)
def f_X4_readNaming (x1 : Int32) (s : Mem) : Option (Int32 × Mem) :=
  (f_X4_takeWord 16 s).bind fun r1 =>
  if r1.1 = 0 then
  some (0, r1.2)
  else
  (f_X4_takePerson (-1) r1.2).bind fun r3 =>
  if r3.1 = (-1) then
  some (0, r3.2)
  else
  (f_X4_takeWord 17 r3.2).bind fun r5 =>
  if r5.1 = 0 then
  some (0, r5.2)
  else
  (f_X4_takePerson r3.1 r5.2).bind fun r7 =>
  if r7.1 = (-1) then
  some (0, r7.2)
  else
  (f_X5_addLine 185 x1 0 r3.1 r7.1 r7.2).bind fun r9 =>
  (f_X4_takeSign 59 r9).bind fun r10 =>
  if ¬ (r10.1 = 0 ∨ r10.1 = 1) then none else some (r10.1, r10.2)
def f_X4_readPlanLine (x1 : Int32) (s : Mem) : Option (Int32 × Mem) :=
  (f_X6_advance s).bind fun r1 =>
  (f_X4_takeNumber 0 999 r1).bind fun r2 =>
  if r2.1 = (-1) then
  some (0, r2.2)
  else
  if x1 = 0 then
  (f_X4_readNaming r2.1 r2.2).bind fun r5 =>
  if ¬ (r5.1 = 0 ∨ r5.1 = 1) then none else some (r5.1, r5.2)
  else
  (f_X4_readCure r2.1 r2.2).bind fun r7 =>
  if ¬ (r7.1 = 0 ∨ r7.1 = 1) then none else some (r7.1, r7.2)
def f_X5_copyFrom (a0 : Nat) (a1 : Nat) (s : Mem) : Option (Mem) :=
  (cpy 16 16 (mset s a0 0 (s a1 0)) (a1 + 1) 0 (a0 + 1) 0 16).bind fun s1 =>
  (cpy 16 16 s1 (a1 + 2) 0 (a0 + 2) 0 16).bind fun s2 =>
  (cpy 16 16 s2 (a1 + 3) 0 (a0 + 3) 0 16).bind fun s3 =>
  (cpy 16 16 s3 (a1 + 4) 0 (a0 + 4) 0 16).bind fun s4 =>
  some s4
def st_X4_readPlan_10 (a1 : Nat) (x2 : Int32) (x3 : Int32) (s : Mem) : Option ((Int32 × Mem) ⊕ (Nat × Mem)) :=
  if 16 < x3 then
  some (.inr (1, s))
  else
  if (s 173 1) = 0 then
  some (.inr (1, s))
  else
  (f_X6_isWord 15 s).bind fun r3 =>
  (f_X4_beginsLine r3.1 x3 r3.2).bind fun r4 =>
  if r4.1 = 0 then
  some (.inr (0, r4.2))
  else
  (f_X4_readPlanLine x2 r4.2).bind fun r6 =>
  if r6.1 = 0 then
  some (.inr (0, r6.2))
  else
  some (.inl ((x3 + 1), r6.2))
def jn_X4_readPlan_59 (a1 : Nat) (s : Mem) : Option (Int32 × Mem) :=
  (f_X5_copyFrom a1 185 s).bind fun r9 =>
  some ((r9 185 0), r9)
def f_X4_readPlan (a1 : Nat) (x2 : Int32) (s : Mem) : Option (Int32 × Mem) :=
  (it FUEL (fun y => st_X4_readPlan_10 a1 x2 y.1 y.2) (0, (mset s 185 0 0))).bind fun r8 =>
  if r8.1 = 0 then some ((-1), r8.2) else jn_X4_readPlan_59 a1 r8.2
def jn_X4_readOrdersLine_60 (x1 : Int32) (x2 : Int32) (s : Mem) : Option ((Int32 × Mem) ⊕ (Nat × Mem)) :=
  (f_X4_isPerson x1 s).bind fun r8 =>
  if r8.1 = 0 then
  some (.inr (0, r8.2))
  else
  if x2 = 6 then
  some (.inr (1, r8.2))
  else
  (f_X3_addName 190 (r8.2 173 2) r8.2).bind fun r11 =>
  (f_X6_advance r11).bind fun r12 =>
  some (.inl ((x2 + 1), r12))
def st_X4_readOrdersLine_39 (x1 : Int32) (x2 : Int32) (s : Mem) : Option ((Int32 × Mem) ⊕ (Nat × Mem)) :=
  if x2 = 0 then
  jn_X4_readOrdersLine_60 x1 x2 s
  else
  if 6 < x2 then
  some (.inr (2, s))
  else
  if (s 173 1) = 2 then
  jn_X4_readOrdersLine_60 x1 x2 s
  else
  some (.inr (2, s))
def jn_X4_readOrdersLine_109 (s : Mem) : Option (Int32 × Mem) :=
  (f_X3_endLine 190 s).bind fun r18 =>
  (f_X4_takeSign 59 r18).bind fun r19 =>
  if ¬ (r19.1 = 0 ∨ r19.1 = 1) then none else some (r19.1, r19.2)
def f_X4_readOrdersLine (s : Mem) : Option (Int32 × Mem) :=
  (f_X6_advance s).bind fun r1 =>
  (f_X4_takePerson (-1) r1).bind fun r2 =>
  if r2.1 = (-1) then
  some (0, r2.2)
  else
  (f_X4_takeWord 22 r2.2).bind fun r4 =>
  if r4.1 = 0 then
  some (0, r4.2)
  else
  (f_X3_beginLine 190 r2.1 r4.2).bind fun r6 =>
  (it FUEL (fun y => st_X4_readOrdersLine_39 r2.1 y.1 y.2) (0, r6)).bind fun r15 =>
  if r15.1 = 0 then some (0, r15.2) else if r15.1 = 1 then (f_X4_fail 3 r15.2).bind fun r16 =>
  if ¬ (r16.1 = 0 ∨ r16.1 = 1) then none else some (r16.1, r16.2) else jn_X4_readOrdersLine_109 r15.2
def st_X4_readOrders_10 (a1 : Nat) (x2 : Int32) (s : Mem) : Option ((Int32 × Mem) ⊕ (Nat × Mem)) :=
  if 16 < x2 then
  some (.inr (1, s))
  else
  if (s 173 1) = 0 then
  some (.inr (1, s))
  else
  (f_X6_isWord 16 s).bind fun r3 =>
  (f_X4_beginsLine r3.1 x2 r3.2).bind fun r4 =>
  if r4.1 = 0 then
  some (.inr (0, r4.2))
  else
  (f_X4_readOrdersLine r4.2).bind fun r6 =>
  if r6.1 = 0 then
  some (.inr (0, r6.2))
  else
  some (.inl ((x2 + 1), r6.2))
def jn_X4_readOrders_58 (a1 : Nat) (s : Mem) : Option (Int32 × Mem) :=
  (f_X3_copyFrom a1 190 s).bind fun r9 =>
  some ((r9 190 0), r9)
def f_X4_readOrders (a1 : Nat) (s : Mem) : Option (Int32 × Mem) :=
  (it FUEL (fun y => st_X4_readOrders_10 a1 y.1 y.2) (0, (mset s 190 0 0))).bind fun r8 =>
  if r8.1 = 0 then some ((-1), r8.2) else jn_X4_readOrders_58 a1 r8.2
def f_X6_hasSpace (x1 : Int32) (s : Mem) : Option (Int32 × Mem) :=
  if 400 < ((s 173 0) + x1) then
  some (0, s)
  else
  some (1, s)
def st_X6_put_3 (x1 : Int32) (x2 : Int32) (s : Mem) : Option ((Int32 × Mem) ⊕ (Mem)) :=
  if x2 < 0 then
  some (.inr (s))
  else
  if 400 ≤ (s 173 0) then
  some (.inr (s))
  else
  (wr 400 s 174 (s 173 0) ((ush x1 x2) &&& 255)).bind fun s3 =>
  some (.inl ((x2 + (-8)), (mset s3 173 0 ((s3 173 0) + 1))))
def f_X6_put (x1 : Int32) (s : Mem) : Option (Mem) :=
  (it FUEL (fun y => st_X6_put_3 x1 y.1 y.2) (24, s)).bind fun r4 =>
  some r4
def f_X6_cut (x1 : Int32) (s : Mem) : Option (Int32 × Mem) :=
  if x1 < 0 then
  some (0, s)
  else
  if x1 ≤ (s 173 0) then
  some (1, (mset s 173 0 x1))
  else
  some (0, s)
def f_X7_isFull (a0 : Nat) (s : Mem) : Option (Int32 × Mem) :=
  if (s a0 1) < (Int32.ofNat (gL 0 (a0 + 1))) then
  some (0, s)
  else
  some (1, s)
def f_X7_add (a0 : Nat) (x1 : Int32) (s : Mem) : Option (Int32 × Mem) :=
  (f_X7_isFull a0 s).bind fun r1 =>
  if r1.1 = 0 then
  (wr (gL 0 (a0 + 1)) r1.2 (a0 + 1) (r1.2 a0 1) x1).bind fun s3 =>
  some (((mset s3 a0 1 ((s3 a0 1) + 1)) a0 1), (mset s3 a0 1 ((s3 a0 1) + 1)))
  else
  some ((r1.2 a0 1), r1.2)
def f_X7_at (a0 : Nat) (x1 : Int32) (s : Mem) : Option (Int32 × Mem) :=
  if x1 < 0 then
  some (0, s)
  else
  if (s a0 1) ≤ x1 then
  some (0, s)
  else
  (rd (gL 0 (a0 + 1)) (s (a0 + 1)) x1).bind fun v3 =>
  some (v3, s)
def f_X7_clear (a0 : Nat) (s : Mem) : Option (Int32 × Mem) :=
  some (((mset s a0 1 0) a0 1), (mset s a0 1 0))
def st_X7_copyFrom_2 (a0 : Nat) (a1 : Nat) (x2 : Int32) (s : Mem) : Option ((Int32 × Mem) ⊕ (Mem)) :=
  if (s a1 1) ≤ x2 then
  some (.inr (s))
  else
  if (Int32.ofNat (gL 0 (a0 + 1))) ≤ x2 then
  some (.inr (s))
  else
  (rd (gL 0 (a1 + 1)) (s (a1 + 1)) x2).bind fun v3 =>
  (wr (gL 0 (a0 + 1)) s (a0 + 1) x2 v3).bind fun s4 =>
  some (.inl ((x2 + 1), s4))
def jn_X7_copyFrom_37 (a0 : Nat) (a1 : Nat) (s : Mem) : Option (Mem) :=
  some (mset s a0 1 (jmmin (s a1 1) (Int32.ofNat (gL 0 (a0 + 1)))))
def f_X7_copyFrom (a0 : Nat) (a1 : Nat) (s : Mem) : Option (Mem) :=
  (it FUEL (fun y => st_X7_copyFrom_2 a0 a1 y.1 y.2) (0, s)).bind fun r5 =>
  jn_X7_copyFrom_37 a0 a1 r5
def f_X8_termRow (a0 : Nat) (x1 : Int32) (s : Mem) : Option (Nat × Mem) :=
  if x1 = 0 then
  some ((a0 + 15), s)
  else
  some ((a0 + 17), s)
def f_X8_copyFrom (a0 : Nat) (a1 : Nat) (s : Mem) : Option (Mem) :=
  (f_X7_copyFrom (a0 + 1) (a1 + 1) s).bind fun r1 =>
  (f_X7_copyFrom (a0 + 3) (a1 + 3) r1).bind fun r2 =>
  (f_X7_copyFrom (a0 + 5) (a1 + 5) r2).bind fun r3 =>
  (f_X7_copyFrom (a0 + 7) (a1 + 7) r3).bind fun r4 =>
  (f_X7_copyFrom (a0 + 9) (a1 + 9) r4).bind fun r5 =>
  (f_X7_copyFrom (a0 + 11) (a1 + 11) r5).bind fun r6 =>
  (f_X7_copyFrom (a0 + 13) (a1 + 13) r6).bind fun r7 =>
  (f_X7_copyFrom (a0 + 15) (a1 + 15) r7).bind fun r8 =>
  (f_X7_copyFrom (a0 + 17) (a1 + 17) r8).bind fun r9 =>
  (f_X7_copyFrom (a0 + 19) (a1 + 19) r9).bind fun r10 =>
  (f_X7_copyFrom (a0 + 21) (a1 + 21) r10).bind fun r11 =>
  (f_X7_copyFrom (a0 + 23) (a1 + 23) r11).bind fun r12 =>
  some r12
def st_X9_greatestSum_42 (a1 : Nat) (x2 : Int32) (x4 : Int32) (x3 : Int32) (x5 : Int32) (x6 : Int32) (x7 : Int32) (s : Mem) : Option ((Int32 × Int32 × Int32 × Int32 × Mem) ⊕ (Int32 × Mem)) :=
  if (s a1 1) ≤ x7 then
  some (.inr (x3, s))
  else
  (f_X7_at a1 x7 s).bind fun r6 =>
  (f_X7_at a1 x7 r6.2).bind fun r7 =>
  if x2 = 0 then
  some (.inl ((jmmax x3 (x5 + r6.1)), (x5 + r6.1), (jmmin x6 r7.1), (x7 + 1), r7.2))
  else
  if x7 ≤ x4 then
  some (.inl ((jmmax x3 (x5 + r6.1)), (x5 + r6.1), (jmmin x6 r7.1), (x7 + 1), r7.2))
  else
  some (.inl ((jmmax (jmmax x3 (x5 + r6.1)) ((x5 + r6.1) - (jmmin x6 r7.1))), (x5 + r6.1), (jmmin x6 r7.1), (x7 + 1), r7.2))
def st_X9_greatestSum_18 (a1 : Nat) (x2 : Int32) (x3 : Int32) (x4 : Int32) (s : Mem) : Option ((Int32 × Int32 × Mem) ⊕ (Int32 × Mem)) :=
  if (s a1 1) ≤ x4 then
  some (.inr (x3, s))
  else
  (f_X7_at a1 x4 s).bind fun r4 =>
  (it FUEL (fun y => st_X9_greatestSum_42 a1 x2 x4 y.1 y.2.1 y.2.2.1 y.2.2.2.1 y.2.2.2.2) (x3, 0, r4.1, x4, r4.2)).bind fun r10 =>
  some (.inl (r10.1, (x4 + 1), r10.2))
def f_X9_greatestSum (a1 : Nat) (x2 : Int32) (s : Mem) : Option (Int32 × Mem) :=
  if (s a1 1) = 0 then
  some (0, s)
  else
  (f_X7_at a1 0 s).bind fun r2 =>
  (it FUEL (fun y => st_X9_greatestSum_18 a1 x2 y.1 y.2.1 y.2.2) (r2.1, 0, r2.2)).bind fun r11 =>
  some (r11.1, r11.2)
def st_X9_lessToLeft_5 (a1 : Nat) (x2 : Int32) (x3 : Int32) (x4 : Int32) (s : Mem) : Option ((Int32 × Mem) ⊕ (Nat × Int32 × Mem)) :=
  if x4 < 0 then
  some (.inr (1, 0, s))
  else
  (f_X7_at a1 x4 s).bind fun r2 =>
  (f_X7_at a1 x2 r2.2).bind fun r3 =>
  if r2.1 < r3.1 then
  some (.inr (0, x4, r3.2))
  else
  if x3 = 0 then
  some (.inl ((x4 + (-1)), r3.2))
  else
  (f_X7_at a1 x4 r3.2).bind fun r6 =>
  (f_X7_at a1 x2 r6.2).bind fun r7 =>
  if r6.1 = r7.1 then
  some (.inr (0, x4, r7.2))
  else
  some (.inl ((x4 + (-1)), r7.2))
def f_X9_lessToLeft (a1 : Nat) (x2 : Int32) (x3 : Int32) (s : Mem) : Option (Int32 × Mem) :=
  (it FUEL (fun y => st_X9_lessToLeft_5 a1 x2 x3 y.1 y.2) ((x2 - 1), s)).bind fun r9 =>
  if r9.1 = 0 then some (r9.2.1, r9.2.2) else some ((-1), r9.2.2)
def st_X9_lessToRight_4 (a1 : Nat) (x2 : Int32) (x3 : Int32) (s : Mem) : Option ((Int32 × Mem) ⊕ (Nat × Int32 × Mem)) :=
  if (s a1 1) ≤ x3 then
  some (.inr (1, 0, s))
  else
  (f_X7_at a1 x3 s).bind fun r2 =>
  (f_X7_at a1 x2 r2.2).bind fun r3 =>
  if r3.1 ≤ r2.1 then
  some (.inl ((x3 + 1), r3.2))
  else
  some (.inr (0, x3, r3.2))
def f_X9_lessToRight (a1 : Nat) (x2 : Int32) (s : Mem) : Option (Int32 × Mem) :=
  (it FUEL (fun y => st_X9_lessToRight_4 a1 x2 y.1 y.2) ((x2 + 1), s)).bind fun r5 =>
  if r5.1 = 0 then some (r5.2.1, r5.2.2) else some ((r5.2.2 a1 1), r5.2.2)
def st_X9_bestCalls_30 (a1 : Nat) (x2 : Int32) (x3 : Int32) (x4 : Int32) (s : Mem) : Option ((Int32 × Int32 × Mem) ⊕ (Int32 × Mem)) :=
  if (s (a1 + 5) 1) ≤ x4 then
  some (.inr (x3, s))
  else
  (f_X7_at (a1 + 3) x4 s).bind fun r5 =>
  (f_X7_at (a1 + 5) x4 r5.2).bind fun r6 =>
  if r6.1 = x2 then
  if r5.1 < 0 then
  some (.inl (x3, (x4 + 1), r6.2))
  else
  if x2 ≤ r5.1 then
  some (.inl (x3, (x4 + 1), r6.2))
  else
  (rd 100 (r6.2 196) r5.1).bind fun v10 =>
  (f_X7_at (a1 + 7) x4 r6.2).bind fun r11 =>
  some (.inl ((jmmax x3 ((v10 + (r11.1 * 16)) - 1)), (x4 + 1), r11.2))
  else
  some (.inl (x3, (x4 + 1), r6.2))
def st_X9_bestCalls_9 (a1 : Nat) (x2 : Int32) (s : Mem) : Option ((Int32 × Mem) ⊕ (Mem)) :=
  if 100 ≤ x2 then
  some (.inr (s))
  else
  (rd 100 (s 196) (x2 - 1)).bind fun v3 =>
  (it FUEL (fun y => st_X9_bestCalls_30 a1 x2 y.1 y.2.1 y.2.2) (v3, 0, s)).bind fun r12 =>
  (wr 100 r12.2 196 x2 r12.1).bind fun s13 =>
  some (.inl ((x2 + 1), s13))
def f_X9_bestCalls (a1 : Nat) (s : Mem) : Option (Int32 × Mem) :=
  (wr 100 s 196 0 0).bind fun s1 =>
  (it FUEL (fun y => st_X9_bestCalls_9 a1 y.1 y.2) (1, s1)).bind fun r14 =>
  (rd 100 (r14 196) (100 - 1)).bind fun v15 =>
  some (v15, r14)
def f_X9_greatestWorth (a1 : Nat) (s : Mem) : Option (Int32 × Mem) :=
  (f_X9_bestCalls a1 s).bind fun r1 =>
  some ((((r1.1 + 16) - 1) / 16), r1.2)
def f_X9_fewestCalls (a1 : Nat) (s : Mem) : Option (Int32 × Mem) :=
  (f_X9_bestCalls a1 s).bind fun r1 =>
  some ((((((r1.1 + 16) - 1) / 16) * 16) - r1.1), r1.2)
def st_X9_callsIn_5 (a1 : Nat) (x2 : Int32) (x3 : Int32) (x4 : Int32) (s : Mem) : Option ((Int32 × Int32 × Mem) ⊕ (Int32 × Mem)) :=
  if (s (a1 + 3) 1) ≤ x4 then
  some (.inr (x3, s))
  else
  (f_X7_at (a1 + 3) x4 s).bind fun r2 =>
  if x2 < r2.1 then
  some (.inl (x3, (x4 + 1), r2.2))
  else
  (f_X7_at (a1 + 5) x4 r2.2).bind fun r4 =>
  if r4.1 ≤ x2 then
  some (.inl (x3, (x4 + 1), r4.2))
  else
  some (.inl ((x3 + 1), (x4 + 1), r4.2))
def f_X9_callsIn (a1 : Nat) (x2 : Int32) (s : Mem) : Option (Int32 × Mem) :=
  (it FUEL (fun y => st_X9_callsIn_5 a1 x2 y.1 y.2.1 y.2.2) (0, 0, s)).bind fun r6 =>
  some (r6.1, r6.2)
def st_X9_minutesInCalls_4 (a1 : Nat) (x2 : Int32) (x3 : Int32) (s : Mem) : Option ((Int32 × Int32 × Mem) ⊕ (Int32 × Mem)) :=
  if 100 ≤ x3 then
  some (.inr (x2, s))
  else
  (f_X9_callsIn a1 x3 s).bind fun r2 =>
  if r2.1 ≤ 0 then
  some (.inl (x2, (x3 + 1), r2.2))
  else
  some (.inl ((x2 + 1), (x3 + 1), r2.2))
def f_X9_minutesInCalls (a1 : Nat) (s : Mem) : Option (Int32 × Mem) :=
  (it FUEL (fun y => st_X9_minutesInCalls_4 a1 y.1 y.2.1 y.2.2) (0, 0, s)).bind fun r4 =>
  some (r4.1, r4.2)
def st_X9_callsAtOnce_4 (a1 : Nat) (x2 : Int32) (x3 : Int32) (s : Mem) : Option ((Int32 × Int32 × Mem) ⊕ (Int32 × Mem)) :=
  if 100 ≤ x3 then
  some (.inr (x2, s))
  else
  (f_X9_callsIn a1 x3 s).bind fun r2 =>
  some (.inl ((jmmax x2 r2.1), (x3 + 1), r2.2))
def f_X9_callsAtOnce (a1 : Nat) (s : Mem) : Option (Int32 × Mem) :=
  (it FUEL (fun y => st_X9_callsAtOnce_4 a1 y.1 y.2.1 y.2.2) (0, 0, s)).bind fun r3 =>
  some (r3.1, r3.2)
def jn_X9_cut_56 (a1 : Nat) (x2 : Int32) (x3 : Int32) (x4 : Int32) (x5 : Int32) (t0 : Int32) (s : Mem) : Option ((Int32 × Int32 × Mem) ⊕ (Int32 × Mem)) :=
  if t0 = 0 then
  some (.inl (x4, (x5 + 1), s))
  else
  if x3 = 0 then
  (f_X7_at (a1 + 13) x5 s).bind fun r6 =>
  some (.inl ((x4 + r6.1), (x5 + 1), r6.2))
  else
  some (.inl ((x4 + 1), (x5 + 1), s))
def jn_X9_cut_55 (a1 : Nat) (x2 : Int32) (x3 : Int32) (x4 : Int32) (x5 : Int32) (s : Mem) : Option ((Int32 × Int32 × Mem) ⊕ (Int32 × Mem)) :=
  jn_X9_cut_56 a1 x2 x3 x4 x5 0 s
def st_X9_cut_6 (a1 : Nat) (x2 : Int32) (x3 : Int32) (x4 : Int32) (x5 : Int32) (s : Mem) : Option ((Int32 × Int32 × Mem) ⊕ (Int32 × Mem)) :=
  if (s (a1 + 9) 1) ≤ x5 then
  some (.inr (x4, s))
  else
  (f_X7_at (a1 + 9) x5 s).bind fun r2 =>
  if ((x2 >>> (r2.1 &&& 31)) &&& 1) = 1 then
  (f_X7_at (a1 + 11) x5 r2.2).bind fun r7 =>
  if ((x2 >>> (r7.1 &&& 31)) &&& 1) = 0 then
  jn_X9_cut_56 a1 x2 x3 x4 x5 1 r7.2
  else
  jn_X9_cut_55 a1 x2 x3 x4 x5 r7.2
  else
  jn_X9_cut_55 a1 x2 x3 x4 x5 r2.2
def f_X9_cut (a1 : Nat) (x2 : Int32) (x3 : Int32) (s : Mem) : Option (Int32 × Mem) :=
  (it FUEL (fun y => st_X9_cut_6 a1 x2 x3 y.1 y.2.1 y.2.2) (0, 0, s)).bind fun r9 =>
  some (r9.1, r9.2)
def st_X9_leastCut_8 (a1 : Nat) (x2 : Int32) (x3 : Int32) (x4 : Int32) (x5 : Int32) (x6 : Int32) (s : Mem) : Option ((Int32 × Int32 × Mem) ⊕ (Int32 × Mem)) :=
  if 64 ≤ x6 then
  some (.inr (x5, s))
  else
  if ((x6 >>> (x2 &&& 31)) &&& 1) = 1 then
  if ((x6 >>> (x3 &&& 31)) &&& 1) = 0 then
  (f_X9_cut a1 x6 x4 s).bind fun r4 =>
  some (.inl ((jmmin x5 r4.1), (x6 + 1), r4.2))
  else
  some (.inl (x5, (x6 + 1), s))
  else
  some (.inl (x5, (x6 + 1), s))
def f_X9_leastCut (a1 : Nat) (x2 : Int32) (x3 : Int32) (x4 : Int32) (s : Mem) : Option (Int32 × Mem) :=
  (it FUEL (fun y => st_X9_leastCut_8 a1 x2 x3 x4 y.1 y.2.1 y.2.2) (280, 0, s)).bind fun r5 =>
  some (r5.1, r5.2)
def st_X9_valueAt_10 (a1 : Nat) (x2 : Int32) (x3 : Int32) (x4 : Int32) (s : Mem) : Option ((Int32 × Int32 × Mem) ⊕ (Int32 × Mem)) :=
  if x4 < 0 then
  some (.inr (x3, s))
  else
  (f_X7_at a1 x4 s).bind fun r2 =>
  some (.inl (((x3 * x2) + r2.1), (x4 + (-1)), r2.2))
def f_X9_valueAt (a1 : Nat) (x2 : Int32) (s : Mem) : Option (Int32 × Mem) :=
  (it FUEL (fun y => st_X9_valueAt_10 a1 x2 y.1 y.2.1 y.2.2) (0, ((s a1 1) - 1), s)).bind fun r3 =>
  some (r3.1, r3.2)
def st_X9_zeros_5 (a1 : Nat) (x2 : Int32) (x3 : Int32) (s : Mem) : Option ((Int32 × Int32 × Mem) ⊕ (Int32 × Mem)) :=
  if 9 < x3 then
  some (.inr (x2, s))
  else
  (f_X9_valueAt a1 x3 s).bind fun r2 =>
  if r2.1 = 0 then
  some (.inl ((x2 + 1), (x3 + 1), r2.2))
  else
  some (.inl (x2, (x3 + 1), r2.2))
def f_X9_zeros (a1 : Nat) (s : Mem) : Option (Int32 × Mem) :=
  (it FUEL (fun y => st_X9_zeros_5 a1 y.1 y.2.1 y.2.2) (0, (-9), s)).bind fun r4 =>
  some (r4.1, r4.2)
def st_X9_productTerm_6 (a1 : Nat) (a2 : Nat) (x3 : Int32) (x4 : Int32) (x5 : Int32) (s : Mem) : Option ((Int32 × Int32 × Mem) ⊕ (Int32 × Mem)) :=
  if (s a1 1) ≤ x5 then
  some (.inr (x4, s))
  else
  if (x3 - x5) < 0 then
  some (.inl (x4, (x5 + 1), s))
  else
  if (s a2 1) ≤ (x3 - x5) then
  some (.inl (x4, (x5 + 1), s))
  else
  (f_X7_at a1 x5 s).bind fun r4 =>
  (f_X7_at a2 (x3 - x5) r4.2).bind fun r5 =>
  some (.inl ((x4 + (r4.1 * r5.1)), (x5 + 1), r5.2))
def f_X9_productTerm (a1 : Nat) (a2 : Nat) (x3 : Int32) (s : Mem) : Option (Int32 × Mem) :=
  (it FUEL (fun y => st_X9_productTerm_6 a1 a2 x3 y.1 y.2.1 y.2.2) (0, 0, s)).bind fun r6 =>
  some (r6.1, r6.2)
def st_X9_areBelow_2 (a0 : Nat) (x1 : Int32) (x2 : Int32) (s : Mem) : Option ((Int32 × Mem) ⊕ (Nat × Mem)) :=
  if (s a0 1) ≤ x2 then
  some (.inr (1, s))
  else
  (f_X7_at a0 x2 s).bind fun r2 =>
  if r2.1 < x1 then
  some (.inl ((x2 + 1), r2.2))
  else
  some (.inr (0, r2.2))
def f_X9_areBelow (a0 : Nat) (x1 : Int32) (s : Mem) : Option (Int32 × Mem) :=
  (it FUEL (fun y => st_X9_areBelow_2 a0 x1 y.1 y.2) (0, s)).bind fun r4 =>
  if r4.1 = 0 then some (0, r4.2) else some (1, r4.2)
def st_X9_leastFree_5 (a0 : Nat) (x3 : Int32) (x4 : Int32) (s : Mem) : Option ((Int32 × Int32 × Mem) ⊕ (Int32 × Mem)) :=
  if (s a0 1) ≤ x4 then
  some (.inr (x3, s))
  else
  (f_X7_at a0 x4 s).bind fun r2 =>
  some (.inl ((x3 &&& ((1 <<< (r2.1 &&& 31)) ^^^ (-1))), (x4 + 1), r2.2))
def st_X9_leastFree_36 (a0 : Nat) (x3 : Int32) (x4 : Int32) (s : Mem) : Option ((Int32 × Mem) ⊕ (Nat × Int32 × Mem)) :=
  if 8 ≤ x4 then
  some (.inr (1, 0, s))
  else
  if ((x3 >>> (x4 &&& 31)) &&& 1) = 1 then
  some (.inr (0, x4, s))
  else
  some (.inl ((x4 + 1), s))
def f_X9_leastFree (a0 : Nat) (x1 : Int32) (x2 : Int32) (s : Mem) : Option (Int32 × Mem) :=
  (it FUEL (fun y => st_X9_leastFree_5 a0 y.1 y.2.1 y.2.2) (x2, x1, s)).bind fun r3 =>
  (it FUEL (fun y => st_X9_leastFree_36 a0 r3.1 y.1 y.2) (0, r3.2)).bind fun r6 =>
  if r6.1 = 0 then some (r6.2.1, r6.2.2) else some ((-1), r6.2.2)
def st_X9_growTree_32 (a1 : Nat) (x3 : Int32) (x4 : Int32) (s : Mem) : Option ((Int32 × Int32 × Mem) ⊕ (Nat × Int32 × Mem)) :=
  if (s a1 1) ≤ x4 then
  some (.inr (1, x3, s))
  else
  (f_X9_leastFree a1 x4 x3 s).bind fun r5 =>
  if r5.1 = (-1) then
  some (.inr (0, 0, r5.2))
  else
  (f_X7_at a1 x4 r5.2).bind fun r7 =>
  (wr 8 r7.2 199 r5.1 r7.1).bind fun s8 =>
  some (.inl ((x3 &&& ((1 <<< (r5.1 &&& 31)) ^^^ (-1))), (x4 + 1), s8))
def f_X9_growTree (a1 : Nat) (s : Mem) : Option (Int32 × Mem) :=
  if 8 < ((s a1 1) + 2) then
  some (0, s)
  else
  (f_X9_areBelow a1 ((s a1 1) + 2) s).bind fun r2 =>
  if r2.1 = 0 then
  some (0, r2.2)
  else
  (it FUEL (fun y => st_X9_growTree_32 a1 y.1 y.2.1 y.2.2) (((1 <<< (((s a1 1) + 2) &&& 31)) - 1), 0, r2.2)).bind fun r9 =>
  if r9.1 = 0 then some (0, r9.2.2) else (f_X9_leastFree a1 (r9.2.2 a1 1) r9.2.1 r9.2.2).bind fun r10 =>
  if r10.1 = (-1) then
  some (0, r10.2)
  else
  (f_X9_leastFree a1 (r10.2 a1 1) (r9.2.1 &&& ((1 <<< (r10.1 &&& 31)) ^^^ (-1))) r10.2).bind fun r12 =>
  if r12.1 = (-1) then
  some (0, r12.2)
  else
  (wr 8 r12.2 199 r10.1 r12.1).bind fun s14 =>
  (wr 8 s14 199 r12.1 (-1)).bind fun s15 =>
  some (1, s15)
def st_X9_joinedTo_19 (x1 : Int32) (x2 : Int32) (x3 : Int32) (x4 : Int32) (s : Mem) : Option ((Int32 × Int32 × Mem) ⊕ (Int32 × Mem)) :=
  if x2 ≤ x4 then
  some (.inr (x3, s))
  else
  (rd 8 (s 199) x4).bind fun v4 =>
  if v4 = x1 then
  some (.inl ((x3 + 1), (x4 + 1), s))
  else
  some (.inl (x3, (x4 + 1), s))
def jn_X9_joinedTo_15 (x1 : Int32) (x2 : Int32) (t0 : Int32) (s : Mem) : Option (Int32 × Mem) :=
  (it FUEL (fun y => st_X9_joinedTo_19 x1 x2 y.1 y.2.1 y.2.2) (t0, 0, s)).bind fun r6 =>
  some (r6.1, r6.2)
def f_X9_joinedTo (x1 : Int32) (x2 : Int32) (s : Mem) : Option (Int32 × Mem) :=
  (rd 8 (s 199) x1).bind fun v1 =>
  if v1 = (-1) then
  jn_X9_joinedTo_15 x1 x2 0 s
  else
  jn_X9_joinedTo_15 x1 x2 1 s
def f_X9_isKin (x0 : Int32) (s : Mem) : Option (Int32 × Mem) :=
  if x0 < 0 then
  some (0, s)
  else
  if 8 ≤ x0 then
  some (0, s)
  else
  some (1, s)
def st_X9_joiningsBetween_25 (x2 : Int32) (x3 : Int32) (x4 : Int32) (x5 : Int32) (x6 : Int32) (s : Mem) : Option ((Int32 × Int32 × Mem) ⊕ (Nat × Int32 × Mem)) :=
  if 8 ≤ x6 then
  some (.inr (1, 0, s))
  else
  (f_X9_isKin x5 s).bind fun r5 =>
  if r5.1 = 0 then
  some (.inr (1, 0, r5.2))
  else
  if x5 = x3 then
  some (.inr (0, x6, r5.2))
  else
  (rd 8 (r5.2 199) x5).bind fun v8 =>
  some (.inl (v8, (x6 + 1), r5.2))
def jn_X9_joiningsBetween_67 (x2 : Int32) (x3 : Int32) (x4 : Int32) (s : Mem) : Option ((Int32 × Int32 × Mem) ⊕ (Nat × Int32 × Int32 × Mem)) :=
  (rd 8 (s 199) x3).bind fun v10 =>
  some (.inl (v10, (x4 + 1), s))
def st_X9_joiningsBetween_5 (x2 : Int32) (x3 : Int32) (x4 : Int32) (s : Mem) : Option ((Int32 × Int32 × Mem) ⊕ (Nat × Int32 × Int32 × Mem)) :=
  if 8 ≤ x4 then
  some (.inr (1, 0, 0, s))
  else
  (f_X9_isKin x3 s).bind fun r2 =>
  if r2.1 = 0 then
  some (.inr (1, 0, 0, r2.2))
  else
  (it FUEL (fun y => st_X9_joiningsBetween_25 x2 x3 x4 y.1 y.2.1 y.2.2) (x2, 0, r2.2)).bind fun r9 =>
  if r9.1 = 0 then some (.inr (0, x4, r9.2.1, r9.2.2)) else jn_X9_joiningsBetween_67 x2 x3 x4 r9.2.2
def f_X9_joiningsBetween (x1 : Int32) (x2 : Int32) (s : Mem) : Option (Int32 × Mem) :=
  (it FUEL (fun y => st_X9_joiningsBetween_5 x2 y.1 y.2.1 y.2.2) (x1, 0, s)).bind fun r11 =>
  if r11.1 = 0 then some ((r11.2.1 + r11.2.2.1), r11.2.2.2) else some ((-1), r11.2.2.2)
def st_X9_markBad_2 (a1 : Nat) (x2 : Int32) (s : Mem) : Option ((Int32 × Mem) ⊕ (Mem)) :=
  if 40 < x2 then
  some (.inr (s))
  else
  (wr 41 s 198 x2 0).bind fun s2 =>
  some (.inl ((x2 + 1), s2))
def st_X9_markBad_23 (a1 : Nat) (x2 : Int32) (s : Mem) : Option ((Int32 × Mem) ⊕ (Mem)) :=
  if (s a1 1) ≤ x2 then
  some (.inr (s))
  else
  (f_X7_at a1 x2 s).bind fun r5 =>
  if r5.1 < 0 then
  some (.inl ((x2 + 1), r5.2))
  else
  if 40 < r5.1 then
  some (.inl ((x2 + 1), r5.2))
  else
  (wr 41 r5.2 198 r5.1 1).bind fun s8 =>
  some (.inl ((x2 + 1), s8))
def f_X9_markBad (a1 : Nat) (s : Mem) : Option (Mem) :=
  (it FUEL (fun y => st_X9_markBad_2 a1 y.1 y.2) (0, s)).bind fun r3 =>
  (it FUEL (fun y => st_X9_markBad_23 a1 y.1 y.2) (0, r3)).bind fun r9 =>
  some r9
def st_X9_waysUp_34 (a1 : Nat) (x2 : Int32) (x3 : Int32) (x4 : Int32) (x5 : Int32) (x6 : Int32) (s : Mem) : Option ((Int32 × Int32 × Mem) ⊕ (Int32 × Mem)) :=
  if x4 ≤ x6 then
  some (.inr (x5, s))
  else
  (rd 41 (s 198) x4).bind fun v5 =>
  if v5 = 0 then
  (rd 41 (s 197) x6).bind fun v7 =>
  some (.inl (((((x5).toInt64 + (v7).toInt64) - ((x5).toInt64 + (v7).toInt64) / (1000000007 : Int64) * (1000000007 : Int64))).toInt32, (x6 + 1), s))
  else
  some (.inr (x5, s))
def jn_X9_waysUp_76 (a1 : Nat) (x2 : Int32) (x3 : Int32) (x4 : Int32) (x5 : Int32) (s : Mem) : Option ((Int32 × Mem) ⊕ (Mem)) :=
  (wr 41 s 197 x4 x5).bind fun s9 =>
  some (.inl ((x4 + 1), s9))
def st_X9_waysUp_15 (a1 : Nat) (x2 : Int32) (x3 : Int32) (x4 : Int32) (s : Mem) : Option ((Int32 × Mem) ⊕ (Mem)) :=
  if x2 < x4 then
  some (.inr (s))
  else
  (it FUEL (fun y => st_X9_waysUp_34 a1 x2 x3 x4 y.1 y.2.1 y.2.2) (0, (jmmax 0 (x4 - x3)), s)).bind fun r8 =>
  jn_X9_waysUp_76 a1 x2 x3 x4 r8.1 r8.2
def f_X9_waysUp (a1 : Nat) (x2 : Int32) (x3 : Int32) (s : Mem) : Option (Int32 × Mem) :=
  (f_X9_markBad a1 s).bind fun r1 =>
  (wr 41 r1 197 0 1).bind fun s2 =>
  (it FUEL (fun y => st_X9_waysUp_15 a1 x2 x3 y.1 y.2) (1, s2)).bind fun r10 =>
  (rd 41 (r10 197) x2).bind fun v11 =>
  some (v11, r10)
def jn_X9_fewestGoings_75 (a1 : Nat) (x2 : Int32) (x3 : Int32) (x4 : Int32) (x5 : Int32) (x6 : Int32) (t0 : Int32) (s : Mem) : Option ((Int32 × Int32 × Mem) ⊕ (Int32 × Mem)) :=
  if t0 = (-1) then
  some (.inl (x5, (x6 + 1), s))
  else
  if x5 = (-1) then
  some (.inl (t0, (x6 + 1), s))
  else
  if x5 ≤ t0 then
  some (.inl (x5, (x6 + 1), s))
  else
  some (.inl (t0, (x6 + 1), s))
def st_X9_fewestGoings_34 (a1 : Nat) (x2 : Int32) (x3 : Int32) (x4 : Int32) (x5 : Int32) (x6 : Int32) (s : Mem) : Option ((Int32 × Int32 × Mem) ⊕ (Int32 × Mem)) :=
  if x4 ≤ x6 then
  some (.inr (x5, s))
  else
  (rd 41 (s 198) x4).bind fun v5 =>
  if v5 = 0 then
  (rd 41 (s 197) x6).bind fun v7 =>
  if v7 = (-1) then
  jn_X9_fewestGoings_75 a1 x2 x3 x4 x5 x6 (-1) s
  else
  (rd 41 (s 197) x6).bind fun v9 =>
  jn_X9_fewestGoings_75 a1 x2 x3 x4 x5 x6 (v9 + 1) s
  else
  some (.inr (x5, s))
def jn_X9_fewestGoings_106 (a1 : Nat) (x2 : Int32) (x3 : Int32) (x4 : Int32) (x5 : Int32) (s : Mem) : Option ((Int32 × Mem) ⊕ (Mem)) :=
  (wr 41 s 197 x4 x5).bind fun s14 =>
  some (.inl ((x4 + 1), s14))
def st_X9_fewestGoings_15 (a1 : Nat) (x2 : Int32) (x3 : Int32) (x4 : Int32) (s : Mem) : Option ((Int32 × Mem) ⊕ (Mem)) :=
  if x2 < x4 then
  some (.inr (s))
  else
  (it FUEL (fun y => st_X9_fewestGoings_34 a1 x2 x3 x4 y.1 y.2.1 y.2.2) ((-1), (jmmax 0 (x4 - x3)), s)).bind fun r13 =>
  jn_X9_fewestGoings_106 a1 x2 x3 x4 r13.1 r13.2
def f_X9_fewestGoings (a1 : Nat) (x2 : Int32) (x3 : Int32) (s : Mem) : Option (Int32 × Mem) :=
  (f_X9_markBad a1 s).bind fun r1 =>
  (wr 41 r1 197 0 0).bind fun s2 =>
  (it FUEL (fun y => st_X9_fewestGoings_15 a1 x2 x3 y.1 y.2) (1, s2)).bind fun r15 =>
  (rd 41 (r15 197) x2).bind fun v16 =>
  some (v16, r15)
def jn_X9_isLost_51 (a0 : Nat) (x1 : Int32) (x2 : Int32) (x3 : Int32) (x5 : Int32) (s : Mem) : Option ((Int32 × Int32 × Int32 × Mem) ⊕ (Int32 × Int32 × Mem)) :=
  some (.inl (x3, 1, (x5 + 1), s))
def jn_X9_isLost_33 (a0 : Nat) (x1 : Int32) (x2 : Int32) (x3 : Int32) (x4 : Int32) (x5 : Int32) (t0 : Int32) (s : Mem) : Option ((Int32 × Int32 × Int32 × Mem) ⊕ (Int32 × Int32 × Mem)) :=
  if x4 = 0 then
  if t0 ≤ 1 then
  some (.inl ((x3 ^^^ t0), 0, (x5 + 1), s))
  else
  jn_X9_isLost_51 a0 x1 x2 (x3 ^^^ t0) x5 s
  else
  jn_X9_isLost_51 a0 x1 x2 (x3 ^^^ t0) x5 s
def st_X9_isLost_8 (a0 : Nat) (x1 : Int32) (x2 : Int32) (x3 : Int32) (x4 : Int32) (x5 : Int32) (s : Mem) : Option ((Int32 × Int32 × Int32 × Mem) ⊕ (Int32 × Int32 × Mem)) :=
  if (s a0 1) ≤ x5 then
  some (.inr (x3, x4, s))
  else
  if x5 = x1 then
  jn_X9_isLost_33 a0 x1 x2 x3 x4 x5 x2 s
  else
  (f_X7_at a0 x5 s).bind fun r3 =>
  jn_X9_isLost_33 a0 x1 x2 x3 x4 x5 r3.1 r3.2
def f_X9_isLost (a0 : Nat) (x1 : Int32) (x2 : Int32) (s : Mem) : Option (Int32 × Mem) :=
  (it FUEL (fun y => st_X9_isLost_8 a0 x1 x2 y.1 y.2.1 y.2.2.1 y.2.2.2) (0, 0, 0, s)).bind fun r6 =>
  if r6.2.1 = 0 then
  if r6.1 = 1 then
  some (1, r6.2.2)
  else
  some (0, r6.2.2)
  else
  if r6.1 = 0 then
  some (1, r6.2.2)
  else
  some (0, r6.2.2)
def st_X9_winningMove_12 (a1 : Nat) (x2 : Int32) (x3 : Int32) (s : Mem) : Option ((Int32 × Mem) ⊕ (Nat × Int32 × Mem)) :=
  (f_X7_at a1 x2 s).bind fun r2 =>
  if r2.1 < x3 then
  some (.inr (1, 0, r2.2))
  else
  (f_X7_at a1 x2 r2.2).bind fun r4 =>
  (f_X9_isLost a1 x2 (r4.1 - x3) r4.2).bind fun r5 =>
  if r5.1 = 0 then
  some (.inl ((x3 + 1), r5.2))
  else
  some (.inr (0, x3, r5.2))
def st_X9_winningMove_2 (a1 : Nat) (x2 : Int32) (s : Mem) : Option ((Int32 × Mem) ⊕ (Nat × Int32 × Int32 × Mem)) :=
  if (s a1 1) ≤ x2 then
  some (.inr (1, 0, 0, s))
  else
  (it FUEL (fun y => st_X9_winningMove_12 a1 x2 y.1 y.2) (1, s)).bind fun r7 =>
  if r7.1 = 0 then some (.inr (0, x2, r7.2.1, r7.2.2)) else some (.inl ((x2 + 1), r7.2.2))
def f_X9_winningMove (a1 : Nat) (s : Mem) : Option (Int32 × Mem) :=
  (it FUEL (fun y => st_X9_winningMove_2 a1 y.1 y.2) (0, s)).bind fun r8 =>
  if r8.1 = 0 then some (((100 * r8.2.1) + r8.2.2.1), r8.2.2.2) else some ((-1), r8.2.2.2)
def f_X10_copyFrom (a0 : Nat) (a1 : Nat) (s : Mem) : Option (Mem) :=
  (f_X0_copyFrom (a0 + 1) (a1 + 1) s).bind fun r1 =>
  (f_X1_copyFrom (a0 + 9) (a1 + 9) r1).bind fun r2 =>
  (f_X5_copyFrom (a0 + 16) (a1 + 16) r2).bind fun r3 =>
  (f_X5_copyFrom (a0 + 21) (a1 + 21) r3).bind fun r4 =>
  (f_X3_copyFrom (a0 + 26) (a1 + 26) r4).bind fun r5 =>
  (f_X8_copyFrom (a0 + 31) (a1 + 31) r5).bind fun r6 =>
  (cpy 600 600 r6 (a1 + 56) 0 (a0 + 56) 0 600).bind fun s7 =>
  some s7
def f_X10_write (a0 : Nat) (a1 : Nat) (x2 : Int32) (x3 : Int32) (x4 : Int32) (s : Mem) : Option (Mem) :=
  if (s a1 0) = 0 then
  if (s a1 12) < 150 then
  (wr 600 s (a0 + 56) ((s a1 12) * 4) (s a1 10)).bind fun s3 =>
  (wr 600 s3 (a0 + 56) (((s a1 12) * 4) + 1) x2).bind fun s4 =>
  (wr 600 s4 (a0 + 56) (((s a1 12) * 4) + 2) x3).bind fun s5 =>
  (wr 600 s5 (a0 + 56) (((s a1 12) * 4) + 3) x4).bind fun s6 =>
  some (mset s6 a1 12 ((s6 a1 12) + 1))
  else
  some s
  else
  some s
def f_X10_nameOne (a0 : Nat) (a1 : Nat) (x2 : Int32) (x3 : Int32) (s : Mem) : Option (Mem) :=
  (rd 14 (s (a1 + 5)) x3).bind fun v1 =>
  (wr 14 s (a1 + 5) x3 (v1 + 1)).bind fun s2 =>
  (rd 14 (s2 (a1 + 2)) x3).bind fun v3 =>
  (f_X1_ask (a0 + 9) a1 0 x3 s2).bind fun r4 =>
  (f_X0_hiccup a1 x3 (v3 + r4.1) r4.2).bind fun r5 =>
  (f_X0_blame a1 x3 x2 r5).bind fun r6 =>
  (rd 14 (r6 (a1 + 2)) x3).bind fun v7 =>
  (f_X10_write a0 a1 0 x3 v7 r6).bind fun r8 =>
  some r8
def f_X10_frighten (a0 : Nat) (a1 : Nat) (x2 : Int32) (s : Mem) : Option (Mem) :=
  (rd 14 (s (a1 + 2)) x2).bind fun v1 =>
  (f_X0_hiccup a1 x2 (v1 / 2) s).bind fun r2 =>
  (rd 14 (r2 (a1 + 7)) x2).bind fun v3 =>
  (wr 14 r2 (a1 + 7) x2 (v3 + 1)).bind fun s4 =>
  (rd 14 (s4 (a1 + 2)) x2).bind fun v5 =>
  (f_X10_write a0 a1 5 x2 v5 s4).bind fun r6 =>
  some r6
def f_X10_handOn (a0 : Nat) (a1 : Nat) (x2 : Int32) (x3 : Int32) (s : Mem) : Option (Mem) :=
  (rd 14 (s (a1 + 2)) x2).bind fun v1 =>
  if v1 ≤ 0 then
  some s
  else
  (f_X0_has a1 x3 s).bind fun r3 =>
  if r3.1 = 0 then
  some r3.2
  else
  (rd 14 (r3.2 (a1 + 2)) x3).bind fun v5 =>
  (rd 14 (r3.2 (a1 + 2)) x2).bind fun v6 =>
  (f_X0_hiccup a1 x3 (v5 + v6) r3.2).bind fun r7 =>
  (f_X0_blame a1 x3 x2 r7).bind fun r8 =>
  (f_X0_hiccup a1 x2 0 r8).bind fun r9 =>
  (f_X10_write a0 a1 4 x2 x3 r9).bind fun r10 =>
  some r10
def f_X10_cure (a0 : Nat) (a1 : Nat) (x2 : Int32) (x3 : Int32) (x4 : Int32) (s : Mem) : Option (Mem) :=
  if x2 = 1 then
  (f_X10_frighten a0 a1 x3 s).bind fun r2 =>
  some r2
  else if x2 = 2 then
  (rd 14 (s (a1 + 2)) x3).bind fun v4 =>
  (f_X0_hiccup a1 x3 (v4 - x4) s).bind fun r5 =>
  some r5
  else if x2 = 3 then
  (f_X10_handOn a0 a1 x3 x4 s).bind fun r7 =>
  some r7
  else 
  (rd 14 (s (a1 + 1)) x3).bind fun v8 =>
  (wr 14 s (a1 + 1) x3 (jmmin 9 (v8 + 1))).bind fun s9 =>
  some s9
def jn_X10_stops_53 (a0 : Nat) (a1 : Nat) (x2 : Int32) (t0 : Int32) (s : Mem) : Option (Int32 × Mem) :=
  if t0 = 0 then
  if ¬ (t0 = 0 ∨ t0 = 1) then none else some (t0, s)
  else
  (rd 14 (s (a1 + 2)) x2).bind fun v6 =>
  (f_X10_write a0 a1 1 x2 v6 s).bind fun r7 =>
  (f_X0_hiccup a1 x2 0 r7).bind fun r8 =>
  if ¬ (t0 = 0 ∨ t0 = 1) then none else some (t0, r8)
def jn_X10_stops_52 (a0 : Nat) (a1 : Nat) (x2 : Int32) (s : Mem) : Option (Int32 × Mem) :=
  jn_X10_stops_53 a0 a1 x2 0 s
def f_X10_stops (a0 : Nat) (a1 : Nat) (x2 : Int32) (s : Mem) : Option (Int32 × Mem) :=
  (f_X1_ask (a0 + 9) a1 1 x2 s).bind fun r1 =>
  if (r1.2 a1 0) = 0 then
  if r1.1 ≤ 0 then
  jn_X10_stops_52 a0 a1 x2 r1.2
  else
  (f_X0_draw a1 1000 r1.2).bind fun r10 =>
  if r1.1 ≤ r10.1 then
  jn_X10_stops_52 a0 a1 x2 r10.2
  else
  jn_X10_stops_53 a0 a1 x2 1 r10.2
  else
  if r1.1 < 500 then
  jn_X10_stops_53 a0 a1 x2 0 r1.2
  else
  jn_X10_stops_53 a0 a1 x2 1 r1.2
def f_X10_nextName (a0 : Nat) (a1 : Nat) (x2 : Int32) (s : Mem) : Option (Int32 × Mem) :=
  (rd 14 (s (a1 + 4)) x2).bind fun v1 =>
  (f_X3_firstUntried (a0 + 26) x2 (s a1 1) v1 s).bind fun r2 =>
  some (r2.1, r2.2)
def jn_X10_speak_120 (a0 : Nat) (a1 : Nat) (x2 : Int32) (x3 : Int32) (s : Mem) : Option (Int32 × Mem) :=
  (f_X0_hiccup a1 x2 0 s).bind fun r11 =>
  (f_X10_write a0 a1 3 x2 x3 r11).bind fun r12 =>
  some (1, r12)
def f_X10_speak (a0 : Nat) (a1 : Nat) (x2 : Int32) (s : Mem) : Option (Int32 × Mem) :=
  (f_X10_nextName a0 a1 x2 s).bind fun r1 =>
  if r1.1 = (-1) then
  (rd 14 (r1.2 (a1 + 2)) x2).bind fun v17 =>
  (f_X0_hiccup a1 x2 (v17 - 1) r1.2).bind fun r18 =>
  (rd 14 (r18 (a1 + 2)) x2).bind fun v19 =>
  (f_X10_write a0 a1 6 x2 v19 r18).bind fun r20 =>
  some (0, r20)
  else
  (rd 14 (r1.2 (a1 + 3)) x2).bind fun v3 =>
  if r1.1 = v3 then
  (rd 14 (r1.2 (a1 + 6)) r1.1).bind fun v5 =>
  (wr 14 r1.2 (a1 + 6) r1.1 (v5 + 1)).bind fun s6 =>
  (f_X1_ask (a0 + 9) a1 2 x2 s6).bind fun r7 =>
  (rd 14 (r7.2 (a1 + 2)) r1.1).bind fun v8 =>
  (f_X0_hiccup a1 r1.1 (v8 + r7.1) r7.2).bind fun r9 =>
  if r7.1 ≤ 0 then
  jn_X10_speak_120 a0 a1 x2 r1.1 r9
  else
  (f_X0_blame a1 r1.1 x2 r9).bind fun r13 =>
  jn_X10_speak_120 a0 a1 x2 r1.1 r13
  else
  (rd 14 (r1.2 (a1 + 4)) x2).bind fun v14 =>
  (wr 14 r1.2 (a1 + 4) x2 (v14 ||| (1 <<< (r1.1 &&& 31)))).bind fun s15 =>
  (f_X10_write a0 a1 2 x2 r1.1 s15).bind fun r16 =>
  some (0, r16)
def st_X10_passMinute_2 (a0 : Nat) (a1 : Nat) (x2 : Int32) (s : Mem) : Option ((Int32 × Mem) ⊕ (Mem)) :=
  if (s (a0 + 16) 0) ≤ x2 then
  some (.inr (s))
  else
  (rd 16 (s ((a0 + 16) + 1)) x2).bind fun v2 =>
  if v2 = (s a1 10) then
  (rd 16 (s ((a0 + 16) + 3)) x2).bind fun v4 =>
  (f_X0_has a1 v4 s).bind fun r5 =>
  if r5.1 = 0 then
  some (.inl ((x2 + 1), r5.2))
  else
  (rd 16 (r5.2 ((a0 + 16) + 4)) x2).bind fun v7 =>
  (f_X0_has a1 v7 r5.2).bind fun r8 =>
  if r8.1 = 0 then
  some (.inl ((x2 + 1), r8.2))
  else
  (rd 16 (r8.2 ((a0 + 16) + 3)) x2).bind fun v10 =>
  (rd 16 (r8.2 ((a0 + 16) + 4)) x2).bind fun v11 =>
  (f_X10_nameOne a0 a1 v10 v11 r8.2).bind fun r12 =>
  some (.inl ((x2 + 1), r12))
  else
  some (.inl ((x2 + 1), s))
def st_X10_passMinute_92 (a0 : Nat) (a1 : Nat) (x2 : Int32) (s : Mem) : Option ((Int32 × Mem) ⊕ (Mem)) :=
  if (s (a0 + 21) 0) ≤ x2 then
  some (.inr (s))
  else
  (rd 16 (s ((a0 + 21) + 1)) x2).bind fun v15 =>
  if v15 = (s a1 10) then
  (rd 16 (s ((a0 + 21) + 3)) x2).bind fun v17 =>
  (f_X0_has a1 v17 s).bind fun r18 =>
  if r18.1 = 0 then
  some (.inl ((x2 + 1), r18.2))
  else
  (rd 16 (r18.2 ((a0 + 21) + 2)) x2).bind fun v20 =>
  (rd 16 (r18.2 ((a0 + 21) + 3)) x2).bind fun v21 =>
  (rd 16 (r18.2 ((a0 + 21) + 4)) x2).bind fun v22 =>
  (f_X10_cure a0 a1 v20 v21 v22 r18.2).bind fun r23 =>
  some (.inl ((x2 + 1), r23))
  else
  some (.inl ((x2 + 1), s))
def st_X10_passMinute_177 (a0 : Nat) (a1 : Nat) (x2 : Int32) (x3 : Int32) (s : Mem) : Option ((Int32 × Int32 × Mem) ⊕ (Int32 × Mem)) :=
  if (s a1 1) ≤ x3 then
  some (.inr (x2, s))
  else
  (rd 14 (s (a1 + 2)) x3).bind fun v26 =>
  if v26 ≤ 0 then
  some (.inl (x2, (x3 + 1), s))
  else
  (f_X10_stops a0 a1 x3 s).bind fun r28 =>
  if r28.1 = 0 then
  (f_X10_speak a0 a1 x3 r28.2).bind fun r30 =>
  if r30.1 = 0 then
  some (.inl (x2, (x3 + 1), r30.2))
  else
  some (.inl ((x2 + 1), (x3 + 1), r30.2))
  else
  some (.inl (x2, (x3 + 1), r28.2))
def jn_X10_passMinute_238 (a0 : Nat) (a1 : Nat) (x2 : Int32) (s : Mem) : Option (Int32 × Mem) :=
  some (x2, (mset s a1 10 ((s a1 10) + 1)))
def f_X10_passMinute (a0 : Nat) (a1 : Nat) (s : Mem) : Option (Int32 × Mem) :=
  (it FUEL (fun y => st_X10_passMinute_2 a0 a1 y.1 y.2) (0, s)).bind fun r13 =>
  (it FUEL (fun y => st_X10_passMinute_92 a0 a1 y.1 y.2) (0, r13)).bind fun r24 =>
  (it FUEL (fun y => st_X10_passMinute_177 a0 a1 y.1 y.2.1 y.2.2) (0, 0, r24)).bind fun r32 =>
  (f_X0_havers a1 r32.2).bind fun r33 =>
  if r33.1 = 0 then
  jn_X10_passMinute_238 a0 a1 r32.1 (mset r33.2 a1 9 ((r33.2 a1 9) + 1))
  else
  jn_X10_passMinute_238 a0 a1 r32.1 r33.2
def f_X11_forget (s : Mem) : Option (Mem) :=
  some (mset s 0 5 0)
def f_X11_state (x1 : Int32) (s : Mem) : Option (Int32 × Mem) :=
  (f_X11_forget (mset s (1 + 1) 11 x1)).bind fun r1 =>
  some ((s (1 + 1) 11), r1)
def f_X11_person (x1 : Int32) (s : Mem) : Option (Int32 × Mem) :=
  if x1 < 0 then
  some ((-1), s)
  else
  if 9 < x1 then
  some ((-1), s)
  else
  if (s (1 + 1) 1) < 14 then
  (f_X11_forget s).bind fun r4 =>
  (f_X0_welcome (1 + 1) x1 r4).bind fun r5 =>
  some (r5.1, r5.2)
  else
  some ((-1), s)
def jn_X11_set_68 (s : Mem) : Option (Int32 × Mem) :=
  (f_X11_forget s).bind fun r8 =>
  some (1, r8)
def jn_X11_set_45 (x1 : Int32) (x2 : Int32) (x3 : Int32) (s : Mem) : Option (Int32 × Mem) :=
  if x1 = 1 then
  if 99 < x3 then
  some (0, s)
  else
  (f_X0_hiccup (1 + 1) x2 x3 s).bind fun r7 =>
  jn_X11_set_68 r7
  else
  some (0, s)
def f_X11_set (x1 : Int32) (x2 : Int32) (x3 : Int32) (s : Mem) : Option (Int32 × Mem) :=
  (f_X0_has (1 + 1) x2 s).bind fun r1 =>
  if r1.1 = 0 then
  some (0, r1.2)
  else
  if 0 ≤ x3 then
  if x1 = 0 then
  if 9 < x3 then
  jn_X11_set_45 x1 x2 x3 r1.2
  else
  (wr 14 r1.2 ((1 + 1) + 1) x2 x3).bind fun s10 =>
  jn_X11_set_68 s10
  else
  jn_X11_set_45 x1 x2 x3 r1.2
  else
  some (0, r1.2)
def jn_X11_canAct_75 (x2 : Int32) (s : Mem) : Option (Int32 × Mem) :=
  (rd 14 (s ((1 + 1) + 2)) x2).bind fun v8 =>
  if v8 ≤ 0 then
  some (0, s)
  else
  some (1, s)
def jn_X11_canAct_39 (x1 : Int32) (x2 : Int32) (t0 : Int32) (s : Mem) : Option (Int32 × Mem) :=
  if x1 = 0 then
  if ¬ (t0 = 0 ∨ t0 = 1) then none else some (t0, s)
  else if x1 = 1 then
  jn_X11_canAct_75 x2 s
  else if x1 = 2 then
  if t0 = 0 then
  some (0, s)
  else
  (rd 14 (s ((1 + 1) + 2)) x2).bind fun v12 =>
  if v12 ≤ 0 then
  some (0, s)
  else
  some (1, s)
  else if x1 = 3 then
  jn_X11_canAct_75 x2 s
  else 
  some (0, s)
def jn_X11_canAct_38 (x1 : Int32) (x2 : Int32) (s : Mem) : Option (Int32 × Mem) :=
  jn_X11_canAct_39 x1 x2 0 s
def f_X11_canAct (x1 : Int32) (x2 : Int32) (x3 : Int32) (s : Mem) : Option (Int32 × Mem) :=
  (f_X0_has (1 + 1) x2 s).bind fun r1 =>
  if r1.1 = 0 then
  some (0, r1.2)
  else
  (f_X0_has (1 + 1) x3 r1.2).bind fun r3 =>
  if r3.1 = 0 then
  jn_X11_canAct_38 x1 x2 r3.2
  else
  if x3 = x2 then
  jn_X11_canAct_38 x1 x2 r3.2
  else
  jn_X11_canAct_39 x1 x2 1 r3.2
def jn_X11_keep_38 (t1 : Int32) (s : Mem) : Option (Mem) :=
  some (mset (mset s 0 6 t1) 0 5 (jmmin 6 (((mset s 0 6 t1) 0 5) + 1)))
def f_X11_keep (s : Mem) : Option (Mem) :=
  (rdq 6 123 (s 0 6)).bind fun v1 =>
  (f_X0_copyFrom v1 (1 + 1) s).bind fun r2 =>
  if (r2 0 6) = 5 then
  jn_X11_keep_38 0 r2
  else
  jn_X11_keep_38 ((r2 0 6) + 1) r2
def f_X11_act (x1 : Int32) (x2 : Int32) (x3 : Int32) (s : Mem) : Option (Int32 × Mem) :=
  (f_X11_canAct x1 x2 x3 s).bind fun r1 =>
  if r1.1 = 0 then
  some (0, r1.2)
  else
  (f_X11_keep r1.2).bind fun r3 =>
  if x1 = 0 then
  (f_X10_nameOne 1 (1 + 1) x2 x3 r3).bind fun r5 =>
  some (1, r5)
  else if x1 = 1 then
  (f_X10_frighten 1 (1 + 1) x2 r3).bind fun r7 =>
  some (1, r7)
  else if x1 = 2 then
  (f_X10_handOn 1 (1 + 1) x2 x3 r3).bind fun r9 =>
  some (1, r9)
  else 
  (f_X10_speak 1 (1 + 1) x2 r3).bind fun r10 =>
  some (1, r10.2)
def st_X11_minutes_35 (x1 : Int32) (x2 : Int32) (x3 : Int32) (s : Mem) : Option ((Int32 × Int32 × Mem) ⊕ (Int32 × Mem)) :=
  if x1 ≤ x3 then
  some (.inr (x2, s))
  else
  (f_X11_keep s).bind fun r5 =>
  (f_X10_passMinute 1 (1 + 1) r5).bind fun r6 =>
  some (.inl ((x2 + r6.1), (x3 + 1), r6.2))
def f_X11_minutes (x1 : Int32) (s : Mem) : Option (Int32 × Mem) :=
  if x1 < 1 then
  some ((-1), s)
  else
  if 60 < x1 then
  some ((-1), s)
  else
  if ((s (1 + 1) 10) + x1) ≤ 9999 then
  (it FUEL (fun y => st_X11_minutes_35 x1 y.1 y.2.1 y.2.2) (0, 0, s)).bind fun r7 =>
  some (r7.1, r7.2)
  else
  some ((-1), s)
def f_X11_feed (x1 : Int32) (x2 : Int32) (x3 : Int32) (x4 : Int32) (x5 : Int32) (s : Mem) : Option (Int32 × Mem) :=
  (f_X6_hasSpace 20 s).bind fun r1 =>
  if r1.1 = 0 then
  some ((-1), r1.2)
  else
  (f_X6_put x1 r1.2).bind fun r3 =>
  (f_X6_put x2 r3).bind fun r4 =>
  (f_X6_put x3 r4).bind fun r5 =>
  (f_X6_put x4 r5).bind fun r6 =>
  (f_X6_put x5 r6).bind fun r7 =>
  some ((r7 173 0), r7)
def f_X11_end (x1 : Int32) (s : Mem) : Option (Int32 × Mem) :=
  (f_X6_cut x1 s).bind fun r1 =>
  if ¬ (r1.1 = 0 ∨ r1.1 = 1) then none else some (r1.1, r1.2)
def jn_X11_text_153 (x2 : Int32) (s : Mem) : Option (Int32 × Mem) :=
  (f_X11_forget s).bind fun r7 =>
  some (x2, r7)
def jn_X11_text_126 (x1 : Int32) (x2 : Int32) (s : Mem) : Option (Int32 × Mem) :=
  (f_X6_cut 0 s).bind fun r4 =>
  if x2 = (-1) then
  some (x2, r4.2)
  else
  if x1 = 1 then
  jn_X11_text_153 x2 r4.2
  else
  if x1 = 2 then
  jn_X11_text_153 x2 r4.2
  else
  some (x2, r4.2)
def f_X11_text (x1 : Int32) (s : Mem) : Option (Int32 × Mem) :=
  (f_X4_begin (s (1 + 1) 1) s).bind fun r1 =>
  if x1 = 0 then
  (f_X4_readLaw (1 + 9) r1).bind fun r3 =>
  jn_X11_text_126 x1 r3.1 r3.2
  else if x1 = 1 then
  (f_X4_readPlan (1 + 16) 0 r1).bind fun r10 =>
  jn_X11_text_126 x1 r10.1 r10.2
  else if x1 = 2 then
  (f_X4_readPlan (1 + 21) 1 r1).bind fun r12 =>
  jn_X11_text_126 x1 r12.1 r12.2
  else if x1 = 3 then
  (f_X4_readOrders (1 + 26) r1).bind fun r14 =>
  jn_X11_text_126 x1 r14.1 r14.2
  else 
  jn_X11_text_126 x1 (-1) r1
def f_X11_fault (x1 : Int32) (s : Mem) : Option (Int32 × Mem) :=
  if x1 = 0 then
  some ((s 172 1), s)
  else
  if x1 = 1 then
  some ((s 172 2), s)
  else
  some ((-1), s)
def jn_X11_of_113 (x1 : Int32) (x2 : Int32) (s : Mem) : Option (Int32 × Mem) :=
  if x2 = 10 then
  (f_X10_nextName 1 (1 + 1) x1 s).bind fun r7 =>
  some (r7.1, r7.2)
  else
  some ((-2), s)
def jn_X11_of_78 (x1 : Int32) (x2 : Int32) (s : Mem) : Option (Int32 × Mem) :=
  if x2 < 7 then
  jn_X11_of_113 x1 x2 s
  else
  if 9 < x2 then
  jn_X11_of_113 x1 x2 s
  else
  (f_X1_ask (1 + 9) (1 + 1) (x2 - 7) x1 s).bind fun r9 =>
  some (r9.1, r9.2)
def jn_X11_of_55 (x1 : Int32) (x2 : Int32) (s : Mem) : Option (Int32 × Mem) :=
  if x2 < 0 then
  jn_X11_of_78 x1 x2 s
  else
  if 6 < x2 then
  jn_X11_of_78 x1 x2 s
  else
  (f_X0_told (1 + 1) x1 x2 s).bind fun r11 =>
  some (r11.1, r11.2)
def f_X11_of (x1 : Int32) (x2 : Int32) (s : Mem) : Option (Int32 × Mem) :=
  (f_X0_has (1 + 1) x1 s).bind fun r1 =>
  if r1.1 = 0 then
  some ((-2), r1.2)
  else
  if x2 < 20 then
  jn_X11_of_55 x1 x2 r1.2
  else
  if 34 ≤ x2 then
  jn_X11_of_55 x1 x2 r1.2
  else
  (f_X3_nameAt (1 + 26) x1 (x2 - 20) (r1.2 (1 + 1) 1) r1.2).bind fun r13 =>
  some (r13.1, r13.2)
def f_X11_book (x1 : Int32) (x2 : Int32) (s : Mem) : Option (Int32 × Mem) :=
  if x1 < 0 then
  some ((-1), s)
  else
  if (s (1 + 1) 12) ≤ x1 then
  some ((-1), s)
  else
  if x2 < 0 then
  some ((-1), s)
  else
  if x2 < 4 then
  (rd 600 (s (1 + 56)) ((x1 * 4) + x2)).bind fun v5 =>
  some (v5, s)
  else
  some ((-1), s)
def st_X11_goes_38 (x1 : Int32) (x2 : Int32) (x3 : Int32) (s : Mem) : Option ((Int32 × Mem) ⊕ (Mem)) :=
  if x1 ≤ x3 then
  some (.inr (s))
  else
  (f_X10_passMinute 1 115 s).bind fun r7 =>
  some (.inl ((x3 + 1), r7.2))
def f_X11_goes (x1 : Int32) (x2 : Int32) (s : Mem) : Option (Int32 × Mem) :=
  if x1 < 1 then
  some ((-1), s)
  else
  if 60 < x1 then
  some ((-1), s)
  else
  if x2 < 0 then
  some ((-1), s)
  else
  if x2 ≤ 3 then
  (f_X0_copyFrom 115 (1 + 1) s).bind fun r5 =>
  (it FUEL (fun y => st_X11_goes_38 x1 x2 y.1 y.2) (0, r5)).bind fun r8 =>
  if x2 = 0 then
  (f_X0_sum 115 (115 + 2) 14 r8).bind fun r10 =>
  some (r10.1, r10.2)
  else if x2 = 1 then
  (f_X0_sum 115 (115 + 6) 14 r8).bind fun r12 =>
  some (r12.1, r12.2)
  else if x2 = 2 then
  (f_X0_sum 115 (115 + 5) 14 r8).bind fun r14 =>
  some (r14.1, r14.2)
  else 
  some ((r8 115 9), r8)
  else
  some ((-1), s)
def st_X11_peace_16 (x1 : Int32) (s : Mem) : Option ((Int32 × Mem) ⊕ (Nat × Int32 × Mem)) :=
  if 60 ≤ x1 then
  some (.inr (1, 0, s))
  else
  (f_X0_havers 115 s).bind fun r3 =>
  if r3.1 = 0 then
  some (.inr (0, x1, r3.2))
  else
  (f_X10_passMinute 1 115 r3.2).bind fun r5 =>
  some (.inl ((x1 + 1), r5.2))
def f_X11_peace (s : Mem) : Option (Int32 × Mem) :=
  (f_X0_copyFrom 115 (1 + 1) s).bind fun r1 =>
  (it FUEL (fun y => st_X11_peace_16 y.1 y.2) (0, r1)).bind fun r6 =>
  if r6.1 = 0 then some (r6.2.1, r6.2.2) else (f_X0_havers 115 r6.2.2).bind fun r7 =>
  if r7.1 = 0 then
  some (60, r7.2)
  else
  some ((-1), r7.2)
def f_X11_back (x1 : Int32) (s : Mem) : Option (Int32 × Mem) :=
  (f_X0_has (1 + 1) x1 s).bind fun r1 =>
  if r1.1 = 0 then
  some ((-1), r1.2)
  else
  (f_X0_stepsBack (1 + 1) x1 r1.2).bind fun r3 =>
  some (r3.1, r3.2)
def f_X11_breath (x1 : Int32) (s : Mem) : Option (Int32 × Mem) :=
  if x1 = (-100) then
  (f_X7_clear ((1 + 31) + 1) s).bind fun r7 =>
  some (r7.1, r7.2)
  else
  if x1 < (-50) then
  some ((-100), s)
  else
  if 50 < x1 then
  some ((-100), s)
  else
  (f_X7_isFull ((1 + 31) + 1) s).bind fun r4 =>
  if r4.1 = 0 then
  (f_X7_add ((1 + 31) + 1) x1 r4.2).bind fun r6 =>
  some (r6.1, r6.2)
  else
  some ((-100), r4.2)
def jn_X11_held_37 (t2 : Int32) (s : Mem) : Option (Int32 × Mem) :=
  (f_X9_greatestSum ((1 + 31) + 1) t2 s).bind fun r4 =>
  some (r4.1, r4.2)
def f_X11_held (x1 : Int32) (s : Mem) : Option (Int32 × Mem) :=
  if x1 < 0 then
  some ((-1000), s)
  else
  if x1 ≤ 1 then
  if x1 = 1 then
  jn_X11_held_37 1 s
  else
  jn_X11_held_37 0 s
  else
  some ((-1000), s)
def f_X11_least (x1 : Int32) (x2 : Int32) (s : Mem) : Option (Int32 × Mem) :=
  if x1 < 0 then
  some ((-1), s)
  else
  if x1 < (s ((1 + 31) + 1) 1) then
  (f_X9_lessToRight ((1 + 31) + 1) x1 s).bind fun r3 =>
  if x2 = 0 then
  (f_X9_lessToLeft ((1 + 31) + 1) x1 0 r3.2).bind fun r5 =>
  some (r5.1, r5.2)
  else if x2 = 1 then
  if (r3.2 ((1 + 31) + 1) 1) ≤ r3.1 then
  some ((-1), r3.2)
  else
  some (r3.1, r3.2)
  else if x2 = 2 then
  (f_X9_lessToLeft ((1 + 31) + 1) x1 1 r3.2).bind fun r9 =>
  some (((x1 - r9.1) * (r3.1 - x1)), r9.2)
  else 
  some ((-1), r3.2)
  else
  some ((-1), s)
def f_X11_heads (x1 : Int32) (x2 : Int32) (s : Mem) : Option (Int32 × Mem) :=
  if x1 < 0 then
  some ((-1), s)
  else
  if x1 ≤ 99999 then
  if x2 = 0 then
  (f_X2_turned x1 s).bind fun r4 =>
  some (r4.1, r4.2)
  else if x2 = 1 then
  (f_X2_evenTurnedAbove x1 s).bind fun r6 =>
  some (r6.1, r6.2)
  else if x2 = 2 then
  (f_X2_evenTurnedUpTo x1 s).bind fun r8 =>
  some (r8.1, r8.2)
  else 
  some ((-1), s)
  else
  some ((-1), s)
def f_X11_said (x1 : Int32) (x2 : Int32) (s : Mem) : Option (Int32 × Mem) :=
  if x1 < 1 then
  some ((-1), s)
  else
  if 9999 < x1 then
  some ((-1), s)
  else
  if x2 < 0 then
  some ((-1), s)
  else
  if x2 ≤ 9 then
  (f_X2_digitCount x1 x2 s).bind fun r5 =>
  some (r5.1, r5.2)
  else
  some ((-1), s)
def f_X11_digit (x1 : Int32) (x2 : Int32) (s : Mem) : Option (Int32 × Mem) :=
  if x1 < 1 then
  some ((-1), s)
  else
  if 9999 < x1 then
  some ((-1), s)
  else
  if 0 ≤ x2 then
  (f_X2_digitAt x1 x2 s).bind fun r4 =>
  some (r4.1, r4.2)
  else
  some ((-1), s)
def f_X11_call (x1 : Int32) (x2 : Int32) (x3 : Int32) (s : Mem) : Option (Int32 × Mem) :=
  if x1 = (-1) then
  (f_X7_clear ((1 + 31) + 3) s).bind fun r12 =>
  (f_X7_clear ((1 + 31) + 5) r12.2).bind fun r13 =>
  (f_X7_clear ((1 + 31) + 7) r13.2).bind fun r14 =>
  some (r14.1, r14.2)
  else
  if x1 < 0 then
  some ((-1), s)
  else
  if 99 < x2 then
  some ((-1), s)
  else
  if x2 ≤ x1 then
  some ((-1), s)
  else
  if x3 < 1 then
  some ((-1), s)
  else
  if 99 < x3 then
  some ((-1), s)
  else
  (f_X7_isFull ((1 + 31) + 3) s).bind fun r7 =>
  if r7.1 = 0 then
  (f_X7_add ((1 + 31) + 3) x1 r7.2).bind fun r9 =>
  (f_X7_add ((1 + 31) + 5) x2 r9.2).bind fun r10 =>
  (f_X7_add ((1 + 31) + 7) x3 r10.2).bind fun r11 =>
  some (r11.1, r11.2)
  else
  some ((-1), r7.2)
def f_X11_calls (x1 : Int32) (s : Mem) : Option (Int32 × Mem) :=
  if x1 = 0 then
  (f_X9_greatestWorth (1 + 31) s).bind fun r2 =>
  some (r2.1, r2.2)
  else if x1 = 1 then
  (f_X9_fewestCalls (1 + 31) s).bind fun r4 =>
  some (r4.1, r4.2)
  else if x1 = 2 then
  (f_X9_minutesInCalls (1 + 31) s).bind fun r6 =>
  some (r6.1, r6.2)
  else if x1 = 3 then
  (f_X9_callsAtOnce (1 + 31) s).bind fun r8 =>
  some (r8.1, r8.2)
  else 
  some ((-1), s)
def f_X11_hics (x1 : Int32) (x2 : Int32) (x3 : Int32) (s : Mem) : Option (Int32 × Mem) :=
  if x1 < 0 then
  some ((-1), s)
  else
  if x2 < 1 then
  some ((-1), s)
  else
  if 30 < x2 then
  some ((-1), s)
  else
  if x1 ≤ x2 then
  if x3 = 100 then
  (f_X2_longestWay x1 x2 s).bind fun r10 =>
  some (r10.1, r10.2)
  else
  if x3 < 0 then
  some ((-1), s)
  else
  if x3 < x2 then
  (f_X2_hasBeat x1 x2 x3 s).bind fun r8 =>
  if r8.1 = 0 then
  some (0, r8.2)
  else
  some (1, r8.2)
  else
  some ((-1), s)
  else
  some ((-1), s)
def f_X11_areTwoPlaces (x0 : Int32) (x1 : Int32) (s : Mem) : Option (Int32 × Mem) :=
  if x0 < 0 then
  some (0, s)
  else
  if 5 < x0 then
  some (0, s)
  else
  if x1 < 0 then
  some (0, s)
  else
  if 5 < x1 then
  some (0, s)
  else
  if x0 = x1 then
  some (0, s)
  else
  some (1, s)
def f_X11_way (x1 : Int32) (x2 : Int32) (x3 : Int32) (s : Mem) : Option (Int32 × Mem) :=
  if x1 = (-1) then
  (f_X7_clear ((1 + 31) + 9) s).bind fun r11 =>
  (f_X7_clear ((1 + 31) + 11) r11.2).bind fun r12 =>
  (f_X7_clear ((1 + 31) + 13) r12.2).bind fun r13 =>
  some (r13.1, r13.2)
  else
  (f_X11_areTwoPlaces x1 x2 s).bind fun r2 =>
  if r2.1 = 0 then
  some ((-1), r2.2)
  else
  if x3 < 1 then
  some ((-1), r2.2)
  else
  if 20 < x3 then
  some ((-1), r2.2)
  else
  (f_X7_isFull ((1 + 31) + 9) r2.2).bind fun r6 =>
  if r6.1 = 0 then
  (f_X7_add ((1 + 31) + 9) x1 r6.2).bind fun r8 =>
  (f_X7_add ((1 + 31) + 11) x2 r8.2).bind fun r9 =>
  (f_X7_add ((1 + 31) + 13) x3 r9.2).bind fun r10 =>
  some (r10.1, r10.2)
  else
  some ((-1), r6.2)
def jn_X11_gossip_42 (t2 : Int32) (t3 : Int32) (t4 : Int32) (s : Mem) : Option (Int32 × Mem) :=
  (f_X9_leastCut (1 + 31) t2 t3 t4 s).bind fun r6 =>
  some (r6.1, r6.2)
def f_X11_gossip (x1 : Int32) (x2 : Int32) (x3 : Int32) (s : Mem) : Option (Int32 × Mem) :=
  (f_X11_areTwoPlaces x1 x2 s).bind fun r1 =>
  if r1.1 = 0 then
  some ((-1), r1.2)
  else
  if x3 < 0 then
  some ((-1), r1.2)
  else
  if x3 ≤ 1 then
  if x3 = 1 then
  jn_X11_gossip_42 x1 x2 1 r1.2
  else
  jn_X11_gossip_42 x1 x2 0 r1.2
  else
  some ((-1), r1.2)
def f_X11_term (x1 : Int32) (x2 : Int32) (s : Mem) : Option (Int32 × Mem) :=
  if x1 < 0 then
  some ((-1), s)
  else
  if x1 ≤ 1 then
  (f_X8_termRow (1 + 31) x1 s).bind fun r3 =>
  if x2 = (-10) then
  (f_X7_clear r3.1 r3.2).bind fun r10 =>
  some (r10.1, r10.2)
  else
  if x2 < (-9) then
  some ((-1), r3.2)
  else
  if 9 < x2 then
  some ((-1), r3.2)
  else
  (f_X7_isFull r3.1 r3.2).bind fun r7 =>
  if r7.1 = 0 then
  (f_X7_add r3.1 x2 r7.2).bind fun r9 =>
  some (r9.1, r9.2)
  else
  some ((-1), r7.2)
  else
  some ((-1), s)
def f_X11_terms (x1 : Int32) (x2 : Int32) (s : Mem) : Option (Int32 × Mem) :=
  if x1 < 0 then
  some ((-10000000), s)
  else
  if 1 < x1 then
  some ((-10000000), s)
  else
  if x2 < (-9) then
  some ((-10000000), s)
  else
  if x2 ≤ 9 then
  (f_X8_termRow (1 + 31) x1 s).bind fun r5 =>
  (f_X9_valueAt r5.1 x2 r5.2).bind fun r6 =>
  some (r6.1, r6.2)
  else
  some ((-10000000), s)
def jn_X11_product_9 (x1 : Int32) (s : Mem) : Option (Int32 × Mem) :=
  (f_X8_termRow (1 + 31) x1 s).bind fun r2 =>
  (f_X9_zeros r2.1 r2.2).bind fun r3 =>
  some (r3.1, r3.2)
def f_X11_product (x1 : Int32) (s : Mem) : Option (Int32 × Mem) :=
  if x1 = 0 then
  jn_X11_product_9 x1 s
  else
  if x1 = 1 then
  jn_X11_product_9 x1 s
  else
  if x1 < 10 then
  some ((-10000000), s)
  else
  if x1 ≤ 20 then
  (f_X9_productTerm ((1 + 31) + 15) ((1 + 31) + 17) (x1 - 10) s).bind fun r7 =>
  some (r7.1, r7.2)
  else
  some ((-10000000), s)
def f_X11_tongues (x1 : Int32) (x2 : Int32) (x3 : Int32) (s : Mem) : Option (Int32 × Mem) :=
  if x1 < 1 then
  some ((-1), s)
  else
  if 9999 < x1 then
  some ((-1), s)
  else
  if x3 < 0 then
  some ((-1), s)
  else
  if x3 ≤ 2 then
  if x3 = 2 then
  (f_X2_leastAlikeBase x1 s).bind fun r12 =>
  some (r12.1, r12.2)
  else
  if x2 < 2 then
  some ((-1), s)
  else
  if x2 ≤ 16 then
  if x3 = 0 then
  (f_X2_digitSum x1 x2 s).bind fun r11 =>
  some (r11.1, r11.2)
  else
  (f_X2_readsAlike x1 x2 s).bind fun r9 =>
  if r9.1 = 0 then
  some (0, r9.2)
  else
  some (1, r9.2)
  else
  some ((-1), s)
  else
  some ((-1), s)
def f_X11_squares (x1 : Int32) (x2 : Int32) (s : Mem) : Option (Int32 × Mem) :=
  if x1 < 1 then
  some ((-1), s)
  else
  if 9999 < x1 then
  some ((-1), s)
  else
  if x2 < 0 then
  some ((-1), s)
  else
  if x2 ≤ 1 then
  if x2 = 0 then
  (f_X2_fewestSquares x1 s).bind fun r7 =>
  some (r7.1, r7.2)
  else
  (f_X2_waysOfTwoSquares x1 s).bind fun r6 =>
  some (r6.1, r6.2)
  else
  some ((-1), s)
def jn_X11_tell_27 (a0 : Nat) (s : Mem) : Option (Int32 × Mem) :=
  some ((-1), s)
def f_X11_tell (a0 : Nat) (x1 : Int32) (x2 : Int32) (x3 : Int32) (s : Mem) : Option (Int32 × Mem) :=
  if x1 = (-1) then
  (f_X7_clear a0 s).bind fun r7 =>
  some (r7.1, r7.2)
  else
  if x1 < x2 then
  jn_X11_tell_27 a0 s
  else
  if x3 < x1 then
  jn_X11_tell_27 a0 s
  else
  (f_X7_isFull a0 s).bind fun r4 =>
  if r4.1 = 0 then
  (f_X7_add a0 x1 r4.2).bind fun r6 =>
  some (r6.1, r6.2)
  else
  jn_X11_tell_27 a0 r4.2
def f_X11_kin (x1 : Int32) (s : Mem) : Option (Int32 × Mem) :=
  (f_X11_tell ((1 + 31) + 19) x1 0 7 s).bind fun r1 =>
  some (r1.1, r1.2)
def jn_X11_tree_81 (s : Mem) : Option (Int32 × Mem) :=
  some ((-1), s)
def f_X11_tree (x1 : Int32) (x2 : Int32) (x3 : Int32) (s : Mem) : Option (Int32 × Mem) :=
  if x1 < 0 then
  some ((-1), s)
  else
  if ((s ((1 + 31) + 19) 1) + 1) < x1 then
  some ((-1), s)
  else
  if x3 < 0 then
  some ((-1), s)
  else
  if 1 < x3 then
  some ((-1), s)
  else
  (f_X9_growTree ((1 + 31) + 19) s).bind fun r5 =>
  if r5.1 = 0 then
  some ((-1), r5.2)
  else
  if x3 = 0 then
  (f_X9_joinedTo x1 (((s ((1 + 31) + 19) 1) + 1) + 1) r5.2).bind fun r11 =>
  some (r11.1, r11.2)
  else
  if x2 < 0 then
  jn_X11_tree_81 r5.2
  else
  if x2 ≤ ((s ((1 + 31) + 19) 1) + 1) then
  (f_X9_joiningsBetween x1 x2 r5.2).bind fun r10 =>
  some (r10.1, r10.2)
  else
  jn_X11_tree_81 r5.2
def f_X11_step (x1 : Int32) (s : Mem) : Option (Int32 × Mem) :=
  (f_X11_tell ((1 + 31) + 21) x1 1 40 s).bind fun r1 =>
  some (r1.1, r1.2)
def f_X11_stair (x1 : Int32) (x2 : Int32) (x3 : Int32) (s : Mem) : Option (Int32 × Mem) :=
  if x1 < 0 then
  some ((-1), s)
  else
  if 40 < x1 then
  some ((-1), s)
  else
  if x2 < 1 then
  some ((-1), s)
  else
  if 6 < x2 then
  some ((-1), s)
  else
  if x3 < 0 then
  some ((-1), s)
  else
  if x3 ≤ 1 then
  if x3 = 0 then
  (f_X9_waysUp ((1 + 31) + 21) x1 x2 s).bind fun r9 =>
  some (r9.1, r9.2)
  else
  (f_X9_fewestGoings ((1 + 31) + 21) x1 x2 s).bind fun r8 =>
  some (r8.1, r8.2)
  else
  some ((-1), s)
def f_X11_heap (x1 : Int32) (s : Mem) : Option (Int32 × Mem) :=
  (f_X11_tell ((1 + 31) + 23) x1 0 15 s).bind fun r1 =>
  some (r1.1, r1.2)
def f_X11_game (s : Mem) : Option (Int32 × Mem) :=
  (f_X9_winningMove ((1 + 31) + 23) s).bind fun r1 =>
  some (r1.1, r1.2)
def jn_X11_undo_27 (t1 : Int32) (s : Mem) : Option (Int32 × Mem) :=
  (rdq 6 123 ((mset (mset s 0 6 t1) 0 5 (((mset s 0 6 t1) 0 5) - 1)) 0 6)).bind fun v3 =>
  (f_X0_copyFrom (1 + 1) v3 (mset (mset s 0 6 t1) 0 5 (((mset s 0 6 t1) 0 5) - 1))).bind fun r4 =>
  some (1, r4)
def f_X11_undo (s : Mem) : Option (Int32 × Mem) :=
  if (s 0 5) = 0 then
  some (0, s)
  else
  if (s 0 6) = 0 then
  jn_X11_undo_27 5 s
  else
  jn_X11_undo_27 ((s 0 6) - 1) s
def f_X11_image (x1 : Int32) (s : Mem) : Option (Int32 × Mem) :=
  if x1 = 0 then
  if (s 0 2) = 0 then
  some (0, s)
  else
  (f_X10_copyFrom 1 58 s).bind fun r3 =>
  (f_X11_forget r3).bind fun r4 =>
  some (1, r4)
  else
  (f_X10_copyFrom 58 1 s).bind fun r5 =>
  some (1, (mset r5 0 2 1))
def f_X11_look (x1 : Int32) (s : Mem) : Option (Int32 × Mem) :=
  if x1 = 0 then
  some ((s (1 + 1) 1), s)
  else if x1 = 1 then
  (f_X0_havers (1 + 1) s).bind fun r3 =>
  some (r3.1, r3.2)
  else if x1 = 2 then
  some ((s (1 + 1) 9), s)
  else if x1 = 3 then
  some ((s (1 + 1) 10), s)
  else if x1 = 4 then
  some ((s (1 + 1) 12), s)
  else if x1 = 5 then
  some ((s (1 + 1) 11), s)
  else if x1 = 6 then
  some ((s (1 + 9) 0), s)
  else if x1 = 7 then
  some ((s (1 + 16) 0), s)
  else if x1 = 8 then
  some ((s (1 + 21) 0), s)
  else if x1 = 9 then
  some ((s (1 + 26) 0), s)
  else if x1 = 10 then
  some ((s 0 5), s)
  else 
  some ((-100000), s)
def f_X12_isIn (x1 : Int32) (x2 : Int32) (x3 : Int32) (s : Mem) : Option (Int32 × Mem) :=
  if x1 < x2 then
  some (0, s)
  else
  if x3 < x1 then
  some (0, s)
  else
  some (1, s)
def f_X12_bounded (x1 : Int32) (x2 : Int32) (x3 : Int32) (s : Mem) : Option (Int32 × Mem) :=
  if x2 ≤ x1 then
  if x1 ≤ x3 then
  some (x1, s)
  else
  some (x3, s)
  else
  some (x2, s)
def f_X12_greater (x1 : Int32) (x2 : Int32) (s : Mem) : Option (Int32 × Mem) :=
  if x1 ≤ x2 then
  some (x2, s)
  else
  some (x1, s)
def f_X12_lesser (x1 : Int32) (x2 : Int32) (s : Mem) : Option (Int32 × Mem) :=
  if x2 ≤ x1 then
  some (x2, s)
  else
  some (x1, s)
def f_X12_plain (x1 : Int32) (s : Mem) : Option (Int32 × Mem) :=
  if 0 ≤ x1 then
  some (x1, s)
  else
  some ((-x1), s)
def st_X12_onesOf_4 (x2 : Int32) (x3 : Int32) (s : Mem) : Option ((Int32 × Int32 × Mem) ⊕ (Int32 × Mem)) :=
  if x3 = 0 then
  some (.inr (x2, s))
  else
  some (.inl ((x2 + 1), (x3 &&& (x3 - 1)), s))
def f_X12_onesOf (x1 : Int32) (s : Mem) : Option (Int32 × Mem) :=
  (it FUEL (fun y => st_X12_onesOf_4 y.1 y.2.1 y.2.2) (0, x1, s)).bind fun r2 =>
  some (r2.1, r2.2)
def f_X12_has (x1 : Int32) (x2 : Int32) (s : Mem) : Option (Int32 × Mem) :=
  if ((x1 >>> (x2 &&& 31)) &&& 1) = 1 then
  some (1, s)
  else
  some (0, s)
def st_X12_keepsAhead_55 (x1 : Int32) (s : Mem) : Option ((Int32 × Mem) ⊕ (Mem)) :=
  if 102 ≤ x1 then
  some (.inr (s))
  else
  (rd 102 (s 1) x1).bind fun v3 =>
  (wr 612 s 2 ((102 * (s 0 3)) + x1) v3).bind fun s4 =>
  some (.inl ((x1 + 1), s4))
def jn_X12_keepsAhead_53 (s : Mem) : Option (Mem) :=
  (it FUEL (fun y => st_X12_keepsAhead_55 y.1 y.2) (0, s)).bind fun r5 =>
  some (mset r5 0 3 ((r5 0 3) + 1))
def st_X12_keepsAhead_21 (x1 : Int32) (s : Mem) : Option ((Int32 × Mem) ⊕ (Mem)) :=
  if (102 * (s 0 3)) ≤ x1 then
  some (.inr (s))
  else
  (rd 612 (s 2) (x1 + 102)).bind fun v7 =>
  (wr 612 s 2 x1 v7).bind fun s8 =>
  some (.inl ((x1 + 1), s8))
def f_X12_keepsAhead (s : Mem) : Option (Mem) :=
  if (s 0 3) = 6 then
  (it FUEL (fun y => st_X12_keepsAhead_21 y.1 y.2) (0, (mset s 0 3 ((s 0 3) - 1)))).bind fun r9 =>
  jn_X12_keepsAhead_53 r9
  else
  jn_X12_keepsAhead_53 s
def st_X12_undo_26 (x1 : Int32) (s : Mem) : Option ((Int32 × Mem) ⊕ (Mem)) :=
  if 102 ≤ x1 then
  some (.inr (s))
  else
  (rd 612 (s 2) ((102 * (s 0 3)) + x1)).bind fun v3 =>
  (wr 102 s 1 x1 v3).bind fun s4 =>
  some (.inl ((x1 + 1), s4))
def f_X12_undo (s : Mem) : Option (Int32 × Mem) :=
  if ((mset s 0 0 0) 0 3) = 0 then
  some (0, (mset s 0 0 0))
  else
  (it FUEL (fun y => st_X12_undo_26 y.1 y.2) (0, (mset (mset s 0 0 0) 0 3 (((mset s 0 0 0) 0 3) - 1)))).bind fun r5 =>
  some (1, r5)
def st_X12_thinks_2 (x1 : Int32) (s : Mem) : Option ((Int32 × Mem) ⊕ (Mem)) :=
  if 102 ≤ x1 then
  some (.inr (s))
  else
  (rd 102 (s 1) x1).bind fun v2 =>
  (wr 102 s 3 x1 v2).bind fun s3 =>
  some (.inl ((x1 + 1), s3))
def f_X12_thinks (s : Mem) : Option (Mem) :=
  (it FUEL (fun y => st_X12_thinks_2 y.1 y.2) (0, s)).bind fun r4 =>
  some (mset r4 0 5 1)
def st_X12_endsThought_2 (x1 : Int32) (s : Mem) : Option ((Int32 × Mem) ⊕ (Mem)) :=
  if 102 ≤ x1 then
  some (.inr (s))
  else
  (rd 102 (s 3) x1).bind fun v2 =>
  (wr 102 s 1 x1 v2).bind fun s3 =>
  some (.inl ((x1 + 1), s3))
def f_X12_endsThought (s : Mem) : Option (Mem) :=
  (it FUEL (fun y => st_X12_endsThought_2 y.1 y.2) (0, s)).bind fun r4 =>
  some (mset r4 0 5 0)
def f_X12_state (x1 : Int32) (s : Mem) : Option (Int32 × Mem) :=
  (rd 102 ((mset s 0 0 0) 1) 1).bind fun v1 =>
  (wr 102 (mset s 0 0 0) 1 1 x1).bind fun s2 =>
  some (v1, (mset s2 0 3 0))
def f_X12_draw (x1 : Int32) (s : Mem) : Option (Int32 × Mem) :=
  (rd 102 (s 1) 1).bind fun v1 =>
  (wr 102 s 1 1 ((1664525 * v1) + 1013904223)).bind fun s2 =>
  (rd 102 (s2 1) 1).bind fun v3 =>
  if x1 = 0 then none else
  some (((ush v3 8) % x1), s2)
def f_X12_isPerson (x1 : Int32) (s : Mem) : Option (Int32 × Mem) :=
  if x1 < 0 then
  some (0, s)
  else
  if (s 0 6) ≤ x1 then
  some (0, s)
  else
  some (1, s)
def f_X12_hasAny (x1 : Int32) (s : Mem) : Option (Int32 × Mem) :=
  (rd 102 (s 1) (18 + x1)).bind fun v1 =>
  if v1 ≤ 0 then
  some (0, s)
  else
  some (1, s)
def f_X12_byOf (x1 : Int32) (s : Mem) : Option (Int32 × Mem) :=
  (rd 102 (s 1) (32 + x1)).bind fun v1 =>
  some ((v1 - 1), s)
def st_X12_person_29 (x1 : Int32) (x2 : Int32) (s : Mem) : Option ((Int32 × Mem) ⊕ (Mem)) :=
  if 102 ≤ x2 then
  some (.inr (s))
  else
  (wr 102 s 1 (x2 + (s 0 6)) 0).bind fun s5 =>
  some (.inl ((x2 + 14), s5))
def f_X12_person (x1 : Int32) (s : Mem) : Option (Int32 × Mem) :=
  (f_X12_isIn x1 0 9 (mset s 0 0 0)).bind fun r1 =>
  if r1.1 = 0 then
  some ((-1), r1.2)
  else
  if (r1.2 0 6) = 14 then
  some ((-1), r1.2)
  else
  (it FUEL (fun y => st_X12_person_29 x1 y.1 y.2) (4, r1.2)).bind fun r6 =>
  (wr 102 r6 1 (4 + (r6 0 6)) x1).bind fun s7 =>
  some ((((mset (mset s7 0 6 ((s7 0 6) + 1)) 0 3 0) 0 6) - 1), (mset (mset s7 0 6 ((s7 0 6) + 1)) 0 3 0))
def f_X12_hasThen (x1 : Int32) (x2 : Int32) (s : Mem) : Option (Mem) :=
  (wr 102 s 1 (18 + x1) x2).bind fun s1 =>
  if x2 ≤ 0 then
  (wr 102 s1 1 (32 + x1) 0).bind fun s3 =>
  (wr 102 s3 1 (46 + x1) 0).bind fun s4 =>
  some s4
  else
  some s1
def jn_X12_set_37 (x1 : Int32) (x2 : Int32) (x3 : Int32) (t1 : Int32) (t2 : Int32) (t3 : Int32) (s : Mem) : Option (Int32 × Mem) :=
  (f_X12_isIn t1 t2 t3 s).bind fun r6 =>
  if r6.1 = 0 then
  some (0, r6.2)
  else
  if x1 = 0 then
  (wr 102 r6.2 1 (4 + x2) x3).bind fun s10 =>
  some (1, (mset s10 0 3 0))
  else
  (f_X12_hasThen x2 x3 r6.2).bind fun r9 =>
  some (1, (mset r9 0 3 0))
def f_X12_set (x1 : Int32) (x2 : Int32) (x3 : Int32) (s : Mem) : Option (Int32 × Mem) :=
  (f_X12_isIn x1 0 1 (mset s 0 0 0)).bind fun r1 =>
  if r1.1 = 0 then
  some (0, r1.2)
  else
  (f_X12_isPerson x2 r1.2).bind fun r3 =>
  if r3.1 = 0 then
  some (0, r3.2)
  else
  if x1 = 0 then
  jn_X12_set_37 x1 x2 x3 x3 0 9 r3.2
  else
  jn_X12_set_37 x1 x2 x3 x3 0 99 r3.2
def st_X12_types_3 (x1 : Int32) (x2 : Int32) (s : Mem) : Option ((Int32 × Mem) ⊕ (Mem)) :=
  if x2 < 0 then
  some (.inr (s))
  else
  (wr 400 s 5 (s 0 9) ((x1 >>> (x2 &&& 31)) &&& 255)).bind fun s2 =>
  some (.inl ((x2 + (-8)), (mset s2 0 9 ((s2 0 9) + 1))))
def f_X12_types (x1 : Int32) (s : Mem) : Option (Mem) :=
  (it FUEL (fun y => st_X12_types_3 x1 y.1 y.2) (24, s)).bind fun r3 =>
  some r3
def f_X12_feed (x1 : Int32) (x2 : Int32) (x3 : Int32) (x4 : Int32) (x5 : Int32) (s : Mem) : Option (Int32 × Mem) :=
  if ((mset s 0 0 0) 0 9) ≤ 380 then
  (f_X12_types x1 (mset s 0 0 0)).bind fun r2 =>
  (f_X12_types x2 r2).bind fun r3 =>
  (f_X12_types x3 r3).bind fun r4 =>
  (f_X12_types x4 r4).bind fun r5 =>
  (f_X12_types x5 r5).bind fun r6 =>
  some ((r6 0 9), r6)
  else
  some ((-1), (mset s 0 0 0))
def f_X12_end (x1 : Int32) (s : Mem) : Option (Int32 × Mem) :=
  (f_X12_isIn x1 0 ((mset s 0 0 0) 0 9) (mset s 0 0 0)).bind fun r1 =>
  if r1.1 = 0 then
  some (0, r1.2)
  else
  some (1, (mset r1.2 0 9 x1))
def f_X12_raw (x1 : Int32) (s : Mem) : Option (Int32 × Mem) :=
  if (s 0 9) ≤ x1 then
  some ((-1), s)
  else
  (rd 400 (s 5) x1).bind fun v2 =>
  some (v2, s)
def jn_X12_isLetter_24 (s : Mem) : Option (Int32 × Mem) :=
  some (1, s)
def f_X12_isLetter (x1 : Int32) (s : Mem) : Option (Int32 × Mem) :=
  (f_X12_isIn x1 97 122 s).bind fun r1 =>
  if r1.1 = 0 then
  (f_X12_isIn x1 65 90 r1.2).bind fun r3 =>
  if r3.1 = 0 then
  some (0, r3.2)
  else
  jn_X12_isLetter_24 r3.2
  else
  jn_X12_isLetter_24 r1.2
def f_X12_isDigit (x1 : Int32) (s : Mem) : Option (Int32 × Mem) :=
  (f_X12_isIn x1 48 57 s).bind fun r1 =>
  if ¬ (r1.1 = 0 ∨ r1.1 = 1) then none else some (r1.1, r1.2)
def jn_X12_isMarkSign_60 (s : Mem) : Option (Int32 × Mem) :=
  some (1, s)
def f_X12_isMarkSign (x1 : Int32) (s : Mem) : Option (Int32 × Mem) :=
  if x1 = 59 then
  jn_X12_isMarkSign_60 s
  else
  if x1 = 43 then
  jn_X12_isMarkSign_60 s
  else
  if x1 = 45 then
  jn_X12_isMarkSign_60 s
  else
  if x1 = 42 then
  jn_X12_isMarkSign_60 s
  else
  if x1 = 47 then
  jn_X12_isMarkSign_60 s
  else
  if x1 = 40 then
  jn_X12_isMarkSign_60 s
  else
  if x1 = 41 then
  jn_X12_isMarkSign_60 s
  else
  if x1 = 60 then
  jn_X12_isMarkSign_60 s
  else
  if x1 = 61 then
  jn_X12_isMarkSign_60 s
  else
  if x1 = 62 then
  jn_X12_isMarkSign_60 s
  else
  some (0, s)
def st_X12_wordAt_20 (x1 : Int32) (x2 : Int32) (x3 : Int32) (x4 : Int32) (x5 : Int32) (s : Mem) : Option ((Int32 × Mem) ⊕ (Int32 × Mem)) :=
  if x2 ≤ (x1 + x5) then
  some (.inr (x5, s))
  else
  (rd 133 (s 6) ((x4 + 1) + x5)).bind fun v3 =>
  (rd 400 (s 5) (x1 + x5)).bind fun v4 =>
  if v3 = v4 then
  some (.inl ((x5 + 1), s))
  else
  some (.inr (x5, s))
def st_X12_wordAt_94 (x1 : Int32) (x2 : Int32) (x3 : Int32) (x4 : Int32) (s : Mem) : Option ((Int32 × Mem) ⊕ (Int32 × Mem)) :=
  (rd 133 (s 6) x4).bind fun v8 =>
  if v8 = 32 then
  some (.inr (x4, s))
  else
  some (.inl ((x4 + 1), s))
def jn_X12_wordAt_88 (x1 : Int32) (x2 : Int32) (x3 : Int32) (x4 : Int32) (s : Mem) : Option ((Int32 × Int32 × Mem) ⊕ (Nat × Int32 × Mem)) :=
  (it FUEL (fun y => st_X12_wordAt_94 x1 x2 x3 y.1 y.2) ((x4 + 1), s)).bind fun r10 =>
  some (.inl (x3, r10.1, r10.2))
def jn_X12_wordAt_61 (x1 : Int32) (x2 : Int32) (x3 : Int32) (x4 : Int32) (x5 : Int32) (s : Mem) : Option ((Int32 × Int32 × Mem) ⊕ (Nat × Int32 × Mem)) :=
  if (x1 + x5) = x2 then
  (rd 133 (s 6) ((x4 + 1) + x5)).bind fun v11 =>
  if v11 = 32 then
  some (.inr (0, x3, s))
  else
  jn_X12_wordAt_88 x1 x2 x3 x4 s
  else
  jn_X12_wordAt_88 x1 x2 x3 x4 s
def st_X12_wordAt_5 (x1 : Int32) (x2 : Int32) (x3 : Int32) (x4 : Int32) (s : Mem) : Option ((Int32 × Int32 × Mem) ⊕ (Nat × Int32 × Mem)) :=
  if 132 ≤ x4 then
  some (.inr (1, 0, s))
  else
  (it FUEL (fun y => st_X12_wordAt_20 x1 x2 (x3 + 1) x4 y.1 y.2) (0, s)).bind fun r6 =>
  jn_X12_wordAt_61 x1 x2 (x3 + 1) x4 r6.1 r6.2
def f_X12_wordAt (x1 : Int32) (x2 : Int32) (s : Mem) : Option (Int32 × Mem) :=
  (it FUEL (fun y => st_X12_wordAt_5 x1 x2 y.1 y.2.1 y.2.2) ((-1), 0, s)).bind fun r13 =>
  if r13.1 = 0 then some (r13.2.1, r13.2.2) else some ((-1), r13.2.2)
def jn_X12_reads_26 (s : Mem) : Option ((Mem) ⊕ (Mem)) :=
  some (.inl ((mset s 0 10 ((s 0 10) + 1))))
def st_X12_reads_0 (s : Mem) : Option ((Mem) ⊕ (Mem)) :=
  (f_X12_raw (s 0 10) s).bind fun r1 =>
  if r1.1 = 32 then
  jn_X12_reads_26 r1.2
  else
  (f_X12_raw (r1.2 0 10) r1.2).bind fun r3 =>
  if r3.1 = 10 then
  jn_X12_reads_26 r3.2
  else
  some (.inr (r3.2))
def jn_X12_reads_223 (t1 : Int32) (s : Mem) : Option ((Mem) ⊕ (Mem)) :=
  some (.inl ((mset (mset s 0 13 t1) 0 10 (((mset s 0 13 t1) 0 10) + 1))))
def st_X12_reads_171 (s : Mem) : Option ((Mem) ⊕ (Mem)) :=
  (f_X12_raw (s 0 10) s).bind fun r14 =>
  (f_X12_isDigit r14.1 r14.2).bind fun r15 =>
  if r15.1 = 0 then
  some (.inr (r15.2))
  else
  if 10000 ≤ (r15.2 0 13) then
  jn_X12_reads_223 (r15.2 0 13) r15.2
  else
  (f_X12_raw (r15.2 0 10) r15.2).bind fun r18 =>
  jn_X12_reads_223 (((10 * (r15.2 0 13)) + r18.1) - 48) r18.2
def st_X12_reads_95 (s : Mem) : Option ((Mem) ⊕ (Mem)) :=
  (f_X12_raw (s 0 10) s).bind fun r21 =>
  (f_X12_isLetter r21.1 r21.2).bind fun r22 =>
  if r22.1 = 0 then
  some (.inr (r22.2))
  else
  some (.inl ((mset r22.2 0 10 ((r22.2 0 10) + 1))))
def f_X12_reads (s : Mem) : Option (Mem) :=
  (it FUEL (fun y => st_X12_reads_0 y) (s)).bind fun r5 =>
  (f_X12_raw ((mset (mset r5 0 11 (r5 0 10)) 0 12 1) 0 10) (mset (mset r5 0 11 (r5 0 10)) 0 12 1)).bind fun r6 =>
  if r6.1 = (-1) then
  some (mset r6.2 0 12 0)
  else
  (f_X12_isLetter r6.1 (mset (mset r6.2 0 10 ((r6.2 0 10) + 1)) 0 13 r6.1)).bind fun r8 =>
  if r8.1 = 0 then
  (f_X12_isDigit r6.1 r8.2).bind fun r10 =>
  if r10.1 = 0 then
  (f_X12_isMarkSign r6.1 r10.2).bind fun r12 =>
  if r12.1 = 0 then
  some r12.2
  else
  some (mset r12.2 0 12 4)
  else
  (it FUEL (fun y => st_X12_reads_171 y) ((mset r10.2 0 13 (r6.1 - 48)))).bind fun r19 =>
  if 5 ≤ ((r19 0 10) - (r19 0 11)) then
  some r19
  else
  some (mset r19 0 12 3)
  else
  (it FUEL (fun y => st_X12_reads_95 y) (r8.2)).bind fun r24 =>
  (f_X12_wordAt (r24 0 11) (r24 0 10) r24).bind fun r25 =>
  if ((mset r25.2 0 13 r25.1) 0 13) = (-1) then
  some (mset r25.2 0 13 r25.1)
  else
  some (mset (mset r25.2 0 13 r25.1) 0 12 2)
def f_X12_errs (x1 : Int32) (s : Mem) : Option (Int32 × Mem) :=
  some ((-1), (mset (mset s 0 27 x1) 0 28 ((mset s 0 27 x1) 0 11)))
def f_X12_isWord (x1 : Int32) (s : Mem) : Option (Int32 × Mem) :=
  if (s 0 12) = 2 then
  if (s 0 13) = x1 then
  some (1, s)
  else
  some (0, s)
  else
  some (0, s)
def f_X12_isSign (x1 : Int32) (s : Mem) : Option (Int32 × Mem) :=
  if (s 0 12) = 4 then
  if (s 0 13) = x1 then
  some (1, s)
  else
  some (0, s)
  else
  some (0, s)
def f_X12_emits (x1 : Int32) (x2 : Int32) (s : Mem) : Option (Mem) :=
  (wr 1200 s 12 (800 + (s 0 23)) x1).bind fun s1 =>
  (wr 1200 s1 13 (800 + (s1 0 23)) x2).bind fun s2 =>
  some (mset s2 0 23 ((s2 0 23) + 1))
def f_X12_canAsk (x1 : Int32) (s : Mem) : Option (Int32 × Mem) :=
  (f_X12_isIn x1 7 14 s).bind fun r1 =>
  if ¬ (r1.1 = 0 ∨ r1.1 = 1) then none else some (r1.1, r1.2)
def jn_X12_readUnit_71 (t1 : Int32) (t2 : Int32) (s : Mem) : Option (Int32 × Mem) :=
  (f_X12_emits t1 t2 s).bind fun r5 =>
  (f_X12_reads r5).bind fun r6 =>
  some (0, r6)
def jn_X12_readUnit_53 (x1 : Int32) (t1 : Int32) (s : Mem) : Option (Int32 × Mem) :=
  if x1 = 0 then
  jn_X12_readUnit_71 t1 (s 0 13) s
  else
  jn_X12_readUnit_71 t1 ((s 0 13) - 7) s
def jn_X12_readUnit_43 (x1 : Int32) (s : Mem) : Option (Int32 × Mem) :=
  if x1 = 0 then
  jn_X12_readUnit_53 x1 0 s
  else
  jn_X12_readUnit_53 x1 1 s
def jn_X12_readUnit_24 (t0 : Int32) (s : Mem) : Option (Int32 × Mem) :=
  if t0 = 0 then
  if (s 0 12) = 3 then
  jn_X12_readUnit_43 t0 s
  else
  (f_X12_errs 1 s).bind fun r8 =>
  some (r8.1, r8.2)
  else
  jn_X12_readUnit_43 t0 s
def jn_X12_readUnit_23 (s : Mem) : Option (Int32 × Mem) :=
  jn_X12_readUnit_24 0 s
def f_X12_readUnit (s : Mem) : Option (Int32 × Mem) :=
  if (s 0 12) = 2 then
  (f_X12_canAsk (s 0 13) s).bind fun r9 =>
  if r9.1 = 0 then
  jn_X12_readUnit_23 r9.2
  else
  jn_X12_readUnit_24 1 r9.2
  else
  jn_X12_readUnit_23 s
def jn_X12_readProduct_94 (t1 : Int32) (s : Mem) : Option ((Mem) ⊕ (Nat × Mem)) :=
  (f_X12_emits t1 0 s).bind fun r12 =>
  some (.inl (r12))
def jn_X12_readProduct_74 (x1 : Int32) (s : Mem) : Option ((Mem) ⊕ (Nat × Mem)) :=
  (f_X12_readUnit s).bind fun r9 =>
  if r9.1 = (-1) then
  some (.inr (2, r9.2))
  else
  if x1 = 0 then
  jn_X12_readProduct_94 5 r9.2
  else
  jn_X12_readProduct_94 4 r9.2
def jn_X12_readProduct_57 (x1 : Int32) (s : Mem) : Option ((Mem) ⊕ (Nat × Mem)) :=
  if x1 = 0 then
  if (s 0 13) = 0 then
  some (.inr (1, s))
  else
  jn_X12_readProduct_74 x1 s
  else
  jn_X12_readProduct_74 x1 s
def jn_X12_readProduct_28 (s : Mem) : Option ((Mem) ⊕ (Nat × Mem)) :=
  (f_X12_isSign 42 s).bind fun r5 =>
  (f_X12_reads r5.2).bind fun r6 =>
  if r5.1 = 0 then
  if (r6 0 12) = 3 then
  jn_X12_readProduct_57 r5.1 r6
  else
  some (.inr (0, r6))
  else
  jn_X12_readProduct_57 r5.1 r6
def st_X12_readProduct_10 (s : Mem) : Option ((Mem) ⊕ (Nat × Mem)) :=
  (f_X12_isSign 42 s).bind fun r3 =>
  if r3.1 = 0 then
  (f_X12_isSign 47 r3.2).bind fun r15 =>
  if r15.1 = 0 then
  some (.inr (3, r15.2))
  else
  jn_X12_readProduct_28 r15.2
  else
  jn_X12_readProduct_28 r3.2
def f_X12_readProduct (s : Mem) : Option (Int32 × Mem) :=
  (f_X12_readUnit s).bind fun r1 =>
  if r1.1 = (-1) then
  some ((-1), r1.2)
  else
  (it FUEL (fun y => st_X12_readProduct_10 y) (r1.2)).bind fun r17 =>
  if r17.1 = 0 then (f_X12_errs 1 r17.2).bind fun r18 =>
  some (r18.1, r18.2) else if r17.1 = 1 then (f_X12_errs 2 r17.2).bind fun r19 =>
  some (r19.1, r19.2) else if r17.1 = 2 then some ((-1), r17.2) else some (0, r17.2)
def jn_X12_readSum_42 (t0 : Int32) (s : Mem) : Option ((Mem) ⊕ (Nat × Mem)) :=
  (f_X12_reads s).bind fun r6 =>
  (f_X12_readProduct r6).bind fun r7 =>
  if r7.1 = (-1) then
  some (.inr (0, r7.2))
  else
  (f_X12_emits t0 0 r7.2).bind fun r9 =>
  some (.inl (r9))
def jn_X12_readSum_28 (s : Mem) : Option ((Mem) ⊕ (Nat × Mem)) :=
  if (s 0 13) = 43 then
  jn_X12_readSum_42 2 s
  else
  jn_X12_readSum_42 3 s
def st_X12_readSum_10 (s : Mem) : Option ((Mem) ⊕ (Nat × Mem)) :=
  (f_X12_isSign 43 s).bind fun r3 =>
  if r3.1 = 0 then
  (f_X12_isSign 45 r3.2).bind fun r10 =>
  if r10.1 = 0 then
  some (.inr (1, r10.2))
  else
  jn_X12_readSum_28 r10.2
  else
  jn_X12_readSum_28 r3.2
def f_X12_readSum (s : Mem) : Option (Int32 × Mem) :=
  (f_X12_readProduct s).bind fun r1 =>
  if r1.1 = (-1) then
  some ((-1), r1.2)
  else
  (it FUEL (fun y => st_X12_readSum_10 y) (r1.2)).bind fun r12 =>
  if r12.1 = 0 then some ((-1), r12.2) else some (0, r12.2)
def jn_X12_readCompared_73 (t0 : Int32) (s : Mem) : Option (Int32 × Mem) :=
  (f_X12_reads s).bind fun r7 =>
  (f_X12_readSum r7).bind fun r8 =>
  if r8.1 = (-1) then
  some ((-1), r8.2)
  else
  (f_X12_emits t0 0 r8.2).bind fun r10 =>
  some (0, r10)
def jn_X12_readCompared_43 (s : Mem) : Option (Int32 × Mem) :=
  if (s 0 13) = 60 then
  jn_X12_readCompared_73 6 s
  else
  if (s 0 13) = 61 then
  jn_X12_readCompared_73 7 s
  else
  jn_X12_readCompared_73 8 s
def f_X12_readCompared (s : Mem) : Option (Int32 × Mem) :=
  (f_X12_readSum s).bind fun r1 =>
  if r1.1 = (-1) then
  some ((-1), r1.2)
  else
  (f_X12_isSign 60 r1.2).bind fun r3 =>
  if r3.1 = 0 then
  (f_X12_isSign 61 r3.2).bind fun r11 =>
  if r11.1 = 0 then
  (f_X12_isSign 62 r11.2).bind fun r13 =>
  if r13.1 = 0 then
  (f_X12_errs 1 r13.2).bind fun r15 =>
  some (r15.1, r15.2)
  else
  jn_X12_readCompared_43 r13.2
  else
  jn_X12_readCompared_43 r11.2
  else
  jn_X12_readCompared_43 r3.2
def f_X12_waits (x1 : Int32) (s : Mem) : Option (Mem) :=
  (wr 40 s 14 (s 0 26) x1).bind fun s1 =>
  some (mset s1 0 26 ((s1 0 26) + 1))
def st_X12_settles_0 (x1 : Int32) (s : Mem) : Option ((Mem) ⊕ (Mem)) :=
  if (s 0 26) ≤ 0 then
  some (.inr (s))
  else
  (rd 40 (s 14) ((s 0 26) - 1)).bind fun v2 =>
  if v2 = x1 then
  (f_X12_emits x1 0 (mset s 0 26 ((s 0 26) - 1))).bind fun r4 =>
  if x1 = 9 then
  some (.inl ((mset r4 0 24 ((r4 0 24) - 1))))
  else
  some (.inl (r4))
  else
  some (.inr (s))
def f_X12_settles (x1 : Int32) (s : Mem) : Option (Mem) :=
  (it FUEL (fun y => st_X12_settles_0 x1 y) (s)).bind fun r6 =>
  some r6
def jn_X12_readAny_78 (x1 : Int32) (x2 : Int32) (t1 : Int32) (s : Mem) : Option ((Int32 × Int32 × Mem) ⊕ (Nat × Mem)) :=
  (f_X12_waits t1 s).bind fun r25 =>
  (f_X12_reads r25).bind fun r26 =>
  some (.inl (x1, x2, r26))
def jn_X12_readAny_66 (x1 : Int32) (x2 : Int32) (x3 : Int32) (s : Mem) : Option ((Int32 × Int32 × Mem) ⊕ (Nat × Mem)) :=
  if x3 = 0 then
  jn_X12_readAny_78 x1 x2 12 s
  else
  jn_X12_readAny_78 x1 x2 9 s
def jn_X12_readAny_33 (x1 : Int32) (x2 : Int32) (x3 : Int32) (s : Mem) : Option ((Int32 × Int32 × Mem) ⊕ (Nat × Mem)) :=
  if (s 0 24) = 8 then
  some (.inr (0, s))
  else
  if x3 = 0 then
  jn_X12_readAny_66 (x1 + 1) x2 x3 (mset s 0 24 ((s 0 24) + 1))
  else
  jn_X12_readAny_66 x1 x2 x3 (mset s 0 24 ((s 0 24) + 1))
def st_X12_readAny_9 (x1 : Int32) (x2 : Int32) (s : Mem) : Option ((Int32 × Int32 × Mem) ⊕ (Nat × Mem)) :=
  if x2 = 0 then
  (f_X12_isWord 5 s).bind fun r2 =>
  if r2.1 = 0 then
  (f_X12_isWord 4 r2.2).bind fun r4 =>
  if r4.1 = 0 then
  (f_X12_settles 10 r4.2).bind fun r6 =>
  (f_X12_settles 11 r6).bind fun r7 =>
  if x1 = 0 then
  some (.inr (2, r7))
  else
  (f_X12_isSign 41 r7).bind fun r9 =>
  if r9.1 = 0 then
  some (.inr (3, r9.2))
  else
  (f_X12_settles 9 (mset (mset r9.2 0 26 ((r9.2 0 26) - 1)) 0 24 (((mset r9.2 0 26 ((r9.2 0 26) - 1)) 0 24) - 1))).bind fun r11 =>
  (f_X12_reads r11).bind fun r12 =>
  some (.inl ((x1 - 1), x2, r12))
  else
  (f_X12_settles 10 r4.2).bind fun r13 =>
  (f_X12_settles 11 r13).bind fun r14 =>
  (f_X12_waits 11 r14).bind fun r15 =>
  (f_X12_reads r15).bind fun r16 =>
  some (.inl (x1, 1, r16))
  else
  (f_X12_settles 10 r2.2).bind fun r17 =>
  (f_X12_waits 10 r17).bind fun r18 =>
  (f_X12_reads r18).bind fun r19 =>
  some (.inl (x1, 1, r19))
  else
  (f_X12_isWord 6 s).bind fun r20 =>
  if r20.1 = 0 then
  (f_X12_isSign 40 r20.2).bind fun r27 =>
  if r27.1 = 0 then
  (f_X12_readCompared r27.2).bind fun r29 =>
  if r29.1 = (-1) then
  some (.inr (1, r29.2))
  else
  (f_X12_settles 9 r29.2).bind fun r31 =>
  some (.inl (x1, 0, r31))
  else
  jn_X12_readAny_33 x1 x2 r20.1 r27.2
  else
  jn_X12_readAny_33 x1 x2 r20.1 r20.2
def f_X12_readAny (s : Mem) : Option (Int32 × Mem) :=
  (it FUEL (fun y => st_X12_readAny_9 y.1 y.2.1 y.2.2) (0, 1, (mset s 0 26 0))).bind fun r32 =>
  if r32.1 = 0 then (f_X12_errs 3 r32.2).bind fun r33 =>
  some (r33.1, r33.2) else if r32.1 = 1 then some ((-1), r32.2) else if r32.1 = 2 then some (0, r32.2) else (f_X12_errs 1 r32.2).bind fun r34 =>
  some (r34.1, r34.2)
def f_X12_isLineWord (s : Mem) : Option (Int32 × Mem) :=
  if (s 0 12) = 2 then
  (f_X12_isIn (s 0 13) 0 2 s).bind fun r2 =>
  if r2.1 = 0 then
  some (0, r2.2)
  else
  some (1, r2.2)
  else
  some (0, s)
def jn_X12_readLaw_92 (x1 : Int32) (x2 : Int32) (s : Mem) : Option ((Int32 × Mem) ⊕ (Nat × Int32 × Mem)) :=
  (wr 48 s 11 x2 (s 0 23)).bind fun s12 =>
  (f_X12_isSign 59 s12).bind fun r13 =>
  if r13.1 = 0 then
  some (.inr (3, 0, r13.2))
  else
  (f_X12_reads r13.2).bind fun r15 =>
  some (.inl ((x1 + 1), r15))
def st_X12_readLaw_2 (x1 : Int32) (s : Mem) : Option ((Int32 × Mem) ⊕ (Nat × Int32 × Mem)) :=
  (f_X12_isLineWord s).bind fun r1 =>
  if r1.1 = 0 then
  some (.inr (4, x1, r1.2))
  else
  if x1 = 16 then
  some (.inr (0, 0, r1.2))
  else
  (wr 48 r1.2 8 (32 + x1) (r1.2 0 13)).bind fun s4 =>
  (f_X12_reads s4).bind fun r5 =>
  (wr 48 r5 9 (32 + x1) (r5 0 23)).bind fun s6 =>
  (f_X12_readSum s6).bind fun r7 =>
  if r7.1 = (-1) then
  some (.inr (1, 0, r7.2))
  else
  (wr 48 r7.2 10 (32 + x1) (r7.2 0 23)).bind fun s9 =>
  (f_X12_isWord 3 s9).bind fun r10 =>
  if r10.1 = 0 then
  jn_X12_readLaw_92 x1 (32 + x1) r10.2
  else
  (f_X12_reads r10.2).bind fun r16 =>
  (f_X12_readAny r16).bind fun r17 =>
  if r17.1 = (-1) then
  some (.inr (2, 0, r17.2))
  else
  jn_X12_readLaw_92 x1 (32 + x1) r17.2
def f_X12_readLaw (s : Mem) : Option (Int32 × Mem) :=
  (it FUEL (fun y => st_X12_readLaw_2 y.1 y.2) (0, s)).bind fun r19 =>
  if r19.1 = 0 then (f_X12_errs 3 r19.2.2).bind fun r20 =>
  some (r20.1, r20.2) else if r19.1 = 1 then some ((-1), r19.2.2) else if r19.1 = 2 then some ((-1), r19.2.2) else if r19.1 = 3 then (f_X12_errs 1 r19.2.2).bind fun r21 =>
  some (r21.1, r21.2) else if (r19.2.2 0 12) = 0 then
  some (r19.2.1, r19.2.2)
  else
  (f_X12_errs 1 r19.2.2).bind fun r23 =>
  some (r23.1, r23.2)
def st_X12_takesLaw_2 (x1 : Int32) (x2 : Int32) (s : Mem) : Option ((Int32 × Mem) ⊕ (Mem)) :=
  if x1 ≤ x2 then
  some (.inr (s))
  else
  (rd 48 (s 8) (32 + x2)).bind fun v2 =>
  (wr 48 s 8 ((16 * (s 0 22)) + x2) v2).bind fun s3 =>
  (rd 48 (s3 9) (32 + x2)).bind fun v4 =>
  (wr 48 s3 9 ((16 * (s3 0 22)) + x2) v4).bind fun s5 =>
  (rd 48 (s5 10) (32 + x2)).bind fun v6 =>
  (wr 48 s5 10 ((16 * (s5 0 22)) + x2) v6).bind fun s7 =>
  (rd 48 (s7 11) (32 + x2)).bind fun v8 =>
  (wr 48 s7 11 ((16 * (s7 0 22)) + x2) v8).bind fun s9 =>
  some (.inl ((x2 + 1), s9))
def st_X12_takesLaw_107 (x1 : Int32) (x2 : Int32) (s : Mem) : Option ((Int32 × Mem) ⊕ (Mem)) :=
  if (s 0 23) ≤ x2 then
  some (.inr (s))
  else
  (rd 1200 (s 12) (800 + x2)).bind fun v12 =>
  (wr 1200 s 12 ((400 * (s 0 22)) + x2) v12).bind fun s13 =>
  (rd 1200 (s13 13) (800 + x2)).bind fun v14 =>
  (wr 1200 s13 13 ((400 * (s13 0 22)) + x2) v14).bind fun s15 =>
  some (.inl ((x2 + 1), s15))
def f_X12_takesLaw (x1 : Int32) (s : Mem) : Option (Mem) :=
  (it FUEL (fun y => st_X12_takesLaw_2 x1 y.1 y.2) (0, s)).bind fun r10 =>
  (it FUEL (fun y => st_X12_takesLaw_107 x1 y.1 y.2) (0, r10)).bind fun r16 =>
  (wr 2 r16 7 (r16 0 22) x1).bind fun s17 =>
  some s17
def f_X12_readNumber (x1 : Int32) (x2 : Int32) (s : Mem) : Option (Int32 × Mem) :=
  if (s 0 12) = 3 then
  (f_X12_isIn (s 0 13) x1 x2 s).bind fun r2 =>
  if r2.1 = 0 then
  (f_X12_errs 2 r2.2).bind fun r5 =>
  some (r5.1, r5.2)
  else
  (f_X12_reads r2.2).bind fun r4 =>
  some ((r2.2 0 13), r4)
  else
  (f_X12_errs 1 s).bind fun r6 =>
  some (r6.1, r6.2)
def f_X12_readMark (x1 : Int32) (s : Mem) : Option (Int32 × Mem) :=
  (f_X12_isSign x1 s).bind fun r1 =>
  if r1.1 = 0 then
  (f_X12_errs 1 r1.2).bind fun r4 =>
  some (r4.1, r4.2)
  else
  (f_X12_reads r1.2).bind fun r3 =>
  some (0, r3)
def f_X12_readTold (x1 : Int32) (x2 : Int32) (x3 : Int32) (s : Mem) : Option (Int32 × Mem) :=
  (f_X12_isWord x1 s).bind fun r1 =>
  if r1.1 = 0 then
  (f_X12_errs 1 r1.2).bind fun r5 =>
  some (r5.1, r5.2)
  else
  (f_X12_reads r1.2).bind fun r3 =>
  (f_X12_readNumber x2 x3 r3).bind fun r4 =>
  some (r4.1, r4.2)
def jn_X12_readOther_22 (s : Mem) : Option (Int32 × Mem) :=
  (f_X12_readNumber 0 ((s 0 6) - 1) s).bind fun r2 =>
  some (r2.1, r2.2)
def f_X12_readOther (x1 : Int32) (s : Mem) : Option (Int32 × Mem) :=
  if (s 0 12) = 3 then
  if (s 0 13) = x1 then
  (f_X12_errs 2 s).bind fun r4 =>
  some (r4.1, r4.2)
  else
  jn_X12_readOther_22 s
  else
  jn_X12_readOther_22 s
def f_X12_readTalkLine (x1 : Int32) (s : Mem) : Option (Int32 × Mem) :=
  (f_X12_readTold 15 0 999 s).bind fun r1 =>
  (wr 96 r1.2 15 x1 r1.1).bind fun s2 =>
  (rd 96 (s2 15) x1).bind fun v3 =>
  if v3 = (-1) then
  some ((-1), s2)
  else
  (f_X12_readTold 16 0 ((s2 0 6) - 1) s2).bind fun r5 =>
  (wr 96 r5.2 15 (x1 + 1) r5.1).bind fun s6 =>
  (rd 96 (s6 15) (x1 + 1)).bind fun v7 =>
  if v7 = (-1) then
  some ((-1), s6)
  else
  (f_X12_isWord 17 s6).bind fun r9 =>
  if r9.1 = 0 then
  (f_X12_errs 1 r9.2).bind fun r18 =>
  some (r18.1, r18.2)
  else
  (f_X12_reads r9.2).bind fun r11 =>
  (rd 96 (r11 15) (x1 + 1)).bind fun v12 =>
  (f_X12_readOther v12 r11).bind fun r13 =>
  (wr 96 r13.2 15 (x1 + 2) r13.1).bind fun s14 =>
  (rd 96 (s14 15) (x1 + 2)).bind fun v15 =>
  if v15 = (-1) then
  some ((-1), s14)
  else
  (f_X12_readMark 59 s14).bind fun r17 =>
  some (r17.1, r17.2)
def st_X12_readTalk_2 (x1 : Int32) (s : Mem) : Option ((Int32 × Mem) ⊕ (Nat × Int32 × Mem)) :=
  (f_X12_isWord 15 s).bind fun r1 =>
  if r1.1 = 0 then
  some (.inr (2, x1, r1.2))
  else
  if x1 = 16 then
  some (.inr (0, 0, r1.2))
  else
  (f_X12_readTalkLine (48 + (3 * x1)) r1.2).bind fun r4 =>
  if r4.1 = (-1) then
  some (.inr (1, 0, r4.2))
  else
  some (.inl ((x1 + 1), r4.2))
def f_X12_readTalk (s : Mem) : Option (Int32 × Mem) :=
  (it FUEL (fun y => st_X12_readTalk_2 y.1 y.2) (0, s)).bind fun r6 =>
  if r6.1 = 0 then (f_X12_errs 3 r6.2.2).bind fun r7 =>
  some (r7.1, r7.2) else if r6.1 = 1 then some ((-1), r6.2.2) else if (r6.2.2 0 12) = 0 then
  some (r6.2.1, r6.2.2)
  else
  (f_X12_errs 1 r6.2.2).bind fun r9 =>
  some (r9.1, r9.2)
def jn_X12_readCure_51 (s : Mem) : Option (Int32 × Mem) :=
  (f_X12_errs 1 s).bind fun r6 =>
  some (r6.1, r6.2)
def jn_X12_readCure_154 (x1 : Int32) (t1 : Int32) (t2 : Int32) (s : Mem) : Option (Int32 × Mem) :=
  (wr 128 s 16 t1 t2).bind fun s17 =>
  (rd 128 (s17 16) (x1 + 3)).bind fun v18 =>
  if v18 = (-1) then
  some ((-1), s17)
  else
  (f_X12_readMark 59 s17).bind fun r20 =>
  some (r20.1, r20.2)
def f_X12_readCure (x1 : Int32) (s : Mem) : Option (Int32 × Mem) :=
  (f_X12_readTold 15 0 999 s).bind fun r1 =>
  (wr 128 r1.2 16 x1 r1.1).bind fun s2 =>
  (rd 128 (s2 16) x1).bind fun v3 =>
  if v3 = (-1) then
  some ((-1), s2)
  else
  if (s2 0 12) = 2 then
  (f_X12_isIn (s2 0 13) 18 21 s2).bind fun r7 =>
  if r7.1 = 0 then
  jn_X12_readCure_51 r7.2
  else
  (f_X12_reads r7.2).bind fun r9 =>
  (wr 128 r9 16 (x1 + 1) ((r7.2 0 13) - 18)).bind fun s10 =>
  (f_X12_readNumber 0 ((s10 0 6) - 1) s10).bind fun r11 =>
  (wr 128 r11.2 16 (x1 + 2) r11.1).bind fun s12 =>
  (rd 128 (s12 16) (x1 + 2)).bind fun v13 =>
  if v13 = (-1) then
  some ((-1), s12)
  else
  if ((r7.2 0 13) - 18) = 1 then
  (f_X12_readNumber 1 99 s12).bind fun r23 =>
  jn_X12_readCure_154 x1 (x1 + 3) r23.1 r23.2
  else
  if ((r7.2 0 13) - 18) = 2 then
  (rd 128 (s12 16) (x1 + 2)).bind fun v21 =>
  (f_X12_readOther v21 s12).bind fun r22 =>
  jn_X12_readCure_154 x1 (x1 + 3) r22.1 r22.2
  else
  jn_X12_readCure_154 x1 (x1 + 3) 0 s12
  else
  jn_X12_readCure_51 s2
def st_X12_readCures_2 (x1 : Int32) (s : Mem) : Option ((Int32 × Mem) ⊕ (Nat × Int32 × Mem)) :=
  (f_X12_isWord 15 s).bind fun r1 =>
  if r1.1 = 0 then
  some (.inr (2, x1, r1.2))
  else
  if x1 = 16 then
  some (.inr (0, 0, r1.2))
  else
  (f_X12_readCure (64 + (4 * x1)) r1.2).bind fun r4 =>
  if r4.1 = (-1) then
  some (.inr (1, 0, r4.2))
  else
  some (.inl ((x1 + 1), r4.2))
def f_X12_readCures (s : Mem) : Option (Int32 × Mem) :=
  (it FUEL (fun y => st_X12_readCures_2 y.1 y.2) (0, s)).bind fun r6 =>
  if r6.1 = 0 then (f_X12_errs 3 r6.2.2).bind fun r7 =>
  some (r7.1, r7.2) else if r6.1 = 1 then some ((-1), r6.2.2) else if (r6.2.2 0 12) = 0 then
  some (r6.2.1, r6.2.2)
  else
  (f_X12_errs 1 r6.2.2).bind fun r9 =>
  some (r9.1, r9.2)
def jn_X12_readRow_54 (x1 : Int32) (x2 : Int32) (s : Mem) : Option ((Int32 × Mem) ⊕ (Nat × Int32 × Int32 × Mem)) :=
  (f_X12_readOther x1 s).bind fun r7 =>
  if r7.1 = (-1) then
  some (.inr (0, 0, 0, r7.2))
  else
  if x2 = 6 then
  some (.inr (1, 0, (s 0 11), r7.2))
  else
  (wr 168 r7.2 18 ((6 * (14 + x1)) + x2) r7.1).bind fun s10 =>
  some (.inl ((x2 + 1), s10))
def st_X12_readRow_42 (x1 : Int32) (x2 : Int32) (s : Mem) : Option ((Int32 × Mem) ⊕ (Nat × Int32 × Int32 × Mem)) :=
  if x2 = 0 then
  jn_X12_readRow_54 x1 x2 s
  else
  if (s 0 12) = 3 then
  jn_X12_readRow_54 x1 x2 s
  else
  some (.inr (2, x2, 0, s))
def f_X12_readRow (s : Mem) : Option (Int32 × Mem) :=
  (f_X12_readTold 16 0 ((s 0 6) - 1) s).bind fun r1 =>
  if r1.1 = (-1) then
  some ((-1), r1.2)
  else
  (f_X12_isWord 22 r1.2).bind fun r3 =>
  if r3.1 = 0 then
  (f_X12_errs 1 r3.2).bind fun r15 =>
  some (r15.1, r15.2)
  else
  (f_X12_reads r3.2).bind fun r5 =>
  (it FUEL (fun y => st_X12_readRow_42 r1.1 y.1 y.2) (0, r5)).bind fun r12 =>
  if r12.1 = 0 then some ((-1), r12.2.2.2) else if r12.1 = 1 then some ((-1), (mset (mset r12.2.2.2 0 28 r12.2.2.1) 0 27 3)) else (wr 28 r12.2.2.2 17 (14 + r1.1) r12.2.1).bind fun s13 =>
  (f_X12_readMark 59 s13).bind fun r14 =>
  some (r14.1, r14.2)
def st_X12_readRows_2 (x1 : Int32) (s : Mem) : Option ((Int32 × Mem) ⊕ (Mem)) :=
  if 14 ≤ x1 then
  some (.inr (s))
  else
  (wr 28 s 17 (14 + x1) 0).bind fun s2 =>
  some (.inl ((x1 + 1), s2))
def st_X12_readRows_26 (x1 : Int32) (s : Mem) : Option ((Int32 × Mem) ⊕ (Nat × Int32 × Mem)) :=
  (f_X12_isWord 16 s).bind fun r4 =>
  if r4.1 = 0 then
  some (.inr (2, x1, r4.2))
  else
  if x1 = 16 then
  some (.inr (0, 0, r4.2))
  else
  (f_X12_readRow r4.2).bind fun r7 =>
  if r7.1 = (-1) then
  some (.inr (1, 0, r7.2))
  else
  some (.inl ((x1 + 1), r7.2))
def f_X12_readRows (s : Mem) : Option (Int32 × Mem) :=
  (it FUEL (fun y => st_X12_readRows_2 y.1 y.2) (0, s)).bind fun r3 =>
  (it FUEL (fun y => st_X12_readRows_26 y.1 y.2) (0, r3)).bind fun r9 =>
  if r9.1 = 0 then (f_X12_errs 3 r9.2.2).bind fun r10 =>
  some (r10.1, r10.2) else if r9.1 = 1 then some ((-1), r9.2.2) else if (r9.2.2 0 12) = 0 then
  some (r9.2.1, r9.2.2)
  else
  (f_X12_errs 1 r9.2.2).bind fun r12 =>
  some (r12.1, r12.2)
def f_X12_readsText (x1 : Int32) (s : Mem) : Option (Int32 × Mem) :=
  (f_X12_reads (mset s 0 22 0)).bind fun r1 =>
  if x1 = 1 then
  (f_X12_readTalk r1).bind fun r8 =>
  some (r8.1, r8.2)
  else
  if x1 = 2 then
  (f_X12_readCures r1).bind fun r7 =>
  some (r7.1, r7.2)
  else
  if x1 = 3 then
  (f_X12_readRows r1).bind fun r6 =>
  some (r6.1, r6.2)
  else
  (f_X12_readLaw r1).bind fun r5 =>
  some (r5.1, r5.2)
def st_X12_takesOther_71 (x1 : Int32) (x2 : Int32) (x3 : Int32) (s : Mem) : Option ((Int32 × Mem) ⊕ (Mem)) :=
  if (3 * x2) ≤ x3 then
  some (.inr (s))
  else
  if x1 = 1 then
  (rd 96 (s 15) (48 + x3)).bind fun v4 =>
  (wr 96 s 15 x3 v4).bind fun s5 =>
  some (.inl ((x3 + 1), s5))
  else
  some (.inr (s))
def st_X12_takesOther_106 (x1 : Int32) (x2 : Int32) (x3 : Int32) (s : Mem) : Option ((Int32 × Mem) ⊕ (Mem)) :=
  if (4 * x2) ≤ x3 then
  some (.inr (s))
  else
  if x1 = 2 then
  (rd 128 (s 16) (64 + x3)).bind fun v9 =>
  (wr 128 s 16 x3 v9).bind fun s10 =>
  some (.inl ((x3 + 1), s10))
  else
  some (.inr (s))
def jn_X12_takesOther_149 (x1 : Int32) (x2 : Int32) (s : Mem) : Option (Mem) :=
  if x1 = 2 then
  some (mset (mset s 0 33 x2) 0 3 0)
  else
  some (mset s 0 3 0)
def jn_X12_takesOther_139 (x1 : Int32) (x2 : Int32) (s : Mem) : Option (Mem) :=
  if x1 = 1 then
  jn_X12_takesOther_149 x1 x2 (mset s 0 31 x2)
  else
  jn_X12_takesOther_149 x1 x2 s
def jn_X12_takesOther_104 (x1 : Int32) (x2 : Int32) (s : Mem) : Option (Mem) :=
  (it FUEL (fun y => st_X12_takesOther_106 x1 x2 y.1 y.2) (0, s)).bind fun r11 =>
  jn_X12_takesOther_139 x1 x2 r11
def st_X12_takesOther_7 (x2 : Int32) (x3 : Int32) (s : Mem) : Option ((Int32 × Mem) ⊕ (Mem)) :=
  if 14 ≤ x3 then
  some (.inr (s))
  else
  (rd 28 (s 17) (14 + x3)).bind fun v15 =>
  (wr 28 s 17 x3 v15).bind fun s16 =>
  some (.inl ((x3 + 1), s16))
def st_X12_takesOther_36 (x2 : Int32) (x3 : Int32) (s : Mem) : Option ((Int32 × Mem) ⊕ (Mem)) :=
  if 84 ≤ x3 then
  some (.inr (s))
  else
  (rd 168 (s 18) (84 + x3)).bind fun v19 =>
  (wr 168 s 18 x3 v19).bind fun s20 =>
  some (.inl ((x3 + 1), s20))
def f_X12_takesOther (x1 : Int32) (x2 : Int32) (s : Mem) : Option (Mem) :=
  if x1 = 3 then
  (it FUEL (fun y => st_X12_takesOther_7 x2 y.1 y.2) (0, s)).bind fun r17 =>
  (it FUEL (fun y => st_X12_takesOther_36 x2 y.1 y.2) (0, r17)).bind fun r21 =>
  some (mset r21 0 35 x2)
  else
  (it FUEL (fun y => st_X12_takesOther_71 x1 x2 y.1 y.2) (0, s)).bind fun r6 =>
  jn_X12_takesOther_104 x1 x2 r6
def jn_X12_text_69 (x1 : Int32) (x2 : Int32) (s : Mem) : Option (Int32 × Mem) :=
  if x2 = (-1) then
  some ((-1), (mset s 0 9 0))
  else
  if x1 = 0 then
  (f_X12_takesLaw x2 (mset s 0 9 0)).bind fun r6 =>
  some (x2, r6)
  else
  (f_X12_takesOther x1 x2 (mset s 0 9 0)).bind fun r5 =>
  some (x2, r5)
def f_X12_text (x1 : Int32) (s : Mem) : Option (Int32 × Mem) :=
  (f_X12_isIn x1 0 3 (mset (mset (mset (mset (mset (mset s 0 0 0) 0 29 0) 0 30 (-1)) 0 10 0) 0 23 0) 0 24 0)).bind fun r1 =>
  if r1.1 = 0 then
  jn_X12_text_69 x1 (-1) r1.2
  else
  (f_X12_readsText x1 r1.2).bind fun r7 =>
  if r7.1 = (-1) then
  jn_X12_text_69 x1 r7.1 (mset (mset r7.2 0 29 (r7.2 0 27)) 0 30 ((mset r7.2 0 29 (r7.2 0 27)) 0 28))
  else
  jn_X12_text_69 x1 r7.1 r7.2
def f_X12_fault (x1 : Int32) (s : Mem) : Option (Int32 × Mem) :=
  if x1 = 0 then
  some (((mset s 0 0 0) 0 29), (mset s 0 0 0))
  else
  if x1 = 1 then
  some (((mset s 0 0 0) 0 30), (mset s 0 0 0))
  else
  some ((-1), (mset s 0 0 0))
def f_X12_twoOf (x1 : Int32) (x2 : Int32) (x3 : Int32) (s : Mem) : Option (Int32 × Mem) :=
  if x1 = 2 then
  some ((x2 + x3), s)
  else
  if x1 = 3 then
  some ((x2 - x3), s)
  else
  if x1 = 4 then
  some ((x2 * x3), s)
  else
  if x1 = 5 then
  if x3 = 0 then none else
  some ((x2 / x3), s)
  else
  if x1 = 6 then
  if x3 ≤ x2 then
  some (0, s)
  else
  some (1, s)
  else
  if x1 = 7 then
  if x2 = x3 then
  some (1, s)
  else
  some (0, s)
  else
  if x1 = 8 then
  if x2 ≤ x3 then
  some (0, s)
  else
  some (1, s)
  else
  if x1 = 10 then
  some ((x2 * x3), s)
  else
  if (x2 + x3) ≤ 0 then
  some (0, s)
  else
  some (1, s)
def jn_X12_runs_83 (x1 : Int32) (x3 : Int32) (x4 : Int32) (x5 : Int32) (t1 : Int32) (t2 : Int32) (s : Mem) : Option ((Int32 × Int32 × Mem) ⊕ (Mem)) :=
  (wr 420 s 20 t1 t2).bind fun s8 =>
  some (.inl ((x4 + 1), (x5 + 1), s8))
def jn_X12_runs_45 (x1 : Int32) (x3 : Int32) (x4 : Int32) (x5 : Int32) (s : Mem) : Option ((Int32 × Int32 × Mem) ⊕ (Mem)) :=
  (rd 1200 (s 12) x5).bind fun v4 =>
  if v4 = 0 then
  (rd 1200 (s 13) x5).bind fun v9 =>
  jn_X12_runs_83 x1 x3 x4 x5 x4 v9 s
  else
  (rd 1200 (s 13) x5).bind fun v6 =>
  (rd 8 (s 19) v6).bind fun v7 =>
  jn_X12_runs_83 x1 x3 x4 x5 x4 v7 s
def st_X12_runs_12 (x1 : Int32) (x3 : Int32) (x4 : Int32) (x5 : Int32) (s : Mem) : Option ((Int32 × Int32 × Mem) ⊕ (Mem)) :=
  if ((400 * x1) + x3) ≤ x5 then
  some (.inr (s))
  else
  (rd 1200 (s 12) x5).bind fun v2 =>
  if v2 = 0 then
  jn_X12_runs_45 x1 x3 x4 x5 s
  else
  (rd 1200 (s 12) x5).bind fun v10 =>
  if v10 = 1 then
  jn_X12_runs_45 x1 x3 x4 x5 s
  else
  (rd 1200 (s 12) x5).bind fun v12 =>
  if v12 = 9 then
  (rd 420 (s 20) (x4 - 1)).bind fun v19 =>
  (wr 420 s 20 (x4 - 1) (1 - v19)).bind fun s20 =>
  some (.inl (x4, (x5 + 1), s20))
  else
  (rd 1200 (s 12) x5).bind fun v14 =>
  (rd 420 (s 20) ((x4 - 1) - 1)).bind fun v15 =>
  (rd 420 (s 20) (x4 - 1)).bind fun v16 =>
  (f_X12_twoOf v14 v15 v16 s).bind fun r17 =>
  (wr 420 r17.2 20 ((x4 - 1) - 1) r17.1).bind fun s18 =>
  some (.inl ((x4 - 1), (x5 + 1), s18))
def f_X12_runs (x1 : Int32) (x2 : Int32) (x3 : Int32) (s : Mem) : Option (Int32 × Mem) :=
  (it FUEL (fun y => st_X12_runs_12 x1 x3 y.1 y.2.1 y.2.2) (0, ((400 * x1) + x2), s)).bind fun r21 =>
  (rd 420 (r21 20) 0).bind fun v22 =>
  some (v22, r21)
def st_X12_lineOf_2 (x1 : Int32) (x2 : Int32) (s : Mem) : Option ((Int32 × Mem) ⊕ (Nat × Int32 × Mem)) :=
  (rd 2 (s 7) 0).bind fun v1 =>
  if v1 ≤ x2 then
  some (.inr (1, 0, s))
  else
  (rd 48 (s 8) x2).bind fun v3 =>
  if v3 = x1 then
  (rd 48 (s 10) x2).bind fun v5 =>
  (rd 48 (s 11) x2).bind fun v6 =>
  if v5 = v6 then
  some (.inr (0, x2, s))
  else
  (rd 48 (s 10) x2).bind fun v8 =>
  (rd 48 (s 11) x2).bind fun v9 =>
  (f_X12_runs 0 v8 v9 s).bind fun r10 =>
  if r10.1 = 0 then
  some (.inl ((x2 + 1), r10.2))
  else
  some (.inr (0, x2, r10.2))
  else
  some (.inl ((x2 + 1), s))
def f_X12_lineOf (x1 : Int32) (s : Mem) : Option (Int32 × Mem) :=
  (it FUEL (fun y => st_X12_lineOf_2 x1 y.1 y.2) (0, s)).bind fun r12 =>
  if r12.1 = 0 then some (r12.2.1, r12.2.2) else some ((-1), r12.2.2)
def f_X12_nameOf (x1 : Int32) (x2 : Int32) (s : Mem) : Option (Int32 × Mem) :=
  (rd 168 (s 18) ((6 * x1) + x2)).bind fun v1 =>
  some (v1, s)
def st_X12_isToldAhead_3 (x1 : Int32) (x2 : Int32) (x3 : Int32) (x4 : Int32) (s : Mem) : Option ((Int32 × Mem) ⊕ (Nat × Mem)) :=
  if x3 ≤ x4 then
  some (.inr (1, s))
  else
  (f_X12_nameOf x1 x4 s).bind fun r2 =>
  if r2.1 = x2 then
  some (.inr (0, r2.2))
  else
  some (.inl ((x4 + 1), r2.2))
def f_X12_isToldAhead (x1 : Int32) (x2 : Int32) (x3 : Int32) (s : Mem) : Option (Int32 × Mem) :=
  (it FUEL (fun y => st_X12_isToldAhead_3 x1 x2 x3 y.1 y.2) (0, s)).bind fun r4 =>
  if r4.1 = 0 then some (1, r4.2) else some (0, r4.2)
def jn_X12_nameBy_128 (x1 : Int32) (x2 : Int32) (x3 : Int32) (x4 : Int32) (x5 : Int32) (s : Mem) : Option ((Int32 × Int32 × Mem) ⊕ (Nat × Int32 × Mem)) :=
  some (.inl ((x4 + 1), (x5 + 1), s))
def jn_X12_nameBy_92 (x1 : Int32) (x2 : Int32) (x3 : Int32) (x4 : Int32) (x5 : Int32) (x7 : Int32) (t1 : Int32) (t2 : Int32) (t3 : Int32) (s : Mem) : Option ((Int32 × Int32 × Mem) ⊕ (Nat × Int32 × Mem)) :=
  (f_X12_isToldAhead t1 t2 t3 s).bind fun r10 =>
  if r10.1 = 0 then
  if x2 = (-1) then
  (f_X12_has x3 x7 r10.2).bind fun r14 =>
  if r14.1 = 0 then
  some (.inr (0, x7, r14.2))
  else
  jn_X12_nameBy_128 x1 x2 x3 x4 x5 r14.2
  else
  if x4 = x2 then
  some (.inr (1, x7, r10.2))
  else
  jn_X12_nameBy_128 x1 x2 x3 x4 x5 r10.2
  else
  some (.inl (x4, (x5 + 1), r10.2))
def jn_X12_nameBy_64 (x1 : Int32) (x2 : Int32) (x3 : Int32) (x4 : Int32) (x5 : Int32) (x6 : Int32) (t0 : Int32) (s : Mem) : Option ((Int32 × Int32 × Mem) ⊕ (Nat × Int32 × Mem)) :=
  if t0 = x1 then
  some (.inl (x4, (x5 + 1), s))
  else
  if x6 = 0 then
  (rd 28 (s 17) x1).bind fun v9 =>
  jn_X12_nameBy_92 x1 x2 x3 x4 x5 t0 x1 t0 v9 s
  else
  jn_X12_nameBy_92 x1 x2 x3 x4 x5 t0 x1 t0 x5 s
def jn_X12_nameBy_38 (x1 : Int32) (x2 : Int32) (x3 : Int32) (x4 : Int32) (x5 : Int32) (t0 : Int32) (s : Mem) : Option ((Int32 × Int32 × Mem) ⊕ (Nat × Int32 × Mem)) :=
  if t0 = 0 then
  (rd 28 (s 17) x1).bind fun v6 =>
  jn_X12_nameBy_64 x1 x2 x3 x4 x5 t0 (x5 - v6) s
  else
  (f_X12_nameOf x1 x5 s).bind fun r16 =>
  jn_X12_nameBy_64 x1 x2 x3 x4 x5 t0 r16.1 r16.2
def st_X12_nameBy_6 (x1 : Int32) (x2 : Int32) (x3 : Int32) (x4 : Int32) (x5 : Int32) (s : Mem) : Option ((Int32 × Int32 × Mem) ⊕ (Nat × Int32 × Mem)) :=
  (rd 28 (s 17) x1).bind fun v1 =>
  if (v1 + (s 0 6)) ≤ x5 then
  some (.inr (2, 0, s))
  else
  (rd 28 (s 17) x1).bind fun v3 =>
  if v3 ≤ x5 then
  jn_X12_nameBy_38 x1 x2 x3 x4 x5 0 s
  else
  jn_X12_nameBy_38 x1 x2 x3 x4 x5 1 s
def f_X12_nameBy (x1 : Int32) (x2 : Int32) (x3 : Int32) (s : Mem) : Option (Int32 × Mem) :=
  (it FUEL (fun y => st_X12_nameBy_6 x1 x2 x3 y.1 y.2.1 y.2.2) (0, 0, s)).bind fun r17 =>
  if r17.1 = 0 then some (r17.2.1, r17.2.2) else if r17.1 = 1 then some (r17.2.1, r17.2.2) else some ((-1), r17.2.2)
def f_X12_nextName (x1 : Int32) (s : Mem) : Option (Int32 × Mem) :=
  (rd 102 (s 1) (46 + x1)).bind fun v1 =>
  (f_X12_nameBy x1 (-1) v1 s).bind fun r2 =>
  some (r2.1, r2.2)
def jn_X12_asks_123 (t1 : Int32) (t2 : Int32) (s : Mem) : Option (Mem) :=
  (wr 8 s 19 t1 t2).bind fun s18 =>
  (rd 102 (s18 1) 0).bind fun v19 =>
  (wr 8 s18 19 7 v19).bind fun s20 =>
  some s20
def f_X12_asks (x1 : Int32) (s : Mem) : Option (Mem) :=
  (rd 102 (s 1) (4 + x1)).bind fun v1 =>
  (wr 8 s 19 0 v1).bind fun s2 =>
  (rd 102 (s2 1) (18 + x1)).bind fun v3 =>
  (wr 8 s2 19 1 v3).bind fun s4 =>
  (rd 102 (s4 1) (46 + x1)).bind fun v5 =>
  (f_X12_onesOf v5 s4).bind fun r6 =>
  (wr 8 r6.2 19 2 r6.1).bind fun s7 =>
  (rd 102 (s7 1) (60 + x1)).bind fun v8 =>
  (wr 8 s7 19 3 v8).bind fun s9 =>
  (rd 102 (s9 1) (74 + x1)).bind fun v10 =>
  (wr 8 s9 19 4 v10).bind fun s11 =>
  (rd 102 (s11 1) (88 + x1)).bind fun v12 =>
  (wr 8 s11 19 5 v12).bind fun s13 =>
  (f_X12_byOf x1 s13).bind fun r14 =>
  if r14.1 = (-1) then
  jn_X12_asks_123 6 0 r14.2
  else
  (f_X12_byOf x1 r14.2).bind fun r16 =>
  (f_X12_plain (r16.1 - x1) r16.2).bind fun r17 =>
  jn_X12_asks_123 6 r17.1 r17.2
def jn_X12_lawTells_37 (x3 : Int32) (x4 : Int32) (t1 : Int32) (s : Mem) : Option (Int32 × Mem) :=
  (f_X12_bounded t1 x3 x4 s).bind fun r6 =>
  some (r6.1, r6.2)
def f_X12_lawTells (x1 : Int32) (x2 : Int32) (x3 : Int32) (x4 : Int32) (s : Mem) : Option (Int32 × Mem) :=
  (f_X12_lineOf x1 s).bind fun r1 =>
  if r1.1 = (-1) then
  jn_X12_lawTells_37 x3 x4 x2 r1.2
  else
  (rd 48 (r1.2 9) r1.1).bind fun v3 =>
  (rd 48 (r1.2 10) r1.1).bind fun v4 =>
  (f_X12_runs 0 v3 v4 r1.2).bind fun r5 =>
  jn_X12_lawTells_37 x3 x4 r5.1 r5.2
def f_X12_hicsOf (x1 : Int32) (s : Mem) : Option (Int32 × Mem) :=
  (f_X12_asks x1 s).bind fun r1 =>
  (rd 8 (r1 19) 0).bind fun v2 =>
  (f_X12_lawTells 0 (20 - v2) 1 99 r1).bind fun r3 =>
  some (r3.1, r3.2)
def f_X12_stopsOf (x1 : Int32) (s : Mem) : Option (Int32 × Mem) :=
  (f_X12_asks x1 s).bind fun r1 =>
  (rd 8 (r1 19) 0).bind fun v2 =>
  (f_X12_lawTells 1 (50 + (20 * v2)) 0 1000 r1).bind fun r3 =>
  some (r3.1, r3.2)
def f_X12_passesOf (x1 : Int32) (s : Mem) : Option (Int32 × Mem) :=
  (f_X12_asks x1 s).bind fun r1 =>
  (rd 8 (r1 19) 1).bind fun v2 =>
  (f_X12_lawTells 2 (v2 / 2) 0 99 r1).bind fun r3 =>
  some (r3.1, r3.2)
def f_X12_notes (x1 : Int32) (x2 : Int32) (x3 : Int32) (s : Mem) : Option (Mem) :=
  if (s 0 5) = 0 then
  (rd 102 (s 1) 2).bind fun v2 =>
  if v2 = 150 then
  some s
  else
  (rd 102 (s 1) 2).bind fun v4 =>
  (rd 102 (s 1) 0).bind fun v5 =>
  (wr 600 s 4 (4 * v4) v5).bind fun s6 =>
  (wr 600 s6 4 ((4 * v4) + 1) x1).bind fun s7 =>
  (wr 600 s7 4 ((4 * v4) + 2) x2).bind fun s8 =>
  (wr 600 s8 4 ((4 * v4) + 3) x3).bind fun s9 =>
  (rd 102 (s9 1) 2).bind fun v10 =>
  (wr 102 s9 1 2 (v10 + 1)).bind fun s11 =>
  some s11
  else
  some s
def f_X12_isNamed (x1 : Int32) (x2 : Int32) (s : Mem) : Option (Mem) :=
  (rd 102 (s 1) (60 + x1)).bind fun v1 =>
  (wr 102 s 1 (60 + x1) (v1 + 1)).bind fun s2 =>
  (rd 102 (s2 1) (18 + x1)).bind fun v3 =>
  (f_X12_hicsOf x1 s2).bind fun r4 =>
  (f_X12_lesser 99 (v3 + r4.1) r4.2).bind fun r5 =>
  (wr 102 r5.2 1 (18 + x1) r5.1).bind fun s6 =>
  (wr 102 s6 1 (32 + x1) (x2 + 1)).bind fun s7 =>
  (wr 102 s7 1 (46 + x1) 0).bind fun s8 =>
  (rd 102 (s8 1) (18 + x1)).bind fun v9 =>
  (f_X12_notes 0 x1 v9 s8).bind fun r10 =>
  some r10
def f_X12_isFrightened (x1 : Int32) (s : Mem) : Option (Mem) :=
  (rd 102 (s 1) (18 + x1)).bind fun v1 =>
  (f_X12_hasThen x1 (v1 / 2) s).bind fun r2 =>
  (rd 102 (r2 1) (88 + x1)).bind fun v3 =>
  (wr 102 r2 1 (88 + x1) (v3 + 1)).bind fun s4 =>
  (rd 102 (s4 1) (18 + x1)).bind fun v5 =>
  (f_X12_notes 5 x1 v5 s4).bind fun r6 =>
  some r6
def f_X12_getsFrom (x1 : Int32) (x2 : Int32) (x3 : Int32) (s : Mem) : Option (Mem) :=
  (rd 102 (s 1) (18 + x1)).bind fun v1 =>
  (f_X12_lesser 99 (v1 + x2) s).bind fun r2 =>
  (wr 102 r2.2 1 (18 + x1) r2.1).bind fun s3 =>
  if x2 = 0 then
  some s3
  else
  (wr 102 s3 1 (32 + x1) (x3 + 1)).bind fun s5 =>
  (wr 102 s5 1 (46 + x1) 0).bind fun s6 =>
  some s6
def f_X12_handsOn (x1 : Int32) (x2 : Int32) (s : Mem) : Option (Mem) :=
  (f_X12_hasAny x1 s).bind fun r1 =>
  if r1.1 = 0 then
  some r1.2
  else
  (rd 102 (r1.2 1) (18 + x1)).bind fun v3 =>
  (f_X12_hasThen x1 0 r1.2).bind fun r4 =>
  (rd 102 (r4 1) (18 + x2)).bind fun v5 =>
  (f_X12_lesser 99 (v5 + v3) r4).bind fun r6 =>
  (wr 102 r6.2 1 (18 + x2) r6.1).bind fun s7 =>
  (wr 102 s7 1 (32 + x2) (x1 + 1)).bind fun s8 =>
  (wr 102 s8 1 (46 + x2) 0).bind fun s9 =>
  (f_X12_notes 4 x1 x2 s9).bind fun r10 =>
  some r10
def f_X12_says (x1 : Int32) (s : Mem) : Option (Int32 × Mem) :=
  (f_X12_nextName x1 s).bind fun r1 =>
  if r1.1 = (-1) then
  (rd 102 (r1.2 1) (18 + x1)).bind fun v14 =>
  (f_X12_hasThen x1 (v14 - 1) r1.2).bind fun r15 =>
  (rd 102 (r15 1) (18 + x1)).bind fun v16 =>
  (f_X12_notes 6 x1 v16 r15).bind fun r17 =>
  some (0, r17)
  else
  (f_X12_byOf x1 r1.2).bind fun r3 =>
  if r1.1 = r3.1 then
  (rd 102 (r3.2 1) (74 + r1.1)).bind fun v5 =>
  (wr 102 r3.2 1 (74 + r1.1) (v5 + 1)).bind fun s6 =>
  (f_X12_passesOf x1 s6).bind fun r7 =>
  (f_X12_hasThen x1 0 r7.2).bind fun r8 =>
  (f_X12_getsFrom r1.1 r7.1 x1 r8).bind fun r9 =>
  (f_X12_notes 3 x1 r1.1 r9).bind fun r10 =>
  some (1, r10)
  else
  (rd 102 (r3.2 1) (46 + x1)).bind fun v11 =>
  (wr 102 r3.2 1 (46 + x1) (v11 ||| (1 <<< (r1.1 &&& 31)))).bind fun s12 =>
  (f_X12_notes 2 x1 r1.1 s12).bind fun r13 =>
  some (0, r13)
def jn_X12_canAct_75 (x2 : Int32) (s : Mem) : Option (Int32 × Mem) :=
  (f_X12_hasAny x2 s).bind fun r6 =>
  if r6.1 = 0 then
  some (0, r6.2)
  else
  some (1, r6.2)
def f_X12_canAct (x1 : Int32) (x2 : Int32) (x3 : Int32) (s : Mem) : Option (Int32 × Mem) :=
  (f_X12_isPerson x2 s).bind fun r1 =>
  if r1.1 = 0 then
  some (0, r1.2)
  else
  if x1 = 0 then
  (f_X12_isPerson x3 r1.2).bind fun r14 =>
  if r14.1 = 0 then
  some (0, r14.2)
  else
  if x3 = x2 then
  some (0, r14.2)
  else
  some (1, r14.2)
  else
  if x1 = 2 then
  (f_X12_isPerson x3 r1.2).bind fun r9 =>
  if r9.1 = 0 then
  some (0, r9.2)
  else
  if x3 = x2 then
  some (0, r9.2)
  else
  (f_X12_hasAny x2 r9.2).bind fun r12 =>
  if r12.1 = 0 then
  some (0, r12.2)
  else
  some (1, r12.2)
  else
  if x1 = 1 then
  jn_X12_canAct_75 x2 r1.2
  else
  if x1 = 3 then
  jn_X12_canAct_75 x2 r1.2
  else
  some (0, r1.2)
def jn_X12_act_52 (x1 : Int32) (x2 : Int32) (s : Mem) : Option (Int32 × Mem) :=
  if x1 = 3 then
  (f_X12_says x2 s).bind fun r8 =>
  some (1, r8.2)
  else
  some (1, s)
def jn_X12_act_41 (x1 : Int32) (x2 : Int32) (x3 : Int32) (s : Mem) : Option (Int32 × Mem) :=
  if x1 = 2 then
  (f_X12_handsOn x2 x3 s).bind fun r9 =>
  jn_X12_act_52 x1 x2 r9
  else
  jn_X12_act_52 x1 x2 s
def jn_X12_act_31 (x1 : Int32) (x2 : Int32) (x3 : Int32) (s : Mem) : Option (Int32 × Mem) :=
  if x1 = 1 then
  (f_X12_isFrightened x2 s).bind fun r10 =>
  jn_X12_act_41 x1 x2 x3 r10
  else
  jn_X12_act_41 x1 x2 x3 s
def f_X12_act (x1 : Int32) (x2 : Int32) (x3 : Int32) (s : Mem) : Option (Int32 × Mem) :=
  (f_X12_canAct x1 x2 x3 (mset s 0 0 0)).bind fun r1 =>
  if r1.1 = 0 then
  some (0, r1.2)
  else
  (f_X12_keepsAhead r1.2).bind fun r3 =>
  if x1 = 0 then
  (f_X12_isNamed x3 x2 r3).bind fun r11 =>
  jn_X12_act_31 x1 x2 x3 r11
  else
  jn_X12_act_31 x1 x2 x3 r3
def f_X12_happens (x1 : Int32) (s : Mem) : Option (Int32 × Mem) :=
  if (s 0 5) = 0 then
  if x1 ≤ 0 then
  some (0, s)
  else
  (f_X12_draw 1000 s).bind fun r3 =>
  if x1 ≤ r3.1 then
  some (0, r3.2)
  else
  some (1, r3.2)
  else
  if (2 * x1) < 1000 then
  some (0, s)
  else
  some (1, s)
def jn_X12_takesCure_78 (x2 : Int32) (x3 : Int32) (s : Mem) : Option (Mem) :=
  if x2 ≤ 2 then
  some s
  else
  (rd 102 (s 1) (4 + x3)).bind fun v7 =>
  (f_X12_lesser 9 (v7 + 1) s).bind fun r8 =>
  (wr 102 r8.2 1 (4 + x3) r8.1).bind fun s9 =>
  some s9
def jn_X12_takesCure_60 (x1 : Int32) (x2 : Int32) (x3 : Int32) (s : Mem) : Option (Mem) :=
  if x2 = 2 then
  (rd 128 (s 16) (x1 + 3)).bind fun v10 =>
  (f_X12_handsOn x3 v10 s).bind fun r11 =>
  jn_X12_takesCure_78 x2 x3 r11
  else
  jn_X12_takesCure_78 x2 x3 s
def jn_X12_takesCure_27 (x1 : Int32) (x2 : Int32) (x3 : Int32) (s : Mem) : Option (Mem) :=
  if x2 = 1 then
  (rd 102 (s 1) (18 + x3)).bind fun v12 =>
  (rd 128 (s 16) (x1 + 3)).bind fun v13 =>
  (f_X12_greater 0 (v12 - v13) s).bind fun r14 =>
  (f_X12_hasThen x3 r14.1 r14.2).bind fun r15 =>
  jn_X12_takesCure_60 x1 x2 x3 r15
  else
  jn_X12_takesCure_60 x1 x2 x3 s
def f_X12_takesCure (x1 : Int32) (s : Mem) : Option (Mem) :=
  (rd 128 (s 16) (x1 + 1)).bind fun v1 =>
  (rd 128 (s 16) (x1 + 2)).bind fun v2 =>
  if v1 = 0 then
  (f_X12_isFrightened v2 s).bind fun r16 =>
  jn_X12_takesCure_27 x1 v1 v2 r16
  else
  jn_X12_takesCure_27 x1 v1 v2 s
def f_X12_hicsNow (x1 : Int32) (s : Mem) : Option (Int32 × Mem) :=
  (f_X12_stopsOf x1 s).bind fun r1 =>
  (f_X12_happens r1.1 r1.2).bind fun r2 =>
  if r2.1 = 0 then
  (f_X12_says x1 r2.2).bind fun r7 =>
  if ¬ (r7.1 = 0 ∨ r7.1 = 1) then none else some (r7.1, r7.2)
  else
  (rd 102 (r2.2 1) (18 + x1)).bind fun v4 =>
  (f_X12_notes 1 x1 v4 r2.2).bind fun r5 =>
  (f_X12_hasThen x1 0 r5).bind fun r6 =>
  some (0, r6)
def st_X12_whoHas_4 (x1 : Int32) (x2 : Int32) (s : Mem) : Option ((Int32 × Int32 × Mem) ⊕ (Int32 × Mem)) :=
  if (s 0 6) ≤ x2 then
  some (.inr (x1, s))
  else
  (f_X12_hasAny x2 s).bind fun r2 =>
  if r2.1 = 0 then
  some (.inl (x1, (x2 + 1), r2.2))
  else
  some (.inl ((x1 ||| (1 <<< (x2 &&& 31))), (x2 + 1), r2.2))
def f_X12_whoHas (s : Mem) : Option (Int32 × Mem) :=
  (it FUEL (fun y => st_X12_whoHas_4 y.1 y.2.1 y.2.2) (0, 0, s)).bind fun r4 =>
  some (r4.1, r4.2)
def st_X12_goesBy_2 (x1 : Int32) (s : Mem) : Option ((Int32 × Mem) ⊕ (Mem)) :=
  if (3 * (s 0 31)) ≤ x1 then
  some (.inr (s))
  else
  (rd 96 (s 15) x1).bind fun v2 =>
  (rd 102 (s 1) 0).bind fun v3 =>
  if v2 = v3 then
  (rd 96 (s 15) (x1 + 2)).bind fun v5 =>
  (rd 96 (s 15) (x1 + 1)).bind fun v6 =>
  (f_X12_isNamed v5 v6 s).bind fun r7 =>
  some (.inl ((x1 + 3), r7))
  else
  some (.inl ((x1 + 3), s))
def st_X12_goesBy_56 (x1 : Int32) (s : Mem) : Option ((Int32 × Mem) ⊕ (Mem)) :=
  if (4 * (s 0 33)) ≤ x1 then
  some (.inr (s))
  else
  (rd 128 (s 16) x1).bind fun v10 =>
  (rd 102 (s 1) 0).bind fun v11 =>
  if v10 = v11 then
  (f_X12_takesCure x1 s).bind fun r13 =>
  some (.inl ((x1 + 4), r13))
  else
  some (.inl ((x1 + 4), s))
def st_X12_goesBy_97 (x1 : Int32) (x2 : Int32) (s : Mem) : Option ((Int32 × Int32 × Mem) ⊕ (Int32 × Mem)) :=
  if (s 0 6) ≤ x2 then
  some (.inr (x1, s))
  else
  (f_X12_hasAny x2 s).bind fun r16 =>
  if r16.1 = 0 then
  some (.inl (x1, (x2 + 1), r16.2))
  else
  (f_X12_hicsNow x2 r16.2).bind fun r18 =>
  if r18.1 = 0 then
  some (.inl (x1, (x2 + 1), r18.2))
  else
  some (.inl ((x1 + 1), (x2 + 1), r18.2))
def jn_X12_goesBy_152 (x1 : Int32) (s : Mem) : Option (Int32 × Mem) :=
  (rd 102 (s 1) 0).bind fun v23 =>
  (wr 102 s 1 0 (v23 + 1)).bind fun s24 =>
  some (x1, s24)
def f_X12_goesBy (s : Mem) : Option (Int32 × Mem) :=
  (it FUEL (fun y => st_X12_goesBy_2 y.1 y.2) (0, s)).bind fun r8 =>
  (it FUEL (fun y => st_X12_goesBy_56 y.1 y.2) (0, r8)).bind fun r14 =>
  (it FUEL (fun y => st_X12_goesBy_97 y.1 y.2.1 y.2.2) (0, 0, r14)).bind fun r20 =>
  (f_X12_whoHas r20.2).bind fun r21 =>
  if r21.1 = 0 then
  (rd 102 (r21.2 1) 3).bind fun v25 =>
  (wr 102 r21.2 1 3 (v25 + 1)).bind fun s26 =>
  jn_X12_goesBy_152 r20.1 s26
  else
  jn_X12_goesBy_152 r20.1 r21.2
def st_X12_minutes_36 (x1 : Int32) (x2 : Int32) (x3 : Int32) (s : Mem) : Option ((Int32 × Int32 × Mem) ⊕ (Int32 × Mem)) :=
  if x1 ≤ x3 then
  some (.inr (x2, s))
  else
  (f_X12_keepsAhead s).bind fun r6 =>
  (f_X12_goesBy r6).bind fun r7 =>
  some (.inl ((x2 + r7.1), (x3 + 1), r7.2))
def f_X12_minutes (x1 : Int32) (s : Mem) : Option (Int32 × Mem) :=
  (f_X12_isIn x1 1 60 (mset s 0 0 0)).bind fun r1 =>
  if r1.1 = 0 then
  some ((-1), r1.2)
  else
  (rd 102 (r1.2 1) 0).bind fun v3 =>
  if (v3 + x1) ≤ 9999 then
  (it FUEL (fun y => st_X12_minutes_36 x1 y.1 y.2.1 y.2.2) (0, 0, r1.2)).bind fun r8 =>
  some (r8.1, r8.2)
  else
  some ((-1), r1.2)
def f_X12_of (x1 : Int32) (x2 : Int32) (s : Mem) : Option (Int32 × Mem) :=
  (f_X12_isPerson x1 (mset s 0 0 0)).bind fun r1 =>
  if r1.1 = 0 then
  some ((-2), r1.2)
  else
  if x2 = 2 then
  (f_X12_byOf x1 r1.2).bind fun r18 =>
  some (r18.1, r18.2)
  else
  (f_X12_isIn x2 0 6 r1.2).bind fun r4 =>
  if r4.1 = 0 then
  if x2 = 7 then
  (f_X12_hicsOf x1 r4.2).bind fun r16 =>
  some (r16.1, r16.2)
  else
  if x2 = 8 then
  (f_X12_stopsOf x1 r4.2).bind fun r15 =>
  some (r15.1, r15.2)
  else
  if x2 = 9 then
  (f_X12_passesOf x1 r4.2).bind fun r14 =>
  some (r14.1, r14.2)
  else
  if x2 = 10 then
  (f_X12_nextName x1 r4.2).bind fun r13 =>
  some (r13.1, r13.2)
  else
  (f_X12_isIn x2 20 33 r4.2).bind fun r10 =>
  if r10.1 = 0 then
  some ((-2), r10.2)
  else
  (f_X12_nameBy x1 (x2 - 20) 0 r10.2).bind fun r12 =>
  some (r12.1, r12.2)
  else
  (rd 102 (r4.2 1) ((4 + (14 * x2)) + x1)).bind fun v17 =>
  some (v17, r4.2)
def f_X12_book (x1 : Int32) (x2 : Int32) (s : Mem) : Option (Int32 × Mem) :=
  (rd 102 ((mset s 0 0 0) 1) 2).bind fun v1 =>
  (f_X12_isIn x1 0 (v1 - 1) (mset s 0 0 0)).bind fun r2 =>
  if r2.1 = 0 then
  some ((-1), r2.2)
  else
  (f_X12_isIn x2 0 3 r2.2).bind fun r4 =>
  if r4.1 = 0 then
  some ((-1), r4.2)
  else
  (rd 600 (r4.2 4) ((4 * x1) + x2)).bind fun v6 =>
  some (v6, r4.2)
def st_X12_sumOf_4 (x1 : Int32) (x2 : Int32) (x3 : Int32) (s : Mem) : Option ((Int32 × Int32 × Mem) ⊕ (Int32 × Mem)) :=
  if (s 0 6) ≤ x3 then
  some (.inr (x2, s))
  else
  (rd 102 (s 1) (x1 + x3)).bind fun v2 =>
  some (.inl ((x2 + v2), (x3 + 1), s))
def f_X12_sumOf (x1 : Int32) (s : Mem) : Option (Int32 × Mem) :=
  (it FUEL (fun y => st_X12_sumOf_4 x1 y.1 y.2.1 y.2.2) (0, 0, s)).bind fun r3 =>
  some (r3.1, r3.2)
def st_X12_goes_34 (x1 : Int32) (x2 : Int32) (x3 : Int32) (s : Mem) : Option ((Int32 × Mem) ⊕ (Mem)) :=
  if x1 ≤ x3 then
  some (.inr (s))
  else
  (f_X12_goesBy s).bind fun r7 =>
  some (.inl ((x3 + 1), r7.2))
def jn_X12_goes_97 (t0 : Int32) (s : Mem) : Option (Int32 × Mem) :=
  (f_X12_endsThought s).bind fun r13 =>
  some (t0, r13)
def f_X12_goes (x1 : Int32) (x2 : Int32) (s : Mem) : Option (Int32 × Mem) :=
  (f_X12_isIn x1 1 60 (mset s 0 0 0)).bind fun r1 =>
  if r1.1 = 0 then
  some ((-1), r1.2)
  else
  (f_X12_isIn x2 0 3 r1.2).bind fun r3 =>
  if r3.1 = 0 then
  some ((-1), r3.2)
  else
  (f_X12_thinks r3.2).bind fun r5 =>
  (it FUEL (fun y => st_X12_goes_34 x1 x2 y.1 y.2) (0, r5)).bind fun r8 =>
  if x2 = 0 then
  (f_X12_sumOf 18 r8).bind fun r16 =>
  jn_X12_goes_97 r16.1 r16.2
  else
  if x2 = 1 then
  (f_X12_sumOf 74 r8).bind fun r15 =>
  jn_X12_goes_97 r15.1 r15.2
  else
  if x2 = 2 then
  (f_X12_sumOf 60 r8).bind fun r14 =>
  jn_X12_goes_97 r14.1 r14.2
  else
  (rd 102 (r8 1) 3).bind fun v12 =>
  jn_X12_goes_97 v12 r8
def st_X12_peace_11 (x1 : Int32) (s : Mem) : Option ((Int32 × Mem) ⊕ (Int32 × Mem)) :=
  if 60 < x1 then
  some (.inr (x1, s))
  else
  (f_X12_whoHas s).bind fun r3 =>
  if r3.1 = 0 then
  some (.inr (x1, r3.2))
  else
  (f_X12_goesBy r3.2).bind fun r5 =>
  some (.inl ((x1 + 1), r5.2))
def jn_X12_peace_36 (x1 : Int32) (s : Mem) : Option (Int32 × Mem) :=
  (f_X12_endsThought s).bind fun r7 =>
  if x1 ≤ 60 then
  some (x1, r7)
  else
  some ((-1), r7)
def f_X12_peace (s : Mem) : Option (Int32 × Mem) :=
  (f_X12_thinks (mset s 0 0 0)).bind fun r1 =>
  (it FUEL (fun y => st_X12_peace_11 y.1 y.2) (0, r1)).bind fun r6 =>
  jn_X12_peace_36 r6.1 r6.2
def st_X12_back_22 (x2 : Int32) (x3 : Int32) (x4 : Int32) (s : Mem) : Option ((Int32 × Int32 × Int32 × Mem) ⊕ (Int32 × Mem)) :=
  (f_X12_byOf x3 s).bind fun r3 =>
  if r3.1 = (-1) then
  some (.inr (x4, r3.2))
  else
  (f_X12_has x2 x3 r3.2).bind fun r5 =>
  if r5.1 = 0 then
  (f_X12_byOf x3 r5.2).bind fun r7 =>
  some (.inl ((x2 ||| (1 <<< (x3 &&& 31))), r7.1, (x4 + 1), r7.2))
  else
  some (.inr (x4, r5.2))
def f_X12_back (x1 : Int32) (s : Mem) : Option (Int32 × Mem) :=
  (f_X12_isPerson x1 (mset s 0 0 0)).bind fun r1 =>
  if r1.1 = 0 then
  some ((-1), r1.2)
  else
  (it FUEL (fun y => st_X12_back_22 y.1 y.2.1 y.2.2.1 y.2.2.2) (0, x1, 0, r1.2)).bind fun r8 =>
  some (r8.1, r8.2)
def f_X12_breath (x1 : Int32) (s : Mem) : Option (Int32 × Mem) :=
  if x1 = (-100) then
  some (0, (mset (mset s 0 0 0) 0 40 0))
  else
  (f_X12_isIn x1 (-50) 50 (mset s 0 0 0)).bind fun r2 =>
  if r2.1 = 0 then
  some ((-100), r2.2)
  else
  if (r2.2 0 40) = 16 then
  some ((-100), r2.2)
  else
  (wr 16 r2.2 21 (r2.2 0 40) x1).bind fun s5 =>
  some (((mset s5 0 40 ((s5 0 40) + 1)) 0 40), (mset s5 0 40 ((s5 0 40) + 1)))
def st_X12_sumFrom_6 (x2 : Int32) (x3 : Int32) (x4 : Int32) (x5 : Int32) (s : Mem) : Option ((Int32 × Int32 × Mem) ⊕ (Int32 × Mem)) :=
  if x2 < x5 then
  some (.inr (x4, s))
  else
  if x5 = x3 then
  some (.inl (x4, (x5 + 1), s))
  else
  (rd 16 (s 21) x5).bind fun v3 =>
  some (.inl ((x4 + v3), (x5 + 1), s))
def f_X12_sumFrom (x1 : Int32) (x2 : Int32) (x3 : Int32) (s : Mem) : Option (Int32 × Mem) :=
  (it FUEL (fun y => st_X12_sumFrom_6 x2 x3 y.1 y.2.1 y.2.2) (0, x1, s)).bind fun r4 =>
  some (r4.1, r4.2)
def st_X12_held_73 (x1 : Int32) (x3 : Int32) (x4 : Int32) (x2 : Int32) (x5 : Int32) (s : Mem) : Option ((Int32 × Int32 × Mem) ⊕ (Int32 × Mem)) :=
  if x4 < x5 then
  some (.inr (x2, s))
  else
  if x1 = 1 then
  if x4 ≤ x3 then
  some (.inr (x2, s))
  else
  (f_X12_sumFrom x3 x4 x5 s).bind fun r11 =>
  (f_X12_greater x2 r11.1 r11.2).bind fun r12 =>
  some (.inl (r12.1, (x5 + 1), r12.2))
  else
  some (.inr (x2, s))
def st_X12_held_47 (x1 : Int32) (x3 : Int32) (x2 : Int32) (x4 : Int32) (s : Mem) : Option ((Int32 × Int32 × Mem) ⊕ (Int32 × Mem)) :=
  if (s 0 40) ≤ x4 then
  some (.inr (x2, s))
  else
  (f_X12_sumFrom x3 x4 (-1) s).bind fun r6 =>
  (f_X12_greater x2 r6.1 r6.2).bind fun r7 =>
  (it FUEL (fun y => st_X12_held_73 x1 x3 x4 y.1 y.2.1 y.2.2) (r7.1, x3, r7.2)).bind fun r13 =>
  some (.inl (r13.1, (x4 + 1), r13.2))
def st_X12_held_36 (x1 : Int32) (x2 : Int32) (x3 : Int32) (s : Mem) : Option ((Int32 × Int32 × Mem) ⊕ (Int32 × Mem)) :=
  if (s 0 40) ≤ x3 then
  some (.inr (x2, s))
  else
  (it FUEL (fun y => st_X12_held_47 x1 x3 y.1 y.2.1 y.2.2) (x2, x3, s)).bind fun r14 =>
  some (.inl (r14.1, (x3 + 1), r14.2))
def jn_X12_held_33 (x1 : Int32) (t0 : Int32) (s : Mem) : Option (Int32 × Mem) :=
  (it FUEL (fun y => st_X12_held_36 x1 y.1 y.2.1 y.2.2) (t0, 0, s)).bind fun r15 =>
  some (r15.1, r15.2)
def f_X12_held (x1 : Int32) (s : Mem) : Option (Int32 × Mem) :=
  (f_X12_isIn x1 0 1 (mset s 0 0 0)).bind fun r1 =>
  if r1.1 = 0 then
  some ((-1000), r1.2)
  else
  if (r1.2 0 40) = 0 then
  jn_X12_held_33 x1 0 r1.2
  else
  jn_X12_held_33 x1 (-100000000) r1.2
def st_X12_least_36 (x1 : Int32) (x2 : Int32) (x3 : Int32) (s : Mem) : Option ((Int32 × Mem) ⊕ (Int32 × Mem)) :=
  if x3 < 0 then
  some (.inr (x3, s))
  else
  (rd 16 (s 21) x3).bind fun v6 =>
  (rd 16 (s 21) x1).bind fun v7 =>
  if v6 < v7 then
  some (.inr (x3, s))
  else
  some (.inl ((x3 - 1), s))
def st_X12_least_73 (x1 : Int32) (x2 : Int32) (x4 : Int32) (s : Mem) : Option ((Int32 × Mem) ⊕ (Int32 × Mem)) :=
  if (s 0 40) ≤ x4 then
  some (.inr (x4, s))
  else
  (rd 16 (s 21) x4).bind fun v12 =>
  (rd 16 (s 21) x1).bind fun v13 =>
  if v12 < v13 then
  some (.inr (x4, s))
  else
  some (.inl ((x4 + 1), s))
def st_X12_least_133 (x1 : Int32) (x4 : Int32) (x5 : Int32) (s : Mem) : Option ((Int32 × Mem) ⊕ (Int32 × Mem)) :=
  if x5 < 0 then
  some (.inr (x5, s))
  else
  (rd 16 (s 21) x5).bind fun v18 =>
  (rd 16 (s 21) x1).bind fun v19 =>
  if v18 ≤ v19 then
  some (.inr (x5, s))
  else
  some (.inl ((x5 - 1), s))
def jn_X12_least_163 (x1 : Int32) (x4 : Int32) (x5 : Int32) (s : Mem) : Option (Int32 × Mem) :=
  some (((x1 - x5) * (x4 - x1)), s)
def jn_X12_least_107 (x1 : Int32) (x2 : Int32) (x4 : Int32) (s : Mem) : Option (Int32 × Mem) :=
  if x2 = 1 then
  if (s 0 40) ≤ x4 then
  some ((-1), s)
  else
  some (x4, s)
  else
  (it FUEL (fun y => st_X12_least_133 x1 x4 y.1 y.2) ((x1 - 1), s)).bind fun r21 =>
  jn_X12_least_163 x1 x4 r21.1 r21.2
def jn_X12_least_62 (x1 : Int32) (x2 : Int32) (x3 : Int32) (s : Mem) : Option (Int32 × Mem) :=
  if x2 = 0 then
  some (x3, s)
  else
  (it FUEL (fun y => st_X12_least_73 x1 x2 y.1 y.2) ((x1 + 1), s)).bind fun r15 =>
  jn_X12_least_107 x1 x2 r15.1 r15.2
def f_X12_least (x1 : Int32) (x2 : Int32) (s : Mem) : Option (Int32 × Mem) :=
  (f_X12_isIn x1 0 (((mset s 0 0 0) 0 40) - 1) (mset s 0 0 0)).bind fun r1 =>
  if r1.1 = 0 then
  some ((-1), r1.2)
  else
  (f_X12_isIn x2 0 2 r1.2).bind fun r3 =>
  if r3.1 = 0 then
  some ((-1), r3.2)
  else
  (it FUEL (fun y => st_X12_least_36 x1 x2 y.1 y.2) ((x1 - 1), r3.2)).bind fun r9 =>
  jn_X12_least_62 x1 x2 r9.1 r9.2
def jn_X12_upside_64 (x3 : Int32) (t0 : Int32) (t1 : Int32) (s : Mem) : Option ((Int32 × Int32 × Mem) ⊕ (Nat × Int32 × Mem)) :=
  some (.inl ((t0 + t1), (x3 / 10), s))
def st_X12_upside_4 (x2 : Int32) (x3 : Int32) (s : Mem) : Option ((Int32 × Int32 × Mem) ⊕ (Nat × Int32 × Mem)) :=
  if x3 ≤ 0 then
  some (.inr (1, x2, s))
  else
  (f_X12_isIn (x3 % 10) 2 5 s).bind fun r2 =>
  if r2.1 = 0 then
  if (x3 % 10) = 7 then
  some (.inr (0, 0, r2.2))
  else
  if (x3 % 10) = 6 then
  jn_X12_upside_64 x3 (10 * x2) 9 r2.2
  else
  if (x3 % 10) = 9 then
  jn_X12_upside_64 x3 (10 * x2) 6 r2.2
  else
  jn_X12_upside_64 x3 (10 * x2) (x3 % 10) r2.2
  else
  some (.inr (0, 0, r2.2))
def f_X12_upside (x1 : Int32) (s : Mem) : Option (Int32 × Mem) :=
  (it FUEL (fun y => st_X12_upside_4 y.1 y.2.1 y.2.2) (0, x1, s)).bind fun r7 =>
  if r7.1 = 0 then some ((-1), r7.2.2) else some (r7.2.1, r7.2.2)
def st_X12_heads_71 (x1 : Int32) (x3 : Int32) (x4 : Int32) (s : Mem) : Option ((Int32 × Int32 × Mem) ⊕ (Int32 × Mem)) :=
  if x1 < x4 then
  some (.inr (x3, s))
  else
  (f_X12_upside x4 s).bind fun r8 =>
  if r8.1 = x4 then
  some (.inl ((x3 + 1), (x4 + 1), r8.2))
  else
  some (.inl (x3, (x4 + 1), r8.2))
def st_X12_heads_48 (x3 : Int32) (s : Mem) : Option ((Int32 × Mem) ⊕ (Int32 × Mem)) :=
  (f_X12_upside x3 s).bind fun r11 =>
  if r11.1 = x3 then
  some (.inr (x3, r11.2))
  else
  some (.inl ((x3 + 1), r11.2))
def f_X12_heads (x1 : Int32) (x2 : Int32) (s : Mem) : Option (Int32 × Mem) :=
  (f_X12_isIn x1 0 99999 (mset s 0 0 0)).bind fun r1 =>
  if r1.1 = 0 then
  some ((-1), r1.2)
  else
  (f_X12_isIn x2 0 2 r1.2).bind fun r3 =>
  if r3.1 = 0 then
  some ((-1), r3.2)
  else
  if x2 = 0 then
  (f_X12_upside x1 r3.2).bind fun r14 =>
  some (r14.1, r14.2)
  else
  if x2 = 1 then
  (it FUEL (fun y => st_X12_heads_48 y.1 y.2) ((x1 + 1), r3.2)).bind fun r13 =>
  some (r13.1, r13.2)
  else
  (it FUEL (fun y => st_X12_heads_71 x1 y.1 y.2.1 y.2.2) (0, 0, r3.2)).bind fun r10 =>
  some (r10.1, r10.2)
def st_X12_said_45 (x1 : Int32) (x2 : Int32) (x4 : Int32) (x3 : Int32) (x5 : Int32) (s : Mem) : Option ((Int32 × Int32 × Mem) ⊕ (Int32 × Mem)) :=
  if x5 ≤ 0 then
  some (.inr (x3, s))
  else
  if (x5 % 10) = x2 then
  some (.inl ((x3 + 1), (x5 / 10), s))
  else
  some (.inl (x3, (x5 / 10), s))
def st_X12_said_35 (x1 : Int32) (x2 : Int32) (x3 : Int32) (x4 : Int32) (s : Mem) : Option ((Int32 × Int32 × Mem) ⊕ (Int32 × Mem)) :=
  if x1 < x4 then
  some (.inr (x3, s))
  else
  (it FUEL (fun y => st_X12_said_45 x1 x2 x4 y.1 y.2.1 y.2.2) (x3, x4, s)).bind fun r8 =>
  some (.inl (r8.1, (x4 + 1), r8.2))
def f_X12_said (x1 : Int32) (x2 : Int32) (s : Mem) : Option (Int32 × Mem) :=
  (f_X12_isIn x1 1 9999 (mset s 0 0 0)).bind fun r1 =>
  if r1.1 = 0 then
  some ((-1), r1.2)
  else
  (f_X12_isIn x2 0 9 r1.2).bind fun r3 =>
  if r3.1 = 0 then
  some ((-1), r3.2)
  else
  (it FUEL (fun y => st_X12_said_35 x1 x2 y.1 y.2.1 y.2.2) (0, 1, r3.2)).bind fun r9 =>
  some (r9.1, r9.2)
def jn_X12_digit_69 (x1 : Int32) (x3 : Int32) (x4 : Int32) (t0 : Int32) (s : Mem) : Option ((Int32 × Int32 × Mem) ⊕ (Nat × Int32 × Int32 × Int32 × Mem)) :=
  if x3 < t0 then
  some (.inr (0, x3, x4, t0, s))
  else
  some (.inl ((x3 - t0), (x4 + 1), s))
def st_X12_digit_28 (x1 : Int32) (x3 : Int32) (x4 : Int32) (s : Mem) : Option ((Int32 × Int32 × Mem) ⊕ (Nat × Int32 × Int32 × Int32 × Mem)) :=
  if x1 < x4 then
  some (.inr (1, 0, 0, 0, s))
  else
  if 10 ≤ x4 then
  if 100 ≤ x4 then
  if 1000 ≤ x4 then
  jn_X12_digit_69 x1 x3 x4 4 s
  else
  jn_X12_digit_69 x1 x3 x4 3 s
  else
  jn_X12_digit_69 x1 x3 x4 2 s
  else
  jn_X12_digit_69 x1 x3 x4 1 s
def st_X12_digit_95 (x3 : Int32) (x6 : Int32) (x7 : Int32) (s : Mem) : Option ((Int32 × Int32 × Mem) ⊕ (Int32 × Mem)) :=
  if x7 ≤ x3 then
  some (.inr (x6, s))
  else
  some (.inl ((x6 / 10), (x7 + (-1)), s))
def f_X12_digit (x1 : Int32) (x2 : Int32) (s : Mem) : Option (Int32 × Mem) :=
  (f_X12_isIn x1 1 9999 (mset s 0 0 0)).bind fun r1 =>
  if r1.1 = 0 then
  some ((-1), r1.2)
  else
  if 0 ≤ x2 then
  (it FUEL (fun y => st_X12_digit_28 x1 y.1 y.2.1 y.2.2) (x2, 1, r1.2)).bind fun r9 =>
  if r9.1 = 0 then (it FUEL (fun y => st_X12_digit_95 r9.2.1 y.1 y.2.1 y.2.2) (r9.2.2.1, (r9.2.2.2.1 - 1), r9.2.2.2.2)).bind fun r11 =>
  some ((r11.1 % 10), r11.2) else some ((-1), r9.2.2.2.2)
  else
  some ((-1), r1.2)
def f_X12_call (x1 : Int32) (x2 : Int32) (x3 : Int32) (s : Mem) : Option (Int32 × Mem) :=
  if x1 = (-1) then
  some (0, (mset (mset s 0 0 0) 0 42 0))
  else
  (f_X12_isIn x1 0 99 (mset s 0 0 0)).bind fun r2 =>
  if r2.1 = 0 then
  some ((-1), r2.2)
  else
  (f_X12_isIn x2 (x1 + 1) 99 r2.2).bind fun r4 =>
  if r4.1 = 0 then
  some ((-1), r4.2)
  else
  (f_X12_isIn x3 1 99 r4.2).bind fun r6 =>
  if r6.1 = 0 then
  some ((-1), r6.2)
  else
  if (r6.2 0 42) = 10 then
  some ((-1), r6.2)
  else
  (wr 10 r6.2 22 (r6.2 0 42) x1).bind fun s9 =>
  (wr 10 s9 23 (s9 0 42) x2).bind fun s10 =>
  (wr 10 s10 24 (s10 0 42) x3).bind fun s11 =>
  some (((mset s11 0 42 ((s11 0 42) + 1)) 0 42), (mset s11 0 42 ((s11 0 42) + 1)))
def st_X12_worthOf_36 (x1 : Int32) (x2 : Int32) (x3 : Int32) (x4 : Int32) (s : Mem) : Option ((Int32 × Mem) ⊕ (Nat × Mem)) :=
  if x3 ≤ x4 then
  some (.inr (1, s))
  else
  (f_X12_has x1 x4 s).bind fun r6 =>
  if r6.1 = 0 then
  some (.inl ((x4 + 1), r6.2))
  else
  (rd 10 (r6.2 22) x3).bind fun v8 =>
  (rd 10 (r6.2 23) x4).bind fun v9 =>
  if v9 ≤ v8 then
  some (.inl ((x4 + 1), r6.2))
  else
  (rd 10 (r6.2 22) x4).bind fun v11 =>
  (rd 10 (r6.2 23) x3).bind fun v12 =>
  if v12 ≤ v11 then
  some (.inl ((x4 + 1), r6.2))
  else
  some (.inr (0, r6.2))
def st_X12_worthOf_4 (x1 : Int32) (x2 : Int32) (x3 : Int32) (s : Mem) : Option ((Int32 × Int32 × Mem) ⊕ (Nat × Int32 × Mem)) :=
  if (s 0 42) ≤ x3 then
  some (.inr (1, x2, s))
  else
  (f_X12_has x1 x3 s).bind fun r2 =>
  if r2.1 = 0 then
  some (.inl (x2, (x3 + 1), r2.2))
  else
  (rd 10 (r2.2 24) x3).bind fun v4 =>
  (it FUEL (fun y => st_X12_worthOf_36 x1 (x2 + v4) x3 y.1 y.2) (0, r2.2)).bind fun r14 =>
  if r14.1 = 0 then some (.inr (0, 0, r14.2)) else some (.inl ((x2 + v4), (x3 + 1), r14.2))
def f_X12_worthOf (x1 : Int32) (s : Mem) : Option (Int32 × Mem) :=
  (it FUEL (fun y => st_X12_worthOf_4 x1 y.1 y.2.1 y.2.2) (0, 0, s)).bind fun r15 =>
  if r15.1 = 0 then some ((-1), r15.2.2) else some (r15.2.1, r15.2.2)
def st_X12_callsAt_4 (x1 : Int32) (x2 : Int32) (x3 : Int32) (s : Mem) : Option ((Int32 × Int32 × Mem) ⊕ (Int32 × Mem)) :=
  if (s 0 42) ≤ x3 then
  some (.inr (x2, s))
  else
  (rd 10 (s 22) x3).bind fun v2 =>
  (rd 10 (s 23) x3).bind fun v3 =>
  (f_X12_isIn x1 v2 (v3 - 1) s).bind fun r4 =>
  if r4.1 = 0 then
  some (.inl (x2, (x3 + 1), r4.2))
  else
  some (.inl ((x2 + 1), (x3 + 1), r4.2))
def f_X12_callsAt (x1 : Int32) (s : Mem) : Option (Int32 × Mem) :=
  (it FUEL (fun y => st_X12_callsAt_4 x1 y.1 y.2.1 y.2.2) (0, 0, s)).bind fun r6 =>
  some (r6.1, r6.2)
def jn_X12_calls_73 (x1 : Int32) (x4 : Int32) (x5 : Int32) (s : Mem) : Option ((Int32 × Int32 × Int32 × Mem) ⊕ (Int32 × Int32 × Mem)) :=
  (f_X12_onesOf x4 s).bind fun r8 =>
  some (.inl (x5, r8.1, (x4 + 1), r8.2))
def st_X12_calls_24 (x1 : Int32) (x2 : Int32) (x3 : Int32) (x4 : Int32) (s : Mem) : Option ((Int32 × Int32 × Int32 × Mem) ⊕ (Int32 × Int32 × Mem)) :=
  if (1 <<< ((s 0 42) &&& 31)) ≤ x4 then
  some (.inr (x2, x3, s))
  else
  if 2 ≤ x1 then
  some (.inr (x2, x3, s))
  else
  (f_X12_worthOf x4 s).bind fun r5 =>
  if r5.1 < x2 then
  some (.inl (x2, x3, (x4 + 1), r5.2))
  else
  if r5.1 = x2 then
  (f_X12_onesOf x4 r5.2).bind fun r9 =>
  if r9.1 < x3 then
  jn_X12_calls_73 x1 x4 r5.1 r9.2
  else
  some (.inl (x2, x3, (x4 + 1), r9.2))
  else
  jn_X12_calls_73 x1 x4 r5.1 r5.2
def jn_X12_calls_135 (x1 : Int32) (x4 : Int32) (x5 : Int32) (x6 : Int32) (s : Mem) : Option ((Int32 × Int32 × Int32 × Mem) ⊕ (Int32 × Int32 × Mem)) :=
  (f_X12_callsAt x6 s).bind fun r16 =>
  (f_X12_greater x5 r16.1 r16.2).bind fun r17 =>
  some (.inl (x4, r17.1, (x6 + 1), r17.2))
def st_X12_calls_113 (x1 : Int32) (x4 : Int32) (x5 : Int32) (x6 : Int32) (s : Mem) : Option ((Int32 × Int32 × Int32 × Mem) ⊕ (Int32 × Int32 × Mem)) :=
  if 100 ≤ x6 then
  some (.inr (x4, x5, s))
  else
  (f_X12_callsAt x6 s).bind fun r14 =>
  if r14.1 ≤ 0 then
  jn_X12_calls_135 x1 x4 x5 x6 r14.2
  else
  jn_X12_calls_135 x1 (x4 + 1) x5 x6 r14.2
def jn_X12_calls_89 (x1 : Int32) (x2 : Int32) (x3 : Int32) (s : Mem) : Option (Int32 × Mem) :=
  if 2 ≤ x1 then
  (it FUEL (fun y => st_X12_calls_113 x1 y.1 y.2.1 y.2.2.1 y.2.2.2) (0, 0, 0, s)).bind fun r18 =>
  if x1 = 2 then
  some (r18.1, r18.2.2)
  else
  some (r18.2.1, r18.2.2)
  else
  if x1 = 0 then
  some (x2, s)
  else
  some (x3, s)
def f_X12_calls (x1 : Int32) (s : Mem) : Option (Int32 × Mem) :=
  (f_X12_isIn x1 0 3 (mset s 0 0 0)).bind fun r1 =>
  if r1.1 = 0 then
  some ((-1), r1.2)
  else
  (it FUEL (fun y => st_X12_calls_24 x1 y.1 y.2.1 y.2.2.1 y.2.2.2) (0, 0, 1, r1.2)).bind fun r11 =>
  jn_X12_calls_89 x1 r11.1 r11.2.1 r11.2.2
def st_X12_hics_76 (x1 : Int32) (x2 : Int32) (x4 : Int32) (x5 : Int32) (x6 : Int32) (s : Mem) : Option ((Int32 × Int32 × Int32 × Mem) ⊕ (Int32 × Mem)) :=
  if (2 * x2) ≤ x6 then
  some (.inr (x4, s))
  else
  if x1 ≤ 0 then
  some (.inr (x4, s))
  else
  if x2 = 0 then none else
  if x2 = 0 then none else
  if (((x6 % x2) * x1) % x2) < x1 then
  if x5 = (-1) then
  some (.inl (x4, x6, (x6 + 1), s))
  else
  (f_X12_greater x4 (x6 - x5) s).bind fun r13 =>
  some (.inl (r13.1, x6, (x6 + 1), r13.2))
  else
  some (.inl (x4, x5, (x6 + 1), s))
def jn_X12_hics_46 (x1 : Int32) (x2 : Int32) (x3 : Int32) (s : Mem) : Option (Int32 × Mem) :=
  if x3 = 100 then
  (it FUEL (fun y => st_X12_hics_76 x1 x2 y.1 y.2.1 y.2.2.1 y.2.2.2) (0, (-1), 0, s)).bind fun r14 =>
  some (r14.1, r14.2)
  else
  if x2 = 0 then none else
  if x1 ≤ ((x3 * x1) % x2) then
  some (0, s)
  else
  some (1, s)
def f_X12_hics (x1 : Int32) (x2 : Int32) (x3 : Int32) (s : Mem) : Option (Int32 × Mem) :=
  (f_X12_isIn x2 1 30 (mset s 0 0 0)).bind fun r1 =>
  if r1.1 = 0 then
  some ((-1), r1.2)
  else
  (f_X12_isIn x1 0 x2 r1.2).bind fun r3 =>
  if r3.1 = 0 then
  some ((-1), r3.2)
  else
  if x3 = 100 then
  jn_X12_hics_46 x1 x2 x3 r3.2
  else
  (f_X12_isIn x3 0 (x2 - 1) r3.2).bind fun r17 =>
  if r17.1 = 0 then
  some ((-1), r17.2)
  else
  jn_X12_hics_46 x1 x2 x3 r17.2
def f_X12_way (x1 : Int32) (x2 : Int32) (x3 : Int32) (s : Mem) : Option (Int32 × Mem) :=
  if x1 = (-1) then
  some (0, (mset (mset s 0 0 0) 0 46 0))
  else
  (f_X12_isIn x1 0 5 (mset s 0 0 0)).bind fun r2 =>
  if r2.1 = 0 then
  some ((-1), r2.2)
  else
  (f_X12_isIn x2 0 5 r2.2).bind fun r4 =>
  if r4.1 = 0 then
  some ((-1), r4.2)
  else
  if x1 = x2 then
  some ((-1), r4.2)
  else
  (f_X12_isIn x3 1 20 r4.2).bind fun r7 =>
  if r7.1 = 0 then
  some ((-1), r7.2)
  else
  if (r7.2 0 46) = 14 then
  some ((-1), r7.2)
  else
  (wr 14 r7.2 25 (r7.2 0 46) x1).bind fun s10 =>
  (wr 14 s10 26 (s10 0 46) x2).bind fun s11 =>
  (wr 14 s11 27 (s11 0 46) x3).bind fun s12 =>
  some (((mset s12 0 46 ((s12 0 46) + 1)) 0 46), (mset s12 0 46 ((s12 0 46) + 1)))
def st_X12_gossip_86 (x1 : Int32) (x2 : Int32) (x3 : Int32) (x4 : Int32) (x5 : Int32) (x6 : Int32) (x7 : Int32) (s : Mem) : Option ((Int32 × Int32 × Mem) ⊕ (Int32 × Mem)) :=
  if (s 0 46) ≤ x7 then
  some (.inr (x6, s))
  else
  (rd 14 (s 25) x7).bind fun v14 =>
  (f_X12_has x5 v14 s).bind fun r15 =>
  if r15.1 = 0 then
  some (.inl (x6, (x7 + 1), r15.2))
  else
  (rd 14 (r15.2 26) x7).bind fun v17 =>
  (f_X12_has x5 v17 r15.2).bind fun r18 =>
  if r18.1 = 0 then
  if x3 = 0 then
  (rd 14 (r18.2 27) x7).bind fun v21 =>
  some (.inl ((x6 + v21), (x7 + 1), r18.2))
  else
  some (.inl ((x6 + 1), (x7 + 1), r18.2))
  else
  some (.inl (x6, (x7 + 1), r18.2))
def st_X12_gossip_50 (x1 : Int32) (x2 : Int32) (x3 : Int32) (x4 : Int32) (x5 : Int32) (s : Mem) : Option ((Int32 × Int32 × Mem) ⊕ (Int32 × Mem)) :=
  if 64 ≤ x5 then
  some (.inr (x4, s))
  else
  (f_X12_has x5 x1 s).bind fun r9 =>
  if r9.1 = 0 then
  some (.inl (x4, (x5 + 1), r9.2))
  else
  (f_X12_has x5 x2 r9.2).bind fun r11 =>
  if r11.1 = 0 then
  (it FUEL (fun y => st_X12_gossip_86 x1 x2 x3 x4 x5 y.1 y.2.1 y.2.2) (0, 0, r11.2)).bind fun r22 =>
  (f_X12_lesser x4 r22.1 r22.2).bind fun r23 =>
  some (.inl (r23.1, (x5 + 1), r23.2))
  else
  some (.inl (x4, (x5 + 1), r11.2))
def f_X12_gossip (x1 : Int32) (x2 : Int32) (x3 : Int32) (s : Mem) : Option (Int32 × Mem) :=
  (f_X12_isIn x1 0 5 (mset s 0 0 0)).bind fun r1 =>
  if r1.1 = 0 then
  some ((-1), r1.2)
  else
  (f_X12_isIn x2 0 5 r1.2).bind fun r3 =>
  if r3.1 = 0 then
  some ((-1), r3.2)
  else
  if x1 = x2 then
  some ((-1), r3.2)
  else
  (f_X12_isIn x3 0 1 r3.2).bind fun r6 =>
  if r6.1 = 0 then
  some ((-1), r6.2)
  else
  (it FUEL (fun y => st_X12_gossip_50 x1 x2 x3 y.1 y.2.1 y.2.2) (100000000, 0, r6.2)).bind fun r24 =>
  some (r24.1, r24.2)
def f_X12_term (x1 : Int32) (x2 : Int32) (s : Mem) : Option (Int32 × Mem) :=
  (f_X12_isIn x1 0 1 (mset s 0 0 0)).bind fun r1 =>
  if r1.1 = 0 then
  some ((-1), r1.2)
  else
  if x2 = (-10) then
  (wr 2 r1.2 28 x1 0).bind fun s13 =>
  some (0, s13)
  else
  (f_X12_isIn x2 (-9) 9 r1.2).bind fun r4 =>
  if r4.1 = 0 then
  some ((-1), r4.2)
  else
  (rd 2 (r4.2 28) x1).bind fun v6 =>
  if v6 = 6 then
  some ((-1), r4.2)
  else
  (rd 2 (r4.2 28) x1).bind fun v8 =>
  (wr 12 r4.2 29 ((6 * x1) + v8) x2).bind fun s9 =>
  (rd 2 (s9 28) x1).bind fun v10 =>
  (wr 2 s9 28 x1 (v10 + 1)).bind fun s11 =>
  (rd 2 (s11 28) x1).bind fun v12 =>
  some (v12, s11)
def st_X12_termsAt_12 (x1 : Int32) (x2 : Int32) (x3 : Int32) (x4 : Int32) (s : Mem) : Option ((Int32 × Int32 × Mem) ⊕ (Int32 × Mem)) :=
  if x4 < 0 then
  some (.inr (x3, s))
  else
  (rd 12 (s 29) ((6 * x1) + x4)).bind fun v3 =>
  some (.inl (((x3 * x2) + v3), (x4 + (-1)), s))
def f_X12_termsAt (x1 : Int32) (x2 : Int32) (s : Mem) : Option (Int32 × Mem) :=
  (rd 2 (s 28) x1).bind fun v1 =>
  (it FUEL (fun y => st_X12_termsAt_12 x1 x2 y.1 y.2.1 y.2.2) (0, (v1 - 1), s)).bind fun r4 =>
  some (r4.1, r4.2)
def f_X12_terms (x1 : Int32) (x2 : Int32) (s : Mem) : Option (Int32 × Mem) :=
  (f_X12_isIn x1 0 1 (mset s 0 0 0)).bind fun r1 =>
  if r1.1 = 0 then
  some ((-10000000), r1.2)
  else
  (f_X12_isIn x2 (-9) 9 r1.2).bind fun r3 =>
  if r3.1 = 0 then
  some ((-10000000), r3.2)
  else
  (f_X12_termsAt x1 x2 r3.2).bind fun r5 =>
  some (r5.1, r5.2)
def st_X12_product_65 (x1 : Int32) (x2 : Int32) (x3 : Int32) (s : Mem) : Option ((Int32 × Int32 × Mem) ⊕ (Int32 × Mem)) :=
  (rd 2 (s 28) 0).bind fun v5 =>
  if v5 ≤ x3 then
  some (.inr (x2, s))
  else
  (rd 2 (s 28) 1).bind fun v7 =>
  (f_X12_isIn ((x1 - 10) - x3) 0 (v7 - 1) s).bind fun r8 =>
  if r8.1 = 0 then
  some (.inl (x2, (x3 + 1), r8.2))
  else
  (rd 12 (r8.2 29) x3).bind fun v10 =>
  (rd 12 (r8.2 29) (((6 + x1) - 10) - x3)).bind fun v11 =>
  some (.inl ((x2 + (v10 * v11)), (x3 + 1), r8.2))
def st_X12_product_20 (x1 : Int32) (x2 : Int32) (x3 : Int32) (s : Mem) : Option ((Int32 × Int32 × Mem) ⊕ (Int32 × Mem)) :=
  if 10 ≤ x3 then
  some (.inr (x2, s))
  else
  (f_X12_termsAt x1 x3 s).bind fun r14 =>
  if r14.1 = 0 then
  some (.inl ((x2 + 1), (x3 + 1), r14.2))
  else
  some (.inl (x2, (x3 + 1), r14.2))
def f_X12_product (x1 : Int32) (s : Mem) : Option (Int32 × Mem) :=
  (f_X12_isIn x1 0 1 (mset s 0 0 0)).bind fun r1 =>
  if r1.1 = 0 then
  (f_X12_isIn x1 10 20 r1.2).bind fun r3 =>
  if r3.1 = 0 then
  some ((-10000000), r3.2)
  else
  (it FUEL (fun y => st_X12_product_65 x1 y.1 y.2.1 y.2.2) (0, 0, r3.2)).bind fun r12 =>
  some (r12.1, r12.2)
  else
  (it FUEL (fun y => st_X12_product_20 x1 y.1 y.2.1 y.2.2) (0, (-9), r1.2)).bind fun r16 =>
  some (r16.1, r16.2)
def st_X12_turnedIn_5 (x2 : Int32) (x3 : Int32) (x4 : Int32) (s : Mem) : Option ((Int32 × Int32 × Mem) ⊕ (Int32 × Mem)) :=
  if x4 ≤ 0 then
  some (.inr (x3, s))
  else
  if x2 = 0 then none else
  if x2 = 0 then none else
  some (.inl (((x3 * x2) + (x4 % x2)), (x4 / x2), s))
def f_X12_turnedIn (x1 : Int32) (x2 : Int32) (s : Mem) : Option (Int32 × Mem) :=
  (it FUEL (fun y => st_X12_turnedIn_5 x2 y.1 y.2.1 y.2.2) (0, x1, s)).bind fun r4 =>
  some (r4.1, r4.2)
def st_X12_tongues_109 (x2 : Int32) (x4 : Int32) (x5 : Int32) (s : Mem) : Option ((Int32 × Int32 × Mem) ⊕ (Int32 × Mem)) :=
  if x5 ≤ 0 then
  some (.inr (x4, s))
  else
  if x2 = 0 then none else
  if x2 = 0 then none else
  some (.inl ((x4 + (x5 % x2)), (x5 / x2), s))
def st_X12_tongues_74 (x1 : Int32) (x4 : Int32) (s : Mem) : Option ((Int32 × Mem) ⊕ (Nat × Int32 × Mem)) :=
  if 17 ≤ x4 then
  some (.inr (1, 0, s))
  else
  (f_X12_turnedIn x1 x4 s).bind fun r13 =>
  if r13.1 = x1 then
  some (.inr (0, x4, r13.2))
  else
  some (.inl ((x4 + 1), r13.2))
def jn_X12_tongues_45 (x1 : Int32) (x2 : Int32) (x3 : Int32) (s : Mem) : Option (Int32 × Mem) :=
  if x3 = 1 then
  (f_X12_turnedIn x1 x2 s).bind fun r16 =>
  if r16.1 = x1 then
  some (1, r16.2)
  else
  some (0, r16.2)
  else
  if x3 = 2 then
  (it FUEL (fun y => st_X12_tongues_74 x1 y.1 y.2) (2, s)).bind fun r15 =>
  if r15.1 = 0 then some (r15.2.1, r15.2.2) else some ((-1), r15.2.2)
  else
  (it FUEL (fun y => st_X12_tongues_109 x2 y.1 y.2.1 y.2.2) (0, x1, s)).bind fun r11 =>
  some (r11.1, r11.2)
def f_X12_tongues (x1 : Int32) (x2 : Int32) (x3 : Int32) (s : Mem) : Option (Int32 × Mem) :=
  (f_X12_isIn x1 1 9999 (mset s 0 0 0)).bind fun r1 =>
  if r1.1 = 0 then
  some ((-1), r1.2)
  else
  (f_X12_isIn x3 0 2 r1.2).bind fun r3 =>
  if r3.1 = 0 then
  some ((-1), r3.2)
  else
  if 2 ≤ x3 then
  jn_X12_tongues_45 x1 x2 x3 r3.2
  else
  (f_X12_isIn x2 2 16 r3.2).bind fun r18 =>
  if r18.1 = 0 then
  some ((-1), r18.2)
  else
  jn_X12_tongues_45 x1 x2 x3 r18.2
def st_X12_waysOfTwo_16 (x1 : Int32) (x2 : Int32) (x3 : Int32) (x4 : Int32) (s : Mem) : Option ((Int32 × Mem) ⊕ (Int32 × Mem)) :=
  if x1 ≤ ((x3 * x3) + (x4 * x4)) then
  some (.inr (x4, s))
  else
  some (.inl ((x4 + 1), s))
def st_X12_waysOfTwo_4 (x1 : Int32) (x2 : Int32) (x3 : Int32) (s : Mem) : Option ((Int32 × Int32 × Mem) ⊕ (Int32 × Mem)) :=
  if x1 < ((2 * x3) * x3) then
  some (.inr (x2, s))
  else
  (it FUEL (fun y => st_X12_waysOfTwo_16 x1 x2 x3 y.1 y.2) (x3, s)).bind fun r3 =>
  if ((x3 * x3) + (r3.1 * r3.1)) = x1 then
  some (.inl ((x2 + 1), (x3 + 1), r3.2))
  else
  some (.inl (x2, (x3 + 1), r3.2))
def f_X12_waysOfTwo (x1 : Int32) (s : Mem) : Option (Int32 × Mem) :=
  (it FUEL (fun y => st_X12_waysOfTwo_4 x1 y.1 y.2.1 y.2.2) (0, 0, s)).bind fun r5 =>
  some (r5.1, r5.2)
def st_X12_fewSquares_2 (x1 : Int32) (x2 : Int32) (s : Mem) : Option ((Int32 × Mem) ⊕ (Nat × Mem)) :=
  if x1 < (x2 * x2) then
  some (.inr (1, s))
  else
  if (x2 * x2) = x1 then
  some (.inr (0, s))
  else
  some (.inl ((x2 + 1), s))
def st_X12_fewSquares_36 (x1 : Int32) (x2 : Int32) (s : Mem) : Option ((Int32 × Mem) ⊕ (Nat × Mem)) :=
  if x1 ≤ (x2 * x2) then
  some (.inr (1, s))
  else
  (f_X12_waysOfTwo (x1 - (x2 * x2)) s).bind fun r7 =>
  if r7.1 ≤ 0 then
  some (.inl ((x2 + 1), r7.2))
  else
  some (.inr (0, r7.2))
def f_X12_fewSquares (x1 : Int32) (s : Mem) : Option (Int32 × Mem) :=
  (it FUEL (fun y => st_X12_fewSquares_2 x1 y.1 y.2) (1, s)).bind fun r3 =>
  if r3.1 = 0 then some (1, r3.2) else (f_X12_waysOfTwo x1 r3.2).bind fun r4 =>
  if r4.1 ≤ 0 then
  (it FUEL (fun y => st_X12_fewSquares_36 x1 y.1 y.2) (1, r4.2)).bind fun r9 =>
  if r9.1 = 0 then some (3, r9.2) else some (4, r9.2)
  else
  some (2, r4.2)
def f_X12_squares (x1 : Int32) (x2 : Int32) (s : Mem) : Option (Int32 × Mem) :=
  (f_X12_isIn x1 1 9999 (mset s 0 0 0)).bind fun r1 =>
  if r1.1 = 0 then
  some ((-1), r1.2)
  else
  (f_X12_isIn x2 0 1 r1.2).bind fun r3 =>
  if r3.1 = 0 then
  some ((-1), r3.2)
  else
  if x2 = 0 then
  (f_X12_fewSquares x1 r3.2).bind fun r7 =>
  some (r7.1, r7.2)
  else
  (f_X12_waysOfTwo x1 r3.2).bind fun r6 =>
  some (r6.1, r6.2)
def f_X12_kin (x1 : Int32) (s : Mem) : Option (Int32 × Mem) :=
  if x1 = (-1) then
  some (0, (mset (mset s 0 0 0) 0 52 0))
  else
  (f_X12_isIn x1 0 7 (mset s 0 0 0)).bind fun r2 =>
  if r2.1 = 0 then
  some ((-1), r2.2)
  else
  if (r2.2 0 52) = 6 then
  some ((-1), r2.2)
  else
  (wr 6 r2.2 30 (r2.2 0 52) x1).bind fun s5 =>
  some (((mset s5 0 52 ((s5 0 52) + 1)) 0 52), (mset s5 0 52 ((s5 0 52) + 1)))
def st_X12_isInRow_2 (x1 : Int32) (x3 : Int32) (s : Mem) : Option ((Int32 × Mem) ⊕ (Nat × Mem)) :=
  if (s 0 52) ≤ x3 then
  some (.inr (1, s))
  else
  (rd 6 (s 30) x3).bind fun v2 =>
  if v2 = x1 then
  some (.inr (0, s))
  else
  some (.inl ((x3 + 1), s))
def f_X12_isInRow (x1 : Int32) (x2 : Int32) (s : Mem) : Option (Int32 × Mem) :=
  (it FUEL (fun y => st_X12_isInRow_2 x1 y.1 y.2) (x2, s)).bind fun r4 =>
  if r4.1 = 0 then some (1, r4.2) else some (0, r4.2)
def f_X12_joins (x1 : Int32) (x2 : Int32) (s : Mem) : Option (Mem) :=
  (wr 64 s 31 ((8 * x1) + x2) 1).bind fun s1 =>
  (wr 64 s1 31 ((8 * x2) + x1) 1).bind fun s2 =>
  some s2
def st_X12_growsTree_9 (x1 : Int32) (x2 : Int32) (s : Mem) : Option ((Int32 × Mem) ⊕ (Nat × Mem)) :=
  if (s 0 52) ≤ x2 then
  some (.inr (1, s))
  else
  (rd 6 (s 30) x2).bind fun v2 =>
  if v2 < x1 then
  some (.inl ((x2 + 1), s))
  else
  some (.inr (0, s))
def st_X12_growsTree_37 (x1 : Int32) (x2 : Int32) (s : Mem) : Option ((Int32 × Mem) ⊕ (Mem)) :=
  if 64 ≤ x2 then
  some (.inr (s))
  else
  if (x2 % 9) = 0 then
  (wr 64 s 31 x2 0).bind fun s8 =>
  some (.inl ((x2 + 1), s8))
  else
  (wr 64 s 31 x2 100000000).bind fun s7 =>
  some (.inl ((x2 + 1), s7))
def st_X12_growsTree_88 (x1 : Int32) (x2 : Int32) (x3 : Int32) (x4 : Int32) (s : Mem) : Option ((Int32 × Mem) ⊕ (Int32 × Mem)) :=
  (f_X12_has x2 x4 s).bind fun r11 =>
  if r11.1 = 0 then
  some (.inl ((x4 + 1), r11.2))
  else
  (f_X12_isInRow x4 x3 r11.2).bind fun r13 =>
  if r13.1 = 0 then
  some (.inr (x4, r13.2))
  else
  some (.inl ((x4 + 1), r13.2))
def st_X12_growsTree_77 (x1 : Int32) (x2 : Int32) (x3 : Int32) (s : Mem) : Option ((Int32 × Int32 × Mem) ⊕ (Int32 × Mem)) :=
  if (s 0 52) ≤ x3 then
  some (.inr (x2, s))
  else
  (it FUEL (fun y => st_X12_growsTree_88 x1 x2 x3 y.1 y.2) (0, s)).bind fun r15 =>
  (rd 6 (r15.2 30) x3).bind fun v16 =>
  (f_X12_joins r15.1 v16 r15.2).bind fun r17 =>
  some (.inl ((x2 &&& ((1 <<< (r15.1 &&& 31)) ^^^ (-1))), (x3 + 1), r17))
def st_X12_growsTree_146 (x1 : Int32) (x2 : Int32) (x3 : Int32) (s : Mem) : Option ((Int32 × Mem) ⊕ (Int32 × Mem)) :=
  (f_X12_has x2 x3 s).bind fun r19 =>
  if r19.1 = 0 then
  some (.inl ((x3 + 1), r19.2))
  else
  some (.inr (x3, r19.2))
def st_X12_growsTree_167 (x1 : Int32) (x2 : Int32) (x3 : Int32) (x4 : Int32) (s : Mem) : Option ((Int32 × Mem) ⊕ (Int32 × Mem)) :=
  (f_X12_has x2 x4 s).bind fun r22 =>
  if r22.1 = 0 then
  some (.inl ((x4 + 1), r22.2))
  else
  some (.inr (x4, r22.2))
def st_X12_growsTree_214 (x1 : Int32) (x5 : Int32) (x6 : Int32) (x7 : Int32) (s : Mem) : Option ((Int32 × Mem) ⊕ (Mem)) :=
  if x1 ≤ x7 then
  some (.inr (s))
  else
  (rd 64 (s 31) ((8 * x6) + x7)).bind fun v29 =>
  (rd 64 (s 31) ((8 * x6) + x5)).bind fun v30 =>
  (rd 64 (s 31) ((8 * x5) + x7)).bind fun v31 =>
  (f_X12_lesser v29 (v30 + v31) s).bind fun r32 =>
  (wr 64 r32.2 31 ((8 * x6) + x7) r32.1).bind fun s33 =>
  some (.inl ((x7 + 1), s33))
def st_X12_growsTree_205 (x1 : Int32) (x5 : Int32) (x6 : Int32) (s : Mem) : Option ((Int32 × Mem) ⊕ (Mem)) :=
  if x1 ≤ x6 then
  some (.inr (s))
  else
  (it FUEL (fun y => st_X12_growsTree_214 x1 x5 x6 y.1 y.2) (0, s)).bind fun r34 =>
  some (.inl ((x6 + 1), r34))
def st_X12_growsTree_196 (x1 : Int32) (x5 : Int32) (s : Mem) : Option ((Int32 × Mem) ⊕ (Mem)) :=
  if x1 ≤ x5 then
  some (.inr (s))
  else
  (it FUEL (fun y => st_X12_growsTree_205 x1 x5 y.1 y.2) (0, s)).bind fun r35 =>
  some (.inl ((x5 + 1), r35))
def f_X12_growsTree (s : Mem) : Option (Int32 × Mem) :=
  (it FUEL (fun y => st_X12_growsTree_9 ((s 0 52) + 2) y.1 y.2) (0, s)).bind fun r4 =>
  if r4.1 = 0 then some (0, r4.2) else (it FUEL (fun y => st_X12_growsTree_37 ((s 0 52) + 2) y.1 y.2) (0, r4.2)).bind fun r9 =>
  (it FUEL (fun y => st_X12_growsTree_77 ((s 0 52) + 2) y.1 y.2.1 y.2.2) (((1 <<< (((s 0 52) + 2) &&& 31)) - 1), 0, r9)).bind fun r18 =>
  (it FUEL (fun y => st_X12_growsTree_146 ((s 0 52) + 2) r18.1 y.1 y.2) (0, r18.2)).bind fun r21 =>
  (it FUEL (fun y => st_X12_growsTree_167 ((s 0 52) + 2) r18.1 r21.1 y.1 y.2) ((r21.1 + 1), r21.2)).bind fun r24 =>
  (f_X12_joins r21.1 r24.1 r24.2).bind fun r25 =>
  (it FUEL (fun y => st_X12_growsTree_196 ((s 0 52) + 2) y.1 y.2) (0, r25)).bind fun r36 =>
  some (1, r36)
def st_X12_tree_86 (x1 : Int32) (x4 : Int32) (x5 : Int32) (x6 : Int32) (s : Mem) : Option ((Int32 × Int32 × Mem) ⊕ (Int32 × Mem)) :=
  if x4 ≤ x6 then
  some (.inr (x5, s))
  else
  (rd 64 (s 31) ((8 * x1) + x6)).bind fun v10 =>
  if v10 = 1 then
  some (.inl ((x5 + 1), (x6 + 1), s))
  else
  some (.inl (x5, (x6 + 1), s))
def jn_X12_tree_54 (x1 : Int32) (x2 : Int32) (x3 : Int32) (x4 : Int32) (s : Mem) : Option (Int32 × Mem) :=
  (f_X12_growsTree s).bind fun r6 =>
  if r6.1 = 0 then
  some ((-1), r6.2)
  else
  if x3 = 1 then
  (rd 64 (r6.2 31) ((8 * x1) + x2)).bind fun v13 =>
  some (v13, r6.2)
  else
  (it FUEL (fun y => st_X12_tree_86 x1 x4 y.1 y.2.1 y.2.2) (0, 0, r6.2)).bind fun r12 =>
  some (r12.1, r12.2)
def f_X12_tree (x1 : Int32) (x2 : Int32) (x3 : Int32) (s : Mem) : Option (Int32 × Mem) :=
  (f_X12_isIn x3 0 1 (mset s 0 0 0)).bind fun r1 =>
  if r1.1 = 0 then
  some ((-1), r1.2)
  else
  (f_X12_isIn x1 0 ((((mset s 0 0 0) 0 52) + 2) - 1) r1.2).bind fun r3 =>
  if r3.1 = 0 then
  some ((-1), r3.2)
  else
  if x3 = 1 then
  (f_X12_isIn x2 0 ((((mset s 0 0 0) 0 52) + 2) - 1) r3.2).bind fun r14 =>
  if r14.1 = 0 then
  some ((-1), r14.2)
  else
  jn_X12_tree_54 x1 x2 x3 (((mset s 0 0 0) 0 52) + 2) r14.2
  else
  jn_X12_tree_54 x1 x2 x3 (((mset s 0 0 0) 0 52) + 2) r3.2
def f_X12_step (x1 : Int32) (s : Mem) : Option (Int32 × Mem) :=
  if x1 = (-1) then
  some (0, (mset (mset s 0 0 0) 0 55 0))
  else
  (f_X12_isIn x1 1 40 (mset s 0 0 0)).bind fun r2 =>
  if r2.1 = 0 then
  some ((-1), r2.2)
  else
  if (r2.2 0 55) = 8 then
  some ((-1), r2.2)
  else
  (wr 8 r2.2 32 (r2.2 0 55) x1).bind fun s5 =>
  some (((mset s5 0 55 ((s5 0 55) + 1)) 0 55), (mset s5 0 55 ((s5 0 55) + 1)))
def st_X12_isBad_2 (x1 : Int32) (x2 : Int32) (s : Mem) : Option ((Int32 × Mem) ⊕ (Nat × Mem)) :=
  if (s 0 55) ≤ x2 then
  some (.inr (1, s))
  else
  (rd 8 (s 32) x2).bind fun v2 =>
  if v2 = x1 then
  some (.inr (0, s))
  else
  some (.inl ((x2 + 1), s))
def f_X12_isBad (x1 : Int32) (s : Mem) : Option (Int32 × Mem) :=
  (it FUEL (fun y => st_X12_isBad_2 x1 y.1 y.2) (0, s)).bind fun r4 =>
  if r4.1 = 0 then some (1, r4.2) else some (0, r4.2)
def st_X12_stair_87 (x1 : Int32) (x2 : Int32) (x3 : Int32) (x4 : Int32) (x5 : Int32) (s : Mem) : Option ((Int32 × Mem) ⊕ (Mem)) :=
  if x2 < x5 then
  some (.inr (s))
  else
  if x4 < x5 then
  some (.inr (s))
  else
  (f_X12_isBad x4 s).bind fun r14 =>
  if r14.1 = 0 then
  (rd 41 (r14.2 33) x4).bind fun v16 =>
  (rd 41 (r14.2 33) (x4 - x5)).bind fun v17 =>
  (wr 41 r14.2 33 x4 ((v16 + v17) % 1000000007)).bind fun s18 =>
  (rd 41 (s18 34) x4).bind fun v19 =>
  (rd 41 (s18 34) (x4 - x5)).bind fun v20 =>
  (f_X12_lesser v19 (v20 + 1) s18).bind fun r21 =>
  (wr 41 r21.2 34 x4 r21.1).bind fun s22 =>
  some (.inl ((x5 + 1), s22))
  else
  some (.inr (r14.2))
def jn_X12_stair_83 (x1 : Int32) (x2 : Int32) (x3 : Int32) (x4 : Int32) (t1 : Int32) (t2 : Int32) (s : Mem) : Option ((Int32 × Mem) ⊕ (Mem)) :=
  (wr 41 s 34 t1 t2).bind fun s11 =>
  (it FUEL (fun y => st_X12_stair_87 x1 x2 x3 x4 y.1 y.2) (1, s11)).bind fun r23 =>
  some (.inl ((x4 + 1), r23))
def jn_X12_stair_64 (x1 : Int32) (x2 : Int32) (x3 : Int32) (x4 : Int32) (t1 : Int32) (t2 : Int32) (s : Mem) : Option ((Int32 × Mem) ⊕ (Mem)) :=
  (wr 41 s 33 t1 t2).bind fun s9 =>
  if x4 = 0 then
  jn_X12_stair_83 x1 x2 x3 x4 x4 0 s9
  else
  jn_X12_stair_83 x1 x2 x3 x4 x4 100000000 s9
def st_X12_stair_42 (x1 : Int32) (x2 : Int32) (x3 : Int32) (x4 : Int32) (s : Mem) : Option ((Int32 × Mem) ⊕ (Mem)) :=
  if x1 < x4 then
  some (.inr (s))
  else
  if x4 = 0 then
  jn_X12_stair_64 x1 x2 x3 x4 x4 1 s
  else
  jn_X12_stair_64 x1 x2 x3 x4 x4 0 s
def f_X12_stair (x1 : Int32) (x2 : Int32) (x3 : Int32) (s : Mem) : Option (Int32 × Mem) :=
  (f_X12_isIn x1 0 40 (mset s 0 0 0)).bind fun r1 =>
  if r1.1 = 0 then
  some ((-1), r1.2)
  else
  (f_X12_isIn x2 1 6 r1.2).bind fun r3 =>
  if r3.1 = 0 then
  some ((-1), r3.2)
  else
  (f_X12_isIn x3 0 1 r3.2).bind fun r5 =>
  if r5.1 = 0 then
  some ((-1), r5.2)
  else
  (it FUEL (fun y => st_X12_stair_42 x1 x2 x3 y.1 y.2) (0, r5.2)).bind fun r24 =>
  if x3 = 0 then
  (rd 41 (r24 33) x1).bind fun v29 =>
  some (v29, r24)
  else
  (rd 41 (r24 34) x1).bind fun v26 =>
  if v26 < 100000000 then
  (rd 41 (r24 34) x1).bind fun v28 =>
  some (v28, r24)
  else
  some ((-1), r24)
def f_X12_heap (x1 : Int32) (s : Mem) : Option (Int32 × Mem) :=
  if x1 = (-1) then
  some (0, (mset (mset s 0 0 0) 0 59 0))
  else
  (f_X12_isIn x1 0 15 (mset s 0 0 0)).bind fun r2 =>
  if r2.1 = 0 then
  some ((-1), r2.2)
  else
  if (r2.2 0 59) = 4 then
  some ((-1), r2.2)
  else
  (wr 4 r2.2 35 (r2.2 0 59) x1).bind fun s5 =>
  some (((mset s5 0 59 ((s5 0 59) + 1)) 0 59), (mset s5 0 59 ((s5 0 59) + 1)))
def jn_X12_isWonWith_34 (x1 : Int32) (x2 : Int32) (x3 : Int32) (x4 : Int32) (x5 : Int32) (t0 : Int32) (s : Mem) : Option ((Int32 × Int32 × Int32 × Mem) ⊕ (Int32 × Int32 × Mem)) :=
  (f_X12_greater x4 t0 s).bind fun r4 =>
  some (.inl ((x3 ^^^ t0), r4.1, (x5 + 1), r4.2))
def st_X12_isWonWith_8 (x1 : Int32) (x2 : Int32) (x3 : Int32) (x4 : Int32) (x5 : Int32) (s : Mem) : Option ((Int32 × Int32 × Int32 × Mem) ⊕ (Int32 × Int32 × Mem)) :=
  if (s 0 59) ≤ x5 then
  some (.inr (x3, x4, s))
  else
  if x5 = x1 then
  jn_X12_isWonWith_34 x1 x2 x3 x4 x5 x2 s
  else
  (rd 4 (s 35) x5).bind fun v3 =>
  jn_X12_isWonWith_34 x1 x2 x3 x4 x5 v3 s
def f_X12_isWonWith (x1 : Int32) (x2 : Int32) (s : Mem) : Option (Int32 × Mem) :=
  (it FUEL (fun y => st_X12_isWonWith_8 x1 x2 y.1 y.2.1 y.2.2.1 y.2.2.2) (0, 0, 0, s)).bind fun r5 =>
  if r5.2.1 ≤ 1 then
  if r5.1 = 0 then
  some (1, r5.2.2)
  else
  some (0, r5.2.2)
  else
  if r5.1 = 0 then
  some (0, r5.2.2)
  else
  some (1, r5.2.2)
def st_X12_game_17 (x1 : Int32) (x2 : Int32) (s : Mem) : Option ((Int32 × Mem) ⊕ (Nat × Int32 × Mem)) :=
  (rd 4 (s 35) x1).bind fun v2 =>
  if v2 < x2 then
  some (.inr (1, 0, s))
  else
  (rd 4 (s 35) x1).bind fun v4 =>
  (f_X12_isWonWith x1 (v4 - x2) s).bind fun r5 =>
  if r5.1 = 0 then
  some (.inr (0, x2, r5.2))
  else
  some (.inl ((x2 + 1), r5.2))
def st_X12_game_7 (x1 : Int32) (s : Mem) : Option ((Int32 × Mem) ⊕ (Nat × Int32 × Int32 × Mem)) :=
  if (s 0 59) ≤ x1 then
  some (.inr (1, 0, 0, s))
  else
  (it FUEL (fun y => st_X12_game_17 x1 y.1 y.2) (1, s)).bind fun r7 =>
  if r7.1 = 0 then some (.inr (0, x1, r7.2.1, r7.2.2)) else some (.inl ((x1 + 1), r7.2.2))
def f_X12_game (s : Mem) : Option (Int32 × Mem) :=
  (it FUEL (fun y => st_X12_game_7 y.1 y.2) (0, (mset s 0 0 0))).bind fun r8 =>
  if r8.1 = 0 then some (((100 * r8.2.1) + r8.2.2.1), r8.2.2.2) else some ((-1), r8.2.2.2)
def f_X12_keeps (x1 : Int32) (s : Mem) : Option (Int32 × Mem) :=
  if ((mset s 0 63 ((s 0 63) + 1)) 0 61) = 0 then
  (rd 2400 ((mset s 0 63 ((s 0 63) + 1)) 36) (((mset s 0 63 ((s 0 63) + 1)) 0 63) - 1)).bind fun v3 =>
  some (v3, (mset s 0 63 ((s 0 63) + 1)))
  else
  (wr 2400 (mset s 0 63 ((s 0 63) + 1)) 36 (((mset s 0 63 ((s 0 63) + 1)) 0 63) - 1) x1).bind fun s2 =>
  some (x1, s2)
def st_X12_keepsLaw_18 (x1 : Int32) (s : Mem) : Option ((Int32 × Mem) ⊕ (Mem)) :=
  if 16 ≤ x1 then
  some (.inr (s))
  else
  (rd 48 (s 8) x1).bind fun v5 =>
  (f_X12_keeps v5 s).bind fun r6 =>
  (wr 48 r6.2 8 x1 r6.1).bind fun s7 =>
  (rd 48 (s7 9) x1).bind fun v8 =>
  (f_X12_keeps v8 s7).bind fun r9 =>
  (wr 48 r9.2 9 x1 r9.1).bind fun s10 =>
  (rd 48 (s10 10) x1).bind fun v11 =>
  (f_X12_keeps v11 s10).bind fun r12 =>
  (wr 48 r12.2 10 x1 r12.1).bind fun s13 =>
  (rd 48 (s13 11) x1).bind fun v14 =>
  (f_X12_keeps v14 s13).bind fun r15 =>
  (wr 48 r15.2 11 x1 r15.1).bind fun s16 =>
  some (.inl ((x1 + 1), s16))
def st_X12_keepsLaw_96 (x1 : Int32) (s : Mem) : Option ((Int32 × Mem) ⊕ (Mem)) :=
  if 400 ≤ x1 then
  some (.inr (s))
  else
  (rd 1200 (s 12) x1).bind fun v19 =>
  (f_X12_keeps v19 s).bind fun r20 =>
  (wr 1200 r20.2 12 x1 r20.1).bind fun s21 =>
  (rd 1200 (s21 13) x1).bind fun v22 =>
  (f_X12_keeps v22 s21).bind fun r23 =>
  (wr 1200 r23.2 13 x1 r23.1).bind fun s24 =>
  some (.inl ((x1 + 1), s24))
def f_X12_keepsLaw (s : Mem) : Option (Mem) :=
  (rd 2 (s 7) 0).bind fun v1 =>
  (f_X12_keeps v1 s).bind fun r2 =>
  (wr 2 r2.2 7 0 r2.1).bind fun s3 =>
  (it FUEL (fun y => st_X12_keepsLaw_18 y.1 y.2) (0, s3)).bind fun r17 =>
  (it FUEL (fun y => st_X12_keepsLaw_96 y.1 y.2) (0, r17)).bind fun r25 =>
  some r25
def f_X12_keepsMany (s : Mem) : Option (Mem) :=
  (f_X12_keeps (s 0 6) s).bind fun r1 =>
  (f_X12_keeps ((mset r1.2 0 6 r1.1) 0 31) (mset r1.2 0 6 r1.1)).bind fun r2 =>
  (f_X12_keeps ((mset r2.2 0 31 r2.1) 0 33) (mset r2.2 0 31 r2.1)).bind fun r3 =>
  (f_X12_keeps ((mset r3.2 0 33 r3.1) 0 35) (mset r3.2 0 33 r3.1)).bind fun r4 =>
  (f_X12_keeps ((mset r4.2 0 35 r4.1) 0 40) (mset r4.2 0 35 r4.1)).bind fun r5 =>
  (f_X12_keeps ((mset r5.2 0 40 r5.1) 0 42) (mset r5.2 0 40 r5.1)).bind fun r6 =>
  (f_X12_keeps ((mset r6.2 0 42 r6.1) 0 46) (mset r6.2 0 42 r6.1)).bind fun r7 =>
  (rd 2 ((mset r7.2 0 46 r7.1) 28) 0).bind fun v8 =>
  (f_X12_keeps v8 (mset r7.2 0 46 r7.1)).bind fun r9 =>
  (wr 2 r9.2 28 0 r9.1).bind fun s10 =>
  (rd 2 (s10 28) 1).bind fun v11 =>
  (f_X12_keeps v11 s10).bind fun r12 =>
  (wr 2 r12.2 28 1 r12.1).bind fun s13 =>
  (f_X12_keeps (s13 0 52) s13).bind fun r14 =>
  (f_X12_keeps ((mset r14.2 0 52 r14.1) 0 55) (mset r14.2 0 52 r14.1)).bind fun r15 =>
  (f_X12_keeps ((mset r15.2 0 55 r15.1) 0 59) (mset r15.2 0 55 r15.1)).bind fun r16 =>
  some (mset r16.2 0 59 r16.1)
def st_X12_keepsTold_2 (x1 : Int32) (s : Mem) : Option ((Int32 × Mem) ⊕ (Mem)) :=
  if 48 ≤ x1 then
  some (.inr (s))
  else
  (rd 96 (s 15) x1).bind fun v2 =>
  (f_X12_keeps v2 s).bind fun r3 =>
  (wr 96 r3.2 15 x1 r3.1).bind fun s4 =>
  some (.inl ((x1 + 1), s4))
def st_X12_keepsTold_32 (x1 : Int32) (s : Mem) : Option ((Int32 × Mem) ⊕ (Mem)) :=
  if 64 ≤ x1 then
  some (.inr (s))
  else
  (rd 128 (s 16) x1).bind fun v7 =>
  (f_X12_keeps v7 s).bind fun r8 =>
  (wr 128 r8.2 16 x1 r8.1).bind fun s9 =>
  some (.inl ((x1 + 1), s9))
def st_X12_keepsTold_62 (x1 : Int32) (s : Mem) : Option ((Int32 × Mem) ⊕ (Mem)) :=
  if 14 ≤ x1 then
  some (.inr (s))
  else
  (rd 28 (s 17) x1).bind fun v12 =>
  (f_X12_keeps v12 s).bind fun r13 =>
  (wr 28 r13.2 17 x1 r13.1).bind fun s14 =>
  (rd 14 (s14 25) x1).bind fun v15 =>
  (f_X12_keeps v15 s14).bind fun r16 =>
  (wr 14 r16.2 25 x1 r16.1).bind fun s17 =>
  (rd 14 (s17 26) x1).bind fun v18 =>
  (f_X12_keeps v18 s17).bind fun r19 =>
  (wr 14 r19.2 26 x1 r19.1).bind fun s20 =>
  (rd 14 (s20 27) x1).bind fun v21 =>
  (f_X12_keeps v21 s20).bind fun r22 =>
  (wr 14 r22.2 27 x1 r22.1).bind fun s23 =>
  some (.inl ((x1 + 1), s23))
def st_X12_keepsTold_140 (x1 : Int32) (s : Mem) : Option ((Int32 × Mem) ⊕ (Mem)) :=
  if 84 ≤ x1 then
  some (.inr (s))
  else
  (rd 168 (s 18) x1).bind fun v26 =>
  (f_X12_keeps v26 s).bind fun r27 =>
  (wr 168 r27.2 18 x1 r27.1).bind fun s28 =>
  some (.inl ((x1 + 1), s28))
def st_X12_keepsTold_170 (x1 : Int32) (s : Mem) : Option ((Int32 × Mem) ⊕ (Mem)) :=
  if 16 ≤ x1 then
  some (.inr (s))
  else
  (rd 16 (s 21) x1).bind fun v31 =>
  (f_X12_keeps v31 s).bind fun r32 =>
  (wr 16 r32.2 21 x1 r32.1).bind fun s33 =>
  some (.inl ((x1 + 1), s33))
def st_X12_keepsTold_200 (x1 : Int32) (s : Mem) : Option ((Int32 × Mem) ⊕ (Mem)) :=
  if 10 ≤ x1 then
  some (.inr (s))
  else
  (rd 10 (s 22) x1).bind fun v36 =>
  (f_X12_keeps v36 s).bind fun r37 =>
  (wr 10 r37.2 22 x1 r37.1).bind fun s38 =>
  (rd 10 (s38 23) x1).bind fun v39 =>
  (f_X12_keeps v39 s38).bind fun r40 =>
  (wr 10 r40.2 23 x1 r40.1).bind fun s41 =>
  (rd 10 (s41 24) x1).bind fun v42 =>
  (f_X12_keeps v42 s41).bind fun r43 =>
  (wr 10 r43.2 24 x1 r43.1).bind fun s44 =>
  some (.inl ((x1 + 1), s44))
def st_X12_keepsTold_262 (x1 : Int32) (s : Mem) : Option ((Int32 × Mem) ⊕ (Mem)) :=
  if 12 ≤ x1 then
  some (.inr (s))
  else
  (rd 12 (s 29) x1).bind fun v47 =>
  (f_X12_keeps v47 s).bind fun r48 =>
  (wr 12 r48.2 29 x1 r48.1).bind fun s49 =>
  some (.inl ((x1 + 1), s49))
def st_X12_keepsTold_292 (x1 : Int32) (s : Mem) : Option ((Int32 × Mem) ⊕ (Mem)) :=
  if 6 ≤ x1 then
  some (.inr (s))
  else
  (rd 6 (s 30) x1).bind fun v52 =>
  (f_X12_keeps v52 s).bind fun r53 =>
  (wr 6 r53.2 30 x1 r53.1).bind fun s54 =>
  some (.inl ((x1 + 1), s54))
def st_X12_keepsTold_322 (x1 : Int32) (s : Mem) : Option ((Int32 × Mem) ⊕ (Mem)) :=
  if 8 ≤ x1 then
  some (.inr (s))
  else
  (rd 8 (s 32) x1).bind fun v57 =>
  (f_X12_keeps v57 s).bind fun r58 =>
  (wr 8 r58.2 32 x1 r58.1).bind fun s59 =>
  some (.inl ((x1 + 1), s59))
def st_X12_keepsTold_352 (x1 : Int32) (s : Mem) : Option ((Int32 × Mem) ⊕ (Mem)) :=
  if 4 ≤ x1 then
  some (.inr (s))
  else
  (rd 4 (s 35) x1).bind fun v62 =>
  (f_X12_keeps v62 s).bind fun r63 =>
  (wr 4 r63.2 35 x1 r63.1).bind fun s64 =>
  some (.inl ((x1 + 1), s64))
def f_X12_keepsTold (s : Mem) : Option (Mem) :=
  (it FUEL (fun y => st_X12_keepsTold_2 y.1 y.2) (0, s)).bind fun r5 =>
  (it FUEL (fun y => st_X12_keepsTold_32 y.1 y.2) (0, r5)).bind fun r10 =>
  (it FUEL (fun y => st_X12_keepsTold_62 y.1 y.2) (0, r10)).bind fun r24 =>
  (it FUEL (fun y => st_X12_keepsTold_140 y.1 y.2) (0, r24)).bind fun r29 =>
  (it FUEL (fun y => st_X12_keepsTold_170 y.1 y.2) (0, r29)).bind fun r34 =>
  (it FUEL (fun y => st_X12_keepsTold_200 y.1 y.2) (0, r34)).bind fun r45 =>
  (it FUEL (fun y => st_X12_keepsTold_262 y.1 y.2) (0, r45)).bind fun r50 =>
  (it FUEL (fun y => st_X12_keepsTold_292 y.1 y.2) (0, r50)).bind fun r55 =>
  (it FUEL (fun y => st_X12_keepsTold_322 y.1 y.2) (0, r55)).bind fun r60 =>
  (it FUEL (fun y => st_X12_keepsTold_352 y.1 y.2) (0, r60)).bind fun r65 =>
  some r65
def st_X12_image_35 (x1 : Int32) (x2 : Int32) (s : Mem) : Option ((Int32 × Mem) ⊕ (Mem)) :=
  if 102 ≤ x2 then
  some (.inr (s))
  else
  (rd 102 (s 1) x2).bind fun v4 =>
  (f_X12_keeps v4 s).bind fun r5 =>
  (wr 102 r5.2 1 x2 r5.1).bind fun s6 =>
  some (.inl ((x2 + 1), s6))
def st_X12_image_73 (x1 : Int32) (x2 : Int32) (s : Mem) : Option ((Int32 × Mem) ⊕ (Mem)) :=
  if 600 ≤ x2 then
  some (.inr (s))
  else
  (rd 600 (s 4) x2).bind fun v11 =>
  (f_X12_keeps v11 s).bind fun r12 =>
  (wr 600 r12.2 4 x2 r12.1).bind fun s13 =>
  some (.inl ((x2 + 1), s13))
def jn_X12_image_18 (x1 : Int32) (s : Mem) : Option (Int32 × Mem) :=
  if ¬ (x1 = 0 ∨ x1 = 1) then none else
  (it FUEL (fun y => st_X12_image_35 x1 y.1 y.2) (0, (mset (mset (mset s 0 61 x1) 0 62 1) 0 63 0))).bind fun r7 =>
  (f_X12_keepsMany r7).bind fun r8 =>
  (f_X12_keepsTold r8).bind fun r9 =>
  (it FUEL (fun y => st_X12_image_73 x1 y.1 y.2) (0, r9)).bind fun r14 =>
  (f_X12_keepsLaw r14).bind fun r15 =>
  if x1 = 0 then
  some (1, (mset r15 0 3 0))
  else
  some (1, r15)
def f_X12_image (x1 : Int32) (s : Mem) : Option (Int32 × Mem) :=
  if x1 = 0 then
  if ((mset s 0 0 0) 0 62) = 0 then
  some (0, (mset s 0 0 0))
  else
  jn_X12_image_18 x1 (mset s 0 0 0)
  else
  jn_X12_image_18 x1 (mset s 0 0 0)
def f_X12_look (x1 : Int32) (s : Mem) : Option (Int32 × Mem) :=
  if x1 = 0 then
  some (((mset s 0 0 0) 0 6), (mset s 0 0 0))
  else
  if x1 = 1 then
  (f_X12_whoHas (mset s 0 0 0)).bind fun r17 =>
  some (r17.1, r17.2)
  else
  if x1 = 2 then
  (rd 102 ((mset s 0 0 0) 1) 3).bind fun v16 =>
  some (v16, (mset s 0 0 0))
  else
  if x1 = 3 then
  (rd 102 ((mset s 0 0 0) 1) 0).bind fun v15 =>
  some (v15, (mset s 0 0 0))
  else
  if x1 = 4 then
  (rd 102 ((mset s 0 0 0) 1) 2).bind fun v14 =>
  some (v14, (mset s 0 0 0))
  else
  if x1 = 5 then
  (rd 102 ((mset s 0 0 0) 1) 1).bind fun v13 =>
  some (v13, (mset s 0 0 0))
  else
  if x1 = 6 then
  (rd 2 ((mset s 0 0 0) 7) 0).bind fun v12 =>
  some (v12, (mset s 0 0 0))
  else
  if x1 = 7 then
  some (((mset s 0 0 0) 0 31), (mset s 0 0 0))
  else
  if x1 = 8 then
  some (((mset s 0 0 0) 0 33), (mset s 0 0 0))
  else
  if x1 = 9 then
  some (((mset s 0 0 0) 0 35), (mset s 0 0 0))
  else
  if x1 = 10 then
  some (((mset s 0 0 0) 0 3), (mset s 0 0 0))
  else
  some ((-100000), (mset s 0 0 0))
