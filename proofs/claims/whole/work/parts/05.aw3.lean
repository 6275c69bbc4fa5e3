/-! ===== the rules of the walk ===== -/
def zr (Z : AZ) : Nat → Nat := Z.2.2.2.1
def zres (Z : AZ) : Option Value × Mem := Z.2.2.2.2.2.2.2
def rd (n : Nat) (f : Nat → Int32) (i : Int32) : Option Int32 := if i < 0 ∨ n ≤ i.toNatClampNeg then none else some (f i.toNatClampNeg)
def wr (n : Nat) (σ : Mem) (k : Nat) (i x : Int32) : Option Mem := if i < 0 ∨ n ≤ i.toNatClampNeg then none else some (mset σ k i.toNatClampNeg x)
def IA (g k n : Nat) : Prop := k < gN g ∧ gK g k = 0 ∧ gL g k = n
def IZ (g k n : Nat) : Prop := k < gN g ∧ gK g k = 1 ∧ gL g k = n
def IQ (g k n : Nat) : Prop := k < gN g ∧ gK g k = 2 ∧ gL g k = n
def IO (g k ci : Nat) : Prop := k < gN g ∧ gK g k = ci + 3
def FL (own : String) (idx ci j : Nat) : Prop := ∃ (C : String) (T : u_T) (N : Nat), vwCl[ci]? = some (C, T, N) ∧ j < N ∧ (∀ w ∈ u_ws C T N, w ∈ TS) ∧ Cond.fieldLink own idx (T j).1 (T j).2.1 (T j).2.2.1 ∈ TS
def FP (own : String) (idx ci j : Nat) (ty : FieldType) : Prop := ∃ (C : String) (T : u_T) (N : Nat) (ty0 : Nat → FieldType), vwCl[ci]? = some (C, T, N) ∧ j < N ∧ (∀ w ∈ u_ws C T N, w ∈ TS) ∧ Cond.fieldLink own idx (T j).1 (T j).2.1 (T j).2.2.1 ∈ TS ∧
  (∀ k, k < N → parseFieldDescriptor (T k).2.2.1 = some (ty0 k)) ∧ (∀ a, a < N → ∀ b, b < N → a ≠ b → (T a).2.1 ≠ (T b).2.1) ∧ (T j).2.2.2 = false ∧ parseFieldDescriptor (T j).2.2.1 = some ty
section AW
variable {Z : AZ} {σ : Mem} {pc nL g fr : Nat} {L L' : List (Option Value)} {st : List Value} {cc : ByteArray} {own : String} {ret : Option FieldType} {x y v : Int32} {i k n : Nat}
theorem aw_iload_n {k : Fin 4} {w : Int32} (X : AX Z cc nL own ret g fr) (hd : decode cc pc = .ok (.iload_n k, 1)) (hl : L[(k : Nat)]? = some (some (.int w))) (K : AW Z σ (pc + 1) L (.int w :: st)) : AW Z σ pc L st :=
  fun H locs ls hP hS hv => lv_iload_n X.1 X.2.1 hd rfl (asc_at hv hl rfl) (K H locs ls hP hS hv)
theorem aw_iload {w : Int32} (X : AX Z cc nL own ret g fr) (hd : decode cc pc = .ok (.iload i, 2)) (hl : L[i]? = some (some (.int w))) (K : AW Z σ (pc + 2) L (.int w :: st)) : AW Z σ pc L st :=
  fun H locs ls hP hS hv => lv_iload X.1 X.2.1 hd (asc_at hv hl rfl) (K H locs ls hP hS hv)
theorem aw_aload_n {k : Fin 4} {w : Nat} (X : AX Z cc nL own ret g fr) (hd : decode cc pc = .ok (.aload_n k, 1)) (hl : L[(k : Nat)]? = some (some (.ref w))) (K : AW Z σ (pc + 1) L (.ref w :: st)) : AW Z σ pc L st :=
  fun H locs ls hP hS hv => lv_aload_n X.1 X.2.1 hd rfl (asc_at hv hl rfl) (K H locs ls hP hS hv)
theorem aw_aload {w : Nat} (X : AX Z cc nL own ret g fr) (hd : decode cc pc = .ok (.aload i, 2)) (hl : L[i]? = some (some (.ref w))) (K : AW Z σ (pc + 2) L (.ref w :: st)) : AW Z σ pc L st :=
  fun H locs ls hP hS hv => lv_aload X.1 X.2.1 hd (asc_at hv hl rfl) (K H locs ls hP hS hv)
theorem aw_istore_n {k : Fin 4} {w : Int32} (X : AX Z cc nL own ret g fr) (hd : decode cc pc = .ok (.istore_n k, 1)) (hn : (k : Nat) < nL) (hl : L.set k (some (.int w)) = L') (K : AW Z σ (pc + 1) L' st) : AW Z σ pc L (.int w :: st) :=
  fun H locs ls hP hS hv => lv_istore_n X.1 X.2.1 hd rfl hv (by rw [X.2.2.1]; exact hn) rfl (fun ls' hv' => K H locs ls' hP hS (asc_set hl hv'))
theorem aw_istore {w : Int32} (X : AX Z cc nL own ret g fr) (hd : decode cc pc = .ok (.istore i, 2)) (hn : i < nL) (hl : L.set i (some (.int w)) = L') (K : AW Z σ (pc + 2) L' st) : AW Z σ pc L (.int w :: st) :=
  fun H locs ls hP hS hv => lv_istore X.1 X.2.1 hd hv (by rw [X.2.2.1]; exact hn) rfl (fun ls' hv' => K H locs ls' hP hS (asc_set hl hv'))
theorem aw_astore_n {k : Fin 4} {w : Nat} (X : AX Z cc nL own ret g fr) (hd : decode cc pc = .ok (.astore_n k, 1)) (hn : (k : Nat) < nL) (hl : L.set k (some (.ref w)) = L') (K : AW Z σ (pc + 1) L' st) : AW Z σ pc L (.ref w :: st) :=
  fun H locs ls hP hS hv => lv_astore_n X.1 X.2.1 hd rfl hv (by rw [X.2.2.1]; exact hn) rfl (fun ls' hv' => K H locs ls' hP hS (asc_set hl hv'))
theorem aw_astore {w : Nat} (X : AX Z cc nL own ret g fr) (hd : decode cc pc = .ok (.astore i, 2)) (hn : i < nL) (hl : L.set i (some (.ref w)) = L') (K : AW Z σ (pc + 2) L' st) : AW Z σ pc L (.ref w :: st) :=
  fun H locs ls hP hS hv => lv_astore X.1 X.2.1 hd hv (by rw [X.2.2.1]; exact hn) rfl (fun ls' hv' => K H locs ls' hP hS (asc_set hl hv'))
theorem asc_idx {ls : Array Slot} {nL : Nat} {L : List (Option Value)} (h : lv_has ls nL (asc L)) {i : Nat} {x : Int32} (hi : L[i]? = some (some (.int x))) : ∃ k : Nat, (asc L)[k]? = some (i, Value.int x) := List.getElem?_of_mem (asc_mem.mpr ⟨hi, rfl⟩)
theorem aw_iinc {d : Int} (X : AX Z cc nL own ret g fr) (hd : decode cc pc = .ok (.iinc i d, 3)) (hi : L[i]? = some (some (.int x))) (hv : x + Int32.ofInt d = v) (hn : i < nL) (hl : L.set i (some (.int v)) = L') (K : AW Z σ (pc + 3) L' st) : AW Z σ pc L st :=
  fun H locs ls hP hS hv' => by
    obtain ⟨k, hk⟩ := asc_idx hv' hi
    exact lv_iinc X.1 X.2.1 hd hv' hk hv (by rw [X.2.2.1]; exact hn) rfl (fun ls' hv' => K H locs ls' hP hS (asc_set hl hv'))
theorem aw_iconst {d : Int} (X : AX Z cc nL own ret g fr) (hd : decode cc pc = .ok (.iconst d, 1)) (hv : Int32.ofInt d = v) (K : AW Z σ (pc + 1) L (.int v :: st)) : AW Z σ pc L st :=
  fun H locs ls hP hS hv' => lv_iconst X.1 X.2.1 hd hv (K H locs ls hP hS hv')
theorem aw_bipush {d : Int} (X : AX Z cc nL own ret g fr) (hd : decode cc pc = .ok (.bipush d, 2)) (hv : (Int8.ofInt d).toInt32 = v) (K : AW Z σ (pc + 2) L (.int v :: st)) : AW Z σ pc L st :=
  fun H locs ls hP hS hv' => lv_bipush X.1 X.2.1 hd hv (K H locs ls hP hS hv')
theorem aw_sipush {d : Int} (X : AX Z cc nL own ret g fr) (hd : decode cc pc = .ok (.sipush d, 3)) (hv : (Int16.ofInt d).toInt32 = v) (K : AW Z σ (pc + 3) L (.int v :: st)) : AW Z σ pc L st :=
  fun H locs ls hP hS hv' => lv_sipush X.1 X.2.1 hd hv (K H locs ls hP hS hv')
theorem aw_ldc {idx : Nat} (X : AX Z cc nL own ret g fr) (hd : decode cc pc = .ok (.ldc idx, 2)) (hw : Cond.constant own idx v ∈ TS) (K : AW Z σ (pc + 2) L (.int v :: st)) : AW Z σ pc L st :=
  fun H locs ls hP hS hv => lv_ldc X.1 X.2.1 X.2.2.2.1 (X.2.2.2.2.1 _ hw) hd (K H locs ls hP hS hv)
theorem aw_ldcw {idx : Nat} (X : AX Z cc nL own ret g fr) (hd : decode cc pc = .ok (.ldc_w idx, 3)) (hw : Cond.constant own idx v ∈ TS) (K : AW Z σ (pc + 3) L (.int v :: st)) : AW Z σ pc L st :=
  fun H locs ls hP hS hv => lv_ldcw X.1 X.2.1 X.2.2.2.1 (X.2.2.2.2.1 _ hw) hd (K H locs ls hP hS hv)
theorem aw_ldc2 {idx : Nat} {w : Int64} (X : AX Z cc nL own ret g fr) (hd : decode cc pc = .ok (.ldc2_w idx, 3)) (hw : Cond.constantLong own idx w ∈ TS) (K : AW Z σ (pc + 3) L (.long w :: st)) : AW Z σ pc L st :=
  fun H locs ls hP hS hv => lv_ldc2 X.1 X.2.1 X.2.2.2.1 (X.2.2.2.2.1 _ hw) hd (K H locs ls hP hS hv)
theorem aw_iadd (X : AX Z cc nL own ret g fr) (hd : decode cc pc = .ok (.iadd, 1)) (K : AW Z σ (pc + 1) L (.int (x + y) :: st)) : AW Z σ pc L (.int y :: .int x :: st) :=
  fun H locs ls hP hS hv => lv_iadd X.1 X.2.1 hd (K H locs ls hP hS hv)
theorem aw_isub (X : AX Z cc nL own ret g fr) (hd : decode cc pc = .ok (.isub, 1)) (K : AW Z σ (pc + 1) L (.int (x - y) :: st)) : AW Z σ pc L (.int y :: .int x :: st) :=
  fun H locs ls hP hS hv => lv_isub X.1 X.2.1 hd (K H locs ls hP hS hv)
theorem aw_imul (X : AX Z cc nL own ret g fr) (hd : decode cc pc = .ok (.imul, 1)) (K : AW Z σ (pc + 1) L (.int (x * y) :: st)) : AW Z σ pc L (.int y :: .int x :: st) :=
  fun H locs ls hP hS hv => lv_imul X.1 X.2.1 hd (K H locs ls hP hS hv)
theorem aw_iand (X : AX Z cc nL own ret g fr) (hd : decode cc pc = .ok (.iand, 1)) (K : AW Z σ (pc + 1) L (.int (x &&& y) :: st)) : AW Z σ pc L (.int y :: .int x :: st) :=
  fun H locs ls hP hS hv => lv_iand X.1 X.2.1 hd (K H locs ls hP hS hv)
theorem aw_ior (X : AX Z cc nL own ret g fr) (hd : decode cc pc = .ok (.ior, 1)) (K : AW Z σ (pc + 1) L (.int (x ||| y) :: st)) : AW Z σ pc L (.int y :: .int x :: st) :=
  fun H locs ls hP hS hv => lv_ior X.1 X.2.1 hd (K H locs ls hP hS hv)
theorem aw_ixor (X : AX Z cc nL own ret g fr) (hd : decode cc pc = .ok (.ixor, 1)) (K : AW Z σ (pc + 1) L (.int (x ^^^ y) :: st)) : AW Z σ pc L (.int y :: .int x :: st) :=
  fun H locs ls hP hS hv => lv_ixor X.1 X.2.1 hd (K H locs ls hP hS hv)
theorem aw_ishl (X : AX Z cc nL own ret g fr) (hd : decode cc pc = .ok (.ishl, 1)) (K : AW Z σ (pc + 1) L (.int (x <<< (y &&& 31)) :: st)) : AW Z σ pc L (.int y :: .int x :: st) :=
  fun H locs ls hP hS hv => lv_ishl X.1 X.2.1 hd (K H locs ls hP hS hv)
theorem aw_ishr (X : AX Z cc nL own ret g fr) (hd : decode cc pc = .ok (.ishr, 1)) (K : AW Z σ (pc + 1) L (.int (x >>> (y &&& 31)) :: st)) : AW Z σ pc L (.int y :: .int x :: st) :=
  fun H locs ls hP hS hv => lv_ishr X.1 X.2.1 hd (K H locs ls hP hS hv)
def ush (x y : Int32) : Int32 := (x.toUInt32 >>> (y.toUInt32 &&& Int32.toUInt32 31)).toInt32
def i2c (x : Int32) : Int32 := (x.toUInt32 % 65536).toInt32
theorem aw_iushr (X : AX Z cc nL own ret g fr) (hd : decode cc pc = .ok (.iushr, 1)) (K : AW Z σ (pc + 1) L (.int (ush x y) :: st)) : AW Z σ pc L (.int y :: .int x :: st) :=
  fun H locs ls hP hS hv => lv_iushr X.1 X.2.1 hd rfl (K H locs ls hP hS hv)
theorem aw_i2c (X : AX Z cc nL own ret g fr) (hd : decode cc pc = .ok (.i2c, 1)) (K : AW Z σ (pc + 1) L (.int (i2c x) :: st)) : AW Z σ pc L (.int x :: st) :=
  fun H locs ls hP hS hv => lv_i2c X.1 X.2.1 hd rfl (K H locs ls hP hS hv)
theorem aw_idiv (X : AX Z cc nL own ret g fr) (hd : decode cc pc = .ok (.idiv, 1)) (hne : ¬ y = 0) (K : AW Z σ (pc + 1) L (.int (x / y) :: st)) : AW Z σ pc L (.int y :: .int x :: st) :=
  fun H locs ls hP hS hv => lv_idiv X.1 X.2.1 hd hne (K H locs ls hP hS hv)
theorem aw_irem (X : AX Z cc nL own ret g fr) (hd : decode cc pc = .ok (.irem, 1)) (hne : ¬ y = 0) (K : AW Z σ (pc + 1) L (.int (x % y) :: st)) : AW Z σ pc L (.int y :: .int x :: st) :=
  fun H locs ls hP hS hv => lv_irem X.1 X.2.1 hd hne (by rw [irem_eq_mod]; exact K H locs ls hP hS hv)
theorem aw_ineg (X : AX Z cc nL own ret g fr) (hd : decode cc pc = .ok (.ineg, 1)) (K : AW Z σ (pc + 1) L (.int (-x) :: st)) : AW Z σ pc L (.int x :: st) :=
  fun H locs ls hP hS hv => lv_ineg X.1 X.2.1 hd (K H locs ls hP hS hv)
theorem aw_i2l (X : AX Z cc nL own ret g fr) (hd : decode cc pc = .ok (.i2l, 1)) (K : AW Z σ (pc + 1) L (.long x.toInt64 :: st)) : AW Z σ pc L (.int x :: st) :=
  fun H locs ls hP hS hv => lv_i2l X.1 X.2.1 hd rfl (K H locs ls hP hS hv)
theorem aw_l2i {w : Int64} (X : AX Z cc nL own ret g fr) (hd : decode cc pc = .ok (.l2i, 1)) (K : AW Z σ (pc + 1) L (.int w.toInt32 :: st)) : AW Z σ pc L (.long w :: st) :=
  fun H locs ls hP hS hv => lv_l2i X.1 X.2.1 hd rfl (K H locs ls hP hS hv)
theorem aw_ladd {w z : Int64} (X : AX Z cc nL own ret g fr) (hd : decode cc pc = .ok (.ladd, 1)) (K : AW Z σ (pc + 1) L (.long (w + z) :: st)) : AW Z σ pc L (.long z :: .long w :: st) :=
  fun H locs ls hP hS hv => lv_ladd X.1 X.2.1 hd (K H locs ls hP hS hv)
theorem aw_lrem {w z : Int64} (X : AX Z cc nL own ret g fr) (hd : decode cc pc = .ok (.lrem, 1)) (hne : ¬ z = 0) (K : AW Z σ (pc + 1) L (.long (w - w / z * z) :: st)) : AW Z σ pc L (.long z :: .long w :: st) :=
  fun H locs ls hP hS hv => lv_lrem X.1 X.2.1 hd hne (K H locs ls hP hS hv)
theorem aw_dup {w : Value} (X : AX Z cc nL own ret g fr) (hd : decode cc pc = .ok (.dup, 1)) (hc : w.category = 1) (K : AW Z σ (pc + 1) L (w :: w :: st)) : AW Z σ pc L (w :: st) :=
  fun H locs ls hP hS hv => lv_dup X.1 X.2.1 hd hc (K H locs ls hP hS hv)
theorem aw_pop {w : Value} (X : AX Z cc nL own ret g fr) (hd : decode cc pc = .ok (.pop, 1)) (hc : w.category = 1) (K : AW Z σ (pc + 1) L st) : AW Z σ pc L (w :: st) :=
  fun H locs ls hP hS hv => lv_pop X.1 X.2.1 hd hc (K H locs ls hP hS hv)
theorem aw_dup2 {w z : Value} (X : AX Z cc nL own ret g fr) (hd : decode cc pc = .ok (.dup2, 1)) (hc : w.category = 1) (hz : z.category = 1) (K : AW Z σ (pc + 1) L (w :: z :: w :: z :: st)) : AW Z σ pc L (w :: z :: st) :=
  fun H locs ls hP hS hv => lv_dup2_11 X.1 X.2.1 hd hc hz (K H locs ls hP hS hv)
theorem aw_icmp_eq {off : Int} {tgt : Nat} (X : AX Z cc nL own ret g fr) (hd : decode cc pc = .ok (.if_icmp .eq off, 3)) (ht : (pc : Int) + off = (tgt : Int)) (kt : x = y → AW Z σ tgt L st) (kf : ¬ x = y → AW Z σ (pc + 3) L st) : AW Z σ pc L (.int y :: .int x :: st) :=
  fun H locs ls hP hS hv => lv_icmp_eq X.1 X.2.1 hd ht (fun q => kt q H locs ls hP hS hv) (fun q => kf q H locs ls hP hS hv)
theorem aw_if_eq {off : Int} {tgt : Nat} (X : AX Z cc nL own ret g fr) (hd : decode cc pc = .ok (.ifCond .eq off, 3)) (ht : (pc : Int) + off = (tgt : Int)) (kt : x = 0 → AW Z σ tgt L st) (kf : ¬ x = 0 → AW Z σ (pc + 3) L st) : AW Z σ pc L (.int x :: st) :=
  fun H locs ls hP hS hv => lv_if_eq X.1 X.2.1 hd ht (fun q => kt q H locs ls hP hS hv) (fun q => kf q H locs ls hP hS hv)
theorem aw_icmp_lt {off : Int} {tgt : Nat} (X : AX Z cc nL own ret g fr) (hd : decode cc pc = .ok (.if_icmp .lt off, 3)) (ht : (pc : Int) + off = (tgt : Int)) (kt : x < y → AW Z σ tgt L st) (kf : ¬ x < y → AW Z σ (pc + 3) L st) : AW Z σ pc L (.int y :: .int x :: st) :=
  fun H locs ls hP hS hv => lv_icmp_lt X.1 X.2.1 hd ht (fun q => kt q H locs ls hP hS hv) (fun q => kf q H locs ls hP hS hv)
theorem aw_if_lt {off : Int} {tgt : Nat} (X : AX Z cc nL own ret g fr) (hd : decode cc pc = .ok (.ifCond .lt off, 3)) (ht : (pc : Int) + off = (tgt : Int)) (kt : x < 0 → AW Z σ tgt L st) (kf : ¬ x < 0 → AW Z σ (pc + 3) L st) : AW Z σ pc L (.int x :: st) :=
  fun H locs ls hP hS hv => lv_if_lt X.1 X.2.1 hd ht (fun q => kt q H locs ls hP hS hv) (fun q => kf q H locs ls hP hS hv)
theorem aw_icmp_ge {off : Int} {tgt : Nat} (X : AX Z cc nL own ret g fr) (hd : decode cc pc = .ok (.if_icmp .ge off, 3)) (ht : (pc : Int) + off = (tgt : Int)) (kt : y ≤ x → AW Z σ tgt L st) (kf : ¬ y ≤ x → AW Z σ (pc + 3) L st) : AW Z σ pc L (.int y :: .int x :: st) :=
  fun H locs ls hP hS hv => lv_icmp_ge X.1 X.2.1 hd ht (fun q => kt q H locs ls hP hS hv) (fun q => kf q H locs ls hP hS hv)
theorem aw_if_ge {off : Int} {tgt : Nat} (X : AX Z cc nL own ret g fr) (hd : decode cc pc = .ok (.ifCond .ge off, 3)) (ht : (pc : Int) + off = (tgt : Int)) (kt : 0 ≤ x → AW Z σ tgt L st) (kf : ¬ 0 ≤ x → AW Z σ (pc + 3) L st) : AW Z σ pc L (.int x :: st) :=
  fun H locs ls hP hS hv => lv_if_ge X.1 X.2.1 hd ht (fun q => kt q H locs ls hP hS hv) (fun q => kf q H locs ls hP hS hv)
theorem aw_icmp_gt {off : Int} {tgt : Nat} (X : AX Z cc nL own ret g fr) (hd : decode cc pc = .ok (.if_icmp .gt off, 3)) (ht : (pc : Int) + off = (tgt : Int)) (kt : y < x → AW Z σ tgt L st) (kf : ¬ y < x → AW Z σ (pc + 3) L st) : AW Z σ pc L (.int y :: .int x :: st) :=
  fun H locs ls hP hS hv => lv_icmp_gt X.1 X.2.1 hd ht (fun q => kt q H locs ls hP hS hv) (fun q => kf q H locs ls hP hS hv)
theorem aw_if_gt {off : Int} {tgt : Nat} (X : AX Z cc nL own ret g fr) (hd : decode cc pc = .ok (.ifCond .gt off, 3)) (ht : (pc : Int) + off = (tgt : Int)) (kt : 0 < x → AW Z σ tgt L st) (kf : ¬ 0 < x → AW Z σ (pc + 3) L st) : AW Z σ pc L (.int x :: st) :=
  fun H locs ls hP hS hv => lv_if_gt X.1 X.2.1 hd ht (fun q => kt q H locs ls hP hS hv) (fun q => kf q H locs ls hP hS hv)
theorem aw_icmp_le {off : Int} {tgt : Nat} (X : AX Z cc nL own ret g fr) (hd : decode cc pc = .ok (.if_icmp .le off, 3)) (ht : (pc : Int) + off = (tgt : Int)) (kt : x ≤ y → AW Z σ tgt L st) (kf : ¬ x ≤ y → AW Z σ (pc + 3) L st) : AW Z σ pc L (.int y :: .int x :: st) :=
  fun H locs ls hP hS hv => lv_icmp_le X.1 X.2.1 hd ht (fun q => kt q H locs ls hP hS hv) (fun q => kf q H locs ls hP hS hv)
theorem aw_if_le {off : Int} {tgt : Nat} (X : AX Z cc nL own ret g fr) (hd : decode cc pc = .ok (.ifCond .le off, 3)) (ht : (pc : Int) + off = (tgt : Int)) (kt : x ≤ 0 → AW Z σ tgt L st) (kf : ¬ x ≤ 0 → AW Z σ (pc + 3) L st) : AW Z σ pc L (.int x :: st) :=
  fun H locs ls hP hS hv => lv_if_le X.1 X.2.1 hd ht (fun q => kt q H locs ls hP hS hv) (fun q => kf q H locs ls hP hS hv)
theorem aw_icmp_ne {off : Int} {tgt : Nat} (X : AX Z cc nL own ret g fr) (hd : decode cc pc = .ok (.if_icmp .ne off, 3)) (ht : (pc : Int) + off = (tgt : Int)) (kt : ¬ x = y → AW Z σ tgt L st) (kf : x = y → AW Z σ (pc + 3) L st) : AW Z σ pc L (.int y :: .int x :: st) :=
  fun H locs ls hP hS hv => lv_icmp_ne X.1 X.2.1 hd ht (fun q => kt q H locs ls hP hS hv) (fun q => kf q H locs ls hP hS hv)
theorem aw_if_ne {off : Int} {tgt : Nat} (X : AX Z cc nL own ret g fr) (hd : decode cc pc = .ok (.ifCond .ne off, 3)) (ht : (pc : Int) + off = (tgt : Int)) (kt : ¬ x = 0 → AW Z σ tgt L st) (kf : x = 0 → AW Z σ (pc + 3) L st) : AW Z σ pc L (.int x :: st) :=
  fun H locs ls hP hS hv => lv_if_ne X.1 X.2.1 hd ht (fun q => kt q H locs ls hP hS hv) (fun q => kf q H locs ls hP hS hv)
theorem aw_goto {off : Int} {tgt : Nat} (X : AX Z cc nL own ret g fr) (hd : decode cc pc = .ok (.goto off, 3)) (ht : (pc : Int) + off = (tgt : Int)) (K : AW Z σ tgt L st) : AW Z σ pc L st :=
  fun H locs ls hP hS hv => lv_goto X.1 X.2.1 hd ht (K H locs ls hP hS hv)
theorem aw_geti {idx ci j : Nat} (X : AX Z cc nL own ret g fr) (hd : decode cc pc = .ok (.getfield idx, 3)) (hf : FL own idx ci j) (ho : IO g k ci) (hr : gR g k j = none) (K : AW Z σ (pc + 3) L (.int (σ k j) :: st)) : AW Z σ pc L (.ref (zr Z k) :: st) := by
  intro H locs ls hP hS hv
  obtain ⟨C, T, N, hc, hj, hin, hlk⟩ := hf
  have hg := X.2.2.2.2.2.2.2.2.2.1
  have hns : nsl ci = N := by unfold nsl; rw [hc]
  subst hg
  exact va_get X.1 X.2.1 X.2.2.2.2.1 hin X.2.2.2.1 X.2.2.2.2.2.2.2.1 hP k (by rw [wv_get ho.1, ce_obj ho.2]; rfl) hc j hj (X.2.2.2.2.1 _ hlk) (fun _ h => h) (by simp [hns, hj, fv_none hr]) hd (K H locs ls hP hS hv)
theorem aw_getr {idx ci j r : Nat} (X : AX Z cc nL own ret g fr) (hd : decode cc pc = .ok (.getfield idx, 3)) (hf : FL own idx ci j) (ho : IO g k ci) (hr : gR g k j = some r) (K : AW Z σ (pc + 3) L (.ref (zr Z r) :: st)) : AW Z σ pc L (.ref (zr Z k) :: st) := by
  intro H locs ls hP hS hv
  obtain ⟨C, T, N, hc, hj, hin, hlk⟩ := hf
  have hg := X.2.2.2.2.2.2.2.2.2.1
  have hns : nsl ci = N := by unfold nsl; rw [hc]
  subst hg
  exact va_get X.1 X.2.1 X.2.2.2.2.1 hin X.2.2.2.1 X.2.2.2.2.2.2.2.1 hP k (by rw [wv_get ho.1, ce_obj ho.2]; rfl) hc j hj (X.2.2.2.2.1 _ hlk) (fun _ h => h) (by simp [hns, hj, fv_some hr]; rfl) hd (K H locs ls hP hS hv)
theorem aw_iald (X : AX Z cc nL own ret g fr) (hd : decode cc pc = .ok (.iaload, 1)) (ho : IA g k n) (h : rd n (σ k) x = some v) (K : AW Z σ (pc + 1) L (.int v :: st)) : AW Z σ pc L (.int x :: .ref (zr Z k) :: st) := by
  intro H locs ls hP hS hv
  have hg := X.2.2.2.2.2.2.2.2.2.1
  subst hg
  unfold rd at h
  split at h
  · cases h
  · next hx =>
    cases h
    exact va_iald X.1 X.2.1 X.2.2.2.2.2.2.2.1 hP k 0 (by rw [wv_get ho.1, ce_int ho.2.1, ho.2.2]; rfl) rfl hx hd (K H locs ls hP hS hv)
theorem aw_zald (X : AX Z cc nL own ret g fr) (hd : decode cc pc = .ok (.baload, 1)) (ho : IZ g k n) (h : rd n (σ k) x = some v) (K : AW Z σ (pc + 1) L (.int v :: st)) : AW Z σ pc L (.int x :: .ref (zr Z k) :: st) := by
  intro H locs ls hP hS hv
  have hg := X.2.2.2.2.2.2.2.2.2.1
  subst hg
  unfold rd at h
  split at h
  · cases h
  · next hx =>
    cases h
    exact va_zald X.1 X.2.1 X.2.2.2.2.2.2.2.1 hP k 1 (by rw [wv_get ho.1, ce_boo ho.2.1, ho.2.2]; rfl) rfl hx hd (K H locs ls hP hS hv)
theorem aw_alen (X : AX Z cc nL own ret g fr) (hd : decode cc pc = .ok (.arraylength, 1)) (ho : IA g k n) (hn : Int32.ofNat n = v) (K : AW Z σ (pc + 1) L (.int v :: st)) : AW Z σ pc L (.ref (zr Z k) :: st) := by
  intro H locs ls hP hS hv
  have hg := X.2.2.2.2.2.2.2.2.2.1
  subst hg
  exact va_alen X.1 X.2.1 X.2.2.2.2.2.2.2.1 hP k 0 (by rw [wv_get ho.1, ce_int ho.2.1, ho.2.2]; rfl) rfl hn hd (K H locs ls hP hS hv)
theorem aw_iast {σ' : Mem} (X : AX Z cc nL own ret g fr) (hd : decode cc pc = .ok (.iastore, 1)) (ho : IA g k n) (h : wr n σ k x v = some σ') (K : AW Z σ' (pc + 1) L st) : AW Z σ pc L (.int v :: .int x :: .ref (zr Z k) :: st) := by
  intro H locs ls hP hS hv
  have hg := X.2.2.2.2.2.2.2.2.2.1
  subst hg
  unfold wr at h
  split at h
  · cases h
  · next hx =>
    cases h
    refine va_iast X.1 X.2.1 X.2.2.2.2.2.2.2.1 hP (wv_D X.2.2.2.2.2.2.2.2.1) hS k 0 (by rw [wv_get ho.1, ce_int ho.2.1, ho.2.2]; rfl) rfl hx hd (fun H1 locs1 hP1 hD1 hS1 => ?_)
    have hP2 : va_P Z.2.2.1 vwCl (wv Z.2.2.2.1 Z.2.2.2.2.1 Z.2.2.2.2.2.1 (mset σ k x.toNatClampNeg v)) H1 := by
      rw [← wv_set (σ := σ) (k := k) (ce_int (σ := mset σ k x.toNatClampNeg v) ho.2.1) (fun k' hk => ce_ne hk), mset_self, ho.2.2]
      exact hP1
    exact K H1 locs1 ls hP2 hS1 hv
theorem aw_zast {σ' : Mem} (X : AX Z cc nL own ret g fr) (hd : decode cc pc = .ok (.bastore, 1)) (ho : IZ g k n) (hz : vp_nar .boolean v = v) (h : wr n σ k x v = some σ') (K : AW Z σ' (pc + 1) L st) : AW Z σ pc L (.int v :: .int x :: .ref (zr Z k) :: st) := by
  intro H locs ls hP hS hv
  have hg := X.2.2.2.2.2.2.2.2.2.1
  subst hg
  unfold wr at h
  split at h
  · cases h
  · next hx =>
    cases h
    refine va_zast X.1 X.2.1 X.2.2.2.2.2.2.2.1 hP (wv_D X.2.2.2.2.2.2.2.2.1) hS k 1 (by rw [wv_get ho.1, ce_boo ho.2.1, ho.2.2]; rfl) rfl hx hd (fun H1 locs1 hP1 hD1 hS1 => ?_)
    rw [hz] at hP1
    have hP2 : va_P Z.2.2.1 vwCl (wv Z.2.2.2.1 Z.2.2.2.2.1 Z.2.2.2.2.2.1 (mset σ k x.toNatClampNeg v)) H1 := by
      rw [← wv_set (σ := σ) (k := k) (ce_boo (σ := mset σ k x.toNatClampNeg v) ho.2.1) (fun k' hk => ce_ne hk), mset_self, ho.2.2]
      exact hP1
    exact K H1 locs1 ls hP2 hS1 hv
theorem ce_putf {ρ : Nat → Nat} {cA : ClassId × ClassId × ClassId} {ci j : Nat} (ho : gK g k = ci + 3) (hr : gR g k j = none) : ce ρ cA g (mset σ k j v) k = .inr (ci, ((List.range (nsl ci)).map (fv ρ g σ k)).set j (.int v)) := by
  rw [ce_obj ho]
  congr 2
  apply List.ext_getElem?
  intro i
  rw [List.getElem?_set]
  by_cases hij : j = i
  · subst hij
    by_cases hl : j < nsl ci
    · simp [hl, fv_none hr, upd, mset_self]
    · simp [hl]
  · rw [if_neg hij]
    by_cases hl : i < nsl ci
    · have : ¬ i = j := fun q => hij q.symm
      have e : fv ρ g (mset σ k j v) k i = fv ρ g σ k i := by unfold fv; rw [mset_self]; simp [upd, this]
      simp [hl, e]
    · simp [hl]
theorem aw_put {idx ci j : Nat} {ty : FieldType} (X : AX Z cc nL own ret g fr) (hd : decode cc pc = .ok (.putfield idx, 3)) (hf : FP own idx ci j ty) (ho : IO g k ci) (hr : gR g k j = none) (hn : narrow ty (.int v) = .int v) (hfit : fits ty (.int v) = true) (K : AW Z (mset σ k j v) (pc + 3) L st) : AW Z σ pc L (.int v :: .ref (zr Z k) :: st) := by
  intro H locs ls hP hS hv
  obtain ⟨C, T, N, ty0, hc, hj, hin, hlk, hty, hnm, hfin, hpd⟩ := hf
  have hg := X.2.2.2.2.2.2.2.2.2.1
  have hns : nsl ci = N := by unfold nsl; rw [hc]
  subst hg
  refine va_put X.1 X.2.1 X.2.2.2.2.1 hin ty0 hty hnm X.2.2.2.1 X.2.2.2.2.2.2.2.1 hP (wv_D X.2.2.2.2.2.2.2.2.1) hS k (by rw [wv_get ho.1, ce_obj ho.2]; rfl) hc j hj (X.2.2.2.2.1 _ hlk) (fun _ h => h) hfin hpd hn hfit (by simp [hns, hj]) hd (fun H1 locs1 hP1 hD1 hS1 => ?_)
  have hP2 : va_P Z.2.2.1 vwCl (wv Z.2.2.2.1 Z.2.2.2.2.1 Z.2.2.2.2.2.1 (mset σ k j v)) H1 := by
    rw [← wv_set (σ := σ) (k := k) (ce_putf (σ := σ) (v := v) ho.2 hr) (fun k' hk => ce_ne hk)]
    exact hP1
  exact K H1 locs1 ls hP2 hS1 hv
theorem aw_aald {r : Nat} (X : AX Z cc nL own ret g fr) (hd : decode cc pc = .ok (.aaload, 1)) (ho : IQ g k n) (hx : ¬ (x < 0 ∨ n ≤ x.toNatClampNeg)) (hr : gR g k x.toNatClampNeg = some r) (K : AW Z σ (pc + 1) L (.ref (zr Z r) :: st)) : AW Z σ pc L (.int x :: .ref (zr Z k) :: st) := by
  intro H locs ls hP hS hv
  have hg := X.2.2.2.2.2.2.2.2.2.1
  subst hg
  refine va_aldq X.1 X.2.1 X.2.2.2.2.2.2.2.1 hP k 2 (by rw [wv_get ho.1, ce_row ho.2.1, ho.2.2]; rfl) rfl hx hd ?_
  rw [hr]
  exact K H locs ls hP hS hv
theorem aw_iret (X : AX Z cc nL own ret g fr) (hd : decode cc pc = .ok (.ireturn, 1)) (hr : ret = some .int) (h : (some (Value.int v), σ) = zres Z) : AW Z σ pc L [.int v] := by
  intro H locs ls hP hS hv
  have hlk := X.2.2.2.2.2.2.1
  have h1 : Z.2.2.2.2.2.2.2.1 = some (Value.int v) := (congrArg Prod.fst h).symm
  have h2 : Z.2.2.2.2.2.2.2.2 = σ := (congrArg Prod.snd h).symm
  rw [h1, h2]
  exact W.iret X.1 X.2.1 (X.2.2.2.2.2.1.trans hr) (fun t ht hW => ⟨rfl, by rw [ht]; exact hP, hS.F ht⟩) hS.2.2 hd (hlocks := hlk)
theorem aw_zret {ty : FieldType} (X : AX Z cc nL own ret g fr) (hd : decode cc pc = .ok (.ireturn, 1)) (hr : ret = some ty) (hn : narrow ty (.int v) = .int v) (h : (some (Value.int v), σ) = zres Z) : AW Z σ pc L [.int v] := by
  intro H locs ls hP hS hv
  have hlk := X.2.2.2.2.2.2.1
  have h1 : Z.2.2.2.2.2.2.2.1 = some (Value.int v) := (congrArg Prod.fst h).symm
  have h2 : Z.2.2.2.2.2.2.2.2 = σ := (congrArg Prod.snd h).symm
  rw [h1, h2]
  exact W.zret X.1 X.2.1 (X.2.2.2.2.2.1.trans hr) hn (fun t ht hW => ⟨rfl, by rw [ht]; exact hP, hS.F ht⟩) hS.2.2 hd (hlocks := hlk)
theorem aw_vret (X : AX Z cc nL own ret g fr) (hd : decode cc pc = .ok (.return_, 1)) (hr : ret = none) (h : (none, σ) = zres Z) : AW Z σ pc L [] := by
  intro H locs ls hP hS hv
  have hlk := X.2.2.2.2.2.2.1
  have h1 : Z.2.2.2.2.2.2.2.1 = none := (congrArg Prod.fst h).symm
  have h2 : Z.2.2.2.2.2.2.2.2 = σ := (congrArg Prod.snd h).symm
  rw [h1, h2]
  exact W.vret X.1 X.2.1 (X.2.2.2.2.2.1.trans hr) (fun t ht hW => ⟨rfl, by rw [ht]; exact hP, hS.F ht⟩) hS.2.2 hd (hlocks := hlk)
end AW
