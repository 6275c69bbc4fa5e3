/-! ===== bits of small numbers ===== -/
theorem N_and {a b : Nat} : Int32.ofNat a &&& Int32.ofNat b = Int32.ofNat (a &&& b) := by
  apply Int32.toBitVec_inj.mp
  show BitVec.ofNat 32 a &&& BitVec.ofNat 32 b = BitVec.ofNat 32 (a &&& b)
  rw [BitVec.ofNat_and]
theorem N_or {a b : Nat} : Int32.ofNat a ||| Int32.ofNat b = Int32.ofNat (a ||| b) := by
  apply Int32.toBitVec_inj.mp
  show BitVec.ofNat 32 a ||| BitVec.ofNat 32 b = BitVec.ofNat 32 (a ||| b)
  rw [BitVec.ofNat_or]
theorem N_andL {a b : Nat} : Int32.ofNat a &&& (no_index (OfNat.ofNat b) : Int32) = Int32.ofNat (a &&& (OfNat.ofNat b : Nat)) := N_and
theorem sh31 : ∀ k, k < 32 → ((Int32.ofNat k &&& 31).toBitVec.smod 32).toNat = k := by decide +kernel
theorem us31 : ∀ k, k < 32 → (((Int32.ofNat k).toUInt32 &&& Int32.toUInt32 31).toBitVec % 32#32).toNat = k := by decide +kernel
theorem b_ofNat {a : Nat} (h : a < 4294967296) : (BitVec.ofNat 32 a).toNat = a := by
  rw [BitVec.toNat_ofNat]
  omega
theorem N_shr {a k : Nat} (ha : a < 2147483648) (hk : k < 32) : Int32.ofNat a >>> (Int32.ofNat k &&& 31) = Int32.ofNat (a >>> k) := by
  apply Int32.toBitVec_inj.mp
  show (BitVec.ofNat 32 a).sshiftRight ((Int32.ofNat k &&& 31).toBitVec.smod 32).toNat = BitVec.ofNat 32 (a >>> k)
  rw [sh31 k hk]
  have hm : (BitVec.ofNat 32 a).msb = false := by
    rw [BitVec.msb_eq_decide, b_ofNat (by omega)]
    simp
    omega
  rw [BitVec.sshiftRight_eq_of_msb_false hm]
  apply BitVec.eq_of_toNat_eq
  have h2 : a >>> k ≤ a := by rw [Nat.shiftRight_eq_div_pow]; exact Nat.div_le_self _ _
  rw [BitVec.toNat_ushiftRight, b_ofNat (by omega), b_ofNat (by omega)]
theorem N_shl {a k : Nat} (hk : k < 32) : Int32.ofNat a <<< (Int32.ofNat k &&& 31) = Int32.ofNat (a <<< k) := by
  apply Int32.toBitVec_inj.mp
  show (BitVec.ofNat 32 a) <<< ((Int32.ofNat k &&& 31).toBitVec.smod 32) = BitVec.ofNat 32 (a <<< k)
  rw [BitVec.shiftLeft_eq', sh31 k hk]
  apply BitVec.eq_of_toNat_eq
  rw [BitVec.toNat_shiftLeft, BitVec.toNat_ofNat, BitVec.toNat_ofNat, Nat.shiftLeft_eq, Nat.shiftLeft_eq, Nat.mod_mul_mod]
theorem L_shl {k : Nat} (hk : k < 32) : (1 : Int32) <<< (Int32.ofNat k &&& 31) = Int32.ofNat (2 ^ k) := by
  have := N_shl (a := 1) hk
  rw [Nat.one_shiftLeft] at this
  exact this
theorem N_ush {a k : Nat} (ha : a < 4294967296) (hk : k < 32) : ush (Int32.ofNat a) (Int32.ofNat k) = Int32.ofNat (a >>> k) := by
  unfold ush
  apply Int32.toBitVec_inj.mp
  show (BitVec.ofNat 32 a) >>> (((Int32.ofNat k).toUInt32 &&& Int32.toUInt32 31).toBitVec % 32#32) = BitVec.ofNat 32 (a >>> k)
  rw [BitVec.ushiftRight_eq', us31 k hk]
  apply BitVec.eq_of_toNat_eq
  have h2 : a >>> k ≤ a := by rw [Nat.shiftRight_eq_div_pow]; exact Nat.div_le_self _ _
  rw [BitVec.toNat_ushiftRight, b_ofNat (by omega), b_ofNat (by omega)]
theorem N_div {a b : Nat} (ha : a < 2147483648) (hb : b < 2147483648) : Int32.ofNat a / Int32.ofNat b = Int32.ofNat (a / b) := (Int32.ofNat_div (by omega) (by omega)).symm
theorem N_mod {a b : Nat} (ha : a < 2147483648) (hb : b < 2147483648) : Int32.ofNat a % Int32.ofNat b = Int32.ofNat (a % b) := (Int32.ofNat_mod (by omega) (by omega)).symm
theorem N_divL {a b : Nat} (ha : a < 2147483648) (hb : (OfNat.ofNat b : Nat) < 2147483648) : Int32.ofNat a / (no_index (OfNat.ofNat b) : Int32) = Int32.ofNat (a / (OfNat.ofNat b : Nat)) := N_div ha hb
theorem N_modL {a b : Nat} (ha : a < 2147483648) (hb : (OfNat.ofNat b : Nat) < 2147483648) : Int32.ofNat a % (no_index (OfNat.ofNat b) : Int32) = Int32.ofNat (a % (OfNat.ofNat b : Nat)) := N_mod ha hb
/-- whether a set has one -/
theorem N_bit {a k : Nat} (ha : a < 2147483648) (hk : k < 32) : ((Int32.ofNat a >>> (Int32.ofNat k &&& 31)) &&& 1) = if a.testBit k then 1 else 0 := by
  rw [N_shr ha hk, show ((1 : Int32)) = Int32.ofNat 1 from rfl, N_and]
  have e : a >>> k &&& 1 = if a.testBit k then 1 else 0 := by
    rw [Nat.testBit]
    have h3 : (a >>> k) % 2 = 0 ∨ (a >>> k) % 2 = 1 := by omega
    rw [Nat.and_comm]
    rcases h3 with h | h <;> simp [Nat.one_and_eq_mod_two, h]
  rw [e]
  split <;> rfl
theorem pow_lt {k m : Nat} (h : k < m) (hm : m ≤ 30) : 2 ^ k < 2147483648 := Nat.lt_of_lt_of_le (Nat.pow_lt_pow_right (by omega) h) (Nat.le_trans (Nat.pow_le_pow_right (by omega) hm) (by omega))
/-- how many are in a set -/
def popN : Nat → Nat → Nat
  | 0, _ => 0
  | f + 1, v => if v = 0 then 0 else popN f (v &&& (v - 1)) + 1
def bcN (v : Nat) : Nat :=
  let a := v - ((v >>> 1) &&& 1431655765)
  let b := (a &&& 858993459) + ((a >>> 2) &&& 858993459)
  let c := (b + (b >>> 4)) &&& 252645135
  let d := c + (c >>> 8)
  (d + (d >>> 16)) &&& 63
def bcok (v : Nat) : Bool :=
  let a := v - ((v >>> 1) &&& 1431655765)
  let b := (a &&& 858993459) + ((a >>> 2) &&& 858993459)
  let c := (b + (b >>> 4)) &&& 252645135
  let d := c + (c >>> 8)
  ((v >>> 1) &&& 1431655765) ≤ v && a < 2147483648 && b < 1073741824 && c < 1073741824 && d < 1073741824 && popN 15 v == bcN v && popN 15 v ≤ 14
def allN : Nat → (Nat → Bool) → Bool
  | 0, _ => true
  | n + 1, p => p n && allN n p
theorem allN_of {p : Nat → Bool} : ∀ {n : Nat}, allN n p = true → ∀ k, k < n → p k = true
  | 0, _, k, hk => absurd hk (by omega)
  | n + 1, h, k, hk => by
    unfold allN at h
    simp only [Bool.and_eq_true] at h
    by_cases e : k = n
    · rw [e]; exact h.1
    · exact allN_of h.2 k (by omega)
set_option maxRecDepth 100000 in
theorem bc_all : allN 16384 bcok = true := by decide +kernel
