/-! ===== fresh memories ===== -/
def sC : Mem := mset (mset (fun _ _ => 0) 115 0 1) 172 2 (-1)
def tR : Mem := fun k => if k = 6 then wordsF else if k = 0 then upd (fun _ => 0) 30 (-1) else fun _ => 0
theorem row_past (q : Nat) : va_up (va_up (va_up (va_up (va_up (va_up (fun _ => none) 0 (some (q + 1 + 123))) 1 (some (q + 1 + 131))) 2 (some (q + 1 + 139))) 3 (some (q + 1 + 147))) 4 (some (q + 1 + 155))) 5 (some (q + 1 + 163)) = fun j => (gR 0 123 j).map (fun k => q + k) := by
  funext j
  match j with
  | 0 => rfl
  | 1 => rfl
  | 2 => rfl
  | 3 => rfl
  | 4 => rfl
  | 5 => rfl
  | k + 6 => rfl
set_option maxRecDepth 100000 in
theorem fc_all (cA : ClassId × ClassId × ClassId) (q : Nat) : t_RX11 cA (q + 1) = (List.range 199).map (fun k => ce (fun k => q + k) cA 0 sC (k + 1)) := by
  unfold t_RX11 uX11_6 uX11_5 uX11_4
  rw [row_past]
  rfl
set_option maxRecDepth 100000 in
theorem fc_0 (cA : ClassId × ClassId × ClassId) (q : Nat) : e_RX11 (q + 1) = ce (fun k => q + k) cA 0 sC 0 := rfl
set_option maxRecDepth 100000 in
theorem fr_all (cA : ClassId × ClassId × ClassId) (q : Nat) : t_RX12 cA (q + 1) = (List.range 36).map (fun k => ce (fun k => q + k) cA 1 tR (k + 1)) := by
  unfold t_RX12 uX12_36 uX12_35 uX12_34 uX12_33 uX12_32 uX12_31 uX12_30 uX12_29 uX12_28 uX12_27 uX12_26 uX12_25 uX12_24 uX12_23 uX12_22 uX12_21 uX12_20 uX12_19 uX12_18 uX12_17 uX12_16 uX12_15 uX12_14 uX12_13 uX12_12 uX12_11 uX12_10 uX12_9 uX12_8 uX12_7 uX12_6 uX12_5 uX12_4 uX12_3 uX12_2 uX12_1 uX12_0
  simp only [List.nil_append, List.cons_append]
  unfold tR
  generalize wordsF = w
  rfl
set_option maxRecDepth 100000 in
theorem fr_0 (cA : ClassId × ClassId × ClassId) (q : Nat) : e_RX12 (q + 1) = ce (fun k => q + k) cA 1 tR 0 := rfl
