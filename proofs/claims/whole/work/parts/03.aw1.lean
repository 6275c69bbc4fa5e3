/-! ===== the static shape: objects of the class (0) and of the reference (1) ===== -/
def gN (g : Nat) : Nat := if g = 0 then 200 else 37
def gK0 : List Nat := [13, 12, 3, 0, 0, 0, 0, 0, 0, 0, 4, 0, 0, 0, 0, 0, 0, 7, 0, 0, 0, 0, 7, 0, 0, 0, 0, 5, 0, 0, 0, 0, 10, 9, 0, 9, 0, 9, 0, 9, 0, 9, 0, 9, 0, 9, 0, 9, 0, 9, 0, 9, 0, 9, 0, 9, 0, 0, 12, 3, 0, 0, 0, 0, 0, 0, 0, 4, 0, 0, 0, 0, 0, 0, 7, 0, 0, 0, 0, 7, 0, 0, 0, 0, 5, 0, 0, 0, 0, 10, 9, 0, 9, 0, 9, 0, 9, 0, 9, 0, 9, 0, 9, 0, 9, 0, 9, 0, 9, 0, 9, 0, 9, 0, 0, 3, 0, 0, 0, 0, 0, 0, 0, 2, 3, 0, 0, 0, 0, 0, 0, 0, 3, 0, 0, 0, 0, 0, 0, 0, 3, 0, 0, 0, 0, 0, 0, 0, 3, 0, 0, 0, 0, 0, 0, 0, 3, 0, 0, 0, 0, 0, 0, 0, 3, 0, 0, 0, 0, 0, 0, 0, 6, 8, 0, 0, 0, 0, 4, 0, 0, 0, 0, 0, 0, 7, 0, 0, 0, 0, 5, 0, 0, 0, 0, 11, 0, 0, 1, 0]
def gK1 : List Nat := [14, 0, 0, 0, 0, 0, 0, 0, 0, 0, 0, 0, 0, 0, 0, 0, 0, 0, 0, 0, 0, 0, 0, 0, 0, 0, 0, 0, 0, 0, 0, 0, 0, 0, 0, 0, 0]
def gK (g k : Nat) : Nat := if g = 0 then gK0.getD k 0 else gK1.getD k 0
def gL0 : List Nat := [0, 0, 0, 14, 14, 14, 14, 14, 14, 14, 0, 16, 16, 16, 16, 400, 64, 0, 16, 16, 16, 16, 0, 16, 16, 16, 16, 0, 16, 16, 96, 14, 0, 0, 16, 0, 10, 0, 10, 0, 10, 0, 14, 0, 14, 0, 14, 0, 6, 0, 6, 0, 6, 0, 8, 0, 4, 600, 0, 0, 14, 14, 14, 14, 14, 14, 14, 0, 16, 16, 16, 16, 400, 64, 0, 16, 16, 16, 16, 0, 16, 16, 16, 16, 0, 16, 16, 96, 14, 0, 0, 16, 0, 10, 0, 10, 0, 10, 0, 14, 0, 14, 0, 14, 0, 6, 0, 6, 0, 6, 0, 8, 0, 4, 600, 0, 14, 14, 14, 14, 14, 14, 14, 6, 0, 14, 14, 14, 14, 14, 14, 14, 0, 14, 14, 14, 14, 14, 14, 14, 0, 14, 14, 14, 14, 14, 14, 14, 0, 14, 14, 14, 14, 14, 14, 14, 0, 14, 14, 14, 14, 14, 14, 14, 0, 14, 14, 14, 14, 14, 14, 14, 0, 0, 400, 400, 400, 400, 0, 16, 16, 16, 16, 400, 64, 0, 16, 16, 16, 16, 0, 16, 16, 96, 14, 0, 100, 41, 41, 8]
def gL1 : List Nat := [0, 102, 612, 102, 600, 400, 133, 2, 48, 48, 48, 48, 1200, 1200, 40, 96, 128, 28, 168, 8, 420, 16, 10, 10, 10, 14, 14, 14, 2, 12, 6, 64, 8, 41, 41, 4, 2400]
def gL (g k : Nat) : Nat := if g = 0 then gL0.getD k 0 else gL1.getD k 0
def gR0 : List (List (Option Nat)) := [[some 1, some 58, none, some 115, some 123, none, none, some 172, some 195], [some 2, some 10, some 17, some 22, some 27, some 32, some 57], [none, none, some 3, some 4, some 5, some 6, some 7, some 8, some 9, none, none, none, none], [], [], [], [], [], [], [], [none, none, some 11, some 12, some 13, some 14, some 15, some 16], [], [], [], [], [], [], [none, some 18, some 19, some 20, some 21], [], [], [], [], [none, some 23, some 24, some 25, some 26], [], [], [], [], [none, some 28, some 29, some 30, some 31], [], [], [], [], [some 33, some 35, some 37, some 39, some 41, some 43, some 45, some 47, some 49, some 51, some 53, some 55], [some 34, none], [], [some 36, none], [], [some 38, none], [], [some 40, none], [], [some 42, none], [], [some 44, none], [], [some 46, none], [], [some 48, none], [], [some 50, none], [], [some 52, none], [], [some 54, none], [], [some 56, none], [], [], [some 59, some 67, some 74, some 79, some 84, some 89, some 114], [none, none, some 60, some 61, some 62, some 63, some 64, some 65, some 66, none, none, none, none], [], [], [], [], [], [], [], [none, none, some 68, some 69, some 70, some 71, some 72, some 73], [], [], [], [], [], [], [none, some 75, some 76, some 77, some 78], [], [], [], [], [none, some 80, some 81, some 82, some 83], [], [], [], [], [none, some 85, some 86, some 87, some 88], [], [], [], [], [some 90, some 92, some 94, some 96, some 98, some 100, some 102, some 104, some 106, some 108, some 110, some 112], [some 91, none], [], [some 93, none], [], [some 95, none], [], [some 97, none], [], [some 99, none], [], [some 101, none], [], [some 103, none], [], [some 105, none], [], [some 107, none], [], [some 109, none], [], [some 111, none], [], [some 113, none], [], [], [none, none, some 116, some 117, some 118, some 119, some 120, some 121, some 122, none, none, none, none], [], [], [], [], [], [], [], [some 124, some 132, some 140, some 148, some 156, some 164], [none, none, some 125, some 126, some 127, some 128, some 129, some 130, some 131, none, none, none, none], [], [], [], [], [], [], [], [none, none, some 133, some 134, some 135, some 136, some 137, some 138, some 139, none, none, none, none], [], [], [], [], [], [], [], [none, none, some 141, some 142, some 143, some 144, some 145, some 146, some 147, none, none, none, none], [], [], [], [], [], [], [], [none, none, some 149, some 150, some 151, some 152, some 153, some 154, some 155, none, none, none, none], [], [], [], [], [], [], [], [none, none, some 157, some 158, some 159, some 160, some 161, some 162, some 163, none, none, none, none], [], [], [], [], [], [], [], [none, none, some 165, some 166, some 167, some 168, some 169, some 170, some 171, none, none, none, none], [], [], [], [], [], [], [], [some 173, none, none, none, some 178, some 185, some 190], [none, none, none, none, none, none, some 174, some 175, some 176, some 177], [], [], [], [], [none, none, some 179, some 180, some 181, some 182, some 183, some 184], [], [], [], [], [], [], [none, some 186, some 187, some 188, some 189], [], [], [], [], [none, some 191, some 192, some 193, some 194], [], [], [], [], [some 196, some 197, some 198, some 199], [], [], [], []]
def gR1 : List (List (Option Nat)) := [[none, some 1, some 2, none, some 3, none, none, some 4, some 5, none, none, none, none, none, some 6, some 7, some 8, some 9, some 10, some 11, some 12, some 13, none, none, none, some 14, none, none, none, none, none, none, some 15, none, some 16, none, some 17, some 18, some 19, some 20, none, some 21, none, some 22, some 23, some 24, none, some 25, some 26, some 27, some 28, some 29, none, some 30, some 31, none, some 32, some 33, some 34, none, some 35, none, none, none, some 36], [], [], [], [], [], [], [], [], [], [], [], [], [], [], [], [], [], [], [], [], [], [], [], [], [], [], [], [], [], [], [], [], [], [], [], []]
def gR (g k j : Nat) : Option Nat := if g = 0 then (gR0.getD k []).getD j none else (gR1.getD k []).getD j none
/-! ===== memory, cells, the walk's judgement ===== -/
abbrev Mem : Type := Nat → Nat → Int32
def mset (σ : Mem) (k j : Nat) (v : Int32) : Mem := fun a => if a = k then upd (σ k) j v else σ a
def nsl (ci : Nat) : Nat := match vwCl[ci]? with
  | some q => q.2.2
  | none => 0
def fv (ρ : Nat → Nat) (g : Nat) (σ : Mem) (k j : Nat) : Value := match gR g k j with
  | none => Value.int (σ k j)
  | some r => Value.ref (ρ r)
def ce (ρ : Nat → Nat) (cA : ClassId × ClassId × ClassId) (g : Nat) (σ : Mem) (k : Nat) : va_E := match gK g k with
  | 0 => .inl (cA.1, gL g k, .inl (σ k))
  | 1 => .inl (cA.2.1, gL g k, .inl (σ k))
  | 2 => .inl (cA.2.2, gL g k, .inr (.inr (.inr (.inr (fun j => (gR g k j).map ρ)))))
  | ci + 3 => .inr (ci, (List.range (nsl ci)).map (fv ρ g σ k))
def wv (ρ : Nat → Nat) (cA : ClassId × ClassId × ClassId) (g : Nat) (σ : Mem) : va_W := (List.range (gN g)).map (fun k => (ρ k, ce ρ cA g σ k))
def rg (ρ : Nat → Nat) (g : Nat) : Nat → Prop := fun q => ∃ k, k < gN g ∧ q = ρ k
def inj (ρ : Nat → Nat) (g : Nat) : Prop := ∀ i j, i < gN g → j < gN g → ρ i = ρ j → i = j
abbrev tysOf (cA : ClassId × ClassId × ClassId) : List (ClassId × FieldType) := [(cA.1, .int), (cA.2.1, .boolean), (cA.2.2, .object RX0)]
theorem wv_get {ρ : Nat → Nat} {cA : ClassId × ClassId × ClassId} {g : Nat} {σ : Mem} {k : Nat} (h : k < gN g) : (wv ρ cA g σ)[k]? = some (ρ k, ce ρ cA g σ k) := by
  simp [wv, h]
theorem wv_D {ρ : Nat → Nat} {cA : ClassId × ClassId × ClassId} {g : Nat} {σ : Mem} (h : inj ρ g) : va_D (rg ρ g) (wv ρ cA g σ) := by
  refine ⟨fun i j p q hi hj hpq => ?_, fun k q hk => ?_⟩
  · simp only [wv, List.getElem?_map, Option.map_eq_some_iff] at hi hj
    obtain ⟨a, ha, rfl⟩ := hi
    obtain ⟨b, hb, rfl⟩ := hj
    rw [List.getElem?_eq_some_iff] at ha hb
    obtain ⟨h1, rfl⟩ := ha
    obtain ⟨h2, rfl⟩ := hb
    simp only [List.length_range, List.getElem_range] at *
    exact h i j (by simpa using h1) (by simpa using h2) hpq
  · simp only [wv, List.getElem?_map, Option.map_eq_some_iff] at hk
    obtain ⟨a, ha, rfl⟩ := hk
    rw [List.getElem?_eq_some_iff] at ha
    obtain ⟨h1, rfl⟩ := ha
    simp only [List.length_range, List.getElem_range] at *
    exact ⟨k, by simpa using h1, rfl⟩
theorem wv_set {ρ : Nat → Nat} {cA : ClassId × ClassId × ClassId} {g : Nat} {σ σ' : Mem} {k : Nat} {e : va_E} (he : ce ρ cA g σ' k = e) (ho : ∀ k', k' ≠ k → ce ρ cA g σ' k' = ce ρ cA g σ k') : (wv ρ cA g σ).set k (ρ k, e) = wv ρ cA g σ' := by
  apply List.ext_getElem?
  intro i
  rw [List.getElem?_set]
  by_cases hik : k = i
  · subst hik
    rw [if_pos rfl]
    by_cases hl : k < gN g
    · rw [if_pos (by simp [wv, hl]), wv_get hl, he]
    · rw [if_neg (by simp [wv]; omega), eq_comm]
      simp [wv]; omega
  · rw [if_neg hik]
    by_cases hl : i < gN g
    · rw [wv_get hl, wv_get hl, ho i (fun h => hik h.symm)]
    · rw [List.getElem?_eq_none (by simp [wv]; omega), List.getElem?_eq_none (by simp [wv]; omega)]
theorem ce_ne {ρ : Nat → Nat} {cA : ClassId × ClassId × ClassId} {g : Nat} {σ : Mem} {k j : Nat} {v : Int32} {k' : Nat} (h : k' ≠ k) : ce ρ cA g (mset σ k j v) k' = ce ρ cA g σ k' := by
  have e : (mset σ k j v) k' = σ k' := by simp [mset, h]
  have e2 : fv ρ g (mset σ k j v) k' = fv ρ g σ k' := by funext i; unfold fv; rw [e]
  unfold ce
  split <;> simp only [e, e2]
theorem fv_none {ρ : Nat → Nat} {g : Nat} {σ : Mem} {k j : Nat} (h : gR g k j = none) : fv ρ g σ k j = .int (σ k j) := by unfold fv; rw [h]
theorem fv_some {ρ : Nat → Nat} {g : Nat} {σ : Mem} {k j r : Nat} (h : gR g k j = some r) : fv ρ g σ k j = .ref (ρ r) := by unfold fv; rw [h]
theorem mset_self {σ : Mem} {k j : Nat} {v : Int32} : (mset σ k j v) k = upd (σ k) j v := by simp [mset]
theorem ce_int {ρ : Nat → Nat} {cA : ClassId × ClassId × ClassId} {g : Nat} {σ : Mem} {k : Nat} (h : gK g k = 0) : ce ρ cA g σ k = .inl (cA.1, gL g k, .inl (σ k)) := by unfold ce; rw [h]
theorem ce_boo {ρ : Nat → Nat} {cA : ClassId × ClassId × ClassId} {g : Nat} {σ : Mem} {k : Nat} (h : gK g k = 1) : ce ρ cA g σ k = .inl (cA.2.1, gL g k, .inl (σ k)) := by unfold ce; rw [h]
theorem ce_row {ρ : Nat → Nat} {cA : ClassId × ClassId × ClassId} {g : Nat} {σ : Mem} {k : Nat} (h : gK g k = 2) : ce ρ cA g σ k = .inl (cA.2.2, gL g k, .inr (.inr (.inr (.inr (fun j => (gR g k j).map ρ))))) := by unfold ce; rw [h]
theorem ce_obj {ρ : Nat → Nat} {cA : ClassId × ClassId × ClassId} {g : Nat} {σ : Mem} {k ci : Nat} (h : gK g k = ci + 3) : ce ρ cA g σ k = .inr (ci, (List.range (nsl ci)).map (fv ρ g σ k)) := by unfold ce; rw [h]
