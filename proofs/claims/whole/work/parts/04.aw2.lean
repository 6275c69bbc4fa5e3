/-! ===== what stands outside: the constants' rows and texts; the walk ===== -/
def txW : String := "hics stops passes nerve strong tried named found frights near minute when or and not at person names fright breath glass sugar says "
def txS : String := ";+-*/()<=>"
def byW : List Int32 := [104, 105, 99, 115, 32, 115, 116, 111, 112, 115, 32, 112, 97, 115, 115, 101, 115, 32, 110, 101, 114, 118, 101, 32, 115, 116, 114, 111, 110, 103, 32, 116, 114, 105, 101, 100, 32, 110, 97, 109, 101, 100, 32, 102, 111, 117, 110, 100, 32, 102, 114, 105, 103, 104, 116, 115, 32, 110, 101, 97, 114, 32, 109, 105, 110, 117, 116, 101, 32, 119, 104, 101, 110, 32, 111, 114, 32, 97, 110, 100, 32, 110, 111, 116, 32, 97, 116, 32, 112, 101, 114, 115, 111, 110, 32, 110, 97, 109, 101, 115, 32, 102, 114, 105, 103, 104, 116, 32, 98, 114, 101, 97, 116, 104, 32, 103, 108, 97, 115, 115, 32, 115, 117, 103, 97, 114, 32, 115, 97, 121, 115, 32]
def byS : List Int32 := [59, 43, 45, 42, 47, 40, 41, 60, 61, 62]
def tuR : List Int32 := [0, 1, -1, -1, -1, -1, 9, -1, 8, 6]
abbrev AT : Type := Nat × (Nat → Nat) × (Nat → Nat)
def EN (τ : AT) (A : Nat → Prop) (U : State) (H : Heap) : Prop :=
  va_Z "HiccupLane$Numbers" "TURNED" "[I" (.ref τ.1) A U H ∧ va_T .int τ.1 10 (fun j => .int (tuR.getD j 0)) A U H ∧
  vk_S 2 [132, 10] [byW, byS] τ.2.1 τ.2.2 A U H ∧ vk_R RX6 80 txW (τ.2.1 0) U ∧ vk_R RX6 68 txS (τ.2.1 1) U ∧
  va_Z "java/lang/String" "COMPACT_STRINGS" "Z" (.int 1) A U H ∧ va_Zq "jdk/internal/util/Preconditions" "SIOOBE_FORMATTER" "Ljava/util/function/BiFunction;" A U H
def TS : List Cond := lw_tbl.filter goodWord
theorem TS_of {w : Cond} (i : Nat) (h : tables_1[i]? = some w) (hg : goodWord w = true) : w ∈ TS := List.mem_filter.mpr ⟨List.mem_append_right _ (List.mem_of_getElem? h), hg⟩
theorem TS_sel {y : MethodName} {n i : Nat} (h : lw_privs[i]? = some (y, n)) (hg : goodWord (.selects y.cls y y) = true) : Cond.selects y.cls y y ∈ TS := List.mem_filter.mpr ⟨List.mem_append_left _ (List.mem_map.mpr ⟨(y, n), List.mem_of_getElem? h, rfl⟩), hg⟩
theorem TS_good : ∀ w ∈ TS, (w.onTables && w.keeps) = true ∨ ∃ ty, w = .arrayClass ty := fun w h => good_of_word (List.mem_filter.mp h).2
theorem TS_goodIn {y : MethodName} {cc : ByteArray} {n : Nat} {r : Option FieldType} (h : Cond.code y cc n r ∈ TS) {big : List Cond} (hb : ∀ w ∈ TS, w ∈ big) : GoodIn big (Cond.code y cc n r :: TS) := by
  intro w hw
  have hw : w ∈ TS := by
    rcases List.mem_cons.mp hw with rfl | q
    · exact h
    · exact q
  exact ⟨hb w hw, TS_good w hw⟩
/-- (p, l, e, R, s), (m, args, below, meth, c), (dC, dI), ρ, (cI, cZ, cR), g, τ, (answer, memory) -/
abbrev AZ : Type := (Program × Launch × Env × Room × State) × (MethodId × Array Value × List Frame × Method × Code) × va_G × (Nat → Nat) × (ClassId × ClassId × ClassId) × Nat × AT × (Option Value × Mem)
def aQ (D : va_G) (ρ : Nat → Nat) (cA : ClassId × ClassId × ClassId) (g : Nat) (rv : Option Value) (σ' : Mem) : Array Value → State → Outcome → State → Prop := fun _ st oc t => oc = .returned rv ∧ va_P D vwCl (wv ρ cA g σ') t.heap ∧ va_F (rg ρ g) st t
def asc (L : List (Option Value)) : List (Nat × Value) := (List.range L.length).filterMap (fun i => match L[i]? with
  | some (some v) => if v.category = 1 then some (i, v) else none
  | _ => none)
theorem asc_mem {L : List (Option Value)} {i : Nat} {v : Value} : (i, v) ∈ asc L ↔ L[i]? = some (some v) ∧ v.category = 1 := by
  unfold asc
  rw [List.mem_filterMap]
  constructor
  · rintro ⟨j, hj, h⟩
    split at h
    · next w hw =>
      split at h
      · next hc =>
        simp only [Option.some.injEq, Prod.mk.injEq] at h
        obtain ⟨rfl, rfl⟩ := h
        exact ⟨hw, hc⟩
      · cases h
    · cases h
  · rintro ⟨h, hc⟩
    have hl : i < L.length := (List.getElem?_eq_some_iff.mp h).1
    exact ⟨i, by simpa using hl, by rw [h]; simp [hc]⟩
theorem asc_at {ls : Array Slot} {nL : Nat} {L : List (Option Value)} (h : lv_has ls nL (asc L)) {i : Nat} {v : Value} (hi : L[i]? = some (some v)) (hc : v.category = 1) : ls[i]? = some (.val v) := h.2.2 (i, v) (asc_mem.mpr ⟨hi, hc⟩)
theorem asc_set {ls : Array Slot} {nL : Nat} {L L' : List (Option Value)} {i : Nat} {v : Value} (hL : L.set i (some v) = L') (h : lv_has ls nL ((i, v) :: (asc L).filter (fun q => !(q.1 == i) && !(q.1 + 1 == i && q.2.category == 2)))) : lv_has ls nL (asc L') := by
  refine ⟨h.1, h.2.1, fun q hq => ?_⟩
  obtain ⟨j, w⟩ := q
  subst hL
  obtain ⟨h1, h2⟩ := asc_mem.mp hq
  rw [List.getElem?_set] at h1
  split at h1
  · next hij =>
    subst hij
    split at h1
    · simp only [Option.some.injEq] at h1
      subst h1
      exact h.2.2 _ List.mem_cons_self
    · cases h1
  · next hij =>
    refine h.2.2 (j, w) (List.mem_cons_of_mem _ (List.mem_filter.mpr ⟨asc_mem.mpr ⟨h1, h2⟩, ?_⟩))
    have : ¬ j = i := fun q => hij q.symm
    simp [h2, this]
def AW (Z : AZ) (σ : Mem) (pc : Nat) (L : List (Option Value)) (st : List Value) : Prop :=
  ∀ (H : Heap) (locs : List Loc) (ls : Array Slot), va_P Z.2.2.1 vwCl (wv Z.2.2.2.1 Z.2.2.2.2.1 Z.2.2.2.2.2.1 σ) H → va_S (rg Z.2.2.2.1 Z.2.2.2.2.2.1) Z.1.2.2.2.2.heap H locs → lv_has ls Z.2.1.2.2.2.2.maxLocals (asc L) →
    W Z.1.1 Z.1.2.1 Z.1.2.2.1 Z.1.2.2.2.1 Z.1.2.2.2.2 Z.2.1.1 Z.2.1.2.1 Z.2.1.2.2.1 Z.2.1.2.2.2.1 Z.2.1.2.2.2.2 H locs 0 0 (MQ Z.2.1.2.2.1 (aQ Z.2.2.1 Z.2.2.2.1 Z.2.2.2.2.1 Z.2.2.2.2.2.1 Z.2.2.2.2.2.2.2.1 Z.2.2.2.2.2.2.2.2) Z.2.1.2.1 Z.1.2.2.2.2 0 0 (rg Z.2.2.2.1 Z.2.2.2.2.2.1)) (F0 Z.2.1.1 pc ls st)
/-- what a walk knows: exec, code, locals, own class, the words, the return's type, the worlds -/
def AX (Z : AZ) (cc : ByteArray) (nL : Nat) (own : String) (ret : Option FieldType) (g fr : Nat) : Prop :=
  Z.1.1.tables.exec = Jvm.exec ∧ Z.2.1.2.2.2.2.code = cc ∧ Z.2.1.2.2.2.2.maxLocals = nL ∧ Z.1.2.2.2.2.vm.findClass own = some Z.2.1.1.cls ∧ (∀ w ∈ TS, w.before Z.2.1.2.1 Z.1.2.2.2.2 = true) ∧ Z.2.1.2.2.2.1.sig.returnType = ret ∧ Z.2.1.2.2.2.1.locks = false ∧
  va_K Z.2.2.1 vwCl (tysOf Z.2.2.2.2.1) Z.1.2.2.2.2 ∧ inj Z.2.2.2.1 g ∧ Z.2.2.2.2.2.1 = g ∧ EN Z.2.2.2.2.2.2.1 (rg Z.2.2.2.1 g) Z.1.2.2.2.2 Z.1.2.2.2.2.heap ∧ Z.1.2.2.2.1 = { frames := fr, cells := 0, slots := 0, locals := 64 * fr }
