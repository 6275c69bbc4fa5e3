/-! ===== contracts over memories; calls ===== -/
def AM (l : Launch) (D : va_G) (ρ : Nat → Nat) (cA : ClassId × ClassId × ClassId) (g : Nat) (τ : AT) (y : MethodName) (cc : ByteArray) (nL : Nat) (ret : Option FieldType) (fr : Nat) (as : List Value) (rv : Option Value) (σ σ' : Mem) : Prop :=
  Met l y (Cond.code y cc nL ret :: TS) { frames := fr, cells := 0, slots := 0, locals := 64 * fr } (va_Pc as (fun U => va_P D vwCl (wv ρ cA g σ) U.heap ∧ va_K D vwCl (tysOf cA) U ∧ inj ρ g ∧ EN τ (rg ρ g) U U.heap)) (aQ D ρ cA g rv σ') 0 0 (rg ρ g)
theorem EN.moved {τ : AT} {A : Nat → Prop} {u U : State} {H : Heap} (hW : u.WarmedH U.vm) (h : EN τ A u H) : EN τ A U H :=
  ⟨h.1.moved hW.alike, h.2.1.moved hW.alike, h.2.2.1.moved hW.alike, h.2.2.2.1.warm hW, h.2.2.2.2.1.warm hW, h.2.2.2.2.2.1.moved hW.alike, h.2.2.2.2.2.2.moved hW.alike⟩
theorem EN.kept {τ : AT} {A : Nat → Prop} {U : State} {H H1 : Heap} (h : EN τ A U H) (hq : ∀ a : Nat, a < H.size → ¬ A a → H1[a]? = H[a]?) : EN τ A U H1 :=
  ⟨h.1.kept hq, h.2.1.kept hq, h.2.2.1.kept hq, h.2.2.2.1, h.2.2.2.2.1, h.2.2.2.2.2.1.kept hq, h.2.2.2.2.2.2.kept hq⟩
theorem EN.same {τ : AT} {A : Nat → Prop} {u U : State} {H : Heap} (hv : U.vm = u.vm) (h : EN τ A u H) : EN τ A U H :=
  ⟨h.1.moved (by rw [hv]; exact Vm.Alike.refl _), h.2.1.moved (by rw [hv]; exact Vm.Alike.refl _), h.2.2.1.moved (by rw [hv]; exact Vm.Alike.refl _), h.2.2.2.1.same hv, h.2.2.2.2.1.same hv, h.2.2.2.2.2.1.moved (by rw [hv]; exact Vm.Alike.refl _), h.2.2.2.2.2.2.moved (by rw [hv]; exact Vm.Alike.refl _)⟩
theorem asc_args {ls : Array Slot} {nL : Nat} : ∀ (as : List Value) (i : Nat), (∀ v ∈ as, v.category = 1) → (∀ q ∈ lv_args i as, ls[q.1]? = some (.val q.2)) → ∀ (j : Nat) (v : Value), as[j]? = some v → ls[i + j]? = some (.val v)
  | [], _, _, _, j, v, h => by simp at h
  | a :: as, i, hc, hq, j, v, h => by
    have ha : a.category = 1 := hc a List.mem_cons_self
    cases j with
    | zero =>
      simp only [List.getElem?_cons_zero, Option.some.injEq] at h
      subst h
      exact hq (i, a) (by simp [lv_args])
    | succ j =>
      simp only [List.getElem?_cons_succ] at h
      have := asc_args (ls := ls) (nL := nL) as (i + 1) (fun v hv => hc v (List.mem_cons_of_mem _ hv)) (fun q h' => hq q (by
        rw [lv_args, if_neg (by omega)]
        exact List.mem_cons_of_mem _ h')) j v h
      rw [show i + (j + 1) = i + 1 + j by omega]
      exact this
theorem AM_of {l : Launch} {D : va_G} {ρ : Nat → Nat} {cA : ClassId × ClassId × ClassId} {g : Nat} {τ : AT} {y : MethodName} {cc : ByteArray} {nL : Nat} {ret : Option FieldType} {fr : Nat} {as : List Value} {rv : Option Value} {σ σ' : Mem} {L : List (Option Value)}
    (hy : plainName y.cls = true) (hc : ∀ v ∈ as, v.category = 1) (hn : as.length ≤ nL) (hL : ∀ (j : Nat) (v : Value), L[j]? = some (some v) → as[j]? = some v)
    (body : ∀ Z : AZ, AX Z cc nL y.cls ret g fr → zr Z = ρ → zres Z = (rv, σ') → Z.2.2.2.2.2.2.1 = τ → AW Z σ 0 L []) : AM l D ρ cA g τ y cc nL ret fr as rv σ σ' := by
  refine Met.ofW (cc := cc) (maxL := nL) (ret := ret) hy rfl ?_
  intro p e s m args below meth c s₁ B hml hv
  obtain ⟨rfl, hP, hK, hi, hE⟩ := hv
  have hts := atoms_spec (ws := Cond.code y cc nL ret :: TS) B.pre
  have K := body ((p, l, e, { frames := fr, cells := 0, slots := 0, locals := 64 * fr }, s), (m, as.toArray, below, meth, c), D, ρ, cA, g, τ, (rv, σ'))
    ⟨B.exec, B.bytes, hml, findClass_of_methodNamed B.named, fun w h => hts w (List.mem_cons_of_mem _ h), B.returns, B.notSynchronized, hK, hi, rfl, hE, rfl⟩ rfl rfl rfl
  have hsl : (lg_sl as).length = as.length := by
    have aux : ∀ as : List Value, (∀ v ∈ as, v.category = 1) → (lg_sl as).length = as.length := by
      intro as hc
      induction as with
      | nil => rfl
      | cons a t ih =>
        have h1 : a.category = 1 := hc a List.mem_cons_self
        have h2 := ih (fun v h => hc v (List.mem_cons_of_mem _ h))
        simp only [lg_sl, List.flatMap_cons, List.length_append] at h2 ⊢
        rw [h2, if_neg (by omega)]
        simp; omega
    exact aux as hc
  have hl := lv_entry as (n := nL) (by omega)
  rw [lg_entry_eq]
  refine K s.heap [] _ hP va_S.rf ?_
  show lv_has _ c.maxLocals (asc L)
  rw [hml]
  refine ⟨hl.1, hl.2.1, fun q hq => ?_⟩
  obtain ⟨j, v⟩ := q
  obtain ⟨h1, -⟩ := asc_mem.mp hq
  have := asc_args (nL := nL) as 0 hc hl.2.2 j v (hL j v h1)
  simpa using this
/-- the words of a call -/
def CV (own : String) (idx : Nat) (y : MethodName) (cc : ByteArray) (nL : Nat) (ret : Option FieldType) (n : Nat) : Prop :=
  Cond.methodLink own idx y ∈ TS ∧ Cond.instanceMethod y ∈ TS ∧ Cond.selects y.cls y y ∈ TS ∧ Cond.initialized y.cls ∈ TS ∧ Cond.code y cc nL ret ∈ TS ∧
  (y.cls ≠ "java/lang/invoke/MethodHandle" ∧ y.cls ≠ "java/lang/invoke/VarHandle" ∧ (parseMethodDescriptor y.desc).map (fun d => d.parameters.length) = some n)
def CS (own : String) (idx : Nat) (y : MethodName) (cc : ByteArray) (nL : Nat) (ret : Option FieldType) (n : Nat) : Prop :=
  Cond.methodLink own idx y ∈ TS ∧ Cond.static y ∈ TS ∧ Cond.initialized y.cls ∈ TS ∧ Cond.code y cc nL ret ∈ TS ∧
  (y.cls ≠ "java/lang/invoke/MethodHandle" ∧ y.cls ≠ "java/lang/invoke/VarHandle" ∧ (parseMethodDescriptor y.desc).map (fun d => d.parameters.length) = some n)
section AWC
variable {Z : AZ} {σ σ' : Mem} {pc nL g fr fr' : Nat} {L L' : List (Option Value)} {st st' : List Value} {cc cc' : ByteArray} {own : String} {ret ret' : Option FieldType} {x y v : Int32} {i k n nL' idx b ci : Nat} {As : List Value} {rv : Option Value}
theorem aw_run {a : Array Value} {H : Heap} {locs : List Loc} {ls : Array Slot} (X : AX Z cc nL own ret g fr)
    (hr : va_Run Z.1.1 Z.1.2.1 Z.1.2.2.1 Z.1.2.2.2.1 Z.1.2.2.2.2 Z.2.1.1 Z.2.1.2.1 Z.2.1.2.2.1 Z.2.1.2.2.2.1 Z.2.1.2.2.2.2 H locs 0 0 0 0 (F0 Z.2.1.1 pc ls st') st (aQ Z.2.2.1 Z.2.2.2.1 Z.2.2.2.2.1 Z.2.2.2.2.2.1 rv σ' a) (rg Z.2.2.2.1 Z.2.2.2.2.2.1))
    (hS : va_S (rg Z.2.2.2.1 Z.2.2.2.2.2.1) Z.1.2.2.2.2.heap H locs) (hv : lv_has ls Z.2.1.2.2.2.2.maxLocals (asc L)) (K : AW Z σ' (pc + 3) L (rv.toList ++ st)) :
    W Z.1.1 Z.1.2.1 Z.1.2.2.1 Z.1.2.2.2.1 Z.1.2.2.2.2 Z.2.1.1 Z.2.1.2.1 Z.2.1.2.2.1 Z.2.1.2.2.2.1 Z.2.1.2.2.2.2 H locs 0 0 (MQ Z.2.1.2.2.1 (aQ Z.2.2.1 Z.2.2.2.1 Z.2.2.2.2.1 Z.2.2.2.2.2.1 Z.2.2.2.2.2.2.2.1 Z.2.2.2.2.2.2.2.2) Z.2.1.2.1 Z.1.2.2.2.2 0 0 (rg Z.2.2.2.1 Z.2.2.2.2.2.1)) (F0 Z.2.1.1 pc ls st') := by
  intro T hT Y
  obtain ⟨v, st₀, t, T', Lq, h0, Y', hL, e1, e2, ⟨hv1, hP1, hz, hk⟩, go⟩ := hr T hT Y
  cases hv1
  rw [h0] at hz hk
  obtain ⟨t2, a1, b1⟩ := K T'.heap (locs ++ Lq) ls (by rw [e1]; exact hP1)
    ⟨Nat.le_trans hS.1 (by rw [e1]; exact hz), fun q h1 h2 => by rw [e1, hk q (Nat.lt_of_lt_of_le h1 hS.1) h2]; exact hS.2.1 q h1 h2, fun q hq => by
      rcases List.mem_append.mp hq with h | h
      · exact hS.2.2 q h
      · exact hL q h⟩ hv T' rfl Y'
  exact ⟨t2, go t2 a1, b1⟩
theorem aw_pre (X : AX Z cc nL own ret g fr) {H : Heap} {locs : List Loc} (hP : va_P Z.2.2.1 vwCl (wv Z.2.2.2.1 Z.2.2.2.2.1 Z.2.2.2.2.2.1 σ) H) (hS : va_S (rg Z.2.2.2.1 Z.2.2.2.2.2.1) Z.1.2.2.2.2.heap H locs) {as : List Value} :
    PreS Z.1.2.2.2.2 H (va_Pc as (fun U => va_P Z.2.2.1 vwCl (wv Z.2.2.2.1 Z.2.2.2.2.1 Z.2.2.2.2.2.1 σ) U.heap ∧ va_K Z.2.2.1 vwCl (tysOf Z.2.2.2.2.1) U ∧ inj Z.2.2.2.1 Z.2.2.2.2.2.1 ∧ EN Z.2.2.2.2.2.2.1 (rg Z.2.2.2.1 Z.2.2.2.2.2.1) U U.heap)) as := by
  have hg := X.2.2.2.2.2.2.2.2.2.1
  subst hg
  refine ⟨fun a U gg mk q => ?_, fun U hU hW => ⟨rfl, by rw [hU]; exact hP, va_K.moved hW.alike X.2.2.2.2.2.2.2.1, X.2.2.2.2.2.2.2.2.1, ?_⟩⟩
  · obtain ⟨q0, qP, qK, qi, qE⟩ := q
    exact ⟨q0, qP, va_K.moved (u := U) (U := U.calling gg mk a) (Vm.Alike.refl U.vm) qK, qi, EN.same (u := U) (U := U.calling gg mk a) rfl qE⟩
  · rw [hU]
    exact EN.moved hW (EN.kept X.2.2.2.2.2.2.2.2.2.2.1 hS.2.1)
theorem aw_callB {yn : MethodName} (X : AX Z cc nL own ret g fr) (h1 : Cond.methodLink own idx yn ∈ TS) (h4 : Cond.initialized yn.cls ∈ TS) (h5 : Cond.code yn cc' nL' ret' ∈ TS)
    (h6 : yn.cls ≠ "java/lang/invoke/MethodHandle" ∧ yn.cls ≠ "java/lang/invoke/VarHandle" ∧ (parseMethodDescriptor yn.desc).map (fun d => d.parameters.length) = some n) (hfr : fr' + 1 ≤ fr) (hnl : nL' ≤ 45) :
    CallB Z.1.2.2.2.1 Z.1.2.2.2.2 Z.2.1.2.1 own idx yn cc' nL' ret' (Cond.code yn cc' nL' ret' :: TS) { frames := fr', cells := 0, slots := 0, locals := 64 * fr' } 0 0 n :=
  callB_of (Ts := TS) n X.2.2.2.2.1 (TS_goodIn h5 (fun _ h => h)) rfl rfl rfl (X.2.2.2.2.1 _ h4) (X.2.2.2.2.1 _ h1) h6 (by
    rw [X.2.2.2.2.2.2.2.2.2.2.2]
    exact ⟨hfr, by dsimp only; omega⟩)
theorem aw_callV {yn : MethodName} (X : AX Z cc nL own ret g fr) (hd : decode cc pc = .ok (.invokevirtual idx, 3)) (hw : CV own idx yn cc' nL' ret' n)
    (hM : AM Z.1.2.1 Z.2.2.1 Z.2.2.2.1 Z.2.2.2.2.1 g Z.2.2.2.2.2.2.1 yn cc' nL' ret' fr' (.ref (zr Z b) :: As) rv σ σ')
    (ho : IO g b ci) (hcl : (vwCl[ci]?).map (fun q => q.1) = some yn.cls) (hfr : fr' + 1 ≤ fr) (hnl : nL' ≤ 45) (hn : As.length = n) (hst : st' = As.reverse ++ .ref (zr Z b) :: st) (hcat : (st.map fun v => v.category).sum ≤ 8)
    (K : AW Z σ' (pc + 3) L (rv.toList ++ st)) : AW Z σ pc L st' := by
  intro H locs ls hP hS hv
  have hg := X.2.2.2.2.2.2.2.2.2.1
  subst hg
  obtain ⟨h1, h2, h3, h4, h5, h6⟩ := hw
  have hml := hv.1
  subst hst
  obtain ⟨q, hq, hq1⟩ : ∃ q, vwCl[ci]? = some q ∧ q.1 = yn.cls := by simpa [Option.map_eq_some_iff] using hcl
  have hpre := aw_pre X hP hS (as := .ref (zr Z b) :: As)
  refine aw_run X (va_runV (Ts := TS) (nL := nL) (C := yn.cls) (As := As) (b := zr Z b) ⟨X.1, X.2.1, X.2.2.1, X.2.2.2.1, X.2.2.2.2.1⟩ hM ⟨aw_callB X h1 h4 h5 h6 hfr hnl, X.2.2.2.2.1 _ h2, X.2.2.2.2.1 _ h3⟩ ⟨hpre.1, ?_, hpre.2⟩ rfl hn (by rw [← X.2.2.1]; exact hml) rfl (lv_room hcat) hd ⟨by omega, by omega⟩) hS hv K
  obtain ⟨cell, c1, c2, c3⟩ := va_recv X.2.2.2.2.2.2.2.1 hP hq (by rw [wv_get ho.1, ce_obj ho.2])
  exact ⟨cell, c1, c2, by rw [← hq1]; exact c3⟩
theorem aw_callS {yn : MethodName} (X : AX Z cc nL own ret g fr) (hd : decode cc pc = .ok (.invokestatic idx, 3)) (hw : CS own idx yn cc' nL' ret' n)
    (hM : AM Z.1.2.1 Z.2.2.1 Z.2.2.2.1 Z.2.2.2.2.1 g Z.2.2.2.2.2.2.1 yn cc' nL' ret' fr' As rv σ σ')
    (hfr : fr' + 1 ≤ fr) (hnl : nL' ≤ 45) (hn : As.length = n) (hst : st' = As.reverse ++ st) (hcat : (st.map fun v => v.category).sum ≤ 8)
    (K : AW Z σ' (pc + 3) L (rv.toList ++ st)) : AW Z σ pc L st' := by
  intro H locs ls hP hS hv
  have hg := X.2.2.2.2.2.2.2.2.2.1
  subst hg
  obtain ⟨h1, h2, h4, h5, h6⟩ := hw
  have hml := hv.1
  subst hst
  have hpre := aw_pre X hP hS (as := As)
  exact aw_run X (va_runS (Ts := TS) (nL := nL) (As := As) ⟨X.1, X.2.1, X.2.2.1, X.2.2.2.1, X.2.2.2.2.1⟩ hM ⟨aw_callB X h1 h4 h5 h6 hfr hnl, X.2.2.2.2.1 _ h2⟩ hpre rfl hn (by rw [← X.2.2.1]; exact hml) rfl (lv_room hcat) hd ⟨by omega, by omega⟩) hS hv K
end AWC
