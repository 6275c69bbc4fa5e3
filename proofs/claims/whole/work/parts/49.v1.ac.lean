/-! ===== constructors: an object at q, new cells from B on ===== -/
abbrev CH : Type := List va_E
def cws : Nat → CH → va_W
  | _, [] => []
  | b, e :: t => (b, e) :: cws (b + 1) t
theorem cws_get : ∀ (b : Nat) (t : CH) (k : Nat), (cws b t)[k]? = (t[k]?).map (fun e => (b + k, e))
  | b, [], k => by simp [cws]
  | b, e :: t, 0 => by simp [cws]
  | b, e :: t, k + 1 => by
    rw [cws, List.getElem?_cons_succ, List.getElem?_cons_succ, cws_get (b + 1) t k, show b + 1 + k = b + (k + 1) by omega]
def cN (A : Nat → Prop) (q B : Nat) : Nat → Prop := fun a => a = q ∨ B ≤ a
/-- the world of a constructor: the object at q, the new cells from B on -/
def cR (D : va_G) (q B : Nat) (e : va_E) (T : CH) (H : Heap) : Prop := H.size = B + T.length ∧ va_at D vwCl (q, e) H ∧ ∀ (k : Nat) (x : va_E), T[k]? = some x → va_at D vwCl (B + k, x) H
def cF (q B : Nat) : Nat → Prop := fun a => a = q ∨ B ≤ a
def cQ (D : va_G) (q B : Nat) (e : va_E) (T : CH) : Array Value → State → Outcome → State → Prop := fun _ st oc t => oc = .returned none ∧ cR D q B e T t.heap ∧ va_F (cF q B) st t
abbrev CZ : Type := (Program × Launch × Env × Room × State) × (MethodId × Array Value × List Frame × Method × Code) × va_G × (ClassId × ClassId × ClassId) × (Nat × Nat × va_E × CH) × (Nat × Nat)
def AC (Z : CZ) (e : va_E) (T : CH) (c n : Nat) (pc : Nat) (L : List (Option Value)) (st : List Value) : Prop :=
  ∀ (H : Heap) (locs : List Loc) (ls : Array Slot), cR Z.2.2.1 Z.2.2.2.2.1.1 Z.2.2.2.2.1.2.1 e T H → va_S (cF Z.2.2.2.2.1.1 Z.2.2.2.2.1.2.1) Z.1.2.2.2.2.heap H locs → lv_has ls Z.2.1.2.2.2.2.maxLocals (asc L) →
    W Z.1.1 Z.1.2.1 Z.1.2.2.1 Z.1.2.2.2.1 Z.1.2.2.2.2 Z.2.1.1 Z.2.1.2.1 Z.2.1.2.2.1 Z.2.1.2.2.2.1 Z.2.1.2.2.2.2 H locs c n (MQ Z.2.1.2.2.1 (cQ Z.2.2.1 Z.2.2.2.2.1.1 Z.2.2.2.2.1.2.1 Z.2.2.2.2.1.2.2.1 Z.2.2.2.2.1.2.2.2) Z.2.1.2.1 Z.1.2.2.2.2 Z.2.2.2.2.2.1 Z.2.2.2.2.2.2 (cF Z.2.2.2.2.1.1 Z.2.2.2.2.1.2.1)) (F0 Z.2.1.1 pc ls st)
def cq (Z : CZ) : Nat := Z.2.2.2.2.1.1
def cB (Z : CZ) : Nat := Z.2.2.2.2.1.2.1
def cI (Z : CZ) : ClassId := Z.2.2.2.1.1
def cZ (Z : CZ) : ClassId := Z.2.2.2.1.2.1
def cQr (Z : CZ) : ClassId := Z.2.2.2.1.2.2
def AXC (Z : CZ) (cc : ByteArray) (nL : Nat) (own : String) (fr C N : Nat) : Prop :=
  Z.1.1.tables.exec = Jvm.exec ∧ Z.2.1.2.2.2.2.code = cc ∧ Z.2.1.2.2.2.2.maxLocals = nL ∧ Z.1.2.2.2.2.vm.findClass own = some Z.2.1.1.cls ∧ (∀ w ∈ TS, w.before Z.2.1.2.1 Z.1.2.2.2.2 = true) ∧ Z.2.1.2.2.2.1.sig.returnType = none ∧ Z.2.1.2.2.2.1.locks = false ∧
  va_K Z.2.2.1 vwCl (tysOf Z.2.2.2.1) Z.1.2.2.2.2 ∧ cq Z < cB Z ∧ Z.1.2.2.2.2.heap.size = cB Z ∧ Z.1.2.2.2.1 = { frames := fr, cells := C, slots := N, locals := 64 * fr } ∧ Z.2.1.2.2.2.1.name = "<init>" ∧ Z.2.2.2.2.2.1 = C ∧ Z.2.2.2.2.2.2 = N ∧ va_AO RX0 Z.1.2.2.2.2
section AC
variable {Z : CZ} {e : va_E} {T : CH} {pc nL fr C N c n : Nat} {L L' : List (Option Value)} {st : List Value} {cc : ByteArray} {own : String} {x y v : Int32} {i k idx : Nat}
theorem ac_iload_n {k : Fin 4} {w : Int32} (X : AXC Z cc nL own fr C N) (hd : decode cc pc = .ok (.iload_n k, 1)) (hl : L[(k : Nat)]? = some (some (.int w))) (K : AC Z e T c n (pc + 1) L (.int w :: st)) : AC Z e T c n pc L st :=
  fun H locs ls hP hS hv => lv_iload_n X.1 X.2.1 hd rfl (asc_at hv hl rfl) (K H locs ls hP hS hv)
theorem ac_aload_n {k : Fin 4} {w : Nat} (X : AXC Z cc nL own fr C N) (hd : decode cc pc = .ok (.aload_n k, 1)) (hl : L[(k : Nat)]? = some (some (.ref w))) (K : AC Z e T c n (pc + 1) L (.ref w :: st)) : AC Z e T c n pc L st :=
  fun H locs ls hP hS hv => lv_aload_n X.1 X.2.1 hd rfl (asc_at hv hl rfl) (K H locs ls hP hS hv)
theorem ac_istore_n {k : Fin 4} {w : Int32} (X : AXC Z cc nL own fr C N) (hd : decode cc pc = .ok (.istore_n k, 1)) (hn : (k : Nat) < nL) (hl : L.set k (some (.int w)) = L') (K : AC Z e T c n (pc + 1) L' st) : AC Z e T c n pc L (.int w :: st) :=
  fun H locs ls hP hS hv => lv_istore_n X.1 X.2.1 hd rfl hv (by rw [X.2.2.1]; exact hn) rfl (fun ls' hv' => K H locs ls' hP hS (asc_set hl hv'))
theorem ac_iinc {d : Int} (X : AXC Z cc nL own fr C N) (hd : decode cc pc = .ok (.iinc i d, 3)) (hi : L[i]? = some (some (.int x))) (hv : x + Int32.ofInt d = v) (hn : i < nL) (hl : L.set i (some (.int v)) = L') (K : AC Z e T c n (pc + 3) L' st) : AC Z e T c n pc L st :=
  fun H locs ls hP hS hv' => by
    obtain ⟨k, hk⟩ := asc_idx hv' hi
    exact lv_iinc X.1 X.2.1 hd hv' hk hv (by rw [X.2.2.1]; exact hn) rfl (fun ls' hv' => K H locs ls' hP hS (asc_set hl hv'))
theorem ac_iconst {d : Int} (X : AXC Z cc nL own fr C N) (hd : decode cc pc = .ok (.iconst d, 1)) (hv : Int32.ofInt d = v) (K : AC Z e T c n (pc + 1) L (.int v :: st)) : AC Z e T c n pc L st :=
  fun H locs ls hP hS hv' => lv_iconst X.1 X.2.1 hd hv (K H locs ls hP hS hv')
theorem ac_bipush {d : Int} (X : AXC Z cc nL own fr C N) (hd : decode cc pc = .ok (.bipush d, 2)) (hv : (Int8.ofInt d).toInt32 = v) (K : AC Z e T c n (pc + 2) L (.int v :: st)) : AC Z e T c n pc L st :=
  fun H locs ls hP hS hv' => lv_bipush X.1 X.2.1 hd hv (K H locs ls hP hS hv')
theorem ac_sipush {d : Int} (X : AXC Z cc nL own fr C N) (hd : decode cc pc = .ok (.sipush d, 3)) (hv : (Int16.ofInt d).toInt32 = v) (K : AC Z e T c n (pc + 3) L (.int v :: st)) : AC Z e T c n pc L st :=
  fun H locs ls hP hS hv' => lv_sipush X.1 X.2.1 hd hv (K H locs ls hP hS hv')
theorem ac_dup {w : Value} (X : AXC Z cc nL own fr C N) (hd : decode cc pc = .ok (.dup, 1)) (hc : w.category = 1) (K : AC Z e T c n (pc + 1) L (w :: w :: st)) : AC Z e T c n pc L (w :: st) :=
  fun H locs ls hP hS hv => lv_dup X.1 X.2.1 hd hc (K H locs ls hP hS hv)
theorem ac_icmp_ge {off : Int} {tgt : Nat} (X : AXC Z cc nL own fr C N) (hd : decode cc pc = .ok (.if_icmp .ge off, 3)) (ht : (pc : Int) + off = (tgt : Int)) (hc : ¬ y ≤ x) (K : AC Z e T c n (pc + 3) L st) : AC Z e T c n pc L (.int y :: .int x :: st) :=
  fun H locs ls hP hS hv => lv_icmp_ge X.1 X.2.1 hd ht (fun q => absurd q hc) (fun q => K H locs ls hP hS hv)
theorem ac_icmp_geT {off : Int} {tgt : Nat} (X : AXC Z cc nL own fr C N) (hd : decode cc pc = .ok (.if_icmp .ge off, 3)) (ht : (pc : Int) + off = (tgt : Int)) (hc : y ≤ x) (K : AC Z e T c n tgt L st) : AC Z e T c n pc L (.int y :: .int x :: st) :=
  fun H locs ls hP hS hv => lv_icmp_ge X.1 X.2.1 hd ht (fun q => K H locs ls hP hS hv) (fun q => absurd hc q)
theorem ac_goto {off : Int} {tgt : Nat} (X : AXC Z cc nL own fr C N) (hd : decode cc pc = .ok (.goto off, 3)) (ht : (pc : Int) + off = (tgt : Int)) (K : AC Z e T c n tgt L st) : AC Z e T c n pc L st :=
  fun H locs ls hP hS hv => lv_goto X.1 X.2.1 hd ht (K H locs ls hP hS hv)
theorem ac_mmax (X : AXC Z cc nL own fr C N) (hf : 1 ≤ fr) (hC : c ≤ C) (hN : n ≤ N) (hd : decode cc pc = .ok (.invokestatic idx, 3)) (hw : Cond.methodLink own idx Lib.Math.max.name ∈ TS ∧ Cond.static Lib.Math.max.name ∈ TS ∧ Cond.initialized "java/lang/Math" ∈ TS ∧ Cond.code Lib.Math.max.name Lib.Math.max.code 2 (some .int) ∈ TS) (hc : decide ((st.map fun v => v.category).sum ≤ 40) = true)
    (K : AC Z e T c n (pc + 3) L (.int (jmmax x y) :: st)) : AC Z e T c n pc L (.int y :: .int x :: st) :=
  fun H locs ls hP hS hv => va_mmax X.1 X.2.1 hv.1.symm X.2.2.2.1 (X.2.2.2.2.1 _ hw.1) (X.2.2.2.2.1 _ hw.2.1) (X.2.2.2.2.1 _ hw.2.2.1) (X.2.2.2.2.1 _ hw.2.2.2)
    (by rw [X.2.2.2.2.2.2.2.2.2.2.1]; exact hf) (by rw [X.2.2.2.2.2.2.2.2.2.2.1]; have := of_decide_eq_true hc; dsimp only; omega) (by rw [X.2.2.2.2.2.2.2.2.2.2.1]; exact hC) (by rw [X.2.2.2.2.2.2.2.2.2.2.1]; exact hN) hd (K H locs ls hP hS hv)
theorem ac_obji (X : AXC Z cc nL own fr C N) (hf : 1 ≤ fr) (hw : Cond.methodLink own idx Lib.objectInit ∈ TS ∧ Cond.instanceMethod Lib.objectInit ∈ TS ∧ Cond.code Lib.objectInit ⟨#[0xb1]⟩ 1 none ∈ TS) (hd : decode cc pc = .ok (.invokespecial idx, 3)) {a : Nat} (K : AC Z e T c n (pc + 3) L []) : AC Z e T c n pc L [.ref a] :=
  fun H locs ls hP hS hv => W.objInit X.1 X.2.1 X.2.2.2.1 (X.2.2.2.2.1 _ hw.1) (X.2.2.2.2.1 _ hw.2.1) (X.2.2.2.2.1 _ hw.2.2) rfl hv.1 rfl hd (by rw [X.2.2.2.2.2.2.2.2.2.2.1]; exact hf) (by
    rw [X.2.2.2.2.2.2.2.2.2.2.1]
    show 2 * 0 + 0 + 12 ≤ 64 * fr
    omega) (K H locs ls hP hS hv)
theorem cR_old {D : va_G} {q B : Nat} {H H1 : Heap} (hR : cR D q B e T H) (hq : q < B) (ho : ∀ a : Nat, a < H.size → H1[a]? = H[a]?) : va_at D vwCl (q, e) H1 ∧ ∀ (k : Nat) (x : va_E), T[k]? = some x → va_at D vwCl (B + k, x) H1 := by
  refine ⟨hR.2.1.kept (ho q (by have := hR.1; omega)), fun k x hx => ?_⟩
  have hk : k < T.length := (List.getElem?_eq_some_iff.mp hx).1
  exact (hR.2.2 k x hx).kept (ho (B + k) (by have := hR.1; omega))
theorem cR_push {D : va_G} {q B : Nat} {H H1 : Heap} {x : va_E} (hR : cR D q B e T H) (hq : q < B) (ho : ∀ a : Nat, a < H.size → H1[a]? = H[a]?) (hz : H1.size = H.size + 1) (hx : va_at D vwCl (H.size, x) H1) : cR D q B e (T ++ [x]) H1 := by
  obtain ⟨h1, h2⟩ := cR_old hR hq ho
  refine ⟨by rw [hz, hR.1, List.length_append]; rfl, h1, fun k y hy => ?_⟩
  by_cases hk : k < T.length
  · rw [List.getElem?_append_left hk] at hy
    exact h2 k y hy
  · rw [List.getElem?_append_right (by omega)] at hy
    have hz : k - T.length < 1 := (List.getElem?_eq_some_iff.mp hy).1
    have hk2 : k = T.length := by omega
    subst hk2
    simp at hy
    subst hy
    rw [← hR.1]
    exact hx
theorem cS_push {q B : Nat} {H0 H H1 : Heap} {locs : List Loc} (hS : va_S (cF q B) H0 H locs) (ho : ∀ a : Nat, a < H.size → H1[a]? = H[a]?) (hz : H1.size = H.size + 1) : va_S (cF q B) H0 H1 locs :=
  ⟨Nat.le_trans hS.1 (by omega), fun a h1 h2 => (ho a (Nat.lt_of_lt_of_le h1 hS.1)).trans (hS.2.1 a h1 h2), hS.2.2⟩
theorem ac_new {ci : Nat} {Cn : String} {Tn : u_T} {Nn : Nat} {fs : List Value} (X : AXC Z cc nL own fr C N) (hd : decode cc pc = .ok (.new idx, 3)) (hc : vwCl[ci]? = some (Cn, Tn, Nn)) (hin : ∀ w ∈ u_ws Cn Tn Nn, w ∈ TS) (ty : Nat → FieldType) (hty : ∀ k, k < Nn → parseFieldDescriptor (Tn k).2.2.1 = some (ty k))
    (hw : Cond.classLink own idx Cn ∈ TS ∧ Cond.instantiable Cn Nn ∈ TS ∧ Cond.initialized Cn ∈ TS) (hfs : ∀ j, j < Nn → defaultValue (ty j) = vp_V fs j) (hC : c + 1 ≤ C) (hN : n + Nn ≤ N)
    (K : AC Z e (T ++ [.inr (ci, fs)]) (c + 1) (n + Nn) (pc + 3) L (.ref (cB Z + T.length) :: st)) : AC Z e T c n pc L st := by
  intro H locs ls hP hS hv
  have hKn := X.2.2.2.2.2.2.2.1.1 ci _ hc
  refine W.newcK X.1 X.2.1 X.2.2.2.1 (X.2.2.2.2.1 _ hw.1) (X.2.2.2.2.1 _ hw.2.1) (X.2.2.2.2.1 _ hw.2.2) rfl hd (by rw [X.2.2.2.2.2.2.2.2.2.2.1]; exact hC) (by rw [X.2.2.2.2.2.2.2.2.2.2.1]; exact hN) hKn.2.1 rfl fun H1 kC hkC e1 z1 o1 => ?_
  have hx : va_at Z.2.2.1 vwCl (H.size, .inr (ci, fs)) H1 := ⟨_, hc, (u_born ty X.2.2.2.2.1 hin hKn hkC e1 hty).to hfs⟩
  have hsz : H.size = cB Z + T.length := hP.1
  refine W.eq (g2 := F0 Z.2.1.1 (pc + 3) ls (.ref (cB Z + T.length) :: st)) (by rw [← hsz]) ?_
  exact K H1 locs ls (cR_push hP X.2.2.2.2.2.2.2.2.1 o1 z1 hx) (cS_push hS o1 z1) hv
theorem ac_newa {at0 : ArrayType} {ty : FieldType} {m : Nat} {cA0 : ClassId} (X : AXC Z cc nL own fr C N) (hd : decode cc pc = .ok (.newarray at0, 2)) (hty : newarray.typeOf at0 = ty) (hw : Cond.arrayClass ty ∈ TS) (hk : Z.1.2.2.2.2.vm.findClass ("[" ++ ty.toString) = some cA0)
    (hdf : defaultValue ty = .int 0) (hn : ¬ x < 0 ∧ x.toNatClampNeg = m ∧ m * componentBytes ty ≤ 536870912) (hC : c + 1 ≤ C) (hN : n + m ≤ N)
    (K : AC Z e (T ++ [.inl (cA0, m, .inl (fun _ => 0))]) (c + 1) (n + m) (pc + 2) L (.ref (cB Z + T.length) :: st)) : AC Z e T c n pc L (.int x :: st) := by
  intro H locs ls hP hS hv
  subst hty
  refine va_newaK X.1 X.2.1 (X.2.2.2.2.1 _ hw) rfl hd rfl hn.1 hn.2.1 hn.2.2 (by rw [X.2.2.2.2.2.2.2.2.2.2.1]; exact hC) (by rw [X.2.2.2.2.2.2.2.2.2.2.1]; exact hN) rfl fun H1 cA e1 z1 o1 hAr hNm => ?_
  have hcA : cA = cA0 := Option.some.inj (hNm.symm.trans hk)
  subst hcA
  have hx : va_at Z.2.2.1 vwCl (H.size, .inl (cA, m, .inl (fun _ => 0))) H1 := by
    show H1[H.size]? = some (vp_cell _ _)
    rw [vp_cell_i, e1, hdf]
  have hsz : H.size = cB Z + T.length := hP.1
  refine W.eq (g2 := F0 Z.2.1.1 (pc + 2) ls (.ref (cB Z + T.length) :: st)) (by rw [← hsz]) ?_
  exact K H1 locs ls (cR_push hP X.2.2.2.2.2.2.2.2.1 o1 z1 hx) (cS_push hS o1 z1) hv
theorem ac_newai {m : Nat} (X : AXC Z cc nL own fr C N) (hd : decode cc pc = .ok (.newarray .int, 2)) (hw : Cond.arrayClass .int ∈ TS) (hn : ¬ x < 0 ∧ x.toNatClampNeg = m ∧ m * componentBytes .int ≤ 536870912) (hC : c + 1 ≤ C) (hN : n + m ≤ N)
    (K : AC Z e (T ++ [.inl (cI Z, m, .inl (fun _ => 0))]) (c + 1) (n + m) (pc + 2) L (.ref (cB Z + T.length) :: st)) : AC Z e T c n pc L (.int x :: st) :=
  ac_newa X hd rfl hw (X.2.2.2.2.2.2.2.1.2 0 _ rfl).2 rfl hn hC hN K
theorem ac_newaz {m : Nat} (X : AXC Z cc nL own fr C N) (hd : decode cc pc = .ok (.newarray .boolean, 2)) (hw : Cond.arrayClass .boolean ∈ TS) (hn : ¬ x < 0 ∧ x.toNatClampNeg = m ∧ m * componentBytes .boolean ≤ 536870912) (hC : c + 1 ≤ C) (hN : n + m ≤ N)
    (K : AC Z e (T ++ [.inl (cZ Z, m, .inl (fun _ => 0))]) (c + 1) (n + m) (pc + 2) L (.ref (cB Z + T.length) :: st)) : AC Z e T c n pc L (.int x :: st) :=
  ac_newa X hd rfl hw (X.2.2.2.2.2.2.2.1.2 1 _ rfl).2 rfl hn hC hN K
theorem ac_newq {m : Nat} (X : AXC Z cc nL own fr C N) (hd : decode cc pc = .ok (.anewarray idx, 3)) (hw : Cond.classLink own idx RX0 ∈ TS) (hn : ¬ x < 0 ∧ x.toNatClampNeg = m ∧ m * 4 ≤ 536870912) (hC : c + 1 ≤ C) (hN : n + m ≤ N)
    (K : AC Z e (T ++ [.inl (cQr Z, m, .inr (.inr (.inr (.inr (fun _ => none)))))]) (c + 1) (n + m) (pc + 3) L (.ref (cB Z + T.length) :: st)) : AC Z e T c n pc L (.int x :: st) := by
  intro H locs ls hP hS hv
  obtain ⟨hn1, hn2, hn3⟩ := hn
  subst hn2
  have hover := X.2.2.2.2.2.2.2.2.2.2.2.2.2.2
  refine W.anew X.1 X.2.1 X.2.2.2.1 (X.2.2.2.2.1 _ hw) (va_AO.use hover) rfl hd rfl hn1 hn3 (by rw [X.2.2.2.2.2.2.2.2.2.2.1]; exact hC) (by rw [X.2.2.2.2.2.2.2.2.2.2.1]; exact hN) fun cA kA comp f1 f2 f3 f4 => ?_
  generalize hH1 : H.push ({ cls := cA, slots := Array.replicate x.toNatClampNeg .null, vm := .none } : Cell) = H1
  have z1 : H1.size = H.size + 1 := by rw [← hH1, Array.size_push]
  have e1 : H1[H.size]? = some (arrV cA x.toNatClampNeg (fun _ => .null)) := by rw [← hH1, Array.getElem?_push_size, ← arrV_new]
  have o1 : ∀ q : Nat, q < H.size → H1[q]? = H[q]? := fun q hq => by rw [← hH1, Array.getElem?_push, if_neg (Nat.ne_of_lt hq)]
  obtain ⟨kA', comp', g1, g2, g3, g4⟩ := (X.2.2.2.2.2.2.2.1.2 2 _ rfl).2
  have hcA : cA = cQr Z := Option.some.inj (f1.symm.trans g4)
  subst hcA
  have hx : va_at Z.2.2.1 vwCl (H.size, .inl (cQr Z, x.toNatClampNeg, .inr (.inr (.inr (.inr (fun _ => none)))))) H1 := by
    show H1[H.size]? = some (vp_cell _ _)
    rw [vp_cell_q]
    exact e1
  have hsz : H.size = cB Z + T.length := hP.1
  refine W.eq (g2 := F0 Z.2.1.1 (pc + 3) ls (.ref (cB Z + T.length) :: st)) (by rw [← hsz]) ?_
  exact K H1 locs ls (cR_push hP X.2.2.2.2.2.2.2.2.1 o1 z1 hx) (cS_push hS o1 z1) hv
end AC
def FPC (own : String) (idx ci j : Nat) (ty : FieldType) (fin : Bool) : Prop := ∃ (C : String) (T : u_T) (N : Nat) (ty0 : Nat → FieldType), vwCl[ci]? = some (C, T, N) ∧ j < N ∧ (∀ w ∈ u_ws C T N, w ∈ TS) ∧ Cond.fieldLink own idx (T j).1 (T j).2.1 (T j).2.2.1 ∈ TS ∧
  (∀ k, k < N → parseFieldDescriptor (T k).2.2.1 = some (ty0 k)) ∧ (∀ a, a < N → ∀ b, b < N → a ≠ b → (T a).2.1 ≠ (T b).2.1) ∧ (T j).2.2.2 = fin ∧ parseFieldDescriptor (T j).2.2.1 = some ty ∧ (T j).1 = own
theorem cR_set0 {D : va_G} {q B : Nat} {H H1 : Heap} {e e1 : va_E} {T : CH} (hR : cR D q B e T H) (hq : q < B) (hx : va_at D vwCl (q, e1) H1) (hz : H1.size = H.size) (ho : ∀ a : Nat, a ≠ q → H1[a]? = H[a]?) : cR D q B e1 T H1 :=
  ⟨hz.trans hR.1, hx, fun k x h => (hR.2.2 k x h).kept (ho (B + k) (by omega))⟩
theorem cR_setT {D : va_G} {q B j : Nat} {H H1 : Heap} {e e1 : va_E} {T : CH} (hR : cR D q B e T H) (hq : q < B) (hx : va_at D vwCl (B + j, e1) H1) (hz : H1.size = H.size) (ho : ∀ a : Nat, a ≠ B + j → H1[a]? = H[a]?) : cR D q B e (T.set j e1) H1 := by
  refine ⟨by rw [hz, hR.1, List.length_set], hR.2.1.kept (ho q (by omega)), fun k x h => ?_⟩
  rw [List.getElem?_set] at h
  split at h
  · next hjk =>
    subst hjk
    split at h
    · cases h; exact hx
    · cases h
  · next hjk => exact (hR.2.2 k x h).kept (ho (B + k) (by omega))
section AC3
variable {Z : CZ} {e : va_E} {T : CH} {pc nL fr C N c n : Nat} {L L' : List (Option Value)} {st : List Value} {cc : ByteArray} {own : String} {x y : Int32} {i k idx : Nat}
theorem ac_put {ci j : Nat} {fs : List Value} {ty : FieldType} {v : Value} (X : AXC Z cc nL own fr C N) (hd : decode cc pc = .ok (.putfield idx, 3)) (hf : FPC own idx ci j ty false) (hn : narrow ty v = v) (hfit : fits ty v = true) (hl : j < fs.length) {fs' : List Value} (hs : fs.set j v = fs')
    (K : AC Z (.inr (ci, fs')) T c n (pc + 3) L st) : AC Z (.inr (ci, fs)) T c n pc L (v :: .ref (cq Z) :: st) := by
  intro H locs ls hP hS hv
  subst hs
  obtain ⟨Cn, Tn, Nn, ty0, hc, hk, hin, hlk, hty, hnm, hfin, hpd, hdecl⟩ := hf
  have hK := X.2.2.2.2.2.2.2.1
  have hap := va_apart (own := own) X.2.2.2.2.1 hin ty0 hty hnm hK hc
  obtain ⟨r, h1, cell, q1, q2, q3, q4⟩ := hP.2.1
  have hr : r = (Cn, Tn, Nn) := Option.some.inj (h1.symm.trans hc)
  subst hr
  obtain ⟨hSl, hfc, kC, hkC, hkind⟩ := hK.1 ci _ hc
  obtain ⟨cf, kf, fi, f, hi, hsl⟩ := hSl j hk
  have hlay := X.2.2.2.2.1 _ (hin _ (u_in_lay hk))
  unfold u_lay at hlay
  rw [if_neg (by rw [hfin]; decide)] at hlay
  have hst := (u_facts hfc hkC (u_lays X.2.2.2.2.1 hin hk) hi).1
  have h6 := u_store hfc hkC hkind hlay hi hpd hn hfit
  refine W.putK X.1 X.2.1 (f := f) ⟨X.2.2.2.1, X.2.2.2.2.1 _ hlk, ⟨_, _, _, hi⟩, hst⟩ (by rw [q2]; exact h6) q1 q3 (by rw [hsl]; exact k2_hasslot (q4 j hk)) rfl rfl hd fun H' e1 e2 e3 => ?_
  rw [hsl] at e1 ⊢
  exact K H' _ ls (cR_set0 hP X.2.2.2.2.2.2.2.2.1 ⟨_, hc, t_OB.to (V := updV (vp_V fs) j v) ⟨_, e1, q2, q3, t_set q4 hap hk v⟩ (fun j' _ => vp_updV_set hl v j')⟩ e2 e3) (hS.put e2 e3 (Or.inl rfl)) hv
theorem ac_putF {ci j : Nat} {fs : List Value} {ty : FieldType} {v : Value} (X : AXC Z cc nL own fr C N) (hd : decode cc pc = .ok (.putfield idx, 3)) (hf : FPC own idx ci j ty true) (hn : narrow ty v = v) (hfit : fits ty v = true) (hl : j < fs.length) {fs' : List Value} (hs : fs.set j v = fs')
    (K : AC Z (.inr (ci, fs')) T c n (pc + 3) L st) : AC Z (.inr (ci, fs)) T c n pc L (v :: .ref (cq Z) :: st) := by
  intro H locs ls hP hS hv
  subst hs
  obtain ⟨Cn, Tn, Nn, ty0, hc, hk, hin, hlk, hty, hnm, hfin, hpd, hdecl⟩ := hf
  have hK := X.2.2.2.2.2.2.2.1
  have hap := va_apart (own := own) X.2.2.2.2.1 hin ty0 hty hnm hK hc
  obtain ⟨r, h1, cell, q1, q2, q3, q4⟩ := hP.2.1
  have hr : r = (Cn, Tn, Nn) := Option.some.inj (h1.symm.trans hc)
  subst hr
  obtain ⟨hSl, hfc, kC, hkC, hkind⟩ := hK.1 ci _ hc
  obtain ⟨cf, kf, fi, f, hi, hsl⟩ := hSl j hk
  have hlay := X.2.2.2.2.1 _ (hin _ (u_in_lay hk))
  unfold u_lay at hlay
  rw [if_pos hfin] at hlay
  have hst := (u_facts hfc hkC (u_lays X.2.2.2.2.1 hin hk) hi).1
  have hcf : Z.2.1.1.cls = cf := by
    obtain ⟨_, _, c', _, _, _, -, -, hf', -, -, -, hown2, -⟩ := Cond.laysFinal_spec hlay
    have e1 : c' = cf := by have := hi.symm.trans hf'; simp at this; exact this.1.symm
    rw [hdecl] at hown2
    rw [← e1]; exact Option.some.inj (X.2.2.2.1.symm.trans hown2)
  have h6 := u_fits hfc hkC hkind (Or.inr hlay) hi hpd hn hfit
  refine W.putFinK X.1 X.2.1 X.2.2.2.1 (X.2.2.2.2.1 _ hlk) hi hst hcf X.2.2.2.2.2.2.2.2.2.2.2.1 (by rw [q2]; exact h6) q1 q3 (by rw [hsl]; exact k2_hasslot (q4 j hk)) rfl rfl hd fun H' e1 e2 e3 => ?_
  rw [hsl] at e1 ⊢
  exact K H' _ ls (cR_set0 hP X.2.2.2.2.2.2.2.2.1 ⟨_, hc, t_OB.to (V := updV (vp_V fs) j v) ⟨_, e1, q2, q3, t_set q4 hap hk v⟩ (fun j' _ => vp_updV_set hl v j')⟩ e2 e3) (hS.put e2 e3 (Or.inl rfl)) hv
theorem ac_iast {j m : Nat} {f : Nat → Int32} {T' : CH} (X : AXC Z cc nL own fr C N) (hd : decode cc pc = .ok (.iastore, 1)) (hj : T[j]? = some (.inl (cI Z, m, .inl f))) (hin : ¬ (x < 0 ∨ m ≤ x.toNatClampNeg)) (hT : T.set j (.inl (cI Z, m, .inl (upd f x.toNatClampNeg y))) = T')
    (K : AC Z e T' c n (pc + 1) L st) : AC Z e T c n pc L (.int y :: .int x :: .ref (cB Z + j) :: st) := by
  intro H locs ls hP hS hv
  subst hT
  have hK := X.2.2.2.2.2.2.2.1
  refine W.iast X.1 X.2.1 (hP.2.2 j _ hj) ((hK.2 0 _ rfl).1 m (fun j => .int (f j))) (fun q => by cases q) (by show ¬ (x < 0 ∨ (arrV _ _ _).slots.size ≤ _); rw [arrV_size]; exact hin) rfl rfl hd fun H1 e0 z oq => ?_
  refine K H1 _ ls (cR_setT hP X.2.2.2.2.2.2.2.2.1 ?_ z oq) (hS.put z oq (Or.inr (Nat.le_add_right _ _))) hv
  refine e0.trans ?_
  show some (Cell.setSlot (vp_cell _ _) _ _) = some (vp_cell _ _)
  rw [vp_cell_i, vp_cell_i, arrV_store]
  congr 2
  funext q
  by_cases hq : q = x.toNatClampNeg
  · subst hq
    simp [updV, upd]
  · simp [updV, upd, hq]
theorem ac_aast {j m j2 : Nat} {fs2 : List Value} {f : Nat → Option Nat} {T' : CH} (X : AXC Z cc nL own fr C N) (hd : decode cc pc = .ok (.aastore, 1)) (hj : T[j]? = some (.inl (cQr Z, m, .inr (.inr (.inr (.inr f)))))) (hj2 : T[j2]? = some (.inr (0, fs2))) (hin : ¬ (x < 0 ∨ m ≤ x.toNatClampNeg)) (hT : T.set j (.inl (cQr Z, m, .inr (.inr (.inr (.inr (va_up f x.toNatClampNeg (some (cB Z + j2)))))))) = T')
    (K : AC Z e T' c n (pc + 1) L st) : AC Z e T c n pc L (.ref (cB Z + j2) :: .int x :: .ref (cB Z + j) :: st) := by
  intro H locs ls hP hS hv
  subst hT
  have hK := X.2.2.2.2.2.2.2.1
  have hlt : x.toNatClampNeg < m := Nat.not_le.mp fun q => hin (Or.inr q)
  have h0 : ¬ x < 0 := fun q => hin (Or.inl q)
  obtain ⟨r', hr', cellV, g1, g2, g3, -⟩ := hP.2.2 j2 _ hj2
  have hcls := (hK.1 0 _ rfl).2
  obtain ⟨kA, comp, k1, k2, k3, -⟩ := (hK.2 2 _ rfl).2
  have hcomp : comp = Z.2.2.1.1 0 := Option.some.inj (k3.symm.trans hcls.1)
  subst hcomp
  obtain ⟨kC, hkC, -⟩ := hcls.2
  refine W.aast X.1 X.2.1 (hP.2.2 j _ hj) (fun q h => by cases h) (fun h => by cases h) k1 k2 rfl hkC ⟨h0, by show _ < (arrV _ _ _).slots.size; rw [arrV_size]; exact hlt⟩ g1 (fun q h => by rw [g3] at h; cases h) (by rw [g2]; exact hkC) (by rw [g2]; exact va_assign hcls) rfl rfl hd fun H1 e0 z oq => ?_
  refine K H1 _ ls (cR_setT hP X.2.2.2.2.2.2.2.2.1 ?_ z oq) (hS.put z oq (Or.inr (Nat.le_add_right _ _))) hv
  refine e0.trans ?_
  show some (Cell.setSlot (vp_cell _ _) _ _) = some (vp_cell _ _)
  rw [vp_cell_q, vp_cell_q, arrV_store]
  congr 2
  funext q
  by_cases hq : q = x.toNatClampNeg
  · subst hq
    simp [updV, va_up, va_rf]
    rfl
  · simp [updV, va_up, hq]
theorem ac_get {ci j : Nat} {fs : List Value} {v : Value} (X : AXC Z cc nL own fr C N) (hd : decode cc pc = .ok (.getfield idx, 3)) (hf : FL own idx ci j) (hv : fs[j]? = some v) (K : AC Z (.inr (ci, fs)) T c n (pc + 3) L (v :: st)) : AC Z (.inr (ci, fs)) T c n pc L (.ref (cq Z) :: st) := by
  intro H locs ls hP hS hv'
  obtain ⟨C, Tn, Nn, hc, hj, hin, hlk⟩ := hf
  exact va_get (ws := [(cq Z, .inr (ci, fs))]) X.1 X.2.1 X.2.2.2.2.1 hin X.2.2.2.1 X.2.2.2.2.2.2.2.1 (fun k q hk => by
    have hz : k < 1 := (List.getElem?_eq_some_iff.mp hk).1
    rw [show k = 0 by omega] at hk
    cases hk
    exact hP.2.1) 0 rfl hc j hj (X.2.2.2.2.1 _ hlk) (fun _ h => h) hv hd (K H locs ls hP hS hv')
theorem ac_vret (X : AXC Z cc nL own fr C N) (hd : decode cc pc = .ok (.return_, 1)) (he : e = Z.2.2.2.2.1.2.2.1) (hT : T = Z.2.2.2.2.1.2.2.2) (hC : c ≤ C) (hN : n ≤ N) : AC Z e T c n pc L [] := by
  intro H locs ls hP hS hv
  have hlk := X.2.2.2.2.2.2.1
  rw [X.2.2.2.2.2.2.2.2.2.2.2.2.1, X.2.2.2.2.2.2.2.2.2.2.2.2.2.1]
  refine W.widen (k := C) (n := N) hC hN ?_
  subst he hT
  exact W.vret X.1 X.2.1 X.2.2.2.2.2.1 (fun t ht hW => ⟨rfl, by rw [ht]; exact hP, hS.F ht⟩) hS.2.2 hd (hlocks := hlk)
/-- a constructor's contract -/
def CM (l : Launch) (D : va_G) (cA : ClassId × ClassId × ClassId) (y : MethodName) (cc : ByteArray) (nL : Nat) (fr C N : Nat) (As : List Value) (q B : Nat) (e0 e : va_E) (T : CH) : Prop :=
  Met l y (Cond.code y cc nL none :: TS) { frames := fr, cells := C, slots := N, locals := 64 * fr } (va_Pc (.ref q :: As) (fun U => q < B ∧ cR D q B e0 [] U.heap ∧ va_K D vwCl (tysOf cA) U ∧ va_AO RX0 U)) (cQ D q B e T) C N (cF q B)
end AC3
theorem CM_of {l : Launch} {D : va_G} {cA : ClassId × ClassId × ClassId} {y : MethodName} {cc : ByteArray} {nL fr C N : Nat} {As : List Value} {q B : Nat} {e0 e : va_E} {T : CH} {L : List (Option Value)}
    (hy : plainName y.cls = true) (hyn : y.name = "<init>") (hc : ∀ v ∈ As, v.category = 1) (hn : As.length + 1 ≤ nL) (hL : ∀ (j : Nat) (v : Value), L[j]? = some (some v) → (Value.ref q :: As)[j]? = some v)
    (body : ∀ Z : CZ, AXC Z cc nL y.cls fr C N → cq Z = q → cB Z = B → Z.2.2.2.1 = cA → Z.2.2.2.2.1.2.2.1 = e → Z.2.2.2.2.1.2.2.2 = T → AC Z e0 [] 0 0 0 L []) : CM l D cA y cc nL fr C N As q B e0 e T := by
  refine Met.ofW (cc := cc) (maxL := nL) (ret := none) hy rfl ?_
  intro p en s m args below meth c s₁ Bd hml hv
  obtain ⟨rfl, hqB, hP, hK, hO⟩ := hv
  have hts := atoms_spec (ws := Cond.code y cc nL none :: TS) Bd.pre
  have K := body ((p, l, en, { frames := fr, cells := C, slots := N, locals := 64 * fr }, s), (m, (Value.ref q :: As).toArray, below, meth, c), D, cA, (q, B, e, T), (C, N))
    ⟨Bd.exec, Bd.bytes, hml, findClass_of_methodNamed Bd.named, fun w h => hts w (List.mem_cons_of_mem _ h), Bd.returns, Bd.notSynchronized, hK, hqB, hP.1, rfl, (name_of_methodNamed Bd.named Bd.method).1.trans hyn, rfl, rfl, hO⟩ rfl rfl rfl rfl rfl
  have hcc : ∀ v ∈ (Value.ref q :: As), v.category = 1 := fun v hv => by
    rcases List.mem_cons.mp hv with rfl | h
    · rfl
    · exact hc v h
  have hsl : (lg_sl (Value.ref q :: As)).length = (Value.ref q :: As).length := by
    have aux : ∀ as : List Value, (∀ v ∈ as, v.category = 1) → (lg_sl as).length = as.length := by
      intro as hc
      induction as with
      | nil => rfl
      | cons a t ih =>
        have h1 : a.category = 1 := hc a List.mem_cons_self
        have h2 := ih (fun v h => hc v (List.mem_cons_of_mem _ h))
        simp only [lg_sl, List.flatMap_cons, List.length_append] at h2 ⊢
        rw [h2, if_neg (by omega)]
        simp; omega
    exact aux _ hcc
  have hl := lv_entry (Value.ref q :: As) (n := nL) (by rw [hsl]; exact hn)
  rw [lg_entry_eq]
  refine K s.heap [] _ hP va_S.rf ?_
  show lv_has _ c.maxLocals (asc L)
  rw [hml]
  refine ⟨hl.1, hl.2.1, fun z hz => ?_⟩
  obtain ⟨j, v⟩ := z
  obtain ⟨h1, -⟩ := asc_mem.mp hz
  have := asc_args (nL := nL) (Value.ref q :: As) 0 hcc hl.2.2 j v (hL j v h1)
  simpa using this
section AC4
variable {Z : CZ} {e e0 e2 : va_E} {T T2 : CH} {pc nL nL' fr fr' C N C' N' c n : Nat} {L : List (Option Value)} {st st' : List Value} {cc cc' : ByteArray} {own : String} {i k idx : Nat} {As : List Value}
def CI (own : String) (idx : Nat) (y : MethodName) (cc : ByteArray) (nL : Nat) (n : Nat) : Prop :=
  Cond.methodLink own idx y ∈ TS ∧ Cond.instanceMethod y ∈ TS ∧ Cond.initialized y.cls ∈ TS ∧ Cond.code y cc nL none ∈ TS ∧ y.name = "<init>" ∧
  (y.cls ≠ "java/lang/invoke/MethodHandle" ∧ y.cls ≠ "java/lang/invoke/VarHandle" ∧ (parseMethodDescriptor y.desc).map (fun d => d.parameters.length) = some n)
theorem ac_init {yn : MethodName} {nA : Nat} (X : AXC Z cc nL own fr C N) (hd : decode cc pc = .ok (.invokespecial idx, 3)) (hw : CI own idx yn cc' nL' nA)
    (hM : CM Z.1.2.1 Z.2.2.1 Z.2.2.2.1 yn cc' nL' fr' C' N' As (cB Z + T.length) (cB Z + (T.length + 1)) e0 e2 T2)
    (hfr : fr' + 1 ≤ fr) (hnl : nL' ≤ 45) (hn : As.length = nA) (hst : st' = As.reverse ++ .ref (cB Z + T.length) :: st) (hcat : (st.map fun v => v.category).sum ≤ 8) (hC : c + C' ≤ C) (hN : n + N' ≤ N)
    (K : AC Z e (T ++ e2 :: T2) (c + C') (n + N') (pc + 3) L st) : AC Z e (T ++ [e0]) c n pc L st' := by
  intro H locs ls hP hS hv
  obtain ⟨h1, h2, h4, h5, hin, h6⟩ := hw
  have hml := hv.1
  subst hst
  have hK := X.2.2.2.2.2.2.2.1
  have hqB : cq Z < cB Z := X.2.2.2.2.2.2.2.2.1
  have hsz : H.size = cB Z + (T.length + 1) := by have := hP.1; rw [List.length_append] at this; exact this
  have he0 : va_at Z.2.2.1 vwCl (cB Z + T.length, e0) H := hP.2.2 T.length e0 (by simp)
  have hpre : PreS Z.1.2.2.2.2 H (va_Pc (.ref (cB Z + T.length) :: As) (fun U => cB Z + T.length < cB Z + (T.length + 1) ∧ cR Z.2.2.1 (cB Z + T.length) (cB Z + (T.length + 1)) e0 [] U.heap ∧ va_K Z.2.2.1 vwCl (tysOf Z.2.2.2.1) U ∧ va_AO RX0 U)) (.ref (cB Z + T.length) :: As) := by
    refine ⟨fun a U gg mk qq => ?_, fun U hU hW => ⟨rfl, by omega, ⟨by rw [hU]; exact hsz, by rw [hU]; exact he0, fun k x h => by simp at h⟩, va_K.moved hW.alike hK, va_AO.moved hW.alike X.2.2.2.2.2.2.2.2.2.2.2.2.2.2⟩⟩
    obtain ⟨q0, qa, qP, qK, qO⟩ := qq
    exact ⟨q0, qa, qP, va_K.moved (u := U) (U := U.calling gg mk a) (Vm.Alike.refl U.vm) qK, va_AO.moved (u := U) (U := U.calling gg mk a) (Vm.Alike.refl U.vm) qO⟩
  have hcb : CallB Z.1.2.2.2.1 Z.1.2.2.2.2 Z.2.1.2.1 own idx yn cc' nL' none (Cond.code yn cc' nL' none :: TS) { frames := fr', cells := C', slots := N', locals := 64 * fr' } C' N' nA :=
    callB_of (Ts := TS) nA X.2.2.2.2.1 (TS_goodIn h5 (fun _ h => h)) rfl rfl rfl (X.2.2.2.2.1 _ h4) (X.2.2.2.2.1 _ h1) h6 (by
      rw [X.2.2.2.2.2.2.2.2.2.2.1]
      exact ⟨hfr, by dsimp only; omega⟩)
  have hr := va_runI (Ts := TS) (nL := nL) (As := As) (b := cB Z + T.length) (rest := st) (locs := locs) (cells := c) (slots := n) (e := Z.1.2.2.1) (below := Z.2.1.2.2.1) (meth := Z.2.1.2.2.2.1) (g := F0 Z.2.1.1 pc ls (As.reverse ++ .ref (cB Z + T.length) :: st)) ⟨X.1, X.2.1, X.2.2.1, X.2.2.2.1, X.2.2.2.2.1⟩ hM ⟨hcb, hin, X.2.2.2.2.1 _ h2⟩ hpre rfl hn (by rw [← X.2.2.1]; exact hml) rfl (lv_room hcat) hd ⟨by rw [X.2.2.2.2.2.2.2.2.2.2.1]; exact hC, by rw [X.2.2.2.2.2.2.2.2.2.2.1]; exact hN⟩
  intro S hT Y
  obtain ⟨v, st₀, t, S', Lq, h0, Y', hL, e1, e2', ⟨hv1, hP1, hz, hk⟩, go⟩ := hr S hT Y
  cases hv1
  rw [h0] at hz hk
  have hz2 : t.heap.size = cB Z + (T.length + 1) + T2.length := hP1.1
  obtain ⟨t2, a1, b1⟩ := K S'.heap (locs ++ Lq) ls (by
      rw [e1]
      refine ⟨by show t.heap.size = cB Z + (T ++ e2 :: T2).length; rw [hz2]; simp; omega, hP.2.1.kept (hk (cq Z) (by omega) (fun q => by rcases q with q | q <;> omega)), fun k x hx => ?_⟩
      by_cases hk1 : k < T.length
      · rw [List.getElem?_append_left hk1] at hx
        exact (hP.2.2 k x (by rw [List.getElem?_append_left hk1]; exact hx)).kept (hk (cB Z + k) (by omega) (fun q => by rcases q with q | q <;> omega))
      · rw [List.getElem?_append_right (by omega)] at hx
        by_cases hk2 : k = T.length
        · subst hk2
          simp at hx
          subst hx
          exact hP1.2.1
        · obtain ⟨j, hj⟩ : ∃ j, k = T.length + 1 + j := ⟨k - T.length - 1, by omega⟩
          subst hj
          rw [show T.length + 1 + j - T.length = j + 1 by omega, List.getElem?_cons_succ] at hx
          have := hP1.2.2 j x hx
          rw [show cB Z + (T.length + 1) + j = cB Z + (T.length + 1 + j) by omega] at this
          exact this)
    ⟨Nat.le_trans hS.1 (by rw [e1]; exact hz), fun a g1 g2 => by
      have hB0 : Z.1.2.2.2.2.heap.size = cB Z := X.2.2.2.2.2.2.2.2.2.1
      rw [e1, hk a (Nat.lt_of_lt_of_le g1 hS.1) (fun q => by rcases q with q | q <;> omega)]; exact hS.2.1 a g1 g2, fun a ha => by
      rcases List.mem_append.mp ha with h | h
      · exact hS.2.2 a h
      · rcases hL a h with q | q
        · exact Or.inr (by have : a.base = cB Z + T.length := q; have e9 : cB Z ≤ a.base := by omega
                           exact e9)
        · exact Or.inr (by have : cB Z + (T.length + 1) ≤ a.base := q; have e9 : cB Z ≤ a.base := by omega
                           exact e9)⟩ hv S' rfl Y'
  exact ⟨t2, go t2 a1, b1⟩
end AC4
section AC5
variable {Z : CZ} {e e0 e2 : va_E} {T T2 : CH} {pc nL nL' fr fr' C N C' N' c n c' n' m m1 k : Nat} {L : List (Option Value)} {st st' : List Value} {cc cc' : ByteArray} {own : String} {idx : Nat} {As : List Value} {x : Int32}
theorem ac_newM {ci : Nat} {Cn : String} {Tn : u_T} {Nn : Nat} {fs : List Value} (hm : T.length = m) (hc' : c + 1 = c') (hn' : n + Nn = n') (X : AXC Z cc nL own fr C N) (hd : decode cc pc = .ok (.new idx, 3)) (hc : vwCl[ci]? = some (Cn, Tn, Nn)) (hin : ∀ w ∈ u_ws Cn Tn Nn, w ∈ TS) (ty : Nat → FieldType) (hty : ∀ k, k < Nn → parseFieldDescriptor (Tn k).2.2.1 = some (ty k))
    (hw : Cond.classLink own idx Cn ∈ TS ∧ Cond.instantiable Cn Nn ∈ TS ∧ Cond.initialized Cn ∈ TS) (hfs : ∀ j, j < Nn → defaultValue (ty j) = vp_V fs j) (hC : c' ≤ C) (hN : n' ≤ N)
    (K : AC Z e (T ++ [.inr (ci, fs)]) c' n' (pc + 3) L (.ref (cB Z + m) :: st)) : AC Z e T c n pc L st := by
  subst hm hc' hn'
  exact ac_new X hd hc hin ty hty hw hfs hC hN K
theorem ac_newaiM (hm : T.length = m) (hc' : c + 1 = c') (hn' : n + k = n') (X : AXC Z cc nL own fr C N) (hd : decode cc pc = .ok (.newarray .int, 2)) (hw : Cond.arrayClass .int ∈ TS) (hn : ¬ x < 0 ∧ x.toNatClampNeg = k ∧ k * componentBytes .int ≤ 536870912) (hC : c' ≤ C) (hN : n' ≤ N)
    (K : AC Z e (T ++ [.inl (cI Z, k, .inl (fun _ => 0))]) c' n' (pc + 2) L (.ref (cB Z + m) :: st)) : AC Z e T c n pc L (.int x :: st) := by
  subst hm hc' hn'
  exact ac_newai X hd hw hn hC hN K
theorem ac_newazM (hm : T.length = m) (hc' : c + 1 = c') (hn' : n + k = n') (X : AXC Z cc nL own fr C N) (hd : decode cc pc = .ok (.newarray .boolean, 2)) (hw : Cond.arrayClass .boolean ∈ TS) (hn : ¬ x < 0 ∧ x.toNatClampNeg = k ∧ k * componentBytes .boolean ≤ 536870912) (hC : c' ≤ C) (hN : n' ≤ N)
    (K : AC Z e (T ++ [.inl (cZ Z, k, .inl (fun _ => 0))]) c' n' (pc + 2) L (.ref (cB Z + m) :: st)) : AC Z e T c n pc L (.int x :: st) := by
  subst hm hc' hn'
  exact ac_newaz X hd hw hn hC hN K
theorem ac_newqM (hm : T.length = m) (hc' : c + 1 = c') (hn' : n + k = n') (X : AXC Z cc nL own fr C N) (hd : decode cc pc = .ok (.anewarray idx, 3)) (hw : Cond.classLink own idx RX0 ∈ TS) (hn : ¬ x < 0 ∧ x.toNatClampNeg = k ∧ k * 4 ≤ 536870912) (hC : c' ≤ C) (hN : n' ≤ N)
    (K : AC Z e (T ++ [.inl (cQr Z, k, .inr (.inr (.inr (.inr (fun _ => none)))))]) c' n' (pc + 3) L (.ref (cB Z + m) :: st)) : AC Z e T c n pc L (.int x :: st) := by
  subst hm hc' hn'
  exact ac_newq X hd hw hn hC hN K
theorem ac_initM {yn : MethodName} {nA : Nat} (hm : T.length = m) (hm1 : m + 1 = m1) (hc' : c + C' = c') (hn' : n + N' = n') (X : AXC Z cc nL own fr C N) (hd : decode cc pc = .ok (.invokespecial idx, 3)) (hw : CI own idx yn cc' nL' nA)
    (hM : CM Z.1.2.1 Z.2.2.1 Z.2.2.2.1 yn cc' nL' fr' C' N' As (cB Z + m) (cB Z + m1) e0 e2 T2)
    (hfr : fr' + 1 ≤ fr) (hnl : nL' ≤ 45) (hn : As.length = nA) (hst : st' = As.reverse ++ .ref (cB Z + m) :: st) (hcat : (st.map fun v => v.category).sum ≤ 8) (hC : c' ≤ C) (hN : n' ≤ N)
    (K : AC Z e (T ++ e2 :: T2) c' n' (pc + 3) L st) : AC Z e (T ++ [e0]) c n pc L st' := by
  subst hm hm1 hc' hn'
  exact ac_init X hd hw hM hfr hnl hn hst hcat hC hN K
end AC5
section AC6
variable {Z : CZ} {e : va_E} {T : CH} {pc nL fr C N c n m m0 i : Nat} {L : List (Option Value)} {st : List Value} {cc : ByteArray} {own : String} {x y : Int32} {f : Nat → Int32}
theorem ac_iastL (hm : T.length = m0) (X : AXC Z cc nL own fr C N) (hd : decode cc pc = .ok (.iastore, 1)) (hin : ¬ (x < 0 ∨ m ≤ x.toNatClampNeg)) (hi : x.toNatClampNeg = i)
    (K : AC Z e (T ++ [.inl (cI Z, m, .inl (upd f i y))]) c n (pc + 1) L st) : AC Z e (T ++ [.inl (cI Z, m, .inl f)]) c n pc L (.int y :: .int x :: .ref (cB Z + m0) :: st) := by
  subst hm hi
  exact ac_iast (j := T.length) (f := f) (m := m) (T' := T ++ [.inl (cI Z, m, .inl (upd f x.toNatClampNeg y))]) X hd (by simp) hin (by simp) K
end AC6
