/-! ===== the two objects are made ===== -/
def blX11 : List Value := [.null, .null, .int 0, .null, .null, .int 0, .int 0, .null, .null]
theorem df_RX11 : ∀ j, j < 9 → defaultValue (tyX11 j) = vp_V blX11 j := fun j hj => match j, hj with
  | 0, _ => rfl
  | 1, _ => rfl
  | 2, _ => rfl
  | 3, _ => rfl
  | 4, _ => rfl
  | 5, _ => rfl
  | 6, _ => rfl
  | 7, _ => rfl
  | 8, _ => rfl
  | k + 9, h => absurd h (by omega)
def blX12 : List Value := [.int 0, .null, .null, .int 0, .null, .int 0, .int 0, .null, .null, .int 0, .int 0, .int 0, .int 0, .int 0, .null, .null, .null, .null, .null, .null, .null, .null, .int 0, .int 0, .int 0, .null, .int 0, .int 0, .int 0, .int 0, .int 0, .int 0, .null, .int 0, .null, .int 0, .null, .null, .null, .null, .int 0, .null, .int 0, .null, .null, .null, .int 0, .null, .null, .null, .null, .null, .int 0, .null, .null, .int 0, .null, .null, .null, .int 0, .null, .int 0, .int 0, .int 0, .null]
theorem df_RX12 : ∀ j, j < 65 → defaultValue (tyX12 j) = vp_V blX12 j := fun j hj => match j, hj with
  | 0, _ => rfl
  | 1, _ => rfl
  | 2, _ => rfl
  | 3, _ => rfl
  | 4, _ => rfl
  | 5, _ => rfl
  | 6, _ => rfl
  | 7, _ => rfl
  | 8, _ => rfl
  | 9, _ => rfl
  | 10, _ => rfl
  | 11, _ => rfl
  | 12, _ => rfl
  | 13, _ => rfl
  | 14, _ => rfl
  | 15, _ => rfl
  | 16, _ => rfl
  | 17, _ => rfl
  | 18, _ => rfl
  | 19, _ => rfl
  | 20, _ => rfl
  | 21, _ => rfl
  | 22, _ => rfl
  | 23, _ => rfl
  | 24, _ => rfl
  | 25, _ => rfl
  | 26, _ => rfl
  | 27, _ => rfl
  | 28, _ => rfl
  | 29, _ => rfl
  | 30, _ => rfl
  | 31, _ => rfl
  | 32, _ => rfl
  | 33, _ => rfl
  | 34, _ => rfl
  | 35, _ => rfl
  | 36, _ => rfl
  | 37, _ => rfl
  | 38, _ => rfl
  | 39, _ => rfl
  | 40, _ => rfl
  | 41, _ => rfl
  | 42, _ => rfl
  | 43, _ => rfl
  | 44, _ => rfl
  | 45, _ => rfl
  | 46, _ => rfl
  | 47, _ => rfl
  | 48, _ => rfl
  | 49, _ => rfl
  | 50, _ => rfl
  | 51, _ => rfl
  | 52, _ => rfl
  | 53, _ => rfl
  | 54, _ => rfl
  | 55, _ => rfl
  | 56, _ => rfl
  | 57, _ => rfl
  | 58, _ => rfl
  | 59, _ => rfl
  | 60, _ => rfl
  | 61, _ => rfl
  | 62, _ => rfl
  | 63, _ => rfl
  | 64, _ => rfl
  | k + 65, h => absurd h (by omega)
set_option maxRecDepth 100000 in
theorem nw_RL_7 : Cond.classLink RL 7 RX11 ∈ TS ∧ Cond.instantiable RX11 9 ∈ TS ∧ Cond.initialized RX11 ∈ TS := ⟨(TS_p1 22 rfl rfl), (TS_p1 23 rfl rfl), (TS_p1 1 rfl rfl)⟩
set_option maxRecDepth 100000 in
theorem nw_RL_10 : Cond.classLink RL 10 RX12 ∈ TS ∧ Cond.instantiable RX12 65 ∈ TS ∧ Cond.initialized RX12 ∈ TS := ⟨(TS_p6 58 rfl rfl), (TS_p6 59 rfl rfl), (TS_p1 13 rfl rfl)⟩
set_option maxRecDepth 100000 in
theorem ci_RL_9 : CI RL 9 yX11_init cX11_init 2 0 := ⟨(TS_p1 24 rfl rfl), (TS_p1 25 rfl rfl), (TS_p1 1 rfl rfl), (TS_p1 26 rfl rfl), rfl, ⟨by decide, by decide, by decide +kernel⟩⟩
set_option maxRecDepth 100000 in
theorem ci_RL_12 : CI RL 12 yX12_init cX12_init 1 0 := ⟨(TS_p6 60 rfl rfl), (TS_p6 61 rfl rfl), (TS_p1 13 rfl rfl), (TS_p6 62 rfl rfl), rfl, ⟨by decide, by decide, by decide +kernel⟩⟩
theorem lw_make {p : Program} {l : Launch} {e : Env} {s : State} {m : MethodId} {below : List Frame} {meth : Method} {c : Code} {b LL0 : Nat} {xs : Nat → Int32} (C0 : lw_At p s m meth c b LL0 xs) {D : va_G} {cA : ClassId × ClassId × ClassId} (hK : va_K D vwCl (tysOf cA) s) (hO : va_AO RX0 s)
    {pc idxN idxI ci : Nat} {Cn : String} {Tn : u_T} {Nn : Nat} {fs : List Value} {yn : MethodName} {cc' : ByteArray} {nL' fr' C' N' : Nat} {e2 : Nat → va_E} {T2 : Nat → CH} {Q : State → Prop}
    (d0 : decode code pc = .ok (.new idxN, 3)) (d1 : decode code (pc + 3) = .ok (.dup, 1)) (d2 : decode code (pc + 3 + 1) = .ok (.invokespecial idxI, 3))
    (hc : vwCl[ci]? = some (Cn, Tn, Nn)) (hin : ∀ w ∈ u_ws Cn Tn Nn, w ∈ TS) (ty : Nat → FieldType) (hty : ∀ k, k < Nn → parseFieldDescriptor (Tn k).2.2.1 = some (ty k))
    (hw : Cond.classLink RL idxN Cn ∈ TS ∧ Cond.instantiable Cn Nn ∈ TS ∧ Cond.initialized Cn ∈ TS) (hfs : ∀ j, j < Nn → defaultValue (ty j) = vp_V fs j)
    (hci : CI RL idxI yn cc' nL' 0) (hM : ∀ q B, CM l D cA yn cc' nL' fr' C' N' [] q B (.inr (ci, fs)) (e2 B) (T2 B)) (hfr : fr' ≤ 400) (hnl : nL' ≤ 45)
    {H : Heap} {locs : List Loc} {cells slots : Nat} {ls : Array Slot} {st : List Value} (hS : va_S (fun q => s.heap.size ≤ q) s.heap H locs) (hcs : cells + 1 + C' ≤ 600000) (hns : slots + Nn + N' ≤ 7302250) (hls : ls.size = 4) (hcat : (st.map fun v => v.category).sum ≤ 4)
    (K : ∀ (H' : Heap) (locs' : List Loc), H'.size = H.size + 1 + (T2 (H.size + 1)).length → va_at D vwCl (H.size, e2 (H.size + 1)) H' → (∀ (k : Nat) (x : va_E), (T2 (H.size + 1))[k]? = some x → va_at D vwCl (H.size + 1 + k, x) H') → (∀ a : Nat, a < H.size → H'[a]? = H[a]?) → va_S (fun q => s.heap.size ≤ q) s.heap H' locs' →
      W p l e room_1 s m #[Value.ref b] below meth c H' locs' (cells + 1 + C') (slots + Nn + N') Q (F0 m (pc + 3 + 1 + 3) ls (.ref H.size :: st))) :
    W p l e room_1 s m #[Value.ref b] below meth c H locs cells slots Q (F0 m pc ls st) := by
  obtain ⟨hx, hb, hr0, hml, hown, hl, hX, hbl, hlocks, hgv⟩ := id C0
  have hts : ∀ w ∈ TS, w.before #[Value.ref b] s = true := fun w h => hl w (List.mem_filter.mp h).1
  have hKn := hK.1 ci _ hc
  refine W.newcK hx hb hown (hts _ hw.1) (hts _ hw.2.1) (hts _ hw.2.2) rfl d0 (by show _ ≤ 600000; omega) (by show _ ≤ 7302250; omega) hKn.2.1 rfl fun H1 kC hkC e1 z1 o1 => ?_
  have hx1 : va_at D vwCl (H.size, .inr (ci, fs)) H1 := ⟨_, hc, (u_born ty hts hin hKn hkC e1 hty).to hfs⟩
  refine W.eq (g2 := F0 m (pc + 3) ls (.ref H.size :: st)) rfl ?_
  refine lv_dup hx hb d1 rfl ?_
  obtain ⟨h1, h2, h4, h5, hin', h6⟩ := hci
  have hpre : PreS s H1 (va_Pc (.ref H.size :: []) (fun U => H.size < H.size + 1 ∧ cR D H.size (H.size + 1) (.inr (ci, fs)) [] U.heap ∧ va_K D vwCl (tysOf cA) U ∧ va_AO RX0 U)) (.ref H.size :: []) := by
    refine ⟨fun a U gg mk qq => ?_, fun U hU hW => ⟨rfl, by omega, ⟨by rw [hU]; exact z1, by rw [hU]; exact hx1, fun k x h => by simp at h⟩, va_K.moved hW.alike hK, va_AO.moved hW.alike hO⟩⟩
    obtain ⟨q0, qa, qP, qK, qO⟩ := qq
    exact ⟨q0, qa, qP, va_K.moved (u := U) (U := U.calling gg mk a) (Vm.Alike.refl U.vm) qK, va_AO.moved (u := U) (U := U.calling gg mk a) (Vm.Alike.refl U.vm) qO⟩
  have hcb : CallB room_1 s #[Value.ref b] RL idxI yn cc' nL' none (Cond.code yn cc' nL' none :: TS) { frames := fr', cells := C', slots := N', locals := 64 * fr' } C' N' 0 :=
    callB_of (Ts := TS) 0 hts (TS_goodIn h5 (fun _ h => h)) rfl rfl rfl (hts _ h4) (hts _ h1) h6 (by
      unfold room_1
      exact ⟨by dsimp only; omega, by dsimp only; omega⟩)
  have hc2 : ((Value.ref H.size :: st).map fun v => v.category).sum ≤ 8 := by
    rw [List.map_cons, List.sum_cons]
    have : (Value.ref H.size).category = 1 := rfl
    omega
  have hr := va_runI (Ts := TS) (nL := 4) (As := []) (b := H.size) (rest := .ref H.size :: st) (locs := locs) (cells := cells + 1) (slots := slots + Nn) (e := e) (below := below) (meth := meth) (g := F0 m (pc + 3 + 1) ls (.ref H.size :: .ref H.size :: st)) ⟨hx, hb, hml, hown, hts⟩ (hM H.size (H.size + 1)) ⟨hcb, hin', hts _ h2⟩ hpre rfl rfl hls rfl (lv_room hc2) d2 ⟨by show _ ≤ 600000; omega, by show _ ≤ 7302250; omega⟩
  intro S hT Y
  obtain ⟨v', st₀, t, S', Lq, h0, Y', hL, e1', e2', ⟨hv1, hP1, hz, hk⟩, go⟩ := hr S hT Y
  cases hv1
  rw [h0] at hz hk
  have hz2 : t.heap.size = H.size + 1 + (T2 (H.size + 1)).length := hP1.1
  have hs0 : s.heap.size ≤ H.size := hS.1
  obtain ⟨t2, a1, b1⟩ := K S'.heap (locs ++ Lq) (by rw [e1']; exact hz2) (by rw [e1']; exact hP1.2.1) (fun k x hx => by rw [e1']; exact hP1.2.2 k x hx)
    (fun a ha => by
      rw [e1', hk a (by omega) (fun q => by rcases q with q | q <;> omega)]
      exact o1 a ha)
    ⟨by rw [e1', hz2]; omega, fun a g1 g2 => by
      rw [e1', hk a (by omega) (fun q => by rcases q with q | q <;> omega), o1 a (by omega)]
      exact hS.2.1 a g1 g2, fun a ha => by
      rcases List.mem_append.mp ha with h | h
      · exact hS.2.2 a h
      · rcases hL a h with q | q
        · have : a.base = H.size := q
          show s.heap.size ≤ a.base
          omega
        · have : H.size + 1 ≤ a.base := q
          show s.heap.size ≤ a.base
          omega⟩ S' rfl Y'
  exact ⟨t2, go t2 a1, b1⟩
