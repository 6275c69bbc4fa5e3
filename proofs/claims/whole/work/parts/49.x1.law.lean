/-! ===== the law's walk ===== -/
theorem N_of_int : ∀ k, k < 6 → Int32.ofInt ((k : Nat) : Int) = Int32.ofNat k := by decide
/-- (p, l, e, s), (m, below, meth, c), (b, N, xs), D, cA, where the object lies, where the reference lies, what stands outside, (cells, slots) -/
abbrev LZ : Type := (Program × Launch × Env × State) × (MethodId × List Frame × Method × Code) × (Nat × Nat × (Nat → Int32)) × va_G × (ClassId × ClassId × ClassId) × (Nat → Nat) × (Nat → Nat) × AT × (Nat × Nat)
def LW (Z : LZ) (σ τ : Mem) (pc : Nat) (L : List (Option Value)) (st : List Value) : Prop :=
  ∀ (H : Heap) (locs : List Loc) (ls : Array Slot), va_P Z.2.2.2.1 vwCl (wv Z.2.2.2.2.2.1 Z.2.2.2.2.1 0 σ) H → va_P Z.2.2.2.1 vwCl (wv Z.2.2.2.2.2.2.1 Z.2.2.2.2.1 1 τ) H → va_S (fun q : Nat => Z.1.2.2.2.heap.size ≤ q) Z.1.2.2.2.heap H locs → lv_has ls 4 (asc L) →
    W Z.1.1 Z.1.2.1 Z.1.2.2.1 room_1 Z.1.2.2.2 Z.2.1.1 #[Value.ref Z.2.2.1.1] Z.2.1.2.1 Z.2.1.2.2.1 Z.2.1.2.2.2 H locs Z.2.2.2.2.2.2.2.2.1 Z.2.2.2.2.2.2.2.2.2 (lw_Z Z.2.1.2.1 #[Value.ref Z.2.2.1.1] Z.1.2.2.2) (F0 Z.2.1.1 pc ls st)
def LX (Z : LZ) : Prop :=
  lw_At Z.1.1 Z.1.2.2.2 Z.2.1.1 Z.2.1.2.2.1 Z.2.1.2.2.2 Z.2.2.1.1 Z.2.2.1.2.1 Z.2.2.1.2.2 ∧ Z.2.2.1.2.1 ≤ 3072 ∧ va_K Z.2.2.2.1 vwCl (tysOf Z.2.2.2.2.1) Z.1.2.2.2 ∧ (inj Z.2.2.2.2.2.1 0 ∧ inj Z.2.2.2.2.2.2.1 1) ∧
  ((∀ k, k < 200 → Z.1.2.2.2.heap.size ≤ Z.2.2.2.2.2.1 k) ∧ ∀ k, k < 37 → Z.1.2.2.2.heap.size ≤ Z.2.2.2.2.2.2.1 k) ∧ (∀ i j, i < 200 → j < 37 → Z.2.2.2.2.2.1 i ≠ Z.2.2.2.2.2.2.1 j) ∧
  (EN Z.2.2.2.2.2.2.2.1 (rg Z.2.2.2.2.2.1 0) Z.1.2.2.2 Z.1.2.2.2.heap ∧ EN Z.2.2.2.2.2.2.2.1 (rg Z.2.2.2.2.2.2.1 1) Z.1.2.2.2 Z.1.2.2.2.heap) ∧ Z.2.2.2.2.2.2.2.2.1 ≤ 600000 ∧ Z.2.2.2.2.2.2.2.2.2 ≤ 7302250
section LWR
variable {Z : LZ} {σ τ σ' τ' : Mem} {pc i : Nat} {L L' : List (Option Value)} {st : List Value} {x y v : Int32}
theorem lw_aload {k : Fin 4} {w : Nat} (X : LX Z) (hd : decode code pc = .ok (.aload_n k, 1)) (hl : L[(k : Nat)]? = some (some (.ref w))) (K : LW Z σ τ (pc + 1) L (.ref w :: st)) : LW Z σ τ pc L st :=
  fun H locs ls h0 h1 hS hv => lv_aload_n X.1.1 X.1.2.1 hd rfl (asc_at hv hl rfl) (K H locs ls h0 h1 hS hv)
theorem lw_iload {k : Fin 4} {w : Int32} (X : LX Z) (hd : decode code pc = .ok (.iload_n k, 1)) (hl : L[(k : Nat)]? = some (some (.int w))) (K : LW Z σ τ (pc + 1) L (.int w :: st)) : LW Z σ τ pc L st :=
  fun H locs ls h0 h1 hS hv => lv_iload_n X.1.1 X.1.2.1 hd rfl (asc_at hv hl rfl) (K H locs ls h0 h1 hS hv)
theorem lw_iconst {d : Int} (X : LX Z) (hd : decode code pc = .ok (.iconst d, 1)) (hv : Int32.ofInt d = v) (K : LW Z σ τ (pc + 1) L (.int v :: st)) : LW Z σ τ pc L st :=
  fun H locs ls h0 h1 hS hl => lv_iconst X.1.1 X.1.2.1 hd hv (K H locs ls h0 h1 hS hl)
theorem lw_bipush {d : Int} (X : LX Z) (hd : decode code pc = .ok (.bipush d, 2)) (hv : (Int8.ofInt d).toInt32 = v) (K : LW Z σ τ (pc + 2) L (.int v :: st)) : LW Z σ τ pc L st :=
  fun H locs ls h0 h1 hS hl => lv_bipush X.1.1 X.1.2.1 hd hv (K H locs ls h0 h1 hS hl)
theorem lw_iadd (X : LX Z) (hd : decode code pc = .ok (.iadd, 1)) (K : LW Z σ τ (pc + 1) L (.int (x + y) :: st)) : LW Z σ τ pc L (.int y :: .int x :: st) :=
  fun H locs ls h0 h1 hS hl => lv_iadd X.1.1 X.1.2.1 hd (K H locs ls h0 h1 hS hl)
theorem lw_isub (X : LX Z) (hd : decode code pc = .ok (.isub, 1)) (K : LW Z σ τ (pc + 1) L (.int (x - y) :: st)) : LW Z σ τ pc L (.int y :: .int x :: st) :=
  fun H locs ls h0 h1 hS hl => lv_isub X.1.1 X.1.2.1 hd (K H locs ls h0 h1 hS hl)
theorem lw_iand (X : LX Z) (hd : decode code pc = .ok (.iand, 1)) (K : LW Z σ τ (pc + 1) L (.int (x &&& y) :: st)) : LW Z σ τ pc L (.int y :: .int x :: st) :=
  fun H locs ls h0 h1 hS hl => lv_iand X.1.1 X.1.2.1 hd (K H locs ls h0 h1 hS hl)
theorem lw_goto {off : Int} {tgt : Nat} (X : LX Z) (hd : decode code pc = .ok (.goto off, 3)) (ht : (pc : Int) + off = (tgt : Int)) (K : LW Z σ τ tgt L st) : LW Z σ τ pc L st :=
  fun H locs ls h0 h1 hS hl => lv_goto X.1.1 X.1.2.1 hd ht (K H locs ls h0 h1 hS hl)
theorem lw_icmpeq {off : Int} {tgt : Nat} (X : LX Z) (hd : decode code pc = .ok (.if_icmp .eq off, 3)) (ht : (pc : Int) + off = (tgt : Int)) (K : LW Z σ τ tgt L st) : LW Z σ τ pc L (.int x :: .int x :: st) :=
  fun H locs ls h0 h1 hS hl => lv_icmp_eq X.1.1 X.1.2.1 hd ht (fun _ => K H locs ls h0 h1 hS hl) (fun q => absurd rfl q)
theorem lw_icmpgt {off : Int} {tgt : Nat} (X : LX Z) (hd : decode code pc = .ok (.if_icmp .gt off, 3)) (ht : (pc : Int) + off = (tgt : Int)) (K1 : y < x → LW Z σ τ tgt L st) (K2 : ¬ y < x → LW Z σ τ (pc + 3) L st) : LW Z σ τ pc L (.int y :: .int x :: st) :=
  fun H locs ls h0 h1 hS hl => lv_icmp_gt X.1.1 X.1.2.1 hd ht (fun q => K1 q H locs ls h0 h1 hS hl) (fun q => K2 q H locs ls h0 h1 hS hl)
theorem lw_ifeq {off : Int} {tgt : Nat} (X : LX Z) (hd : decode code pc = .ok (.ifCond .eq off, 3)) (ht : (pc : Int) + off = (tgt : Int)) (K1 : x = 0 → LW Z σ τ tgt L st) (K2 : ¬ x = 0 → LW Z σ τ (pc + 3) L st) : LW Z σ τ pc L (.int x :: st) :=
  fun H locs ls h0 h1 hS hl => lv_if_eq X.1.1 X.1.2.1 hd ht (fun q => K1 q H locs ls h0 h1 hS hl) (fun q => K2 q H locs ls h0 h1 hS hl)
theorem lw_iinc {k : Nat} {d : Int} (X : LX Z) (hd : decode code pc = .ok (.iinc k d, 3)) (hi : L[k]? = some (some (.int x))) (hv : x + Int32.ofInt d = v) (hn : k < 4) (hl : L.set k (some (.int v)) = L') (K : LW Z σ τ (pc + 3) L' st) : LW Z σ τ pc L st :=
  fun H locs ls h0 h1 hS hv' => by
    obtain ⟨j, hj⟩ := asc_idx hv' hi
    have h4 : Z.2.1.2.2.2.maxLocals = 4 := X.1.2.2.2.1
    exact lv_iinc X.1.1 X.1.2.1 hd hv' hj hv (by omega) rfl (fun ls' hv' => K H locs ls' h0 h1 hS (asc_set hl hv'))
theorem lw_slen (X : LX Z) (hd : decode code pc = .ok (.arraylength, 1)) (K : LW Z σ τ (pc + 1) L (.int (Int32.ofNat Z.2.2.1.2.1) :: st)) : LW Z σ τ pc L (.ref Z.2.2.1.1 :: st) :=
  fun H locs ls h0 h1 hS hl => va_slen X.1.1 X.1.2.1 X.1.2.2.2.2.2.2.1 X.1.2.2.2.2.2.2.2.1 (Nat.not_le.mpr X.1.2.2.2.2.2.2.2.1) hS hd (K H locs ls h0 h1 hS hl)
theorem lw_sld {k : Nat} (X : LX Z) (hd : decode code pc = .ok (.iaload, 1)) (hk : k < Z.2.2.1.2.1) (K : LW Z σ τ (pc + 1) L (.int (Z.2.2.1.2.2 k) :: st)) : LW Z σ τ pc L (.int (Int32.ofNat k) :: .ref Z.2.2.1.1 :: st) := by
  intro H locs ls h0 h1 hS hl
  have h3 := X.2.1
  have e : (Int32.ofNat k).toNatClampNeg = k := N_nat (by omega)
  refine va_sld X.1.1 X.1.2.1 X.1.2.2.2.2.2.2.1 X.1.2.2.2.2.2.2.2.1 (Nat.not_le.mpr X.1.2.2.2.2.2.2.2.1) hS (i := Int32.ofNat k) ?_ hd ?_
  · rintro (q | q)
    · rw [N_nlt0 (by omega)] at q
      exact q
    · rw [e] at q
      omega
  · rw [e]
    exact K H locs ls h0 h1 hS hl
/-- one number of the script -/
def argB (pc : Nat) : List Nat → Bool
  | [] => true
  | k :: r => decide (decode code pc = .ok (.aload_n 0, 1)) && decide (decode code (pc + 1) = .ok (.iload_n 3, 1)) && decide (decode code (pc + 2) = .ok (.iconst ((k : Nat) : Int), 1)) && decide (decode code (pc + 3) = .ok (.iadd, 1)) && decide (decode code (pc + 4) = .ok (.iaload, 1)) && decide (k < 6) && argB (pc + 5) r
def LL (Z : LZ) (i : Nat) : List (Option Value) := [some (.ref Z.2.2.1.1), some (.ref (Z.2.2.2.2.2.1 0)), some (.ref (Z.2.2.2.2.2.2.1 0)), some (.int (Int32.ofNat i))]
def scA (Z : LZ) (i : Nat) (ks : List Nat) : List Value := ks.map (fun k => .int (Z.2.2.1.2.2 (i + k)))
theorem lw_args (X : LX Z) (hi : i + 6 ≤ Z.2.2.1.2.1) (ks : List Nat) : ∀ (pc : Nat) (st : List Value), argB pc ks = true → LW Z σ τ (pc + 5 * ks.length) (LL Z i) ((scA Z i ks).reverse ++ st) → LW Z σ τ pc (LL Z i) st := by
  induction ks with
  | nil =>
    intro pc st _ K
    have e1 : pc + 5 * ([] : List Nat).length = pc := by rw [List.length_nil]; omega
    have e2 : (scA Z i []).reverse ++ st = st := by simp [scA]
    rw [e1, e2] at K
    exact K
  | cons k r ih =>
    intro pc st hb K
    rw [argB] at hb
    simp only [Bool.and_eq_true, decide_eq_true_eq] at hb
    obtain ⟨⟨⟨⟨⟨⟨d0, d1⟩, d2⟩, d3⟩, d4⟩, hk⟩, hb⟩ := hb
    refine lw_aload (k := 0) X d0 rfl ?_
    refine lw_iload (k := 3) X d1 rfl ?_
    refine lw_iconst X d2 (N_of_int k hk) ?_
    refine lw_iadd X d3 ?_
    rw [N_add]
    refine lw_sld X d4 (by omega) ?_
    refine ih (pc + 5) _ hb ?_
    have e1 : pc + 5 + 5 * r.length = pc + 5 * (k :: r).length := by rw [List.length_cons]; omega
    have e2 : (scA Z i r).reverse ++ (.int (Z.2.2.1.2.2 (i + k)) :: st) = (scA Z i (k :: r)).reverse ++ st := by simp [scA]
    rw [e1, e2]
    exact K
theorem va_at_lt {D : va_G} {cl : List vw_C} {q : Nat × va_E} {H : Heap} (h : va_at D cl q H) : q.1 < H.size := by
  obtain ⟨a, e⟩ := q
  cases e with
  | inl x => exact (Array.getElem?_eq_some_iff.mp h).1
  | inr o =>
    obtain ⟨r, -, cell, q1, -⟩ := h
    exact (Array.getElem?_eq_some_iff.mp q1).1
theorem wv_kept {D : va_G} {ρ : Nat → Nat} {cA : ClassId × ClassId × ClassId} {g : Nat} {σ : Mem} {H H1 : Heap} {A : Nat → Prop} (h : va_P D vwCl (wv ρ cA g σ) H) (hk : ∀ q : Nat, q < H.size → ¬ A q → H1[q]? = H[q]?) (hd : ∀ k, k < gN g → ¬ A (ρ k)) : va_P D vwCl (wv ρ cA g σ) H1 := by
  intro k q hq
  have hq2 := hq
  simp only [wv, List.getElem?_map, Option.map_eq_some_iff] at hq2
  obtain ⟨a, ha, rfl⟩ := hq2
  obtain ⟨hlt, rfl⟩ := List.getElem?_eq_some_iff.mp ha
  simp only [List.length_range, List.getElem_range] at hlt ⊢
  have h2 := h k _ hq
  simp only [List.getElem_range] at h2
  exact h2.kept (hk _ (va_at_lt h2) (hd k hlt))
end LWR
section LWC
variable {Z : LZ} {σ τ σ' τ' : Mem} {pc i idx n nL' fr' : Nat} {L : List (Option Value)} {st st' As : List Value} {v : Int32} {yn : MethodName} {cc' : ByteArray} {ret' : Option FieldType}
theorem lw_hts (X : LX Z) : ∀ w ∈ TS, w.before #[Value.ref Z.2.2.1.1] Z.1.2.2.2 = true := fun w h => X.1.2.2.2.2.2.1 w (List.mem_filter.mp h).1
theorem lw_call0 (X : LX Z) (hd : decode code pc = .ok (.invokevirtual idx, 3)) (hw : CV RL idx yn cc' nL' ret' n)
    (hM : AM Z.1.2.1 Z.2.2.2.1 Z.2.2.2.2.2.1 Z.2.2.2.2.1 0 Z.2.2.2.2.2.2.2.1 yn cc' nL' ret' fr' (.ref (Z.2.2.2.2.2.1 0) :: As) (some (.int v)) σ σ') (hcl : yn.cls = "HiccupLane") (hfr : fr' ≤ 400) (hnl : nL' ≤ 45) (hn : As.length = n) (hst : st' = As.reverse ++ .ref (Z.2.2.2.2.2.1 0) :: st) (hcat : (st.map fun v => v.category).sum ≤ 8)
    (K : LW Z σ' τ (pc + 3) L (.int v :: st)) : LW Z σ τ pc L st' := by
  intro H locs ls h0 h1 hS hv
  obtain ⟨c1, c2, c3, c4, c5, c6⟩ := hw
  subst hst
  have hts := lw_hts X
  have h4 : Z.2.1.2.2.2.maxLocals = 4 := X.1.2.2.2.1
  obtain ⟨-, h3072, hK, hinj, ⟨hr0, hr1⟩, hdis, ⟨hE0, hE1⟩, hce, hsl⟩ := id X
  have hcb : CallB room_1 Z.1.2.2.2 #[Value.ref Z.2.2.1.1] RL idx yn cc' nL' ret' (Cond.code yn cc' nL' ret' :: TS) { frames := fr', cells := 0, slots := 0, locals := 64 * fr' } 0 0 n :=
    callB_of (Ts := TS) n hts (TS_goodIn c5 (fun _ h => h)) rfl rfl rfl (hts _ c4) (hts _ c1) c6 (by
      unfold room_1
      exact ⟨by dsimp only; omega, by dsimp only; omega⟩)
  obtain ⟨cell, q1, q2, q3⟩ := va_recv (ci := 10) hK h0 rfl (by rw [wv_get (k := 0) (by decide), ce_obj (ci := 10) (by decide)])
  have hr := va_runV (Ts := TS) (nL := 4) (C := yn.cls) (As := As) (b := Z.2.2.2.2.2.1 0) (rest := st) (locs := locs) (cells := Z.2.2.2.2.2.2.2.2.1) (slots := Z.2.2.2.2.2.2.2.2.2) (e := Z.1.2.2.1) (below := Z.2.1.2.1) (meth := Z.2.1.2.2.1) (H := H) (g := F0 Z.2.1.1 pc ls (As.reverse ++ .ref (Z.2.2.2.2.2.1 0) :: st)) ⟨X.1.1, X.1.2.1, h4, X.1.2.2.2.2.1, hts⟩ hM ⟨hcb, hts _ c2, hts _ c3⟩
    ⟨fun a U gg mk q => by
      obtain ⟨q0, qP, qK, qi, qE⟩ := q
      exact ⟨q0, qP, va_K.moved (u := U) (U := U.calling gg mk a) (Vm.Alike.refl U.vm) qK, qi, EN.same (u := U) (U := U.calling gg mk a) rfl qE⟩, ⟨cell, q1, q2, by rw [hcl]; exact q3⟩, fun U hU hW => ⟨rfl, by rw [hU]; exact h0, va_K.moved hW.alike hK, hinj.1, by
      rw [hU]
      exact EN.moved hW (EN.kept hE0 (fun a ha _ => hS.2.1 a ha (Nat.not_le.mpr ha)))⟩⟩ rfl hn hv.1 rfl (lv_room hcat) hd ⟨by show _ ≤ 600000; omega, by show _ ≤ 7302250; omega⟩
  intro T hT Y
  obtain ⟨v', st₀, t, T', Lq, e0, Y', hL, e1, e2, ⟨hv1, hP1, hz, hk⟩, go⟩ := hr T hT Y
  cases hv1
  rw [e0] at hz hk
  obtain ⟨t2, a1, b1⟩ := K T'.heap (locs ++ Lq) ls (by rw [e1]; exact hP1)
    (by rw [e1]; exact wv_kept h1 hk (fun k hk2 => by
      rintro ⟨j, hj, ej⟩
      exact hdis j k hj hk2 ej.symm))
    ⟨Nat.le_trans hS.1 (by rw [e1]; exact hz), fun q g1 g2 => by
      rw [e1, hk q (Nat.lt_of_lt_of_le g1 hS.1) (by
        rintro ⟨j, hj, ej⟩
        exact g2 (by rw [ej]; exact hr0 j hj))]
      exact hS.2.1 q g1 g2, fun q hq => by
      rcases List.mem_append.mp hq with h | h
      · exact hS.2.2 q h
      · obtain ⟨j, hj, ej⟩ := hL q h
        show _ ≤ q.base
        rw [ej]
        exact hr0 j hj⟩ hv T' rfl Y'
  exact ⟨t2, go t2 a1, b1⟩
theorem lw_call1 (X : LX Z) (hd : decode code pc = .ok (.invokevirtual idx, 3)) (hw : CV RL idx yn cc' nL' ret' n)
    (hM : AM Z.1.2.1 Z.2.2.2.1 Z.2.2.2.2.2.2.1 Z.2.2.2.2.1 1 Z.2.2.2.2.2.2.2.1 yn cc' nL' ret' fr' (.ref (Z.2.2.2.2.2.2.1 0) :: As) (some (.int v)) τ τ') (hcl : yn.cls = "HiccupLaneModel") (hfr : fr' ≤ 400) (hnl : nL' ≤ 45) (hn : As.length = n) (hst : st' = As.reverse ++ .ref (Z.2.2.2.2.2.2.1 0) :: st) (hcat : (st.map fun v => v.category).sum ≤ 8)
    (K : LW Z σ τ' (pc + 3) L (.int v :: st)) : LW Z σ τ pc L st' := by
  intro H locs ls h0 h1 hS hv
  obtain ⟨c1, c2, c3, c4, c5, c6⟩ := hw
  subst hst
  have hts := lw_hts X
  have h4 : Z.2.1.2.2.2.maxLocals = 4 := X.1.2.2.2.1
  obtain ⟨-, h3072, hK, hinj, ⟨hr0, hr1⟩, hdis, ⟨hE0, hE1⟩, hce, hsl⟩ := id X
  have hcb : CallB room_1 Z.1.2.2.2 #[Value.ref Z.2.2.1.1] RL idx yn cc' nL' ret' (Cond.code yn cc' nL' ret' :: TS) { frames := fr', cells := 0, slots := 0, locals := 64 * fr' } 0 0 n :=
    callB_of (Ts := TS) n hts (TS_goodIn c5 (fun _ h => h)) rfl rfl rfl (hts _ c4) (hts _ c1) c6 (by
      unfold room_1
      exact ⟨by dsimp only; omega, by dsimp only; omega⟩)
  obtain ⟨cell, q1, q2, q3⟩ := va_recv (ci := 11) hK h1 rfl (by rw [wv_get (k := 0) (by decide), ce_obj (ci := 11) (by decide)])
  have hr := va_runV (Ts := TS) (nL := 4) (C := yn.cls) (As := As) (b := Z.2.2.2.2.2.2.1 0) (rest := st) (locs := locs) (cells := Z.2.2.2.2.2.2.2.2.1) (slots := Z.2.2.2.2.2.2.2.2.2) (e := Z.1.2.2.1) (below := Z.2.1.2.1) (meth := Z.2.1.2.2.1) (H := H) (g := F0 Z.2.1.1 pc ls (As.reverse ++ .ref (Z.2.2.2.2.2.2.1 0) :: st)) ⟨X.1.1, X.1.2.1, h4, X.1.2.2.2.2.1, hts⟩ hM ⟨hcb, hts _ c2, hts _ c3⟩
    ⟨fun a U gg mk q => by
      obtain ⟨q0, qP, qK, qi, qE⟩ := q
      exact ⟨q0, qP, va_K.moved (u := U) (U := U.calling gg mk a) (Vm.Alike.refl U.vm) qK, qi, EN.same (u := U) (U := U.calling gg mk a) rfl qE⟩, ⟨cell, q1, q2, by rw [hcl]; exact q3⟩, fun U hU hW => ⟨rfl, by rw [hU]; exact h1, va_K.moved hW.alike hK, hinj.2, by
      rw [hU]
      exact EN.moved hW (EN.kept hE1 (fun a ha _ => hS.2.1 a ha (Nat.not_le.mpr ha)))⟩⟩ rfl hn hv.1 rfl (lv_room hcat) hd ⟨by show _ ≤ 600000; omega, by show _ ≤ 7302250; omega⟩
  intro T hT Y
  obtain ⟨v', st₀, t, T', Lq, e0, Y', hL, e1, e2, ⟨hv1, hP1, hz, hk⟩, go⟩ := hr T hT Y
  cases hv1
  rw [e0] at hz hk
  obtain ⟨t2, a1, b1⟩ := K T'.heap (locs ++ Lq) ls
    (by rw [e1]; exact wv_kept h0 hk (fun k hk2 => by
      rintro ⟨j, hj, ej⟩
      exact hdis k j hk2 hj ej))
    (by rw [e1]; exact hP1)
    ⟨Nat.le_trans hS.1 (by rw [e1]; exact hz), fun q g1 g2 => by
      rw [e1, hk q (Nat.lt_of_lt_of_le g1 hS.1) (by
        rintro ⟨j, hj, ej⟩
        exact g2 (by rw [ej]; exact hr1 j hj))]
      exact hS.2.1 q g1 g2, fun q hq => by
      rcases List.mem_append.mp hq with h | h
      · exact hS.2.2 q h
      · obtain ⟨j, hj, ej⟩ := hL q h
        show _ ≤ q.base
        rw [ej]
        exact hr1 j hj⟩ hv T' rfl Y'
  exact ⟨t2, go t2 a1, b1⟩
end LWC
