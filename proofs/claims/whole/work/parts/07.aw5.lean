/-! ===== what the printed walks use ===== -/
def msk : List Bool → List (Option Value) → List (Option Value)
  | true :: b, v :: l => v :: msk b l
  | false :: b, _ :: l => none :: msk b l
  | _, _ => []
theorem msk_get : ∀ (b : List Bool) (l : List (Option Value)) (i : Nat) (v : Value), (msk b l)[i]? = some (some v) → l[i]? = some (some v)
  | [], l, i, v, h => by simp [msk] at h
  | true :: b, [], i, v, h => by simp [msk] at h
  | false :: b, [], i, v, h => by simp [msk] at h
  | true :: b, w :: l, i, v, h => by
    cases i with
    | zero => simpa [msk] using h
    | succ i => simp only [msk, List.getElem?_cons_succ] at h ⊢; exact msk_get b l i v h
  | false :: b, w :: l, i, v, h => by
    cases i with
    | zero => simp [msk] at h
    | succ i => simp only [msk, List.getElem?_cons_succ] at h ⊢; exact msk_get b l i v h
theorem aw_msk {Z : AZ} {σ : Mem} {pc : Nat} {L : List (Option Value)} {st : List Value} (b : List Bool) (K : AW Z σ pc (msk b L) st) : AW Z σ pc L st :=
  fun H locs ls hP hS hv => K H locs ls hP hS ⟨hv.1, hv.2.1, fun q hq => by
    obtain ⟨i, v⟩ := q
    obtain ⟨h1, h2⟩ := asc_mem.mp hq
    exact asc_at hv (msk_get b L i v h1) h2⟩
theorem bnd {α β : Type} {a : Option α} {f : α → Option β} {b : β} (h : a.bind f = some b) : ∃ x, a = some x ∧ f x = some b := Option.bind_eq_some_iff.mp h
def FUEL : Nat := 1000000
def it {S B : Type} : Nat → (S → Option (S ⊕ B)) → S → Option B
  | 0, _, _ => none
  | n + 1, f, s => match f s with
    | none => none
    | some (.inl s') => it n f s'
    | some (.inr b) => some b
theorem it_ok {S B : Type} {f : S → Option (S ⊕ B)} {P : S → Prop} {Q : B → Prop} (hs : ∀ s q, f s = some q → (∀ s', q = .inl s' → P s') → (∀ b, q = .inr b → Q b) → P s) : ∀ n s b, it n f s = some b → Q b → P s
  | 0, s, b, h, _ => by simp [it] at h
  | n + 1, s, b, h, hb => by
    unfold it at h
    split at h
    · cases h
    · next s' e => exact hs s _ e (fun s'' q => by cases q; exact it_ok hs n s' b h hb) (fun b' q => by cases q)
    · next b' e =>
      cases h
      exact hs s _ e (fun s'' q => by cases q) (fun b'' q => by cases q; exact hb)
theorem aL_ok : ∀ (as : List Value) {n : Nat} (j : Nat) (v : Value), (as.map some ++ List.replicate n none)[j]? = some (some v) → as[j]? = some v := by
  intro as n j v h
  by_cases hj : j < as.length
  · rw [List.getElem?_append_left (by simpa using hj)] at h
    simpa using h
  · rw [List.getElem?_append_right (by simpa using hj)] at h
    obtain ⟨h1, h2⟩ := List.getElem?_eq_some_iff.mp h
    simp at h2
theorem bz_n {v : Int32} (h : v = 0 ∨ v = 1) : narrow .boolean (.int v) = .int v := by rcases h with rfl | rfl <;> rfl
theorem bz_f {v : Int32} (h : v = 0 ∨ v = 1) : fits .boolean (.int v) = true := by rcases h with rfl | rfl <;> rfl
def jmmax (x y : Int32) : Int32 := if x < y then y else x
def jmmin (x y : Int32) : Int32 := if y < x then y else x
def rdq (n k : Nat) (i : Int32) : Option Nat := if i < 0 ∨ n ≤ i.toNatClampNeg then none else gR 0 k i.toNatClampNeg
def cpy (n0 n1 : Nat) (σ : Mem) (a : Nat) (sp : Int32) (b : Nat) (dp n : Int32) : Option Mem := if sp < 0 ∨ dp < 0 ∨ n < 0 ∨ n0 < sp.toNatClampNeg + n.toNatClampNeg ∨ n1 < dp.toNatClampNeg + n.toNatClampNeg then none else some (fun q => if q = b then va_cpy (σ a) (σ b) sp.toNatClampNeg dp.toNatClampNeg n.toNatClampNeg else σ q)
section AWM
variable {Z : AZ} {σ σ' : Mem} {pc nL g fr : Nat} {L L' : List (Option Value)} {st : List Value} {cc : ByteArray} {own : String} {ret : Option FieldType} {x y v : Int32} {i k n idx : Nat}
theorem aw_mmax (X : AX Z cc nL own ret g fr) (hf : 1 ≤ fr) (hd : decode cc pc = .ok (.invokestatic idx, 3)) (hw : Cond.methodLink own idx Lib.Math.max.name ∈ TS ∧ Cond.static Lib.Math.max.name ∈ TS ∧ Cond.initialized "java/lang/Math" ∈ TS ∧ Cond.code Lib.Math.max.name Lib.Math.max.code 2 (some .int) ∈ TS) (hc : decide ((st.map fun v => v.category).sum ≤ 40) = true)
    (K : AW Z σ (pc + 3) L (.int (jmmax x y) :: st)) : AW Z σ pc L (.int y :: .int x :: st) :=
  fun H locs ls hP hS hv => va_mmax X.1 X.2.1 hv.1.symm X.2.2.2.1 (X.2.2.2.2.1 _ hw.1) (X.2.2.2.2.1 _ hw.2.1) (X.2.2.2.2.1 _ hw.2.2.1) (X.2.2.2.2.1 _ hw.2.2.2)
    (by rw [X.2.2.2.2.2.2.2.2.2.2.2]; exact hf) (by rw [X.2.2.2.2.2.2.2.2.2.2.2]; have := of_decide_eq_true hc; dsimp only; omega) (by rw [X.2.2.2.2.2.2.2.2.2.2.2]; exact Nat.le_refl _) (by rw [X.2.2.2.2.2.2.2.2.2.2.2]; exact Nat.le_refl _) hd (K H locs ls hP hS hv)
theorem aw_mmin (X : AX Z cc nL own ret g fr) (hf : 1 ≤ fr) (hd : decode cc pc = .ok (.invokestatic idx, 3)) (hw : Cond.methodLink own idx Lib.Math.min.name ∈ TS ∧ Cond.static Lib.Math.min.name ∈ TS ∧ Cond.initialized "java/lang/Math" ∈ TS ∧ Cond.code Lib.Math.min.name Lib.Math.min.code 2 (some .int) ∈ TS) (hc : decide ((st.map fun v => v.category).sum ≤ 40) = true)
    (K : AW Z σ (pc + 3) L (.int (jmmin x y) :: st)) : AW Z σ pc L (.int y :: .int x :: st) :=
  fun H locs ls hP hS hv => va_mmin X.1 X.2.1 hv.1.symm X.2.2.2.1 (X.2.2.2.2.1 _ hw.1) (X.2.2.2.2.1 _ hw.2.1) (X.2.2.2.2.1 _ hw.2.2.1) (X.2.2.2.2.1 _ hw.2.2.2)
    (by rw [X.2.2.2.2.2.2.2.2.2.2.2]; exact hf) (by rw [X.2.2.2.2.2.2.2.2.2.2.2]; have := of_decide_eq_true hc; dsimp only; omega) (by rw [X.2.2.2.2.2.2.2.2.2.2.2]; exact Nat.le_refl _) (by rw [X.2.2.2.2.2.2.2.2.2.2.2]; exact Nat.le_refl _) hd (K H locs ls hP hS hv)
def jabs (x : Int32) : Int32 := if 0 ≤ x then x else 0 - x
theorem aw_mabs (X : AX Z cc nL own ret g fr) (hf : 1 ≤ fr) (hd : decode cc pc = .ok (.invokestatic idx, 3)) (hw : Cond.methodLink own idx Lib.Math.abs.name ∈ TS ∧ Cond.static Lib.Math.abs.name ∈ TS ∧ Cond.initialized "java/lang/Math" ∈ TS ∧ Cond.code Lib.Math.abs.name Lib.Math.abs.code 1 (some .int) ∈ TS) (hc : decide ((st.map fun v => v.category).sum ≤ 40) = true)
    (K : AW Z σ (pc + 3) L (.int (jabs x) :: st)) : AW Z σ pc L (.int x :: st) :=
  fun H locs ls hP hS hv => va_mabs X.1 X.2.1 hv.1.symm X.2.2.2.1 (X.2.2.2.2.1 _ hw.1) (X.2.2.2.2.1 _ hw.2.1) (X.2.2.2.2.1 _ hw.2.2.1) (X.2.2.2.2.1 _ hw.2.2.2)
    (by rw [X.2.2.2.2.2.2.2.2.2.2.2]; exact hf) (by rw [X.2.2.2.2.2.2.2.2.2.2.2]; have := of_decide_eq_true hc; dsimp only; omega) (by rw [X.2.2.2.2.2.2.2.2.2.2.2]; exact Nat.le_refl _) (by rw [X.2.2.2.2.2.2.2.2.2.2.2]; exact Nat.le_refl _) hd (K H locs ls hP hS hv)
theorem aw_tsw {dflt lo hi : Int} {offs : Array Int} {len tgt : Nat} (X : AX Z cc nL own ret g fr) (hd : decode cc pc = .ok (.tableswitch dflt lo hi offs, len)) (h : ¬ x.toInt < lo ∧ ¬ hi < x.toInt ∧ (offs[(x.toInt - lo).toNat]?).map (fun o => (pc : Int) + o) = some (tgt : Int)) (K : AW Z σ tgt L st) : AW Z σ pc L (.int x :: st) :=
  fun H locs ls hP hS hv => by
    obtain ⟨o, ho, ht⟩ := Option.map_eq_some_iff.mp h.2.2
    exact lv_tableIn X.1 X.2.1 hd h.1 h.2.1 ho ht (K H locs ls hP hS hv)
theorem aw_tswd {dflt lo hi : Int} {offs : Array Int} {len tgt : Nat} (X : AX Z cc nL own ret g fr) (hd : decode cc pc = .ok (.tableswitch dflt lo hi offs, len)) (ht : (pc : Int) + dflt = (tgt : Int)) (h : ∀ z : Int, lo ≤ z → z ≤ hi → ¬ x = Int32.ofInt z) (K : AW Z σ tgt L st) : AW Z σ pc L (.int x :: st) :=
  fun H locs ls hP hS hv => by
    refine lv_tableOut X.1 X.2.1 hd ?_ ht (K H locs ls hP hS hv)
    by_cases h1 : x.toInt < lo
    · exact Or.inl h1
    · by_cases h2 : hi < x.toInt
      · exact Or.inr h2
      · exact absurd (Int32.ofInt_toInt x).symm (h x.toInt (by omega) (by omega))
theorem aw_lsw {dflt : Int} {ps : Array (Int × Int)} {len tgt : Nat} (X : AX Z cc nL own ret g fr) (hd : decode cc pc = .ok (.lookupswitch dflt ps, len)) (h : (ps.toList.zip (ps.toList.drop 1)).all (fun (a, next) => a.1 < next.1) = true ∧ (pc : Int) + Op.lookupswitch.offset ps.toList dflt x.toInt = (tgt : Int)) (K : AW Z σ tgt L st) : AW Z σ pc L (.int x :: st) :=
  fun H locs ls hP hS hv => lv_lookup X.1 X.2.1 hd h.1 rfl h.2 (K H locs ls hP hS hv)
theorem aw_aaldq {r : Nat} (X : AX Z cc nL own ret 0 fr) (hd : decode cc pc = .ok (.aaload, 1)) (ho : IQ 0 k n) (h : rdq n k x = some r) (K : AW Z σ (pc + 1) L (.ref (zr Z r) :: st)) : AW Z σ pc L (.int x :: .ref (zr Z k) :: st) := by
  unfold rdq at h
  split at h
  · cases h
  · next hx => exact aw_aald X hd ho hx h K
theorem aw_aret {r : Nat} {ty : FieldType} (X : AX Z cc nL own ret g fr) (hd : decode cc pc = .ok (.areturn, 1)) (hr : ret = some ty) (hrt : (∃ n, ty = .object n) ∨ ∃ t, ty = .array t) (h : (some (Value.ref (zr Z r)), σ) = zres Z) : AW Z σ pc L [.ref (zr Z r)] := by
  intro H locs ls hP hS hv
  have hlk := X.2.2.2.2.2.2.1
  have h1 : Z.2.2.2.2.2.2.2.1 = some (Value.ref (zr Z r)) := (congrArg Prod.fst h).symm
  have h2 : Z.2.2.2.2.2.2.2.2 = σ := (congrArg Prod.snd h).symm
  rw [h1, h2]
  exact W.aret X.1 X.2.1 (X.2.2.2.2.2.1.trans hr) hrt (Or.inr ⟨_, rfl⟩) (fun t ht hW => ⟨rfl, by rw [ht]; exact hP, hS.F ht⟩) hS.2.2 hd (hlocks := hlk)
def zt (Z : AZ) : Nat := Z.2.2.2.2.2.2.1.1
def tuF (j : Nat) : Int32 := tuR.getD j 0
theorem aw_gets (X : AX Z cc nL own ret g fr) (hd : decode cc pc = .ok (.getstatic idx, 3)) (hw : Cond.fieldLink own idx "HiccupLane$Numbers" "TURNED" "[I" ∈ TS) (K : AW Z σ (pc + 3) L (.ref (zt Z) :: st)) : AW Z σ pc L st :=
  fun H locs ls hP hS hv => by
    have hg := X.2.2.2.2.2.2.2.2.2.1
    subst hg
    exact va_gets X.1 X.2.1 X.2.2.2.2.2.2.2.2.2.2.1.1 hS X.2.2.2.1 (X.2.2.2.2.1 _ hw) (fun _ h => h) hd (K H locs ls hP hS hv)
theorem aw_tald (X : AX Z cc nL own ret g fr) (hd : decode cc pc = .ok (.iaload, 1)) (h : rd 10 tuF x = some v) (K : AW Z σ (pc + 1) L (.int v :: st)) : AW Z σ pc L (.int x :: .ref (zt Z) :: st) := by
  intro H locs ls hP hS hv
  have hg := X.2.2.2.2.2.2.2.2.2.1
  subst hg
  unfold rd at h
  split at h
  · cases h
  · next hx =>
    cases h
    exact va_ti X.1 X.2.1 X.2.2.2.2.2.2.2.2.2.2.1.2.1 hS hx rfl hd (K H locs ls hP hS hv)
theorem aw_copy {a b n0 n1 : Nat} {sp dp nn : Int32} (X : AX Z cc nL own ret g fr) (hf : 1 ≤ fr) (hd : decode cc pc = .ok (.invokestatic idx, 3)) (hw : Cond.methodLink own idx arraycopyName ∈ TS ∧ Cond.native arraycopyName ∈ TS ∧ Cond.static arraycopyName ∈ TS ∧ Cond.initialized "java/lang/System" ∈ TS) (hc : decide ((st.map fun v => v.category).sum ≤ 8) = true)
    (ha : IA g a n0) (hb : IA g b n1) (h : cpy n0 n1 σ a sp b dp nn = some σ') (K : AW Z σ' (pc + 3) L st) : AW Z σ pc L (.int nn :: .int dp :: .ref (zr Z b) :: .int sp :: .ref (zr Z a) :: st) := by
  intro H locs ls hP hS hv
  have hg := X.2.2.2.2.2.2.2.2.2.1
  subst hg
  unfold cpy at h
  split at h
  · cases h
  · next hx =>
    cases h
    refine va_copyi X.1 X.2.1 hv.1.symm X.2.2.2.1 (X.2.2.2.2.1 _ hw.1) (X.2.2.2.2.1 _ hw.2.1) (X.2.2.2.2.1 _ hw.2.2.1) (X.2.2.2.2.1 _ hw.2.2.2) X.2.2.2.2.2.2.2.1 hP (wv_D X.2.2.2.2.2.2.2.2.1) hS a b 0 0 (f := σ a) (g := σ b) (n0 := n0) (n1 := n1) (ty := .int) (by rw [wv_get ha.1, ce_int ha.2.1, ha.2.2]; rfl) (by rw [wv_get hb.1, ce_int hb.2.1, hb.2.2]; rfl) rfl rfl rfl
      (fun q => hx (Or.inl q)) (fun q => hx (Or.inr (Or.inl q))) (fun q => hx (Or.inr (Or.inr (Or.inl q)))) (Nat.not_lt.mp (fun q => hx (Or.inr (Or.inr (Or.inr (Or.inl q)))))) (Nat.not_lt.mp (fun q => hx (Or.inr (Or.inr (Or.inr (Or.inr q)))))) (fun i _ => rfl)
      (by rw [X.2.2.2.2.2.2.2.2.2.2.2]; exact hf) (by rw [X.2.2.2.2.2.2.2.2.2.2.2]; have := of_decide_eq_true hc; have e9 : nativeFrameWords "java/lang/System" "arraycopy" 5 + 11 ≤ 40 := by decide
                                                      dsimp only; omega) hd (fun H1 locs1 hP1 hD1 hS1 => ?_)
    refine K H1 locs1 ls ?_ hS1 hv
    have e0 : ∀ k', k' ≠ b → ce Z.2.2.2.1 Z.2.2.2.2.1 Z.2.2.2.2.2.1 (fun q => if q = b then va_cpy (σ a) (σ b) sp.toNatClampNeg dp.toNatClampNeg nn.toNatClampNeg else σ q) k' = ce Z.2.2.2.1 Z.2.2.2.2.1 Z.2.2.2.2.2.1 σ k' := fun k' hk => by
      have e2 : fv Z.2.2.2.1 Z.2.2.2.2.2.1 (fun q => if q = b then va_cpy (σ a) (σ b) sp.toNatClampNeg dp.toNatClampNeg nn.toNatClampNeg else σ q) k' = fv Z.2.2.2.1 Z.2.2.2.2.2.1 σ k' := by funext i; unfold fv; simp only [if_neg hk]
      unfold ce
      split <;> simp only [if_neg hk, e2]
    rw [← wv_set (σ := σ) (k := b) (ce_int (σ := fun q => if q = b then va_cpy (σ a) (σ b) sp.toNatClampNeg dp.toNatClampNeg nn.toNatClampNeg else σ q) hb.2.1) e0, hb.2.2]
    simp only [if_pos]
    exact hP1
end AWM
