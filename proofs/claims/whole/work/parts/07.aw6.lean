/-! ===== texts ===== -/
def zk (Z : AZ) (i : Nat) : Nat := Z.2.2.2.2.2.2.1.2.1 i
def zv (Z : AZ) (i : Nat) : Nat := Z.2.2.2.2.2.2.1.2.2 i
def byL (i : Nat) : Nat := [132, 10].getD i 0
def byF (i j : Nat) : Int32 := ([byW, byS].getD i []).getD j 0
theorem nar_c {v : Int32} (h : vp_nar .char v = v) : narrow .char (.int v) = .int v := by
  have e : narrow .char (.int v) = .int (vp_nar .char v) := rfl
  rw [e, h]
def i2b (x : Int32) : Int32 := x.toInt8.toInt32
section AWT
variable {Z : AZ} {σ σ' : Mem} {pc nL g fr fr' : Nat} {L L' : List (Option Value)} {st st' : List Value} {cc cc' : ByteArray} {own : String} {ret ret' : Option FieldType} {x y v : Int32} {a k n idx nL' : Nat} {As : List Value} {rv : Option Value}
theorem aw_i2b (X : AX Z cc nL own ret g fr) (hd : decode cc pc = .ok (.i2b, 1)) (K : AW Z σ (pc + 1) L (.int (i2b x) :: st)) : AW Z σ pc L (.int x :: st) :=
  fun H locs ls hP hS hv => lv_i2b X.1 X.2.1 hd rfl (K H locs ls hP hS hv)
theorem aw_lds0 (X : AX Z cc nL RX6 ret g fr) (hd : decode cc pc = .ok (.ldc 80, 2)) (K : AW Z σ (pc + 2) L (.ref (zk Z 0) :: st)) : AW Z σ pc L st :=
  fun H locs ls hP hS hv => va_ldcS X.1 X.2.1 X.2.2.2.1 X.2.2.2.2.2.2.2.2.2.2.1.2.2.2.1 hd (K H locs ls hP hS hv)
theorem aw_lds1 (X : AX Z cc nL RX6 ret g fr) (hd : decode cc pc = .ok (.ldc 68, 2)) (K : AW Z σ (pc + 2) L (.ref (zk Z 1) :: st)) : AW Z σ pc L st :=
  fun H locs ls hP hS hv => va_ldcS X.1 X.2.1 X.2.2.2.1 X.2.2.2.2.2.2.2.2.2.2.1.2.2.2.2.1 hd (K H locs ls hP hS hv)
theorem aw_sval (X : AX Z cc nL own ret g fr) (hd : decode cc pc = .ok (.getfield idx, 3)) (hw : Cond.fieldLink own idx "java/lang/String" "value" "[B" ∈ TS) (ha : a < 2) (K : AW Z σ (pc + 3) L (.ref (zv Z a) :: st)) : AW Z σ pc L (.ref (zk Z a) :: st) := by
  intro H locs ls hP hS hv
  have hg := X.2.2.2.2.2.2.2.2.2.1
  subst hg
  exact vk_getf X.1 X.2.1 (X.2.2.2.2.2.2.2.2.2.2.1.2.2.1.1 a ha).2.2.1 hS X.2.2.2.1 (X.2.2.2.2.1 _ hw) (fun _ h => h) hd (K H locs ls hP hS hv)
theorem aw_scod (X : AX Z cc nL own ret g fr) (hd : decode cc pc = .ok (.getfield idx, 3)) (hw : Cond.fieldLink own idx "java/lang/String" "coder" "B" ∈ TS) (ha : a < 2) (K : AW Z σ (pc + 3) L (.int 0 :: st)) : AW Z σ pc L (.ref (zk Z a) :: st) := by
  intro H locs ls hP hS hv
  have hg := X.2.2.2.2.2.2.2.2.2.1
  subst hg
  exact vk_getf X.1 X.2.1 (X.2.2.2.2.2.2.2.2.2.2.1.2.2.1.1 a ha).2.1 hS X.2.2.2.1 (X.2.2.2.2.1 _ hw) (fun _ h => h) hd (K H locs ls hP hS hv)
theorem aw_slen (X : AX Z cc nL own ret g fr) (hd : decode cc pc = .ok (.arraylength, 1)) (ha : a < 2) (K : AW Z σ (pc + 1) L (.int (Int32.ofNat (byL a)) :: st)) : AW Z σ pc L (.ref (zv Z a) :: st) := by
  intro H locs ls hP hS hv
  have hg := X.2.2.2.2.2.2.2.2.2.1
  subst hg
  exact va_tlen X.1 X.2.1 (X.2.2.2.2.2.2.2.2.2.2.1.2.2.1.1 a ha).2.2.2 hS rfl hd (K H locs ls hP hS hv)
theorem aw_sald (X : AX Z cc nL own ret g fr) (hd : decode cc pc = .ok (.baload, 1)) (ha : a < 2) (h : rd (byL a) (byF a) x = some v) (K : AW Z σ (pc + 1) L (.int v :: st)) : AW Z σ pc L (.int x :: .ref (zv Z a) :: st) := by
  intro H locs ls hP hS hv
  have hg := X.2.2.2.2.2.2.2.2.2.1
  subst hg
  unfold rd at h
  split at h
  · cases h
  · next hx =>
    cases h
    exact va_tb X.1 X.2.1 (X.2.2.2.2.2.2.2.2.2.2.1.2.2.1.1 a ha).2.2.2 hS hx rfl hd (K H locs ls hP hS hv)
theorem aw_getc (X : AX Z cc nL own ret g fr) (hd : decode cc pc = .ok (.getstatic idx, 3)) (hw : Cond.fieldLink own idx "java/lang/String" "COMPACT_STRINGS" "Z" ∈ TS) (K : AW Z σ (pc + 3) L (.int 1 :: st)) : AW Z σ pc L st :=
  fun H locs ls hP hS hv => by
    have hg := X.2.2.2.2.2.2.2.2.2.1
    subst hg
    exact va_gets X.1 X.2.1 X.2.2.2.2.2.2.2.2.2.2.1.2.2.2.2.2.1 hS X.2.2.2.1 (X.2.2.2.2.1 _ hw) (fun _ h => h) hd (K H locs ls hP hS hv)
theorem aw_getq (X : AX Z cc nL own ret g fr) (hd : decode cc pc = .ok (.getstatic idx, 3)) (hw : Cond.fieldLink own idx "jdk/internal/util/Preconditions" "SIOOBE_FORMATTER" "Ljava/util/function/BiFunction;" ∈ TS) (K : ∀ w : Value, w.category = 1 → AW Z σ (pc + 3) L (w :: st)) : AW Z σ pc L st :=
  fun H locs ls hP hS hv => by
    have hg := X.2.2.2.2.2.2.2.2.2.1
    subst hg
    rcases X.2.2.2.2.2.2.2.2.2.2.1.2.2.2.2.2.2 with hq | ⟨t, hq⟩
    · exact va_gets X.1 X.2.1 hq hS X.2.2.2.1 (X.2.2.2.2.1 _ hw) (fun _ h => h) hd (K _ rfl H locs ls hP hS hv)
    · exact va_gets X.1 X.2.1 hq hS X.2.2.2.1 (X.2.2.2.2.1 _ hw) (fun _ h => h) hd (K _ rfl H locs ls hP hS hv)
theorem aw_callT {yn : MethodName} (X : AX Z cc nL own ret g fr) (hd : decode cc pc = .ok (.invokevirtual idx, 3)) (hw : CV own idx yn cc' nL' ret' n)
    (hM : AM Z.1.2.1 Z.2.2.1 Z.2.2.2.1 Z.2.2.2.2.1 g Z.2.2.2.2.2.2.1 yn cc' nL' ret' fr' (.ref (zk Z a) :: As) rv σ σ')
    (ha : a < 2) (hcl : yn.cls = "java/lang/String") (hfr : fr' + 1 ≤ fr) (hnl : nL' ≤ 45) (hn : As.length = n) (hst : st' = As.reverse ++ .ref (zk Z a) :: st) (hcat : (st.map fun v => v.category).sum ≤ 8)
    (K : AW Z σ' (pc + 3) L (rv.toList ++ st)) : AW Z σ pc L st' := by
  intro H locs ls hP hS hv
  have hg := X.2.2.2.2.2.2.2.2.2.1
  subst hg
  obtain ⟨h1, h2, h3, h4, h5, h6⟩ := hw
  have hml := hv.1
  subst hst
  have hpre := aw_pre X hP hS (as := .ref (zk Z a) :: As)
  refine aw_run X (va_runV (Ts := TS) (nL := nL) (C := yn.cls) (As := As) (b := zk Z a) ⟨X.1, X.2.1, X.2.2.1, X.2.2.2.1, X.2.2.2.2.1⟩ hM ⟨aw_callB X h1 h4 h5 h6 hfr hnl, X.2.2.2.2.1 _ h2, X.2.2.2.2.1 _ h3⟩ ⟨hpre.1, ?_, hpre.2⟩ rfl hn (by rw [← X.2.2.1]; exact hml) rfl (lv_room hcat) hd ⟨by omega, by omega⟩) hS hv K
  rw [hcl]
  exact vk_recv X.2.2.2.2.2.2.2.2.2.2.1.2.2.1 ha hS
end AWT
