/-! ===== what holds at the law's entry ===== -/
theorem EN.narrow {τ : AT} {A B : Nat → Prop} {U : State} {H : Heap} (h : EN τ A U H) (hAB : ∀ q, B q → A q) : EN τ B U H :=
  ⟨h.1.narrow hAB, h.2.1.narrow hAB, h.2.2.1.narrow hAB, h.2.2.2.1, h.2.2.2.2.1, h.2.2.2.2.2.1.narrow hAB, h.2.2.2.2.2.2.narrow hAB⟩
set_option maxRecDepth 100000 in
theorem kn_of {b : Nat} {s : State} (hl : ∀ w ∈ lw_tbl, w.before #[Value.ref b] s = true) : ∃ (D : va_G) (cA : ClassId × ClassId × ClassId), va_K D vwCl (tysOf cA) s ∧ va_AO RX0 s := by
  have hts : ∀ w ∈ TS, w.before #[Value.ref b] s = true := fun w h => hl w (List.mem_filter.mp h).1
  obtain ⟨c0, i0, h0⟩ := u_known (C := RX0) (T := TX0) (N := 13) (n := 13) hts iw_RX0 (hts _ (TS_p1 37 rfl rfl))
  obtain ⟨c1, i1, h1⟩ := u_known (C := RX1) (T := TX1) (N := 8) (n := 8) hts iw_RX1 (hts _ (TS_p1 113 rfl rfl))
  obtain ⟨c2, i2, h2⟩ := u_known (C := RX3) (T := TX3) (N := 5) (n := 5) hts iw_RX3 (hts _ (TS_p1 175 rfl rfl))
  obtain ⟨c3, i3, h3⟩ := u_known (C := RX4) (T := TX4) (N := 7) (n := 7) hts iw_RX4 (hts _ (TS_p2 70 rfl rfl))
  obtain ⟨c4, i4, h4⟩ := u_known (C := RX5) (T := TX5) (N := 5) (n := 5) hts iw_RX5 (hts _ (TS_p1 146 rfl rfl))
  obtain ⟨c5, i5, h5⟩ := u_known (C := RX6) (T := TX6) (N := 10) (n := 10) hts iw_RX6 (hts _ (TS_p2 76 rfl rfl))
  obtain ⟨c6, i6, h6⟩ := u_known (C := RX7) (T := TX7) (N := 2) (n := 2) hts iw_RX7 (hts _ (TS_p1 205 rfl rfl))
  obtain ⟨c7, i7, h7⟩ := u_known (C := RX8) (T := TX8) (N := 12) (n := 12) hts iw_RX8 (hts _ (TS_p1 199 rfl rfl))
  obtain ⟨c8, i8, h8⟩ := u_known (C := RX9) (T := TX9) (N := 4) (n := 4) hts iw_RX9 (hts _ (TS_p2 148 rfl rfl))
  obtain ⟨c9, i9, h9⟩ := u_known (C := RX10) (T := TX10) (N := 7) (n := 7) hts iw_RX10 (hts _ (TS_p1 31 rfl rfl))
  obtain ⟨c10, i10, h10⟩ := u_known (C := RX11) (T := TX11) (N := 9) (n := 9) hts iw_RX11 (hts _ (TS_p1 23 rfl rfl))
  obtain ⟨c11, i11, h11⟩ := u_known (C := RX12) (T := TX12) (N := 65) (n := 65) hts iw_RX12 (hts _ (TS_p6 59 rfl rfl))
  have h : ∀ k : Nat, ∃ z : ClassId × (Nat → Nat), ∀ q : vw_C, vwCl[k]? = some q → u_Kn s q.1 q.2.1 q.2.2 z.1 z.2 := fun k => match k with
    | 0 => ⟨(c0, i0), fun q hq => by cases hq; exact h0⟩
    | 1 => ⟨(c1, i1), fun q hq => by cases hq; exact h1⟩
    | 2 => ⟨(c2, i2), fun q hq => by cases hq; exact h2⟩
    | 3 => ⟨(c3, i3), fun q hq => by cases hq; exact h3⟩
    | 4 => ⟨(c4, i4), fun q hq => by cases hq; exact h4⟩
    | 5 => ⟨(c5, i5), fun q hq => by cases hq; exact h5⟩
    | 6 => ⟨(c6, i6), fun q hq => by cases hq; exact h6⟩
    | 7 => ⟨(c7, i7), fun q hq => by cases hq; exact h7⟩
    | 8 => ⟨(c8, i8), fun q hq => by cases hq; exact h8⟩
    | 9 => ⟨(c9, i9), fun q hq => by cases hq; exact h9⟩
    | 10 => ⟨(c10, i10), fun q hq => by cases hq; exact h10⟩
    | 11 => ⟨(c11, i11), fun q hq => by cases hq; exact h11⟩
    | k + 12 => ⟨(c0, i0), fun q hq => by simp at hq⟩
  obtain ⟨f, hf⟩ := Classical.axiomOfChoice h
  obtain ⟨cI, kI, mI, a1, a2, a3⟩ := Cond.arrayClass_spec (hts (.arrayClass .int) (TS_p1 111 rfl rfl))
  obtain ⟨cZ, kZ, mZ, b1, b2, b3⟩ := Cond.arrayClass_spec (hts (.arrayClass .boolean) (TS_p2 166 rfl rfl))
  have hO := hl (.arrayOver (.object RX0)) (by decide +kernel)
  obtain ⟨mQ, cQ, kQ, g1, g2, g3, g4, g5⟩ := Cond.arrayOver_spec hO
  refine ⟨(fun k => (f k).1, fun k => (f k).2), (cI, cZ, cQ), ⟨fun k q hq => hf k q hq, fun k q hq => ?_⟩, va_AO.of hO⟩
  match k, hq with
  | 0, hq => cases hq; exact ⟨fun n z => ⟨fun k h => (by cases h), kI, a2, mI, a3⟩, a1⟩
  | 1, hq => cases hq; exact ⟨fun n z => ⟨fun k h => (by cases h), kZ, b2, mZ, b3⟩, b1⟩
  | 2, hq => cases hq; exact ⟨fun n z => ⟨fun k h => (by cases h), kQ, g3, mQ, g4⟩, kQ, mQ, g3, g4, g1, g5⟩
  | k + 3, hq => simp at hq
def tmS (i : Nat) : Term := if i = 0 then .string RX6 80 else .string RX6 68
set_option maxRecDepth 100000 in
theorem en_of {b : Nat} {s : State} (hl : ∀ w ∈ lw_tbl, w.before #[Value.ref b] s = true) (hg : (Jvm.Cond.and given_1 narrow_1).before #[Value.ref b] s = true) : ∃ τ : AT, EN τ (fun q => s.heap.size ≤ q) s s.heap := by
  have hs := flat_of_before _ hg
  have hA : ∀ a : Nat, a < s.heap.size → ¬ (fun q => s.heap.size ≤ q) a := fun a h => Nat.not_le.mpr h
  obtain ⟨t, ht, hT⟩ := va_Tof (tm := .static "HiccupLane$Numbers" "TURNED" "[I") (ty := .int) (N := 10) (f := fun j => .int (tuR.getD j 0)) (A := fun q => s.heap.size ≤ q) (by decide) (hs _ (by decide +kernel)) (va_eqt (hs _ (by decide +kernel))) (fun j hj => va_eqt (hs _ ((by decide +kernel : ∀ j : Nat, j < 10 → Cond.eq (.elem (.static "HiccupLane$Numbers" "TURNED" "[I") (.int (Int32.ofNat j))) (.int (tuR.getD j 0)) ∈ flatC (Jvm.Cond.and given_1 narrow_1)) j hj))) hA
  obtain ⟨adK, adV, hS, hSt⟩ := vk_Sof (args := #[Value.ref b]) (s := s) (N := 2) (tm := tmS) (len := [132, 10]) (byt := [byW, byS]) (A := fun q => s.heap.size ≤ q) (by decide)
    (fun i hi => hs _ ((by decide +kernel : ∀ i : Nat, i < 2 → Cond.exactly (tmS i) "java/lang/String" ∈ flatC (Jvm.Cond.and given_1 narrow_1)) i hi))
    (fun i hi => hs _ ((by decide +kernel : ∀ i : Nat, i < 2 → Cond.eq (.field (tmS i) "java/lang/String" "coder" "B") (.int 0) ∈ flatC (Jvm.Cond.and given_1 narrow_1)) i hi))
    (fun i hi => hs _ ((by decide +kernel : ∀ i : Nat, i < 2 → Cond.arrayOf (.field (tmS i) "java/lang/String" "value" "[B") .byte ∈ flatC (Jvm.Cond.and given_1 narrow_1)) i hi))
    (fun i hi => hs _ ((by decide +kernel : ∀ i : Nat, i < 2 → Cond.eq (.length (.field (tmS i) "java/lang/String" "value" "[B")) (.int (Int32.ofNat ([132, 10].getD i 0))) ∈ flatC (Jvm.Cond.and given_1 narrow_1)) i hi))
    (fun i hi j hj => hs _ ((by decide +kernel : ∀ i : Nat, i < 2 → ∀ j : Nat, j < [132, 10].getD i 0 → Cond.eq (.elem (.field (tmS i) "java/lang/String" "value" "[B") (.int (Int32.ofNat j))) (.int (([byW, byS].getD i []).getD j 0)) ∈ flatC (Jvm.Cond.and given_1 narrow_1)) i hi j hj))
    (fun i j hi hj hij => by
      have h : (Cond.not (Cond.eq (tmS 0) (tmS 1))).before #[Value.ref b] s = true := hs _ (by decide +kernel)
      rcases (show i = 0 ∨ i = 1 by omega) with rfl | rfl <;> rcases (show j = 0 ∨ j = 1 by omega) with rfl | rfl
      · exact absurd rfl hij
      · exact Or.inl h
      · exact Or.inr h
      · exact absurd rfl hij) hA
  refine ⟨(t, adK, adV), va_Zof (hl _ (by decide +kernel)) (hl _ (by decide +kernel)) ht hA, hT, hS, vk_R.of (hl _ (by decide +kernel)) ?_, vk_R.of (hl _ (by decide +kernel)) ?_, va_Zof (hl _ (by decide +kernel)) (hl _ (by decide +kernel)) (va_eqt (hs _ (by decide +kernel))) hA, va_Zqof (hl _ (by decide +kernel)) (hl _ (by decide +kernel)) (hs _ (by decide +kernel)) hA⟩
  · exact hSt 0 (by decide)
  · exact hSt 1 (by decide)
