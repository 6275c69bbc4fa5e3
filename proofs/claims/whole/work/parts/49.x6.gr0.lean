/-! ===== the fresh pair is related ===== -/
theorem row0 {M : Nat} {s : Mem} {r : Nat} {c : Int32} {f : Nat → Int32} {a b : Int32} (hs : s r 1 = 0) (hc : c = 0) : rowR M s r c f a b := by
  subst hc
  exact ⟨0, by omega, hs, rfl, fun i hi => by omega⟩
theorem gr0 : GR sC tR := by
  refine ⟨0, ⟨⟨⟨Or.inl rfl, by omega, rfl, rfl, Or.inl rfl⟩, ⟨⟨rfl, rfl, rfl, rfl, rfl⟩, fun i hi => by omega⟩, ⟨by decide, fun i hi => by omega⟩, fun i hi => rfl⟩, fun i hi => by omega, by decide, rfl⟩, ⟨rfl, ⟨⟨0, 0, by omega, by omega, rfl, rfl, rfl, fun i hi => by omega, fun l hl => by omega⟩, ?_, ⟨0, by omega, rfl, rfl, fun l hl => by omega⟩, ⟨0, by omega, rfl, rfl, fun l hl => by omega⟩⟩, ?_⟩,
    ⟨0, 0, by omega, by omega, rfl, rfl, rfl, fun u hu => by omega⟩, ⟨rfl, Or.inl rfl⟩, ⟨⟨0, by omega, rfl, rfl, fun i hi => by omega⟩, rfl, rfl⟩, ?_⟩
  · refine ⟨0, by omega, rfl, rfl, fun p hp => ⟨0, fun _ => 0, ?_⟩⟩
    exact ⟨by omega, rfl, fun i hi => by omega, Or.inl ⟨rfl, fun l hl => by omega⟩⟩
  · refine ⟨row0 rfl rfl, ⟨row0 rfl rfl, row0 rfl rfl, row0 rfl rfl, fun i hi _ => ?_⟩, ⟨row0 rfl rfl, row0 rfl rfl, row0 rfl rfl⟩, ⟨row0 rfl rfl, row0 rfl rfl⟩, row0 rfl rfl, row0 rfl rfl, row0 rfl rfl⟩
    have : Int32.ofNat i < 0 := hi
    rw [N_nlt0 (by omega)] at this
    exact this.elim
  · unfold wrdR
    decide +kernel
