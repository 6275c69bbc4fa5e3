/-! ===== a wall: what a loop's next round is given, not looked into ===== -/
theorem hiE1 {β : Type} {q : (Int32 × Mem) ⊕ β} {P : Int32 → Mem → Prop} (hi : ∀ y : Int32 × Mem, q = .inl y → P y.1 y.2) {a : Int32} {m : Mem} (e : q = .inl (a, m)) : P a m := hi (a, m) e
theorem hiE2 {β : Type} {q : (Int32 × Int32 × Mem) ⊕ β} {P : Int32 → Int32 → Mem → Prop} (hi : ∀ y : Int32 × Int32 × Mem, q = .inl y → P y.1 y.2.1 y.2.2) {a b : Int32} {m : Mem} (e : q = .inl (a, b, m)) : P a b m := hi (a, b, m) e
theorem hiE3 {β : Type} {q : (Int32 × Int32 × Int32 × Mem) ⊕ β} {P : Int32 → Int32 → Int32 → Mem → Prop} (hi : ∀ y : Int32 × Int32 × Int32 × Mem, q = .inl y → P y.1 y.2.1 y.2.2.1 y.2.2.2) {a b c : Int32} {m : Mem} (e : q = .inl (a, b, c, m)) : P a b c m := hi (a, b, c, m) e
