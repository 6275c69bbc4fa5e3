/-! ===== reasoning about the methods: runs, loops, small numbers ===== -/
def ok {α : Type} (o : Option α) (Q : α → Prop) : Prop := ∃ a, o = some a ∧ Q a
theorem ok.some {α : Type} {a : α} {Q : α → Prop} (h : Q a) : ok (some a) Q := ⟨a, rfl, h⟩
theorem ok.bind {α β : Type} {o : Option α} {f : α → Option β} {P : α → Prop} {Q : β → Prop} (h : ok o P) (k : ∀ a, P a → ok (f a) Q) : ok (o.bind f) Q := by
  obtain ⟨a, rfl, ha⟩ := h
  exact k a ha
theorem ok.mono {α : Type} {o : Option α} {P Q : α → Prop} (h : ok o P) (k : ∀ a, P a → Q a) : ok o Q := by
  obtain ⟨a, e, ha⟩ := h
  exact ⟨a, e, k a ha⟩
theorem ok.ite {α : Type} {c : Prop} [Decidable c] {a b : Option α} {Q : α → Prop} (h1 : c → ok a Q) (h2 : ¬ c → ok b Q) : ok (if c then a else b) Q := by
  by_cases h : c
  · rw [if_pos h]; exact h1 h
  · rw [if_neg h]; exact h2 h
/-- both sides run, and their ends are related -/
def ok2 {α β : Type} (o : Option α) (o' : Option β) (Q : α → β → Prop) : Prop := ∃ a b, o = some a ∧ o' = some b ∧ Q a b
theorem ok2.bind {α α' β β' : Type} {o : Option α} {o' : Option α'} {f : α → Option β} {f' : α' → Option β'} {P : α → α' → Prop} {Q : β → β' → Prop} (h : ok2 o o' P) (k : ∀ a b, P a b → ok2 (f a) (f' b) Q) : ok2 (o.bind f) (o'.bind f') Q := by
  obtain ⟨a, b, rfl, rfl, hp⟩ := h
  exact k a b hp
theorem ok2.some {α β : Type} {a : α} {b : β} {Q : α → β → Prop} (h : Q a b) : ok2 (some a) (some b) Q := ⟨a, b, rfl, rfl, h⟩
theorem ok2.mono {α β : Type} {o : Option α} {o' : Option β} {P Q : α → β → Prop} (h : ok2 o o' P) (k : ∀ a b, P a b → Q a b) : ok2 o o' Q := by
  obtain ⟨a, b, e, e', hp⟩ := h
  exact ⟨a, b, e, e', k a b hp⟩
theorem ok2.left {α β γ : Type} {o : Option γ} {f : γ → Option α} {o' : Option β} {P : γ → Prop} {Q : α → β → Prop} (h : ok o P) (k : ∀ a, P a → ok2 (f a) o' Q) : ok2 (o.bind f) o' Q := by
  obtain ⟨a, rfl, ha⟩ := h
  exact k a ha
theorem ok2.right {α β γ : Type} {o : Option γ} {f : γ → Option β} {o' : Option α} {P : γ → Prop} {Q : α → β → Prop} (h : ok o P) (k : ∀ a, P a → ok2 o' (f a) Q) : ok2 o' (o.bind f) Q := by
  obtain ⟨a, rfl, ha⟩ := h
  exact k a ha
theorem ok2.of {α β : Type} {o : Option α} {o' : Option β} {Q : α → β → Prop} (h : ok o (fun a => ok o' (fun b => Q a b))) : ok2 o o' Q := by
  obtain ⟨a, e, b, e', q⟩ := h
  exact ⟨a, b, e, e', q⟩
theorem ok2.ite {α β : Type} {c c' : Prop} [Decidable c] [Decidable c'] {a b : Option α} {a' b' : Option β} {Q : α → β → Prop} (hc : c ↔ c') (h1 : c → c' → ok2 a a' Q) (h2 : ¬ c → ¬ c' → ok2 b b' Q) : ok2 (if c then a else b) (if c' then a' else b') Q := by
  by_cases h : c
  · rw [if_pos h, if_pos (hc.mp h)]; exact h1 h (hc.mp h)
  · rw [if_neg h, if_neg (fun q => h (hc.mpr q))]; exact h2 h (fun q => h (hc.mpr q))
/-- loops -/
theorem it_run {S B : Type} {f : S → Option (S ⊕ B)} {Q : B → Prop} (m : Nat) (I : Nat → S → Prop) (hb : ∀ k s, I k s → k ≤ m) (hs : ∀ k s, I k s → (∃ s', f s = some (.inl s') ∧ I (k + 1) s') ∨ (∃ b, f s = some (.inr b) ∧ Q b)) : ∀ n k s, I k s → m < n + k → ok (it n f s) Q
  | 0, k, s, hi, hm => absurd (hb k s hi) (by omega)
  | n + 1, k, s, hi, hm => by
    unfold it
    rcases hs k s hi with ⟨s', e, hi'⟩ | ⟨b, e, hb'⟩
    · rw [e]
      exact it_run m I hb hs n (k + 1) s' hi' (by omega)
    · rw [e]
      exact ⟨b, rfl, hb'⟩
theorem it2_run {S B S' B' : Type} {f : S → Option (S ⊕ B)} {f' : S' → Option (S' ⊕ B')} {Q : B → B' → Prop} (m : Nat) (I : Nat → S → S' → Prop) (hb : ∀ k s t, I k s t → k ≤ m)
    (hs : ∀ k s t, I k s t → ok2 (f s) (f' t) (fun q q' => (∃ s' t', q = .inl s' ∧ q' = .inl t' ∧ I (k + 1) s' t') ∨ (∃ b b', q = .inr b ∧ q' = .inr b' ∧ Q b b'))) : ∀ n k s t, I k s t → m < n + k → ok2 (it n f s) (it n f' t) Q
  | 0, k, s, t, hi, hm => absurd (hb k s t hi) (by omega)
  | n + 1, k, s, t, hi, hm => by
    unfold it
    obtain ⟨q, q', e, e', ⟨s', t', rfl, rfl, hi'⟩ | ⟨b, b', rfl, rfl, hq⟩⟩ := hs k s t hi
    · rw [e, e']
      exact it2_run m I hb hs n (k + 1) s' t' hi' (by omega)
    · rw [e, e']
      exact ⟨b, b', rfl, rfl, hq⟩
theorem it_seq {S B : Type} {f : S → Option (S ⊕ B)} (st : Nat → S) (m : Nat) (b : B) (hs : ∀ k, k < m → f (st k) = some (.inl (st (k + 1)))) (he : f (st m) = some (.inr b)) : ∀ n k, k ≤ m → m < n + k → it n f (st k) = some b
  | 0, k, h1, h2 => by omega
  | n + 1, k, h1, h2 => by
    unfold it
    by_cases hk : k = m
    · subst hk
      rw [he]
    · rw [hs k (by omega)]
      exact it_seq st m b hs he n (k + 1) (by omega) (by omega)
theorem it_go {S B : Type} {f : S → Option (S ⊕ B)} (st : Nat → S) (m : Nat) (b : B) (hm : m < 1000000) (hs : ∀ k, k < m → f (st k) = some (.inl (st (k + 1)))) (he : f (st m) = some (.inr b)) : it FUEL f (st 0) = some b := it_seq st m b hs he FUEL 0 (by omega) (by unfold FUEL; omega)
theorem it_ok1 {S B : Type} {f : S → Option (S ⊕ B)} {Q : B → Prop} {s : S} (m : Nat) (hm : m < 1000000) (I : Nat → S → Prop) (h0 : I 0 s) (hb : ∀ k s, I k s → k ≤ m) (hs : ∀ k s, I k s → (∃ s', f s = some (.inl s') ∧ I (k + 1) s') ∨ (∃ b, f s = some (.inr b) ∧ Q b)) : ok (it FUEL f s) Q := it_run m I hb hs FUEL 0 s h0 (by unfold FUEL; omega)
theorem it_ok2 {S B S' B' : Type} {f : S → Option (S ⊕ B)} {f' : S' → Option (S' ⊕ B')} {Q : B → B' → Prop} {s : S} {t : S'} (m : Nat) (hm : m < 1000000) (I : Nat → S → S' → Prop) (h0 : I 0 s t) (hb : ∀ k s t, I k s t → k ≤ m)
    (hs : ∀ k s t, I k s t → ok2 (f s) (f' t) (fun q q' => (∃ s' t', q = .inl s' ∧ q' = .inl t' ∧ I (k + 1) s' t') ∨ (∃ b b', q = .inr b ∧ q' = .inr b' ∧ Q b b'))) : ok2 (it FUEL f s) (it FUEL f' t) Q := it2_run m I hb hs FUEL 0 s t h0 (by unfold FUEL; omega)
theorem N_toInt {a : Nat} (h : a < 2147483648) : (Int32.ofNat a).toInt = a := Int32.toInt_ofNat_of_lt (by omega)
theorem N_nat {a : Nat} (h : a < 2147483648) : (Int32.ofNat a).toNatClampNeg = a := Int32.toNatClampNeg_ofNat_of_lt (by omega)
theorem I_nat (x : Int32) : x.toNatClampNeg = x.toInt.toNat := rfl
theorem L_toInt {a : Nat} (h : (OfNat.ofNat a : Nat) < 2147483648) : (no_index (OfNat.ofNat a) : Int32).toInt = ((OfNat.ofNat a : Nat) : Int) := N_toInt h
theorem I2N {x : Int32} {m : Nat} (h0 : 0 ≤ x.toInt) (h1 : x.toInt < m) : ∃ k, x = Int32.ofNat k ∧ k < m := by
  have h2 := Int32.toInt_lt x
  refine ⟨x.toInt.toNat, ?_, by omega⟩
  apply Int32.toInt_inj.mp
  rw [N_toInt (by omega)]
  omega
theorem N_le {a b : Nat} (ha : a < 2147483648) (hb : b < 2147483648) : (Int32.ofNat a ≤ Int32.ofNat b) = (a ≤ b) := by
  rw [Int32.le_iff_toInt_le, N_toInt ha, N_toInt hb]
  simp
theorem N_lt {a b : Nat} (ha : a < 2147483648) (hb : b < 2147483648) : (Int32.ofNat a < Int32.ofNat b) = (a < b) := by
  rw [Int32.lt_iff_toInt_lt, N_toInt ha, N_toInt hb]
  simp
theorem N_eq {a b : Nat} (ha : a < 2147483648) (hb : b < 2147483648) : (Int32.ofNat a = Int32.ofNat b) = (a = b) := by
  rw [← Int32.toInt_inj, N_toInt ha, N_toInt hb]
  simp only [Int.natCast_inj]
theorem N_leL {a b : Nat} (ha : a < 2147483648) (hb : (OfNat.ofNat b : Nat) < 2147483648) : (Int32.ofNat a ≤ (no_index (OfNat.ofNat b) : Int32)) = (a ≤ (OfNat.ofNat b : Nat)) := N_le ha hb
theorem L_leN {a b : Nat} (ha : (OfNat.ofNat a : Nat) < 2147483648) (hb : b < 2147483648) : ((no_index (OfNat.ofNat a) : Int32) ≤ Int32.ofNat b) = ((OfNat.ofNat a : Nat) ≤ b) := N_le ha hb
theorem N_ltL {a b : Nat} (ha : a < 2147483648) (hb : (OfNat.ofNat b : Nat) < 2147483648) : (Int32.ofNat a < (no_index (OfNat.ofNat b) : Int32)) = (a < (OfNat.ofNat b : Nat)) := N_lt ha hb
theorem L_ltN {a b : Nat} (ha : (OfNat.ofNat a : Nat) < 2147483648) (hb : b < 2147483648) : ((no_index (OfNat.ofNat a) : Int32) < Int32.ofNat b) = ((OfNat.ofNat a : Nat) < b) := N_lt ha hb
theorem N_eqL {a b : Nat} (ha : a < 2147483648) (hb : (OfNat.ofNat b : Nat) < 2147483648) : (Int32.ofNat a = (no_index (OfNat.ofNat b) : Int32)) = (a = (OfNat.ofNat b : Nat)) := N_eq ha hb
theorem L_eqN {a b : Nat} (ha : (OfNat.ofNat a : Nat) < 2147483648) (hb : b < 2147483648) : ((no_index (OfNat.ofNat a) : Int32) = Int32.ofNat b) = ((OfNat.ofNat a : Nat) = b) := N_eq ha hb
theorem N_neg {a : Nat} (ha : a < 2147483648) : (Int32.ofNat a = -1) = False := by
  rw [← Int32.toInt_inj, N_toInt ha]
  simp
theorem neg_N {a : Nat} (ha : a < 2147483648) : (-1 = Int32.ofNat a) = False := by
  rw [show (-1 = Int32.ofNat a) = (Int32.ofNat a = -1) from propext eq_comm, N_neg ha]
theorem N_nlt0 {a : Nat} (ha : a < 2147483648) : (Int32.ofNat a < 0) = False := by
  rw [N_ltL ha (by omega)]
  simp
theorem N_0le {a : Nat} (ha : a < 2147483648) : (0 ≤ Int32.ofNat a) = True := by
  rw [L_leN (by omega) ha]
  simp
theorem N_add {a b : Nat} : Int32.ofNat a + Int32.ofNat b = Int32.ofNat (a + b) := (Int32.ofNat_add a b).symm
theorem N_addL {a b : Nat} : Int32.ofNat a + (no_index (OfNat.ofNat b) : Int32) = Int32.ofNat (a + (OfNat.ofNat b : Nat)) := (Int32.ofNat_add a b).symm
theorem N_mul {a b : Nat} : Int32.ofNat a * Int32.ofNat b = Int32.ofNat (a * b) := (Int32.ofNat_mul a b).symm
theorem N_mulL {a b : Nat} : Int32.ofNat a * (no_index (OfNat.ofNat b) : Int32) = Int32.ofNat (a * (OfNat.ofNat b : Nat)) := (Int32.ofNat_mul a b).symm
theorem L_addN {a b : Nat} : (no_index (OfNat.ofNat a) : Int32) + Int32.ofNat b = Int32.ofNat ((OfNat.ofNat a : Nat) + b) := (Int32.ofNat_add a b).symm
theorem L_mulN {a b : Nat} : (no_index (OfNat.ofNat a) : Int32) * Int32.ofNat b = Int32.ofNat ((OfNat.ofNat a : Nat) * b) := (Int32.ofNat_mul a b).symm
theorem N_sub {a b : Nat} (h : b ≤ a) : Int32.ofNat a - Int32.ofNat b = Int32.ofNat (a - b) := by
  have e : Int32.ofNat a = Int32.ofNat (a - b) + Int32.ofNat b := by rw [N_add]; congr 1; omega
  rw [e]
  grind
theorem N_subL {a b : Nat} (h : (OfNat.ofNat b : Nat) ≤ a) : Int32.ofNat a - (no_index (OfNat.ofNat b) : Int32) = Int32.ofNat (a - (OfNat.ofNat b : Nat)) := N_sub h
theorem rd_N {n : Nat} {f : Nat → Int32} {k : Nat} (h : k < n) (hn : n < 2147483648) : rd n f (Int32.ofNat k) = some (f k) := by
  unfold rd
  have e : ¬ (Int32.ofNat k < 0 ∨ n ≤ (Int32.ofNat k).toNatClampNeg) := by
    rw [N_nat (by omega)]
    rintro (q | q)
    · rw [N_nlt0 (by omega)] at q
      exact q
    · omega
  rw [if_neg e, N_nat (by omega)]
theorem wr_N {n : Nat} {σ : Mem} {c k : Nat} {v : Int32} (h : k < n) (hn : n < 2147483648) : wr n σ c (Int32.ofNat k) v = some (mset σ c k v) := by
  unfold wr
  have e : ¬ (Int32.ofNat k < 0 ∨ n ≤ (Int32.ofNat k).toNatClampNeg) := by
    rw [N_nat (by omega)]
    rintro (q | q)
    · rw [N_nlt0 (by omega)] at q
      exact q
    · omega
  rw [if_neg e, N_nat (by omega)]
theorem rd_L {n : Nat} {f : Nat → Int32} {k : Nat} (h : (OfNat.ofNat k : Nat) < n) (hn : n < 2147483648) : rd n f (no_index (OfNat.ofNat k)) = some (f (OfNat.ofNat k : Nat)) := rd_N h hn
theorem wr_L {n : Nat} {σ : Mem} {c k : Nat} {v : Int32} (h : (OfNat.ofNat k : Nat) < n) (hn : n < 2147483648) : wr n σ c (no_index (OfNat.ofNat k)) v = some (mset σ c (OfNat.ofNat k : Nat) v) := wr_N h hn
theorem m_eq {σ : Mem} {c j : Nat} {v : Int32} : mset σ c j v c = upd (σ c) j v := by simp [mset]
theorem m_ne {σ : Mem} {c j c' : Nat} {v : Int32} (h : c' ≠ c) : mset σ c j v c' = σ c' := by simp [mset, h]
theorem u_eq {f : Nat → Int32} {j : Nat} {v : Int32} : upd f j v j = v := by simp [upd]
theorem u_ne {f : Nat → Int32} {j j' : Nat} {v : Int32} (h : j' ≠ j) : upd f j v j' = f j' := by simp [upd, h]
