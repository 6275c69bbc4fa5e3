/-! ===== constructors: new cells by name ===== -/
theorem len_q {A R : CH} {x : va_E} {a r n : Nat} (hA : A.length = a) (hR : R.length = r) (h : a + (r + 1) = n) : (A ++ x :: R).length = n := by
  rw [List.length_append, List.length_cons, hA, hR, h]
section ACX
variable {Z : CZ} {e : va_E} {T T' A R T2 : CH} {pc nL fr C N c n m i j j2 : Nat} {L : List (Option Value)} {st : List Value} {cc : ByteArray} {own : String} {x : Int32}
theorem ac_is (h : T = T') (K : AC Z e T' c n pc L st) : AC Z e T c n pc L st := by
  subst h
  exact K
theorem ac_aastL {fs2 : List Value} {f : Nat → Option Nat} (hA : A.length = j) (hR : (A ++ .inl (cQr Z, m, .inr (.inr (.inr (.inr f)))) :: R).length = j2) (X : AXC Z cc nL own fr C N) (hd : decode cc pc = .ok (.aastore, 1)) (hin : ¬ (x < 0 ∨ m ≤ x.toNatClampNeg)) (hi : x.toNatClampNeg = i)
    (K : AC Z e (A ++ .inl (cQr Z, m, .inr (.inr (.inr (.inr (va_up f i (some (cB Z + j2))))))) :: (R ++ .inr (0, fs2) :: T2)) c n (pc + 1) L st) : AC Z e ((A ++ .inl (cQr Z, m, .inr (.inr (.inr (.inr f)))) :: R) ++ .inr (0, fs2) :: T2) c n pc L (.ref (cB Z + j2) :: .int x :: .ref (cB Z + j) :: st) := by
  subst hA hR hi
  refine ac_aast (m := m) (f := f) (fs2 := fs2) (T' := A ++ .inl (cQr Z, m, .inr (.inr (.inr (.inr (va_up f x.toNatClampNeg (some (cB Z + (A ++ .inl (cQr Z, m, .inr (.inr (.inr (.inr f)))) :: R).length))))))) :: (R ++ .inr (0, fs2) :: T2)) X hd ?_ ?_ hin ?_ K
  · rw [List.append_assoc, List.getElem?_append_right (Nat.le_refl _), Nat.sub_self]
    rfl
  · rw [List.getElem?_append_right (Nat.le_refl _), Nat.sub_self]
    rfl
  · rw [List.append_assoc, List.set_append_right _ _ (Nat.le_refl _), Nat.sub_self]
    rfl
end ACX
