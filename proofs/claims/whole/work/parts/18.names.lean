/-! ===== asking, by word; in which order one says names ===== -/
theorem lawB_b {w : Nat} {v : Int32} (hw : w < 3) : loB w ≤ lawB w v ∧ lawB w v ≤ hiB w := by
  have : w = 0 ∨ w = 1 ∨ w = 2 := by omega
  rcases this with rfl | rfl | rfl
  · show (1 : Int32) ≤ jmmax 1 (jmmin 99 v) ∧ jmmax 1 (jmmin 99 v) ≤ 99
    unfold jmmax jmmin; grind
  · show (0 : Int32) ≤ jmmax 0 (jmmin 1000 v) ∧ jmmax 0 (jmmin 1000 v) ≤ 1000
    unfold jmmax jmmin; grind
  · show (0 : Int32) ≤ jmmax 0 (jmmin 99 v) ∧ jmmax 0 (jmmin 99 v) ≤ 99
    unfold jmmax jmmin; grind
theorem r_hics {n a p : Nat} {s t : Mem} (h : nS n a s t) (hL : lawR s 10 t) (hp : p < n) :
    ok2 (f_X1_ask 10 a 0 (Int32.ofNat p) s) (f_X12_hicsOf (Int32.ofNat p) t) (fun r r' => r.1 = r'.1 ∧ (1 ≤ r.1 ∧ r.1 ≤ 99) ∧ nSX s r.2 ∧ nST t r'.2) := by
  obtain ⟨t1, e1, f1, F1⟩ := m_asks h hp
  have h1 := r_tells (w := 0) h hL hp (by omega) f1 F1
  unfold f_X12_hicsOf
  rw [e1]
  have e2 := F1 0 (by omega)
  simp (disch := omega) only [rd_N, wr_N, rd_L, wr_L, Option.bind_some, N_le, N_lt, N_eq, N_leL, L_leN, N_ltL, L_ltN, N_eqL, L_eqN, N_neg, neg_N, N_nlt0, N_0le, N_add, N_addL, L_addN, N_mul, N_mulL, L_mulN, N_sub, N_subL, m_eq, m_ne, u_eq, u_ne, if_true, if_false, ite_true, ite_false, if_pos, if_neg, e2]
  obtain ⟨⟨v, s'⟩, ⟨v', t'⟩, q1, q2, q3, ⟨u, q4⟩, q5, q6⟩ := h1
  have q2' : f_X12_lawTells 0 (20 - fct (t 1) p 0) 1 99 t1 = some (v', t') := q2
  rw [q2']
  refine ⟨_, _, q1, rfl, q3, ?_, q5, q6⟩
  rw [q4]
  exact lawB_b (by omega)
theorem r_stops {n a p : Nat} {s t : Mem} (h : nS n a s t) (hL : lawR s 10 t) (hp : p < n) :
    ok2 (f_X1_ask 10 a 1 (Int32.ofNat p) s) (f_X12_stopsOf (Int32.ofNat p) t) (fun r r' => r.1 = r'.1 ∧ (0 ≤ r.1 ∧ r.1 ≤ 1000) ∧ nSX s r.2 ∧ nST t r'.2) := by
  obtain ⟨t1, e1, f1, F1⟩ := m_asks h hp
  have h1 := r_tells (w := 1) h hL hp (by omega) f1 F1
  unfold f_X12_stopsOf
  rw [e1]
  have e2 := F1 0 (by omega)
  simp (disch := omega) only [rd_N, wr_N, rd_L, wr_L, Option.bind_some, N_le, N_lt, N_eq, N_leL, L_leN, N_ltL, L_ltN, N_eqL, L_eqN, N_neg, neg_N, N_nlt0, N_0le, N_add, N_addL, L_addN, N_mul, N_mulL, L_mulN, N_sub, N_subL, m_eq, m_ne, u_eq, u_ne, if_true, if_false, ite_true, ite_false, if_pos, if_neg, e2]
  obtain ⟨⟨v, s'⟩, ⟨v', t'⟩, q1, q2, q3, ⟨u, q4⟩, q5, q6⟩ := h1
  have q2' : f_X12_lawTells 1 (50 + 20 * fct (t 1) p 0) 0 1000 t1 = some (v', t') := q2
  rw [q2']
  refine ⟨_, _, q1, rfl, q3, ?_, q5, q6⟩
  rw [q4]
  exact lawB_b (by omega)
theorem r_passes {n a p : Nat} {s t : Mem} (h : nS n a s t) (hL : lawR s 10 t) (hp : p < n) :
    ok2 (f_X1_ask 10 a 2 (Int32.ofNat p) s) (f_X12_passesOf (Int32.ofNat p) t) (fun r r' => r.1 = r'.1 ∧ (0 ≤ r.1 ∧ r.1 ≤ 99) ∧ nSX s r.2 ∧ nST t r'.2) := by
  obtain ⟨t1, e1, f1, F1⟩ := m_asks h hp
  have h1 := r_tells (w := 2) h hL hp (by omega) f1 F1
  unfold f_X12_passesOf
  rw [e1]
  have e2 := F1 1 (by omega)
  simp (disch := omega) only [rd_N, wr_N, rd_L, wr_L, Option.bind_some, N_le, N_lt, N_eq, N_leL, L_leN, N_ltL, L_ltN, N_eqL, L_eqN, N_neg, neg_N, N_nlt0, N_0le, N_add, N_addL, L_addN, N_mul, N_mulL, L_mulN, N_sub, N_subL, m_eq, m_ne, u_eq, u_ne, if_true, if_false, ite_true, ite_false, if_pos, if_neg, e2]
  obtain ⟨⟨v, s'⟩, ⟨v', t'⟩, q1, q2, q3, ⟨u, q4⟩, q5, q6⟩ := h1
  have q2' : f_X12_lawTells 2 (fct (t 1) p 1 / 2) 0 99 t1 = some (v', t') := q2
  rw [q2']
  refine ⟨_, _, q1, rfl, q3, ?_, q5, q6⟩
  rw [q4]
  exact lawB_b (by omega)
/-- the order: names told, then all; once each, never himself -/
def srcO (nm : Nat → Nat) (k i : Nat) : Nat := if i < k then nm i else i - k
def skpO (nm : Nat → Nat) (k p i : Nat) : Prop := srcO nm k i = p ∨ ∃ j, j < k ∧ j < i ∧ nm j = srcO nm k i
noncomputable def cnd (nm : Nat → Nat) (k p : Nat) : Nat → List Nat
  | 0 => []
  | i + 1 => have := Classical.propDecidable; if skpO nm k p i then cnd nm k p i else cnd nm k p i ++ [srcO nm k i]
theorem cnd_skip {nm : Nat → Nat} {k p i : Nat} (h : skpO nm k p i) : cnd nm k p (i + 1) = cnd nm k p i := by
  rw [cnd]
  simp only [if_pos h]
theorem cnd_put {nm : Nat → Nat} {k p i : Nat} (h : ¬ skpO nm k p i) : cnd nm k p (i + 1) = cnd nm k p i ++ [srcO nm k i] := by
  rw [cnd]
  simp only [if_neg h]
theorem cnd_pre {nm : Nat → Nat} {k p i : Nat} : ∀ j, cnd nm k p i <+: cnd nm k p (i + j)
  | 0 => List.prefix_refl _
  | j + 1 => by
    refine List.IsPrefix.trans (cnd_pre j) ?_
    rw [show i + (j + 1) = (i + j) + 1 by omega]
    by_cases h : skpO nm k p (i + j)
    · rw [cnd_skip h]
      exact List.prefix_refl _
    · rw [cnd_put h]
      exact List.prefix_append _ _
theorem cnd_get {nm : Nat → Nat} {k p i m : Nat} (h : ¬ skpO nm k p i) (hi : i < m) : (cnd nm k p m)[(cnd nm k p i).length]? = some (srcO nm k i) := by
  have h1 := cnd_pre (nm := nm) (k := k) (p := p) (i := i + 1) (m - (i + 1))
  rw [show i + 1 + (m - (i + 1)) = m by omega, cnd_put h] at h1
  obtain ⟨r, hr⟩ := h1
  rw [← hr]
  simp
theorem cnd_mem {nm : Nat → Nat} {k p : Nat} {n : Nat} (hn : n ≤ 14) (hnm : ∀ i, i < k → nm i < 14) : ∀ {m : Nat}, m ≤ k + n → ∀ q, q ∈ cnd nm k p m → q < 14 ∧ q ≠ p
  | 0, _, q, hq => by simp [cnd] at hq
  | m + 1, hm, q, hq => by
    by_cases h : skpO nm k p m
    · rw [cnd_skip h] at hq
      exact cnd_mem hn hnm (by omega) q hq
    · rw [cnd_put h] at hq
      rcases List.mem_append.mp hq with q1 | q1
      · exact cnd_mem hn hnm (by omega) q q1
      · simp at q1
        subst q1
        refine ⟨?_, fun e => h (Or.inl e)⟩
        unfold srcO
        split
        · next hk => exact hnm m hk
        · omega
theorem cnd_nodup {nm : Nat → Nat} {k p : Nat} : ∀ {m : Nat}, (cnd nm k p m).Nodup ∧ ∀ q, q ∈ cnd nm k p m → ∃ i, i < m ∧ srcO nm k i = q
  | 0 => ⟨by simp [cnd], fun q hq => by simp [cnd] at hq⟩
  | m + 1 => by
    obtain ⟨h1, h2⟩ := cnd_nodup (nm := nm) (k := k) (p := p) (m := m)
    by_cases h : skpO nm k p m
    · rw [cnd_skip h]
      exact ⟨h1, fun q hq => by obtain ⟨i, hi, e⟩ := h2 q hq; exact ⟨i, by omega, e⟩⟩
    · rw [cnd_put h]
      refine ⟨?_, fun q hq => ?_⟩
      · rw [List.nodup_append]
        refine ⟨h1, by simp, fun x hx y hy e => ?_⟩
        simp at hy
        subst hy
        obtain ⟨i, hi, e'⟩ := h2 x hx
        refine h (Or.inr ?_)
        by_cases hik : i < k
        · refine ⟨i, hik, hi, ?_⟩
          have : srcO nm k i = nm i := by unfold srcO; rw [if_pos hik]
          rw [← this, e', e]
        · exfalso
          have e1 : srcO nm k i = i - k := by unfold srcO; rw [if_neg hik]
          have e2 : srcO nm k m = m - k := by unfold srcO; rw [if_neg (by omega)]
          omega
      · rcases List.mem_append.mp hq with q1 | q1
        · obtain ⟨i, hi, e⟩ := h2 q q1
          exact ⟨i, by omega, e⟩
        · simp at q1
          exact ⟨m, by omega, q1.symm⟩
theorem nodup_len : ∀ (m : Nat) (l : List Nat), l.Nodup → (∀ q, q ∈ l → q < m) → l.length ≤ m
  | 0, l, _, h => by
    cases l with
    | nil => simp
    | cons x r => exact absurd (h x (by simp)) (by omega)
  | m + 1, l, hd, h => by
    by_cases hm : m ∈ l
    · have h1 := nodup_len m (l.erase m) (hd.erase m) (fun q hq => by
        have h2 := List.mem_of_mem_erase hq
        have h3 : q ≠ m := fun e => by
          subst e
          exact (List.Nodup.not_mem_erase hd) hq
        have := h q h2
        omega)
      rw [List.length_erase_of_mem hm] at h1
      omega
    · have := nodup_len m l hd (fun q hq => by
        have h2 := h q hq
        have h3 : q ≠ m := fun e => hm (e ▸ hq)
        omega)
      omega
theorem cnd_len {nm : Nat → Nat} {k p n m : Nat} (hn : n ≤ 14) (hnm : ∀ i, i < k → nm i < 14) (hp : p < 14) (hm : m ≤ k + n) : (cnd nm k p m).length ≤ 13 := by
  have h1 := (cnd_nodup (nm := nm) (k := k) (p := p) (m := m)).1
  have h2 := cnd_mem (p := p) hn hnm hm
  have h3 : (p :: cnd nm k p m).Nodup := List.nodup_cons.mpr ⟨fun q => (h2 p q).2 rfl, h1⟩
  have := nodup_len 14 _ h3 (fun q hq => by
    rcases List.mem_cons.mp hq with rfl | q1
    · exact hp
    · exact (h2 q q1).1)
  simp at this
  omega
