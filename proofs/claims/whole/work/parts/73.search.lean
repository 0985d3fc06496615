/-! ===== mathematics of the search ===== -/
theorem minTo_le {g : Nat → Int} : ∀ {k i : Nat}, i < k → minTo g k ≤ g i := by
  intro k
  induction k with
  | zero => intro i h; omega
  | succ k ih =>
    intro i h
    unfold minTo
    by_cases e : i = k
    · subst e; exact Int.min_le_right _ _
    · exact Int.le_trans (Int.min_le_left _ _) (ih (by omega))
theorem minTo_1000 (g : Nat → Int) : ∀ k : Nat, minTo g k ≤ 1000 := by
  intro k
  induction k with
  | zero => exact Int.le_refl _
  | succ k ih => exact Int.le_trans (Int.min_le_left _ _) ih
theorem minTo_at {g : Nat → Int} : ∀ {k : Nat}, minTo g k < 1000 → ∃ i, i < k ∧ minTo g k = g i := by
  intro k
  induction k with
  | zero => intro h; exact absurd h (by show ¬ (1000 : Int) < 1000; omega)
  | succ k ih =>
    intro h
    unfold minTo at h ⊢
    by_cases c : g k ≤ minTo g k
    · exact ⟨k, (by omega), by rw [Int.min_eq_right c]⟩
    · obtain ⟨i, h1, h2⟩ := ih (by omega)
      exact ⟨i, (by omega), by rw [Int.min_eq_left (by omega)]; exact h2⟩
theorem le_minTo {g : Nat → Int} {x : Int} (hx : x ≤ 1000) : ∀ {k : Nat}, (∀ i, i < k → x ≤ g i) → x ≤ minTo g k := by
  intro k
  induction k with
  | zero => intro _; exact hx
  | succ k ih =>
    intro h
    unfold minTo
    exact Int.le_min.mpr ⟨ih (fun i hi => h i (by omega)), h k (by omega)⟩
section SR
variable {T : TW} {mv : Nat}
theorem stp_0 (f : Nat → Int) (s to : Nat) : 0 ≤ stp T mv f s to := by
  unfold stp
  split <;> omega
theorem Lr_bd : ∀ (r s : Nat), 0 ≤ Lr T mv r s ∧ Lr T mv r s ≤ 1000 := by
  intro r
  induction r with
  | zero => intro s; show 0 ≤ (if s = T.2 9 then (0 : Int) else 1000) ∧ (if s = T.2 9 then (0 : Int) else 1000) ≤ 1000; split <;> omega
  | succ r ih =>
    intro s
    have h1 := ih s
    have h2 : 0 ≤ minTo (fun to => stp T mv (Lr T mv r) s to) (2 ^ T.2 6) := le_minTo (by omega) (fun i _ => stp_0 _ _ _)
    show 0 ≤ min _ _ ∧ min _ _ ≤ _
    omega
theorem Lr_mono (r s : Nat) : Lr T mv (r + 1) s ≤ Lr T mv r s := Int.min_le_left _ _
theorem Lr_le {r r' : Nat} (h : r ≤ r') (s : Nat) : Lr T mv r' s ≤ Lr T mv r s := by
  obtain ⟨d, rfl⟩ := Nat.exists_eq_add_of_le h
  clear h
  induction d with
  | zero => exact Int.le_refl _
  | succ d ih => exact Int.le_trans (Lr_mono (r + d) s) ih
theorem Lr_step {r s to : Nat} (h1 : to < 2 ^ T.2 6) (h2 : okB T mv s to = true) (h3 : Lr T mv r to ≤ 999) : Lr T mv (r + 1) s ≤ max 0 (Lr T mv r to - gv T s to) := by
  have := minTo_le (g := fun to => stp T mv (Lr T mv r) s to) h1
  have e : stp T mv (Lr T mv r) s to = max 0 (Lr T mv r to - gv T s to) := if_pos ⟨h2, h3⟩
  show min _ _ ≤ _
  simp only [e] at this
  omega
theorem Lr_at {r s : Nat} (h : Lr T mv (r + 1) s < Lr T mv r s) : ∃ to, to < 2 ^ T.2 6 ∧ okB T mv s to = true ∧ Lr T mv r to ≤ 999 ∧ Lr T mv (r + 1) s = max 0 (Lr T mv r to - gv T s to) := by
  have hb := (Lr_bd (T := T) (mv := mv) r s).2
  have e : Lr T mv (r + 1) s = min (Lr T mv r s) (minTo (fun to => stp T mv (Lr T mv r) s to) (2 ^ T.2 6)) := rfl
  have e2 : Lr T mv (r + 1) s = minTo (fun to => stp T mv (Lr T mv r) s to) (2 ^ T.2 6) := by omega
  obtain ⟨to, h1, h2⟩ := minTo_at (g := fun to => stp T mv (Lr T mv r) s to) (k := 2 ^ T.2 6) (by omega)
  have h2 : minTo (fun to => stp T mv (Lr T mv r) s to) (2 ^ T.2 6) = stp T mv (Lr T mv r) s to := h2
  by_cases c : okB T mv s to = true ∧ Lr T mv r to ≤ 999
  · have e3 : stp T mv (Lr T mv r) s to = max 0 (Lr T mv r to - gv T s to) := if_pos c
    exact ⟨to, h1, c.1, c.2, (e2.trans h2).trans e3⟩
  · have e3 : stp T mv (Lr T mv r) s to = 1000 := if_neg c
    omega
theorem okB_split {s to : Nat} (h : okB T mv s to = true) : firmB T s = true ∧ firmB T to = true ∧ dryB T (s &&& to) = true ∧ Yd T (s ^^^ to) ≤ (T.2 11 : Int) ∧ nDf (s ^^^ to) mv = 0 := by
  unfold okB at h
  rw [Bool.and_eq_true, Bool.and_eq_true, Bool.and_eq_true, Bool.and_eq_true] at h
  exact ⟨h.1.1.1.1, h.1.1.1.2, h.1.1.2, of_decide_eq_true h.1.2, by simpa using h.2⟩
theorem okB_mk {s to : Nat} (h1 : firmB T s = true) (h2 : firmB T to = true) (h3 : dryB T (s &&& to) = true) (h4 : Yd T (s ^^^ to) ≤ (T.2 11 : Int)) (h5 : nDf (s ^^^ to) mv = 0) : okB T mv s to = true := by
  unfold okB
  rw [h1, h2, h3, decide_eq_true h4, h5]
  rfl
/-- where it can be had, the set is firm (the wanted one being so) -/
theorem Lr_firm (hw : firmB T (T.2 9) = true) : ∀ (r s : Nat), Lr T mv r s ≤ 999 → firmB T s = true := by
  intro r
  induction r with
  | zero =>
    intro s h
    have h : (if s = T.2 9 then (0 : Int) else 1000) ≤ 999 := h
    split at h
    · next e => rw [e]; exact hw
    · omega
  | succ r ih =>
    intro s h
    by_cases c : Lr T mv r s ≤ 999
    · exact ih s c
    · have hm := Lr_mono (T := T) (mv := mv) r s
      obtain ⟨to, -, h2, -, -⟩ := Lr_at (T := T) (mv := mv) (r := r) (s := s) (by omega)
      exact (okB_split h2).1
/-- an unfirm wanted town can't be had -/
theorem Lr_unfirm (hw : firmB T (T.2 9) = false) : ∀ (r s : Nat), Lr T mv r s = Lr T mv 0 s := by
  intro r
  induction r with
  | zero => intro s; rfl
  | succ r ih =>
    intro s
    by_cases c : Lr T mv (r + 1) s < Lr T mv r s
    · obtain ⟨to, h1, h2, h3, h4⟩ := Lr_at c
      rw [ih to] at h3
      have h3 : (if to = T.2 9 then (0 : Int) else 1000) ≤ 999 := h3
      split at h3
      · next e =>
        have := (okB_split h2).2.1
        rw [e, hw] at this
        cases this
      · omega
    · have hm := Lr_mono (T := T) (mv := mv) r s
      rw [← ih s]
      omega
theorem xor_sub {a b c m : Nat} (h1 : nDf (a ^^^ b) m = 0) (h2 : nDf (b ^^^ c) m = 0) : nDf (a ^^^ c) m = 0 := by
  apply Nat.eq_of_testBit_eq
  intro i
  have e1 : (nDf (a ^^^ b) m).testBit i = false := by rw [h1]; simp
  have e2 : (nDf (b ^^^ c) m).testBit i = false := by rw [h2]; simp
  rw [nDf_bit, Nat.testBit_xor] at e1 e2 ⊢
  rw [Nat.zero_testBit]
  cases ha : a.testBit i <;> cases hb : b.testBit i <;> cases hc : c.testBit i <;> cases hm : m.testBit i <;> simp_all
/-- only what may move differs from the wanted town -/
theorem Lr_mov : ∀ (r s : Nat), Lr T mv r s ≤ 999 → nDf (s ^^^ T.2 9) mv = 0 := by
  intro r
  induction r with
  | zero =>
    intro s h
    have h : (if s = T.2 9 then (0 : Int) else 1000) ≤ 999 := h
    split at h
    · next e =>
      rw [e, Nat.xor_self]
      unfold nDf
      simp
    · omega
  | succ r ih =>
    intro s h
    by_cases c : Lr T mv r s ≤ 999
    · exact ih s c
    · have hm := Lr_mono (T := T) (mv := mv) r s
      obtain ⟨to, -, h2, h3, -⟩ := Lr_at (T := T) (mv := mv) (r := r) (s := s) (by omega)
      exact xor_sub (okB_split h2).2.2.2.2 (ih to h3)
/-- where nothing grows, nothing ever will -/
theorem Lr_stable {r : Nat} (h : ∀ s, s < 2 ^ T.2 6 → Lr T mv (r + 1) s = Lr T mv r s) : ∀ (d s : Nat), s < 2 ^ T.2 6 → Lr T mv (r + d) s = Lr T mv r s := by
  intro d
  induction d with
  | zero => intro s _; rfl
  | succ d ih =>
    intro s hs
    by_cases c : Lr T mv (r + d + 1) s < Lr T mv (r + d) s
    · obtain ⟨to, h1, h2, h3, h4⟩ := Lr_at c
      rw [ih to h1] at h3 h4
      have := Lr_step h1 h2 h3
      rw [h s hs] at this
      rw [ih s hs] at c
      omega
    · have hm := Lr_mono (T := T) (mv := mv) (r + d) s
      have e := ih s hs
      show Lr T mv (r + d + 1) s = _
      omega
theorem gv_self (s : Nat) : gv T s s = 0 := by
  have e : nDf s s = 0 := by unfold nDf; rw [Nat.and_self, Nat.xor_self]
  unfold gv Ov
  rw [e]
  have : ∀ k, sumTo (oF T 0 0) k = 0 := by
    intro k
    induction k with
    | zero => rfl
    | succ k ih =>
      unfold sumTo
      rw [ih]
      unfold oF
      rw [if_neg (by simp), if_neg (by simp)]
      rfl
  exact this _
def bef (T : TW) (mv r to : Nat) : Int := match r with
  | 0 => 1000
  | q + 1 => Lr T mv q to
/-- only those that need less than a row before can make another need less -/
theorem Lr_act (r s : Nat) : Lr T mv (r + 1) s = min (Lr T mv r s) (minTo (fun to => if Lr T mv r to < bef T mv r to then stp T mv (Lr T mv r) s to else 1000) (2 ^ T.2 6)) := by
  have hb := Lr_bd (T := T) (mv := mv) r s
  apply Int.le_antisymm
  · refine Int.le_min.mpr ⟨Lr_mono r s, ?_⟩
    refine le_minTo (Lr_bd (r + 1) s).2 (fun to hto => ?_)
    have h1 : Lr T mv (r + 1) s ≤ stp T mv (Lr T mv r) s to := Int.le_trans (Int.min_le_right _ _) (minTo_le (g := fun to => stp T mv (Lr T mv r) s to) hto)
    have h2 := (Lr_bd (T := T) (mv := mv) (r + 1) s).2
    show _ ≤ (if Lr T mv r to < bef T mv r to then stp T mv (Lr T mv r) s to else 1000)
    by_cases k : Lr T mv r to < bef T mv r to
    · rw [if_pos k]; exact h1
    · rw [if_neg k]; exact h2
  · by_cases c : Lr T mv (r + 1) s < Lr T mv r s
    · obtain ⟨to, h1, h2, h3, h4⟩ := Lr_at c
      have e : stp T mv (Lr T mv r) s to = max 0 (Lr T mv r to - gv T s to) := if_pos ⟨h2, h3⟩
      have act : Lr T mv r to < bef T mv r to := by
        cases r with
        | zero => show Lr T mv 0 to < 1000; omega
        | succ q =>
          show Lr T mv (q + 1) to < Lr T mv q to
          have hm := Lr_mono (T := T) (mv := mv) q to
          by_cases d : Lr T mv (q + 1) to = Lr T mv q to
          · rw [d] at h3 h4
            have := Lr_step h1 h2 h3
            omega
          · omega
      have := minTo_le (g := fun to => if Lr T mv r to < bef T mv r to then stp T mv (Lr T mv r) s to else 1000) h1
      simp only [if_pos act] at this
      rw [h4, ← e]
      exact Int.le_trans (Int.min_le_right _ _) this
    · have hm := Lr_mono (T := T) (mv := mv) r s
      have : Lr T mv (r + 1) s = Lr T mv r s := by omega
      rw [this]
      exact Int.min_le_left _ _
/-- more may move: it needs no more -/
theorem Lr_more {mv' : Nat} (h : nDf mv mv' = 0) : ∀ (r s : Nat), Lr T mv' r s ≤ Lr T mv r s := by
  have key : ∀ u, nDf u mv = 0 → nDf u mv' = 0 := by
    intro u hu
    apply Nat.eq_of_testBit_eq
    intro i
    have e1 : (nDf mv mv').testBit i = false := by rw [h]; simp
    have e2 : (nDf u mv).testBit i = false := by rw [hu]; simp
    rw [nDf_bit] at e1 e2 ⊢
    rw [Nat.zero_testBit]
    cases ha : u.testBit i <;> cases hb : mv.testBit i <;> cases hc : mv'.testBit i <;> simp_all
  intro r
  induction r with
  | zero => intro s; exact Int.le_refl _
  | succ r ih =>
    intro s
    by_cases c : Lr T mv (r + 1) s < Lr T mv r s
    · obtain ⟨to, h1, h2, h3, h4⟩ := Lr_at c
      obtain ⟨k1, k2, k3, k4, k5⟩ := okB_split h2
      have h5 := ih to
      have := Lr_step (mv := mv') (r := r) (s := s) h1 (okB_mk k1 k2 k3 k4 (key _ k5)) (by omega)
      omega
    · have hm := Lr_mono (T := T) (mv := mv) r s
      have hm' := Lr_mono (T := T) (mv := mv') r s
      have := ih s
      omega
end SR
