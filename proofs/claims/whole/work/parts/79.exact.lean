/-! ===== the reference's rows: exact weeks ===== -/
def nb (T : TW) (s to : Nat) (v : Int) : Int := if 999 < v then 1000000 else if (T.2 11 : Int) < Yd T (nDf s to) + Yd T (nDf to s) then 1000000 else if firmB T to = true then (if dryB T (s &&& to) = true then (if 999 < v - gv T s to then 1000000 else if v - gv T s to < 0 then 0 else v - gv T s to) else 1000000) else 1000000
def mnE (g : Nat → Int) : Nat → Int
  | 0 => 1000000
  | k + 1 => min (mnE g k) (g k)
def exF (T : TW) (mv : Nat) (f : Nat → Int) (s to : Nat) : Int := if f to ≤ 999 ∧ nDf (s ^^^ to) mv = 0 then nb T s to (f to) else 1000000
def Ex (T : TW) (mv : Nat) : Nat → Nat → Int
  | 0, s => if s = T.2 9 then 0 else 1000000
  | t + 1, s => mnE (exF T mv (Ex T mv t) s) (2 ^ T.2 6)
def Le (T : TW) (mv : Nat) : Nat → Nat → Int
  | 0, s => Ex T mv 0 s
  | t + 1, s => min (Le T mv t s) (Ex T mv (t + 1) s)
theorem mnE_le {g : Nat → Int} : ∀ {k i : Nat}, i < k → mnE g k ≤ g i := by
  intro k
  induction k with
  | zero => intro i h; omega
  | succ k ih =>
    intro i h
    unfold mnE
    by_cases e : i = k
    · subst e; exact Int.min_le_right _ _
    · exact Int.le_trans (Int.min_le_left _ _) (ih (by omega))
theorem mnE_at {g : Nat → Int} : ∀ {k : Nat}, mnE g k < 1000000 → ∃ i, i < k ∧ mnE g k = g i := by
  intro k
  induction k with
  | zero => intro h; exact absurd h (by show ¬ (1000000 : Int) < 1000000; omega)
  | succ k ih =>
    intro h
    unfold mnE at h ⊢
    by_cases c : g k ≤ mnE g k
    · exact ⟨k, (by omega), by rw [Int.min_eq_right c]⟩
    · obtain ⟨i, h1, h2⟩ := ih (by omega)
      exact ⟨i, (by omega), by rw [Int.min_eq_left (by omega)]; exact h2⟩
section EX
variable {T : TW} {mv : Nat}
theorem nb_cases (s to : Nat) (v : Int) : nb T s to v = 1000000 ∨ (v ≤ 999 ∧ Yd T (nDf s to) + Yd T (nDf to s) ≤ (T.2 11 : Int) ∧ firmB T to = true ∧ dryB T (s &&& to) = true ∧ nb T s to v = max 0 (v - gv T s to) ∧ v - gv T s to ≤ 999) := by
  unfold nb
  by_cases c1 : 999 < v
  · exact Or.inl (if_pos c1)
  · rw [if_neg c1]
    by_cases c2 : (T.2 11 : Int) < Yd T (nDf s to) + Yd T (nDf to s)
    · exact Or.inl (if_pos c2)
    · rw [if_neg c2]
      by_cases c3 : firmB T to = true
      · rw [if_pos c3]
        by_cases c4 : dryB T (s &&& to) = true
        · rw [if_pos c4]
          by_cases c5 : 999 < v - gv T s to
          · exact Or.inl (if_pos c5)
          · rw [if_neg c5]
            refine Or.inr ⟨(by omega), (by omega), c3, c4, ?_, (by omega)⟩
            by_cases c6 : v - gv T s to < 0
            · rw [if_pos c6]; omega
            · rw [if_neg c6]; omega
        · exact Or.inl (if_neg c4)
      · exact Or.inl (if_neg c3)
theorem nb_bd (s to : Nat) (v : Int) : 0 ≤ nb T s to v ∧ (nb T s to v ≤ 999 ∨ nb T s to v = 1000000) := by
  rcases nb_cases (T := T) s to v with h | ⟨-, -, -, -, h1, h2⟩
  · rw [h]; exact ⟨by decide, Or.inr rfl⟩
  · rw [h1]; omega
theorem exF_bd (f : Nat → Int) (s to : Nat) : 0 ≤ exF T mv f s to ∧ (exF T mv f s to ≤ 999 ∨ exF T mv f s to = 1000000) := by
  unfold exF
  by_cases c : f to ≤ 999 ∧ nDf (s ^^^ to) mv = 0
  · rw [if_pos c]; exact nb_bd s to _
  · rw [if_neg c]; exact ⟨by decide, Or.inr rfl⟩
theorem mnE_bd {g : Nat → Int} : ∀ {k : Nat}, (∀ i, i < k → 0 ≤ g i ∧ (g i ≤ 999 ∨ g i = 1000000)) → 0 ≤ mnE g k ∧ (mnE g k ≤ 999 ∨ mnE g k = 1000000) := by
  intro k
  induction k with
  | zero => intro _; exact ⟨by show (0 : Int) ≤ 1000000; decide, Or.inr rfl⟩
  | succ k ih =>
    intro h
    have h1 := ih (fun i hi => h i (by omega))
    have h2 := h k (by omega)
    unfold mnE
    omega
theorem Ex_bd : ∀ (t s : Nat), 0 ≤ Ex T mv t s ∧ (Ex T mv t s ≤ 999 ∨ Ex T mv t s = 1000000) := by
  intro t s
  cases t with
  | zero =>
    show 0 ≤ (if s = T.2 9 then (0 : Int) else 1000000) ∧ ((if s = T.2 9 then (0 : Int) else 1000000) ≤ 999 ∨ (if s = T.2 9 then (0 : Int) else 1000000) = 1000000)
    by_cases c : s = T.2 9
    · rw [if_pos c]; omega
    · rw [if_neg c]; omega
  | succ t => exact mnE_bd (fun i _ => exF_bd _ s i)
theorem Le_le : ∀ (t i s : Nat), i ≤ t → Le T mv t s ≤ Ex T mv i s := by
  intro t
  induction t with
  | zero =>
    intro i s hi
    have : i = 0 := by omega
    subst this
    exact Int.le_refl _
  | succ t ih =>
    intro i s hi
    show min _ _ ≤ _
    by_cases c : i = t + 1
    · subst c; exact Int.min_le_right _ _
    · exact Int.le_trans (Int.min_le_left _ _) (ih i s (by omega))
theorem Le_at : ∀ (t s : Nat), ∃ i, i ≤ t ∧ Le T mv t s = Ex T mv i s := by
  intro t
  induction t with
  | zero => intro s; exact ⟨0, Nat.le_refl _, rfl⟩
  | succ t ih =>
    intro s
    have e : Le T mv (t + 1) s = min (Le T mv t s) (Ex T mv (t + 1) s) := rfl
    by_cases c : Le T mv t s ≤ Ex T mv (t + 1) s
    · obtain ⟨i, h1, h2⟩ := ih s
      exact ⟨i, (by omega), by rw [e, Int.min_eq_left c, h2]⟩
    · exact ⟨t + 1, Nat.le_refl _, by rw [e, Int.min_eq_right (by omega)]⟩
theorem Yd_xor (s to : Nat) : Yd T (s ^^^ to) = Yd T (nDf s to) + Yd T (nDf to s) := by
  rw [← Yd_or (df_apart s to)]
  congr 1
  apply Nat.eq_of_testBit_eq
  intro i
  rw [Nat.testBit_or, nDf_bit, nDf_bit, Nat.testBit_xor]
  cases s.testBit i <;> cases to.testBit i <;> rfl
/-- what is exact is at most -/
theorem Lr_Ex : ∀ (t s : Nat), firmB T s = true → Lr T mv t s ≤ Ex T mv t s := by
  intro t
  induction t with
  | zero =>
    intro s _
    show (if s = T.2 9 then (0 : Int) else 1000) ≤ (if s = T.2 9 then (0 : Int) else 1000000)
    by_cases c : s = T.2 9
    · rw [if_pos c, if_pos c]; exact Int.le_refl _
    · rw [if_neg c, if_neg c]; decide
  | succ t ih =>
    intro s hs
    have b := Ex_bd (T := T) (mv := mv) (t + 1) s
    have lb := Lr_bd (T := T) (mv := mv) (t + 1) s
    by_cases c : Ex T mv (t + 1) s = 1000000
    · omega
    · have hlt : mnE (exF T mv (Ex T mv t) s) (2 ^ T.2 6) < 1000000 := by
        show Ex T mv (t + 1) s < 1000000
        omega
      obtain ⟨to, h1, h2⟩ := mnE_at hlt
      have h2 : Ex T mv (t + 1) s = exF T mv (Ex T mv t) s to := h2
      by_cases k : Ex T mv t to ≤ 999 ∧ nDf (s ^^^ to) mv = 0
      · have e : exF T mv (Ex T mv t) s to = nb T s to (Ex T mv t to) := if_pos k
        rcases nb_cases (T := T) s to (Ex T mv t to) with z | ⟨z1, z2, z3, z4, z5, z6⟩
        · omega
        · have h3 := ih to z3
          have := Lr_step (mv := mv) (r := t) (s := s) h1 (okB_mk hs z3 z4 (by rw [Yd_xor]; exact z2) k.2) (by omega)
          omega
      · have e : exF T mv (Ex T mv t) s to = 1000000 := if_neg k
        omega
/-- what is at most is exact somewhere -/
theorem Ex_Lr : ∀ (t s : Nat), Lr T mv t s ≤ 999 → ∃ i, i ≤ t ∧ Ex T mv i s ≤ Lr T mv t s := by
  intro t
  induction t with
  | zero =>
    intro s h
    have h : (if s = T.2 9 then (0 : Int) else 1000) ≤ 999 := h
    by_cases c : s = T.2 9
    · refine ⟨0, Nat.le_refl _, ?_⟩
      show (if s = T.2 9 then (0 : Int) else 1000000) ≤ (if s = T.2 9 then (0 : Int) else 1000)
      rw [if_pos c, if_pos c]
      exact Int.le_refl _
    · rw [if_neg c] at h; omega
  | succ t ih =>
    intro s h
    have hm := Lr_mono (T := T) (mv := mv) t s
    by_cases c : Lr T mv (t + 1) s < Lr T mv t s
    · obtain ⟨to, h1, h2, h3, h4⟩ := Lr_at c
      obtain ⟨i, h5, h6⟩ := ih to h3
      obtain ⟨o1, o2, o3, o4, o5⟩ := okB_split h2
      rw [Yd_xor] at o4
      refine ⟨i + 1, (by omega), ?_⟩
      have h7 : Ex T mv (i + 1) s ≤ exF T mv (Ex T mv i) s to := mnE_le h1
      have e : exF T mv (Ex T mv i) s to = nb T s to (Ex T mv i to) := if_pos ⟨(by omega), o5⟩
      have e2 : nb T s to (Ex T mv i to) = if 999 < Ex T mv i to - gv T s to then 1000000 else if Ex T mv i to - gv T s to < 0 then 0 else Ex T mv i to - gv T s to := by
        unfold nb
        rw [if_neg (by omega), if_neg (by omega), if_pos o2, if_pos o3]
      rw [if_neg (by omega)] at e2
      by_cases k : Ex T mv i to - gv T s to < 0
      · rw [if_pos k] at e2; omega
      · rw [if_neg k] at e2; omega
    · obtain ⟨i, h1, h2⟩ := ih s (by omega)
      exact ⟨i, (by omega), by omega⟩
theorem Le_Lr {t s : Nat} (hs : firmB T s = true) : min 1000 (Le T mv t s) = Lr T mv t s := by
  have lb := Lr_bd (T := T) (mv := mv) t s
  obtain ⟨i, h1, h2⟩ := Le_at (T := T) (mv := mv) t s
  have h3 := Lr_Ex (T := T) (mv := mv) i s hs
  have h4 := Lr_le (T := T) (mv := mv) h1 s
  by_cases c : Lr T mv t s ≤ 999
  · obtain ⟨j, j1, j2⟩ := Ex_Lr t s c
    have := Le_le (T := T) (mv := mv) t j s j1
    omega
  · omega
theorem Lr_nofirm {s : Nat} (hs : firmB T s = false) : ∀ r, Lr T mv (r + 1) s = Lr T mv r s := by
  intro r
  by_cases c : Lr T mv (r + 1) s < Lr T mv r s
  · obtain ⟨to, -, h2, -, -⟩ := Lr_at c
    have := (okB_split h2).1
    rw [hs] at this
    cases this
  · have := Lr_mono (T := T) (mv := mv) r s
    omega
/-- the reference's end without a find -/
theorem Ex_none {tE : Nat} (h255 : tE ≤ 255) (hE : tE = 255 ∨ (1 ≤ tE ∧ ∀ s, s < 2 ^ T.2 6 → Le T mv (tE - 1) s ≤ Ex T mv tE s)) (hst : T.2 8 < 2 ^ T.2 6) : Lr T mv 255 (T.2 8) = Lr T mv tE (T.2 8) := by
  rcases hE with h | ⟨h1, h2⟩
  · rw [h]
  · obtain ⟨q, rfl⟩ : ∃ q, tE = q + 1 := ⟨tE - 1, by omega⟩
    have hs : ∀ s, s < 2 ^ T.2 6 → Lr T mv (q + 1) s = Lr T mv q s := by
      intro s hs
      cases hf : firmB T s with
      | false => exact Lr_nofirm hf q
      | true =>
        have a := Le_Lr (T := T) (mv := mv) (t := q + 1) hf
        have b := Le_Lr (T := T) (mv := mv) (t := q) hf
        have c := h2 s hs
        have c : Le T mv q s ≤ Ex T mv (q + 1) s := c
        have d : Le T mv (q + 1) s = min (Le T mv q s) (Ex T mv (q + 1) s) := rfl
        omega
    have a := Lr_stable hs (255 - q) (T.2 8) hst
    have b := hs (T.2 8) hst
    rw [show q + (255 - q) = 255 by omega] at a
    omega
end EX
