/-! ===== the reference's needs ===== -/
section MN
variable {S : ZS} {T : TW} {mv : Nat}
theorem frR_mT {lo hi : Nat} {S S' : ZS} (h : frR lo hi S S') (g : mT S T) (h1 : 57 < lo) : mT S' T := by
  intro s hs
  rw [frR_A h (by omega), frR_A h (by omega), frR_A h (by omega), frR_A h (by omega)]
  exact g s hs
theorem sm_n3 (hm : mAt S T) (w : wfT T) (ht : mT S T) (hmv : mv < 256) {q : Nat} (hq2 : q ≤ 254) (hrow : eRow S T mv q) (hle : ∀ s : Nat, s < 2 ^ T.2 6 → zA S 59 (s : Int) = Le T mv q s) (has : Int) {n : Nat} (hn : 1000 ≤ n) : ∃ (g : Bool) (S' : ZS), fM_findNeeds_3 n S (mv : Int) has ((q + 1 : Nat) : Int) 0 0 = some (bZ g, S') ∧ frR 58 59 S S' ∧ eRow S' T mv (q + 1) ∧ (∀ s : Nat, s < 2 ^ T.2 6 → zA S' 59 (s : Int) = Le T mv (q + 1) s) ∧ (g = true ↔ ∃ s : Nat, s < 2 ^ T.2 6 ∧ Ex T mv (q + 1) s < Le T mv q s) := by
  have hq := pw_le w.1.1
  have hp := pw_pos (T.2 6)
  have w6 := w.1.1
  have lb : ∀ s, 0 ≤ Le T mv q s ∧ Le T mv q s ≤ 1000000 := by
    intro s
    obtain ⟨i, -, e⟩ := Le_at (T := T) (mv := mv) q s
    have := Ex_bd (T := T) (mv := mv) i s
    omega
  have e := loop_inv (F := fun n (a : Int × ZS) p => fM_findNeeds_3 n a.2 (mv : Int) has ((q + 1 : Nat) : Int) a.1 p) (fun p a => ∃ g : Bool, a.1 = bZ g ∧ frR 58 59 S a.2 ∧ (∀ i : Int, 0 ≤ i → i < 256 * ((q : Int) + 1) → zA a.2 58 i = zA S 58 i) ∧ (∀ s : Nat, s < p → zA a.2 58 (256 * ((q : Int) + 1) + (s : Int)) = Ex T mv (q + 1) s ∧ zA a.2 59 (s : Int) = Le T mv (q + 1) s) ∧ (∀ s : Nat, p ≤ s → s < 2 ^ T.2 6 → zA a.2 59 (s : Int) = Le T mv q s) ∧ (g = true ↔ ∃ s : Nat, s < p ∧ Ex T mv (q + 1) s < Le T mv q s)) (fun a => ∃ g : Bool, a.1 = bZ g ∧ frR 58 59 S a.2 ∧ eRow a.2 T mv (q + 1) ∧ (∀ s : Nat, s < 2 ^ T.2 6 → zA a.2 59 (s : Int) = Le T mv (q + 1) s) ∧ (g = true ↔ ∃ s : Nat, s < 2 ^ T.2 6 ∧ Ex T mv (q + 1) s < Le T mv q s)) (2 ^ T.2 6) 500 ?_ ?_ n (0, S) (by omega) ?_
  · obtain ⟨⟨b1, b2⟩, e1, g, e2, e3⟩ := e
    have e1 : fM_findNeeds_3 n S (mv : Int) has ((q + 1 : Nat) : Int) 0 0 = some (b1, b2) := e1
    have e2 : b1 = bZ g := e2
    exact ⟨g, b2, by rw [e1, e2], e3⟩
  · rintro n s ⟨l4, a⟩ hs hn ⟨g, h1, h2, h3, h4, h5, h6⟩
    have h1 : l4 = bZ g := h1
    have h2 : frR 58 59 S a := h2
    have h3 : ∀ i : Int, 0 ≤ i → i < 256 * ((q : Int) + 1) → zA a 58 i = zA S 58 i := h3
    have h5 : ∀ s' : Nat, s ≤ s' → s' < 2 ^ T.2 6 → zA a 59 (s' : Int) = Le T mv q s' := h5
    have h4 : ∀ s' : Nat, s' < s → zA a 58 (256 * ((q : Int) + 1) + (s' : Int)) = Ex T mv (q + 1) s' ∧ zA a 59 (s' : Int) = Le T mv (q + 1) s' := h4
    have ra : eRow a T mv q := fun i hi s' hs' => (h3 _ (by omega) (by omega)).trans (hrow i hi s' hs')
    have c59 := h5 s (Nat.le_refl _) hs
    have eb := Ex_bd (T := T) (mv := mv) (q + 1) s
    have lbs := lb s
    have ma := frR_mAt h2 hm (by omega)
    have e4 := sm_n4 (S := a) ma w (frR_mT h2 ht (by omega)) hmv hq2 ra hs has l4 (n := n) (by omega)
    have ei : 256 * (((q + 1 : Nat)) : Int) + (s : Int) = 256 * ((q : Int) + 1) + (s : Int) := by omega
    have eL : Le T mv (q + 1) s = min (Le T mv q s) (Ex T mv (q + 1) s) := rfl
    have sb : (gC l4 0 (if l4 = 0 then gX (s : Int) 256 (gC (Ex T mv (q + 1) s) (Le T mv q s) (if Ex T mv (q + 1) s < Le T mv q s then some 1 else some 0)) else some 1)) = some (bZ (g || decide (Ex T mv (q + 1) s < Le T mv q s))) := by
      rw [h1, gC_b]
      cases g with
      | true => rfl
      | false =>
        rw [if_pos (show bZ false = 0 from rfl), gX_pos (by omega) (by omega) (by omega), gC_pos (x := Ex T mv (q + 1) s) (by omega) (by omega) (by omega) (by omega)]
        by_cases c : Ex T mv (q + 1) s < Le T mv q s
        · rw [if_pos c, decide_eq_true c]; rfl
        · rw [if_neg c, decide_eq_false c]; rfl
    have sl : (gC (Ex T mv (q + 1) s) (Le T mv q s) (if Ex T mv (q + 1) s < Le T mv q s then some (Ex T mv (q + 1) s) else gX (s : Int) 256 (some (Le T mv q s)))) = some (Le T mv (q + 1) s) := by
      rw [gC_pos (x := Ex T mv (q + 1) s) (by omega) (by omega) (by omega) (by omega), eL]
      by_cases c : Ex T mv (q + 1) s < Le T mv q s
      · rw [if_pos c, Int.min_eq_right (by omega)]
      · rw [if_neg c, gX_pos (by omega) (by omega) (by omega), Int.min_eq_left (by omega)]
    have fw : frR 58 59 a (wA (wA a 58 (256 * ((q : Int) + 1) + (s : Int)) (Ex T mv (q + 1) s)) 59 (s : Int) (Le T mv (q + 1) s)) := frR_trans (frR_wA _ _ _ (by omega) (by omega)) (frR_wA _ _ _ (by omega) (by omega))
    have r58 : ∀ i, zA (wA (wA a 58 (256 * ((q : Int) + 1) + (s : Int)) (Ex T mv (q + 1) s)) 59 (s : Int) (Le T mv (q + 1) s)) 58 i = if i = 256 * ((q : Int) + 1) + (s : Int) then Ex T mv (q + 1) s else zA a 58 i := by
      intro i
      rw [zA_wA, if_neg (show ¬ (58 : Nat) = 59 by decide), zA_wA, if_pos rfl]
    have r59 : ∀ i, zA (wA (wA a 58 (256 * ((q : Int) + 1) + (s : Int)) (Ex T mv (q + 1) s)) 59 (s : Int) (Le T mv (q + 1) s)) 59 i = if i = (s : Int) then Le T mv (q + 1) s else zA a 59 i := by
      intro i
      rw [zA_wA, if_pos rfl, zA_wA, if_neg (show ¬ (59 : Nat) = 58 by decide)]
    refine ⟨(bZ (g || decide (Ex T mv (q + 1) s < Le T mv q s)), wA (wA a 58 (256 * ((q : Int) + 1) + (s : Int)) (Ex T mv (q + 1) s)) 59 (s : Int) (Le T mv (q + 1) s)), ⟨g || decide (Ex T mv (q + 1) s < Le T mv q s), rfl, frR_trans h2 fw, fun i x y => ?_, fun s' hs' => ?_, fun s' x y => ?_, ?_⟩, ?_⟩
    · show zA (wA _ 59 _ _) 58 i = _
      rw [r58, if_neg (by omega)]
      exact h3 i x y
    · show zA (wA _ 59 _ _) 58 _ = _ ∧ zA (wA _ 59 _ _) 59 _ = _
      rw [r58, r59]
      by_cases c : s' = s
      · subst c
        rw [if_pos rfl, if_pos rfl]
        exact ⟨rfl, rfl⟩
      · rw [if_neg (by omega), if_neg (by omega)]
        exact h4 s' (by omega)
    · show zA (wA _ 59 _ _) 59 _ = _
      rw [r59, if_neg (by omega)]
      exact h5 s' (by omega) y
    · rw [Bool.or_eq_true, h6, decide_eq_true_iff]
      constructor
      · rintro (⟨s', x, y⟩ | y)
        · exact ⟨s', (by omega), y⟩
        · exact ⟨s, (by omega), y⟩
      · rintro ⟨s', x, y⟩
        by_cases c : s' = s
        · subst c; exact Or.inr y
        · exact Or.inl ⟨s', (by omega), y⟩
    · show fM_findNeeds_3 (n + 1) a (mv : Int) has ((q + 1 : Nat) : Int) l4 (s : Int) = fM_findNeeds_3 n (wA (wA a 58 (256 * ((q : Int) + 1) + (s : Int)) (Ex T mv (q + 1) s)) 59 (s : Int) (Le T mv (q + 1) s)) (mv : Int) has ((q + 1 : Nat) : Int) (bZ (g || decide (Ex T mv (q + 1) s < Le T mv q s))) ((s : Int) + 1)
      rw [fM_findNeeds_3, ma.1.1, zshl_1 (by omega), gC_pos (by omega) (by omega) (by omega) (by omega), if_pos (by omega), e4, Option.bind_some, ei, gX_pos (x := 256 * ((q : Int) + 1) + (s : Int)) (by omega) (by omega) (by omega), c59, sb, Option.bind_some, gX_pos (x := (s : Int)) (by omega) (by omega) (by omega), sl, Option.bind_some, gX_pos (x := (s : Int)) (by omega) (by omega) (by omega)]
  · rintro n ⟨l4, a⟩ _ ⟨g, h1, h2, h3, h4, h5, h6⟩
    have h2 : frR 58 59 S a := h2
    have ma := frR_mAt h2 hm (by omega)
    refine ⟨(l4, a), ?_, g, h1, h2, fun i hi s hs => ?_, fun s hs => (h4 s hs).2, h6⟩
    · show fM_findNeeds_3 (n + 1) a (mv : Int) has ((q + 1 : Nat) : Int) l4 ((2 ^ T.2 6 : Nat) : Int) = _
      rw [fM_findNeeds_3, ma.1.1, zshl_1 (by omega), gC_pos (by omega) (by omega) (by omega) (by omega), if_neg (by omega)]
    · by_cases c : i = q + 1
      · subst c
        have := (h4 s hs).1
        rw [← this]
        show zA a 58 _ = zA a 58 _
        rw [show 256 * (((q + 1 : Nat)) : Int) + (s : Int) = 256 * ((q : Int) + 1) + (s : Int) by omega]
      · exact (h3 _ (by omega) (by omega)).trans (hrow i (by omega) s hs)
  · refine ⟨false, rfl, frR_rfl, fun _ _ _ => rfl, fun s hs => absurd hs (by omega), fun s _ hs => hle s hs, ?_⟩
    constructor
    · intro h
      cases h
    · rintro ⟨s, h, _⟩
      omega
/-- what a search of the reference ends with -/
def resN (S' : ZS) (T : TW) (mv : Nat) (has v : Int) : Prop := (∃ t : Nat, t ≤ 255 ∧ v = (t : Int) ∧ eRow S' T mv t ∧ Ex T mv t (T.2 8) ≤ has ∧ ∀ i, i < t → has < Ex T mv i (T.2 8)) ∨ (v = -4 ∧ ∃ tE : Nat, tE ≤ 255 ∧ (∀ i, i ≤ tE → has < Ex T mv i (T.2 8)) ∧ (∀ s : Nat, s < 2 ^ T.2 6 → zA S' 59 (s : Int) = Le T mv tE s) ∧ (tE = 255 ∨ (1 ≤ tE ∧ ∀ s, s < 2 ^ T.2 6 → Le T mv (tE - 1) s ≤ Ex T mv tE s)))
theorem sm_n2 (w : wfT T) (hmv : mv < 256) {has : Int} (hh : -1 ≤ has) (hh2 : has ≤ 999) : ∀ (d q n : Nat) (S : ZS), q + d = 255 → d + 1200 < n → mAt S T → mT S T → eRow S T mv q → (∀ s : Nat, s < 2 ^ T.2 6 → zA S 59 (s : Int) = Le T mv q s) → (∀ i, i ≤ q → has < Ex T mv i (T.2 8)) → ∃ (v : Int) (S' : ZS), zR (fM_findNeeds_2 n S (mv : Int) has ((q + 1 : Nat) : Int)) (fun z3 => some (-4, z3)) = some (v, S') ∧ frR 58 59 S S' ∧ resN S' T mv has v := by
  have hq := pw_le w.1.1
  have h8 := w.2.1.1
  intro d
  induction d with
  | zero =>
    intro q n S hqd hn hm ht hrow hle hno
    obtain ⟨k, rfl⟩ : ∃ k, n = k + 1 := ⟨n - 1, by omega⟩
    have : q = 255 := by omega
    subst this
    refine ⟨-4, S, ?_, frR_rfl, Or.inr ⟨rfl, 255, Nat.le_refl _, hno, hle, Or.inl rfl⟩⟩
    rw [fM_findNeeds_2, gC_pos (by omega) (by omega) (by omega) (by omega), if_neg (by omega)]
    rfl
  | succ d ih =>
    intro q n S hqd hn hm ht hrow hle hno
    obtain ⟨k, rfl⟩ : ∃ k, n = k + 1 := ⟨n - 1, by omega⟩
    obtain ⟨g, S1, e1, e2, e3, e4, e5⟩ := sm_n3 hm w ht hmv (q := q) (by omega) hrow hle has (n := k) (by omega)
    have m1 := frR_mAt e2 hm (by omega)
    have eb := Ex_bd (T := T) (mv := mv) (q + 1) (T.2 8)
    have cur : zA S1 58 (256 * (((q + 1 : Nat)) : Int) + (T.2 8 : Int)) = Ex T mv (q + 1) (T.2 8) := e3 (q + 1) (Nat.le_refl _) (T.2 8) h8
    rw [fM_findNeeds_2, gC_pos (by omega) (by omega) (by omega) (by omega), if_pos (by omega), e1, Option.bind_some]
    show ∃ v S', zR (gX (256 * (((q + 1 : Nat)) : Int) + zF S1 49 2) 65536 _) _ = some (v, S') ∧ _
    rw [m1.1.2.2.1, gX_pos (x := 256 * (((q + 1 : Nat)) : Int) + (T.2 8 : Int)) (by omega) (by omega) (by omega), cur, gC_pos (x := Ex T mv (q + 1) (T.2 8)) (by omega) (by omega) (by omega) (by omega), gC_b]
    by_cases c : has < Ex T mv (q + 1) (T.2 8)
    · have hno' : ∀ i, i ≤ q + 1 → has < Ex T mv i (T.2 8) := by
        intro i hi
        by_cases y : i = q + 1
        · subst y; exact c
        · exact hno i (by omega)
      rw [if_pos c]
      cases hg : g with
      | false =>
        refine ⟨-4, S1, ?_, e2, Or.inr ⟨rfl, q + 1, (by omega), hno', e4, Or.inr ⟨(by omega), fun s hs => ?_⟩⟩⟩
        · rw [if_pos (show bZ false = 0 from rfl)]
          rfl
        · show Le T mv q s ≤ _
          by_cases y : Ex T mv (q + 1) s < Le T mv q s
          · have := e5.mpr ⟨s, hs, y⟩
            rw [hg] at this
            cases this
          · omega
      | true =>
        obtain ⟨v, S', k1, k2, k3⟩ := ih (q + 1) k S1 (by omega) (by omega) m1 (frR_mT e2 ht (by omega)) e3 e4 hno'
        refine ⟨v, S', ?_, frR_trans e2 k2, k3⟩
        rw [if_neg (show ¬ bZ true = 0 by decide), show ((q + 1 : Nat) : Int) + 1 = ((q + 1 + 1 : Nat) : Int) from rfl]
        exact k1
    · refine ⟨((q + 1 : Nat) : Int), S1, ?_, e2, Or.inl ⟨q + 1, (by omega), rfl, e3, (by omega), fun i hi => hno i (by omega)⟩⟩
      rw [if_neg c]
      rfl
theorem sm_needs (hm : mAt S T) (w : wfT T) (hmv : mv < 256) {has : Int} (hh : -1 ≤ has) (hh2 : has ≤ 999) {n : Nat} (hn : 3000 ≤ n) : ∃ (v : Int) (S' : ZS), fM_findNeeds n S (mv : Int) has = some (v, S') ∧ frR 54 59 S S' ∧ mT S' T ∧ resN S' T mv has v := by
  have hq := pw_le w.1.1
  have hp := pw_pos (T.2 6)
  have w6 := w.1.1
  have h8 := w.2.1.1
  have h9 := w.2.1.2.1
  obtain ⟨S1, a1, a2, a3⟩ := sm_sets hm w.1 (n := n) (by omega)
  have m1 := frR_mAt a3 hm (by omega)
  have e := loop_inv (F := fun n a p => fM_findNeeds_1 n a (mv : Int) has p) (fun p a => (∀ s : Nat, s < p → zA a 58 (s : Int) = Ex T mv 0 s ∧ zA a 59 (s : Int) = Ex T mv 0 s) ∧ frR 58 59 S1 a) (fun a => (∀ s : Nat, s < 2 ^ T.2 6 → zA a 58 (s : Int) = Ex T mv 0 s ∧ zA a 59 (s : Int) = Ex T mv 0 s) ∧ frR 58 59 S1 a) (2 ^ T.2 6) 0 ?_ ?_ n S1 (by omega) ⟨fun s hs => absurd hs (by omega), frR_rfl⟩
  · obtain ⟨S2, b1, b2, b3⟩ := e
    have b1 : fM_findNeeds_1 n S1 (mv : Int) has 0 = some S2 := b1
    have m2 := frR_mAt b3 m1 (by omega)
    have t2 := frR_mT b3 a2 (by omega)
    have wid : frR 54 59 S S2 := ⟨fun h hh => (b3.1 h (by omega)).trans (a3.1 h (by omega)), b3.2.trans a3.2⟩
    have eb := Ex_bd (T := T) (mv := mv) 0 (T.2 8)
    have row0 : eRow S2 T mv 0 := by
      intro i hi s hs
      have : i = 0 := by omega
      subst this
      rw [← (b2 s hs).1]
      show zA S2 58 _ = zA S2 58 _
      rw [show 256 * ((0 : Nat) : Int) + (s : Int) = (s : Int) by omega]
    unfold fM_findNeeds
    rw [a1, Option.bind_some, b1, Option.bind_some, m2.1.2.2.1, gX_pos (by omega) (by omega) (by omega), (b2 _ h8).2, gC_pos (by omega) (by omega) (by omega) (by omega)]
    by_cases c : has < Ex T mv 0 (T.2 8)
    · obtain ⟨v, S', k1, k2, k3⟩ := sm_n2 w hmv hh hh2 255 0 n S2 (by omega) (by omega) m2 t2 row0 (fun s hs => (b2 s hs).2) (fun i hi => by
        have : i = 0 := by omega
        subst this
        exact c)
      refine ⟨v, S', ?_, ⟨fun h hh => (k2.1 h (by omega)).trans (wid.1 h hh), k2.2.trans wid.2⟩, frR_mT k2 t2 (by omega), k3⟩
      rw [if_pos c]
      exact k1
    · refine ⟨0, S2, ?_, wid, t2, Or.inl ⟨0, (by omega), rfl, row0, (by omega), fun i hi => absurd hi (by omega)⟩⟩
      rw [if_neg c]
  · intro n s a hs _ ⟨h1, h2⟩
    have ma := frR_mAt h2 m1 (by omega)
    have ez : (gC (s : Int) (T.2 9 : Int) (if (s : Int) = (T.2 9 : Int) then some 0 else some 1000000)) = some (Ex T mv 0 s) := by
      rw [gC_pos (by omega) (by omega) (by omega) (by omega)]
      show _ = some (if s = T.2 9 then (0 : Int) else 1000000)
      by_cases c : s = T.2 9
      · rw [if_pos c, if_pos (by omega)]
      · rw [if_neg c, if_neg (by omega)]
    have r0 : zA (wA a 58 (s : Int) (Ex T mv 0 s)) 58 (s : Int) = Ex T mv 0 s := by rw [zA_wA, if_pos rfl, if_pos rfl]
    refine ⟨wA (wA a 58 (s : Int) (Ex T mv 0 s)) 59 (s : Int) (Ex T mv 0 s), ⟨fun s' hs' => ?_, frR_trans h2 (frR_trans (frR_wA _ _ _ (by omega) (by omega)) (frR_wA _ _ _ (by omega) (by omega)))⟩, ?_⟩
    · rw [zA_wA, if_neg (show ¬ (58 : Nat) = 59 by decide), zA_wA, if_pos rfl, zA_wA, if_pos rfl, zA_wA, if_neg (show ¬ (59 : Nat) = 58 by decide)]
      by_cases c : s' = s
      · rw [if_pos (by omega), if_pos (by omega), c]
        exact ⟨rfl, rfl⟩
      · rw [if_neg (by omega), if_neg (by omega)]
        exact h1 s' (by omega)
    · show fM_findNeeds_1 (n + 1) a (mv : Int) has (s : Int) = fM_findNeeds_1 n (wA (wA a 58 (s : Int) (Ex T mv 0 s)) 59 (s : Int) (Ex T mv 0 s)) (mv : Int) has ((s : Int) + 1)
      rw [fM_findNeeds_1, ma.1.1, zshl_1 (by omega), gC_pos (x := (s : Int)) (by omega) (by omega) (by omega) (by omega), if_pos (by omega), ma.1.2.2.2.1, ez, Option.bind_some, r0, gX_pos (x := (s : Int)) (n := 65536) (by omega) (by omega) (by omega), gX_pos (x := (s : Int)) (n := 65536) (by omega) (by omega) (by omega), gX_pos (x := (s : Int)) (n := 256) (by omega) (by omega) (by omega)]
  · intro n a _ ⟨h1, h2⟩
    have ma := frR_mAt h2 m1 (by omega)
    refine ⟨a, ?_, h1, h2⟩
    show fM_findNeeds_1 (n + 1) a (mv : Int) has ((2 ^ T.2 6 : Nat) : Int) = _
    rw [fM_findNeeds_1, ma.1.1, zshl_1 (by omega), gC_pos (by omega) (by omega) (by omega) (by omega), if_neg (by omega)]
end MN
