/-! ===== a town read: what holds then ===== -/
section TWN
variable {S : ZS}
theorem good_X {S2 : ZS} (hG : Good S) (hA : ∀ h : Nat, (h < 16 ∨ 21 < h) → h ≠ 53 → S2.1 h = S.1 h) (hF : ∀ h j : Nat, h ≠ 15 → h ≠ 22 → (h ≠ 49 ∨ j < 9 ∨ 12 < j) → S2.2.1 h j = S.2.1 h j) (he : S2.2.2 = S.2.2) (hT : gTape S2) : Good S2 := by
  obtain ⟨T, ⟨h1, h2, h3⟩, h4, h5, h6, h7, h8⟩ := hG
  have A : ∀ h : Nat, (h < 16 ∨ 21 < h) → h ≠ 53 → ∀ i : Int, zA S2 h i = zA S h i := fun h a c i => congrFun (hA h a c) i
  have F : ∀ h j : Nat, h ≠ 15 → h ≠ 22 → (h ≠ 49 ∨ j < 9 ∨ 12 < j) → zF S2 h j = zF S h j := hF
  have tt : ∀ (t : Nat) (K : TW), t = 1 ∨ t = 8 → tAt S t K → tAt S2 t K := fun t K ht h => ⟨fun j a b => (F t j (by omega) (by omega) (by omega)).trans (h.1 j a b), fun i p a b c => (A _ (by omega) (by omega) _).trans (h.2.1 i p a b c), fun p a => (A _ (by omega) (by omega) _).trans (h.2.2 p a)⟩
  refine ⟨T, ⟨tt 1 T (Or.inl rfl) h1, ?_, h3⟩, hT, ?_, ?_, ?_, ex_gRoom he h8⟩
  · obtain ⟨⟨a1, a2, a3, a4, a5, a6⟩, b, c⟩ := h2
    exact ⟨⟨(F 49 1 (by omega) (by omega) (by omega)).trans a1, (F 49 7 (by omega) (by omega) (by omega)).trans a2, (F 49 2 (by omega) (by omega) (by omega)).trans a3, (F 49 3 (by omega) (by omega) (by omega)).trans a4, (F 49 4 (by omega) (by omega) (by omega)).trans a5, (F 49 5 (by omega) (by omega) (by omega)).trans a6⟩, fun i p x y => (A 50 (by omega) (by omega) _).trans (b i p x y), fun p x => (A 51 (by omega) (by omega) _).trans (c p x)⟩
  · rcases h5 with ⟨a, b⟩ | ⟨a, b, K, c, ⟨⟨d1, d2, d3, d4, d5, d6⟩, e, f⟩, w⟩
    · exact Or.inl ⟨(F 0 8 (by omega) (by omega) (by omega)).trans a, (F 49 28 (by omega) (by omega) (by omega)).trans b⟩
    · exact Or.inr ⟨(F 0 8 (by omega) (by omega) (by omega)).trans a, (F 49 28 (by omega) (by omega) (by omega)).trans b, K, tt 8 K (Or.inr rfl) c, ⟨⟨(A 69 (by omega) (by omega) _).trans d1, (A 69 (by omega) (by omega) _).trans d2, (A 69 (by omega) (by omega) _).trans d3, (A 69 (by omega) (by omega) _).trans d4, (A 69 (by omega) (by omega) _).trans d5, (A 69 (by omega) (by omega) _).trans d6⟩, fun i p x y => (A 68 (by omega) (by omega) _).trans (e i p x y), fun p x => (A 68 (by omega) (by omega) _).trans (f p x)⟩, w⟩
  · refine ⟨fun i a b => ?_, fun s a b => ?_⟩
    · rw [A 46 (by omega) (by omega), A 72 (by omega) (by omega)]
      exact h6.1 i a b
    · rw [A 48 (by omega) (by omega), A 70 (by omega) (by omega), A 71 (by omega) (by omega), A 47 (by omega) (by omega)]
      exact h6.2 s a b
  · obtain ⟨a, b, c⟩ := h7
    unfold gWay shared
    rw [F 24 14 (by omega) (by omega) (by omega), F 24 15 (by omega) (by omega) (by omega), F 24 16 (by omega) (by omega) (by omega), F 24 13 (by omega) (by omega) (by omega)]
    refine ⟨a.imp id (fun q => ⟨q.1, fun s hs => ?_⟩), b.imp id (fun q => ⟨q.1, ?_⟩), c⟩
    · rw [A 25 (by omega) (by omega), A 26 (by omega) (by omega), A 27 (by omega) (by omega), A 28 (by omega) (by omega), A 29 (by omega) (by omega)]
      exact q.2 s hs
    · have g := q.2
      unfold sought at g ⊢
      split at g
      · rw [F 24 8 (by omega) (by omega) (by omega), F 24 9 (by omega) (by omega) (by omega)]
        exact ⟨g.1, g.2.1, fun i hi' => (A 32 (by omega) (by omega) _).trans (g.2.2 i hi')⟩
      · rw [F 24 8 (by omega) (by omega) (by omega), F 24 9 (by omega) (by omega) (by omega), F 24 10 (by omega) (by omega) (by omega)]
        exact g
theorem good_Y {S2 : ZS} {T' : TW} (hG : Good S) (hA : ∀ h : Nat, ((7 < h ∧ h < 16) ∨ (21 < h ∧ h < 50) ∨ 53 < h) → S2.1 h = S.1 h) (hF : ∀ h j : Nat, h ≠ 1 → h ≠ 15 → h ≠ 22 → h ≠ 24 → (h ≠ 49 ∨ 12 < j) → S2.2.1 h j = S.2.1 h j) (he : S2.2.2 = S.2.2) (hT : gTape S2) (ht : tAt S2 1 T') (hm : mAt S2 T') (hw : wfT T') (hg : gWay S2 T') : Good S2 := by
  obtain ⟨T, -, -, h5, h6, -, h8⟩ := hG
  have A : ∀ h : Nat, ((7 < h ∧ h < 16) ∨ (21 < h ∧ h < 50) ∨ 53 < h) → ∀ i : Int, zA S2 h i = zA S h i := fun h a i => congrFun (hA h a) i
  have F : ∀ h j : Nat, h ≠ 1 → h ≠ 15 → h ≠ 22 → h ≠ 24 → (h ≠ 49 ∨ 12 < j) → zF S2 h j = zF S h j := hF
  refine ⟨T', ⟨ht, hm, hw⟩, hT, ?_, ?_, hg, ex_gRoom he h8⟩
  · rcases h5 with ⟨a, b⟩ | ⟨a, b, K, c, ⟨⟨d1, d2, d3, d4, d5, d6⟩, e, f⟩, w⟩
    · exact Or.inl ⟨(F 0 8 (by omega) (by omega) (by omega) (by omega) (by omega)).trans a, (F 49 28 (by omega) (by omega) (by omega) (by omega) (by omega)).trans b⟩
    · exact Or.inr ⟨(F 0 8 (by omega) (by omega) (by omega) (by omega) (by omega)).trans a, (F 49 28 (by omega) (by omega) (by omega) (by omega) (by omega)).trans b, K, ⟨fun j a b => (F 8 j (by omega) (by omega) (by omega) (by omega) (by omega)).trans (c.1 j a b), fun i p a b q => (A _ (by omega) _).trans (c.2.1 i p a b q), fun p a => (A _ (by omega) _).trans (c.2.2 p a)⟩, ⟨⟨(A 69 (by omega) _).trans d1, (A 69 (by omega) _).trans d2, (A 69 (by omega) _).trans d3, (A 69 (by omega) _).trans d4, (A 69 (by omega) _).trans d5, (A 69 (by omega) _).trans d6⟩, fun i p x y => (A 68 (by omega) _).trans (e i p x y), fun p x => (A 68 (by omega) _).trans (f p x)⟩, w⟩
  · refine ⟨fun i a b => ?_, fun s a b => ?_⟩
    · rw [A 46 (by omega), A 72 (by omega)]
      exact h6.1 i a b
    · rw [A 48 (by omega), A 70 (by omega), A 71 (by omega), A 47 (by omega)]
      exact h6.2 s a b
theorem sm_town1 {T : TW} (hK : T.2 6 ≤ 8) : ∀ (d p n : Nat) (X : ZS), p + d = T.2 6 → d < n → zF X 49 11 = (T.2 6 : Int) → zF X 49 1 = (p : Int) → (∀ i q : Nat, i < 5 → q < T.2 6 → zA X 53 (5 * (q : Int) + (i : Int)) = (T.1 (i + 1) q : Int)) → (∀ i q : Nat, i < 5 → q < p → zA X 50 (5 * (q : Int) + (i : Int)) = (T.1 (i + 1) q : Int)) → ∃ X', fM_town_1 n X (p : Int) = some X' ∧ (∀ h : Nat, h ≠ 50 → X'.1 h = X.1 h) ∧ (∀ h j : Nat, (h ≠ 49 ∨ j ≠ 1) → X'.2.1 h j = X.2.1 h j) ∧ X'.2.2 = X.2.2 ∧ zF X' 49 1 = (T.2 6 : Int) ∧ ∀ i q : Nat, i < 5 → q < T.2 6 → zA X' 50 (5 * (q : Int) + (i : Int)) = (T.1 (i + 1) q : Int) := by
  intro d
  induction d with
  | zero =>
    intro p n X h1 h2 h3 h4 h5 h6
    obtain ⟨m, rfl⟩ : ∃ m, n = m + 1 := ⟨n - 1, by omega⟩
    refine ⟨X, ?_, fun _ _ => rfl, fun _ _ _ => rfl, rfl, ?_, fun i q a c => h6 i q a (by omega)⟩
    · rw [fM_town_1, h3, gC_pos (by omega) (by omega) (by omega) (by omega), if_neg (by omega)]
    · rw [h4]; omega
  | succ d ih =>
    intro p n X h1 h2 h3 h4 h5 h6
    obtain ⟨m, rfl⟩ : ∃ m, n = m + 1 := ⟨n - 1, by omega⟩
    have e0 := h5 0 p (by omega) (by omega)
    have e1 := h5 1 p (by omega) (by omega)
    have e2 := h5 2 p (by omega) (by omega)
    have e3 := h5 3 p (by omega) (by omega)
    have e4 := h5 4 p (by omega) (by omega)
    rw [show 5 * (p : Int) + ((0 : Nat) : Int) = 5 * (p : Int) by omega] at e0
    have e1 : zA X 53 (5 * (p : Int) + 1) = _ := e1
    have e2 : zA X 53 (5 * (p : Int) + 2) = _ := e2
    have e3 : zA X 53 (5 * (p : Int) + 3) = _ := e3
    have e4 : zA X 53 (5 * (p : Int) + 4) = _ := e4
    rw [fM_town_1, h3, gC_pos (x := (p : Int)) (y := (T.2 6 : Int)) (by omega) (by omega) (by omega) (by omega), if_pos (by omega), gX_pos (by omega) (by omega) (by omega), gX_pos (by omega) (by omega) (by omega), gX_pos (by omega) (by omega) (by omega), gX_pos (by omega) (by omega) (by omega), gX_pos (by omega) (by omega) (by omega), e0, e1, e2, e3, e4]
    unfold fM_add
    rw [h4, gX_pos (by omega) (by omega) (by omega), gX_pos (by omega) (by omega) (by omega), gX_pos (by omega) (by omega) (by omega), gX_pos (by omega) (by omega) (by omega), gX_pos (by omega) (by omega) (by omega), Option.bind_some]
    have hx : ∀ i q : Nat, i < 5 → q < p + 1 → zA (wF (wA (wA (wA (wA (wA X 50 (5 * (p : Int)) (T.1 (0 + 1) p : Int)) 50 (5 * (p : Int) + 1) (T.1 (1 + 1) p : Int)) 50 (5 * (p : Int) + 2) (T.1 (2 + 1) p : Int)) 50 (5 * (p : Int) + 3) (T.1 (3 + 1) p : Int)) 50 (5 * (p : Int) + 4) (T.1 (4 + 1) p : Int)) 49 1 ((p : Int) + 1)) 50 (5 * (q : Int) + (i : Int)) = (T.1 (i + 1) q : Int) := by
      intro i q a c
      simp only [zA_wF, zA_wA, if_true]
      by_cases e : q = p
      · subst e
        have hi : i = 0 ∨ i = 1 ∨ i = 2 ∨ i = 3 ∨ i = 4 := by omega
        rcases hi with rfl | rfl | rfl | rfl | rfl
        · rw [if_neg (by omega), if_neg (by omega), if_neg (by omega), if_neg (by omega), if_pos (by omega)]
        · rw [if_neg (by omega), if_neg (by omega), if_neg (by omega), if_pos (by omega)]
        · rw [if_neg (by omega), if_neg (by omega), if_pos (by omega)]
        · rw [if_neg (by omega), if_pos (by omega)]
        · rw [if_pos (by omega)]
      · rw [if_neg (by omega), if_neg (by omega), if_neg (by omega), if_neg (by omega), if_neg (by omega)]
        exact h6 i q a (by omega)
    obtain ⟨X', i1, i2, i3, i4, i5, i6⟩ := ih (p + 1) m (wF (wA (wA (wA (wA (wA X 50 (5 * (p : Int)) (T.1 (0 + 1) p : Int)) 50 (5 * (p : Int) + 1) (T.1 (1 + 1) p : Int)) 50 (5 * (p : Int) + 2) (T.1 (2 + 1) p : Int)) 50 (5 * (p : Int) + 3) (T.1 (3 + 1) p : Int)) 50 (5 * (p : Int) + 4) (T.1 (4 + 1) p : Int)) 49 1 ((p : Int) + 1)) (by omega) (by omega) h3 rfl (fun i q a c => h5 i q a c) hx
    refine ⟨X', i1, fun h hh => (i2 h hh).trans ?_, fun h j hh => (i3 h j hh).trans ?_, i4, i5, i6⟩
    · show (if h = 50 then _ else (if h = 50 then _ else (if h = 50 then _ else (if h = 50 then _ else (if h = 50 then _ else X.1 h))))) = _
      rw [if_neg hh, if_neg hh, if_neg hh, if_neg hh, if_neg hh]
    · exact (fr1_wF _ 49 1 _).2.2 h j hh
theorem sp_take115 {T : TW} (ht : tAt S 15 T) (w : wfR T) (n : Nat) : ∃ S1, fT_takeOver_1_15 n S = some S1 ∧ fr 2 7 1 S S1 ∧ tAt S1 1 T := by
  have w6 := w.1
  have w7 := w.2.1
  unfold fT_takeOver_1_15
  rw [gY_pos (by omega) (by omega) (by omega) (by omega) (by omega) (by omega) (by omega), gY_pos (by omega) (by omega) (by omega) (by omega) (by omega) (by omega) (by omega), gY_pos (by omega) (by omega) (by omega) (by omega) (by omega) (by omega) (by omega), gY_pos (by omega) (by omega) (by omega) (by omega) (by omega) (by omega) (by omega), gY_pos (by omega) (by omega) (by omega) (by omega) (by omega) (by omega) (by omega), gY_pos (by omega) (by omega) (by omega) (by omega) (by omega) (by omega) (by omega)]
  refine ⟨_, rfl, ?_, ?_⟩
  · exact fr_trans (fr_trans (fr_trans (fr_trans (fr_trans (fr_trans (fr_trans (fr_trans (fr_trans (fr_trans (fr_trans (fr_wR _ _ (by omega) (by omega)) (fr_wR _ _ (by omega) (by omega))) (fr_wR _ _ (by omega) (by omega))) (fr_wR _ _ (by omega) (by omega))) (fr_wR _ _ (by omega) (by omega))) (fr_wR _ _ (by omega) (by omega))) (fr_wF _ 6 _)) (fr_wF _ 7 _)) (fr_wF _ 8 _)) (fr_wF _ 9 _)) (fr_wF _ 10 _)) (fr_wF _ 11 _)
  · refine ⟨fun j a b => ?_, fun i p a b c => ?_, fun p a => ?_⟩
    · rw [← ht.1 j a b]
      have hj : j = 6 ∨ j = 7 ∨ j = 8 ∨ j = 9 ∨ j = 10 ∨ j = 11 := by omega
      rcases hj with rfl | rfl | rfl | rfl | rfl | rfl <;> rfl
    · rw [← ht.2.1 i p a b c]
      have hi : i = 1 ∨ i = 2 ∨ i = 3 ∨ i = 4 ∨ i = 5 := by omega
      rcases hi with rfl | rfl | rfl | rfl | rfl
      · exact tk_A (S.1 16) (S.1 2) 8 (by omega) (by omega)
      · exact tk_A (S.1 17) (S.1 3) 8 (by omega) (by omega)
      · exact tk_A (S.1 18) (S.1 4) 8 (by omega) (by omega)
      · exact tk_A (S.1 19) (S.1 5) 8 (by omega) (by omega)
      · exact tk_A (S.1 20) (S.1 6) 8 (by omega) (by omega)
    · rw [← ht.2.2 p a]
      exact tk_A (S.1 21) (S.1 7) 4 (by omega) (by omega)
end TWN
