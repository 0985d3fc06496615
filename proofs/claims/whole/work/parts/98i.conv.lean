/-! ===== sixteen rounds are enough ===== -/
def ctn (f : Nat → Bool) : Nat → Nat
  | 0 => 0
  | k + 1 => ctn f k + (if f k = true then 1 else 0)
theorem ctn_le (f : Nat → Bool) : ∀ k, ctn f k ≤ k := by
  intro k
  induction k with
  | zero => exact Nat.le_refl _
  | succ k ih =>
    show ctn f k + (if f k = true then 1 else 0) ≤ k + 1
    split <;> omega
theorem ctn_mono {f g : Nat → Bool} (h : ∀ i, f i = true → g i = true) : ∀ k, ctn f k ≤ ctn g k := by
  intro k
  induction k with
  | zero => exact Nat.le_refl _
  | succ k ih =>
    show ctn f k + (if f k = true then 1 else 0) ≤ ctn g k + (if g k = true then 1 else 0)
    by_cases c : f k = true
    · rw [if_pos c, if_pos (h k c)]
      omega
    · rw [if_neg c]
      omega
theorem ctn_lt {f g : Nat → Bool} (h : ∀ i, f i = true → g i = true) : ∀ k, (∃ i, i < k ∧ f i = false ∧ g i = true) → ctn f k < ctn g k := by
  intro k
  induction k with
  | zero => rintro ⟨i, hi, -⟩; omega
  | succ k ih =>
    rintro ⟨i, hi, h1, h2⟩
    show ctn f k + (if f k = true then 1 else 0) < ctn g k + (if g k = true then 1 else 0)
    by_cases e : i = k
    · subst e
      have := ctn_mono h i
      rw [if_neg (by rw [h1]; decide), if_pos h2]
      omega
    · have := ih ⟨i, by omega, h1, h2⟩
      by_cases c : f k = true
      · rw [if_pos c, if_pos (h k c)]
        omega
      · rw [if_neg c]
        omega
theorem ctn_less {f : Nat → Bool} {k i : Nat} (hi : i < k) (h : f i = false) : ctn f k < k := by
  have h1 := ctn_lt (f := f) (g := fun _ => true) (fun _ _ => rfl) k ⟨i, hi, h, rfl⟩
  have h2 := ctn_le (fun _ => true) k
  omega
/-- what comes before u comes before v, u too -/
theorem ctn_tau {tau : Nat → Nat} {u v k : Nat} (hu : u < k) (h : tau u < tau v) : ctn (fun w => decide (tau w < tau u)) k < ctn (fun w => decide (tau w < tau v)) k := by
  refine ctn_lt (fun i hi => ?_) k ⟨u, hu, ?_, ?_⟩
  · have := of_decide_eq_true hi
    exact decide_eq_true (by omega)
  · exact decide_eq_false (by omega)
  · exact decide_eq_true h
theorem JJ_start {L : List Ed} {x0 pi : Nat → Int} (h0 : ∀ v, pi v ≤ x0 v) : JJ L x0 pi (x0, fun _ => -1) (fun _ => 0) := ⟨⟨0, fun _ => Nat.le_refl _⟩, fun v => ⟨h0 v, Int.le_refl _⟩, fun v => Or.inl ⟨rfl, rfl⟩⟩
theorem itr_16 {L : List Ed} {x0 pi : Nat → Int} (hL : ∀ e, e ∈ L → e.1 ≠ e.2.1) (ha : ∀ e, e ∈ L → e.1 < 17) (hb : ∀ e, e ∈ L → e.2.1 < 17) (hp : ∀ e, e ∈ L → pi e.2.1 ≤ pi e.1 + e.2.2) (h0 : ∀ v, pi v ≤ x0 v) : (gRun L (itr L 16 (x0, fun _ => -1))).1 = false := by
  have J0 := JJ_start (L := L) h0
  obtain ⟨K, -, hK⟩ := itr_ends hL hb hp (mus pi (x0, fun _ => -1)).toNat _ _ J0 (by omega)
  have fx := (itr_fix hK 16).2
  obtain ⟨tau, hJ⟩ := itr_J hL hp J0 (K + 16)
  have lo : ∀ r v, r ≤ K + 16 → (itr L (K + 16) (x0, fun _ => -1)).1 v ≤ (itr L r (x0, fun _ => -1)).1 v := fun r v hr => itr_le L _ hr v
  generalize hXs : itr L (K + 16) (x0, fun _ => -1) = Xs at *
  have nc := (run_id L Xs fx).2
  have key : ∀ r v, v < 17 → ctn (fun w => decide (tau w < tau v)) 17 ≤ r → (itr L r (x0, fun _ => -1)).1 v ≤ Xs.1 v := by
    intro r
    induction r with
    | zero =>
      intro v hv hr
      rcases hJ.2.2 v with ⟨-, a2⟩ | ⟨u, c, a1, a2, a3, a4, a5⟩
      · rw [a2]
        exact Int.le_refl _
      · have := of_decide_eq_false (nc _ a1)
        dsimp only at this
        have := ctn_tau (k := 17) (ha _ a1) (a5 (by omega))
        omega
    | succ r ih =>
      intro v hv hr
      rcases hJ.2.2 v with ⟨-, a2⟩ | ⟨u, c, a1, a2, a3, a4, a5⟩
      · rw [a2]
        exact itr_le L (x0, fun _ => -1) (Nat.zero_le (r + 1)) v
      · have := of_decide_eq_false (nc _ a1)
        dsimp only at this
        have h2 := ctn_tau (u := u) (k := 17) (ha _ a1) (a5 (by omega))
        have h3 := ih u (ha _ a1) (by omega)
        have h4 := run_prog L (itr L r (x0, fun _ => -1)) _ a1 (by dsimp only; omega)
        dsimp only at h4
        have h5 : (itr L (r + 1) (x0, fun _ => -1)).1 v ≤ (itr L r (x0, fun _ => -1)).1 u + c := h4
        omega
  have same : ∀ v, v < 17 → (itr L 16 (x0, fun _ => -1)).1 v = Xs.1 v := fun v hv => by
    have h1 := key 16 v hv (by have := ctn_less (f := fun w => decide (tau w < tau v)) (k := 17) hv (decide_eq_false (by omega)); omega)
    have h2 := lo 16 v (by omega)
    omega
  have := run_f L (itr L 16 (x0, fun _ => -1)) (fun e he => by
    have h1 := nc e he
    unfold cnd at h1 ⊢
    rw [same _ (ha e he), same _ (hb e he)]
    exact h1)
  rw [this]
/-- the last labels: what holds of them -/
def fin (L : List Ed) (x0 : Nat → Int) : Lb := itr L 17 (x0, fun _ => -1)
theorem fin_of {L : List Ed} {x0 pi : Nat → Int} (hL : ∀ e, e ∈ L → e.1 ≠ e.2.1) (ha : ∀ e, e ∈ L → e.1 < 17) (hb : ∀ e, e ∈ L → e.2.1 < 17) (hp : ∀ e, e ∈ L → pi e.2.1 ≤ pi e.1 + e.2.2) (h0 : ∀ v, pi v ≤ x0 v) {k : Nat} (h : 16 ≤ k ∨ (gRun L (itr L k (x0, fun _ => -1))).1 = false) : itr L k (x0, fun _ => -1) = fin L x0 := by
  have f16 := itr_16 hL ha hb hp h0
  have e17 := (itr_fix f16 1).1
  unfold fin
  by_cases c : 16 ≤ k
  · have := (itr_fix f16 (k - 16)).1
    rw [show 16 + (k - 16) = k by omega] at this
    rw [this, e17]
  · have h := h.resolve_left c
    have := (itr_fix h (17 - k)).1
    rw [show k + (17 - k) = 17 by omega] at this
    exact this.symm
theorem fin_ok {L : List Ed} {x0 pi : Nat → Int} (hL : ∀ e, e ∈ L → e.1 ≠ e.2.1) (ha : ∀ e, e ∈ L → e.1 < 17) (hb : ∀ e, e ∈ L → e.2.1 < 17) (hp : ∀ e, e ∈ L → pi e.2.1 ≤ pi e.1 + e.2.2) (h0 : ∀ v, pi v ≤ x0 v) : (∀ v, pi v ≤ (fin L x0).1 v ∧ (fin L x0).1 v ≤ x0 v) ∧ (∀ u v c, (u, v, c) ∈ L → (fin L x0).1 u < 1000000 → (fin L x0).1 v ≤ (fin L x0).1 u + c) ∧ ∃ tau : Nat → Nat, ∀ v : Nat, ((fin L x0).2 v = -1 ∧ (fin L x0).1 v = x0 v) ∨ ∃ (u : Nat) (c : Int), (u, v, c) ∈ L ∧ (fin L x0).2 v = (u : Int) ∧ (fin L x0).1 u < 1000000 ∧ (fin L x0).1 v = (fin L x0).1 u + c ∧ tau u < tau v := by
  have f16 := (itr_fix (itr_16 hL ha hb hp h0) 1).2
  have f16 : (gRun L (fin L x0)).1 = false := f16
  obtain ⟨tau, hJ⟩ := itr_J hL hp (JJ_start (L := L) h0) 17
  have hJ : JJ L x0 pi (fin L x0) tau := hJ
  have nc := (run_id L _ f16).2
  have up : ∀ u v c, (u, v, c) ∈ L → (fin L x0).1 u < 1000000 → (fin L x0).1 v ≤ (fin L x0).1 u + c := by
    intro u v c h hu
    have := of_decide_eq_false (nc _ h)
    dsimp only at this
    omega
  refine ⟨hJ.2.1, up, tau, fun v => ?_⟩
  rcases hJ.2.2 v with a | ⟨u, c, a1, a2, a3, a4, a5⟩
  · exact Or.inl a
  · have := up u v c a1 a3
    exact Or.inr ⟨u, c, a1, a2, a3, by omega, a5 (by omega)⟩
