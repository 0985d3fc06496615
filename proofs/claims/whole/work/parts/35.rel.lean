/-! ===== the town of the class and that of the reference ===== -/
def relT (T : Tn) (M : Cm) : Prop := T.2.2.1 = M.2.2.2 1 ∧ T.2.2.2 = M.2.2.2 7 ∧ (∀ p, p < T.2.2.1 → T.1 0 p = M.1 1 (5 * p) ∧ T.1 1 p = M.1 1 ((5 * p) + 1) ∧ T.1 2 p = M.1 1 ((5 * p) + 2) ∧ T.1 3 p = M.1 1 ((5 * p) + 3) ∧ T.1 4 p = M.1 1 ((5 * p) + 4)) ∧ (∀ p, p < T.2.2.2 → T.1 5 p = M.1 2 p) ∧ T.2.1 0 = M.2.2.1 2 ∧ T.2.1 1 = M.2.2.1 3 ∧ T.2.1 2 = M.2.2.1 4 ∧ T.2.1 3 = M.2.2.1 5
theorem ysum_cg {f g : Nat → Int32} {s : Int32} : ∀ {n : Nat}, (∀ p, p < n → f p = g p) → ysum f s n = ysum g s n
  | 0, _ => rfl
  | n + 1, h => by
    show (if bit s n then ysum f s n + f n else ysum f s n) = (if bit s n then ysum g s n + g n else ysum g s n)
    rw [ysum_cg (n := n) (fun p hp => h p (by omega)), h n (by omega)]
theorem firmB_cg {f g : Nat → Int32} {s : Int32} : ∀ {n : Nat}, (∀ p, p < n → f p = g p) → firmB f s n = firmB g s n
  | 0, _ => rfl
  | n + 1, h => by
    show (firmB f s n && (decide (¬ bit s n) || decide (f n &&& (s ^^^ (-1)) = 0))) = (firmB g s n && (decide (¬ bit s n) || decide (g n &&& (s ^^^ (-1)) = 0)))
    rw [firmB_cg (n := n) (fun p hp => h p (by omega)), h n (by omega)]
theorem shel_cg {f g : Nat → Int32} {s : Int32} : ∀ {n : Nat}, (∀ p, p < n → f p = g p) → shel f s n = shel g s n
  | 0, _ => rfl
  | n + 1, h => by
    show (if f n &&& s = 0 then shel f s n else shel f s n ||| (1 <<< (nI n &&& 31))) = (if g n &&& s = 0 then shel g s n else shel g s n ||| (1 <<< (nI n &&& 31)))
    rw [shel_cg (n := n) (fun p hp => h p (by omega)), h n (by omega)]
theorem going_eq {T : Tn} {M : Cm} (hR : relT T M) {p : Nat} (hp : p < T.2.2.1) : f_givenByGoing T p = f_givenBy M p := by
  obtain ⟨h0, h1, -⟩ := hR.2.2.1 p hp
  unfold f_givenByGoing f_givenBy
  rw [h0, h1]
theorem coming_eq {T : Tn} {M : Cm} (hR : relT T M) {p : Nat} (hp : p < T.2.2.1) : f_givenByComing T p = - f_takenBy M p := by
  obtain ⟨h0, h1, -⟩ := hR.2.2.1 p hp
  unfold f_givenByComing f_takenBy
  rw [h0, h1]
  by_cases h : M.1 1 (5 * p) = 2
  · rw [if_pos h, if_pos h, Int32.neg_neg]
  · rw [if_neg h, if_neg h]
theorem over_eq {T : Tn} {M : Cm} (hR : relT T M) {g c : Int32} (hgc : ∀ p, p < T.2.2.1 → ¬ (bit g p ∧ bit c p)) : ∀ n, n ≤ T.2.2.1 → overF T g c n = M.2.2.1 4 + moreF M g c n
  | 0, _ => by
    show T.2.1 2 = M.2.2.1 4 + 0
    rw [Int32.add_zero]
    exact hR.2.2.2.2.2.2.1
  | n + 1, hn => by
    have ih := over_eq hR hgc n (by omega)
    show (if bit g n then overF T g c n + f_givenByGoing T n else if bit c n then overF T g c n + f_givenByComing T n else overF T g c n) = M.2.2.1 4 + (moreF M g c n + ((if bit g n then f_givenBy M n else 0) - (if bit c n then f_takenBy M n else 0)))
    rw [going_eq hR (by omega), coming_eq hR (by omega), ih]
    by_cases h1 : bit g n
    · have h2 : ¬ bit c n := fun q => hgc n (by omega) ⟨h1, q⟩
      rw [if_pos h1, if_pos h1, if_neg h2]
      grind
    · rw [if_neg h1, if_neg h1]
      by_cases h2 : bit c n
      · rw [if_pos h2, if_pos h2]
        grind
      · rw [if_neg h2, if_neg h2]
        grind
