/-! ===== the reference's way ===== -/
section RW
variable {S : ZS} {T : TW}
theorem cond_eq (w : wfT T) {s to r : Nat} {f : Int} (hs : s < 2 ^ T.2 6) (hto : to < 2 ^ T.2 6) (hf : firmB T s = true) (hf2 : 0 ≤ f ∧ f ≤ 999) (hno : ∀ i, i ≤ r → f < Lr T (allP T) i s) : (firmB T to && dryB T (s &&& to) && decide (Yd T (s ^^^ to) ≤ (T.2 11 : Int)) && decide (Lr T (allP T) r to ≤ min 999 (f + gv T s to))) = true ↔ (Ex T 255 r to ≤ 999 ∧ nb T s to (Ex T 255 r to) ≤ f) := by
  have w6 := w.1.1
  have hx : s ^^^ to < 2 ^ T.2 6 := Nat.xor_lt_two_pow hs hto
  rw [Bool.and_eq_true, Bool.and_eq_true, Bool.and_eq_true, decide_eq_true_iff, decide_eq_true_iff]
  constructor
  · rintro ⟨⟨⟨h1, h2⟩, h3⟩, h4⟩
    have e1 := Lr_all w6 r hto
    obtain ⟨i, k1, k2⟩ := Ex_Lr (T := T) (mv := 255) r to (by omega)
    by_cases c : i = r
    · subst c
      rw [Yd_xor] at h3
      have e2 : nb T s to (Ex T 255 i to) = if 999 < Ex T 255 i to - gv T s to then 1000000 else if Ex T 255 i to - gv T s to < 0 then 0 else Ex T 255 i to - gv T s to := by
        unfold nb
        rw [if_neg (by omega), if_neg (by omega), if_pos h1, if_pos h2]
      rw [if_neg (by omega)] at e2
      by_cases k : Ex T 255 i to - gv T s to < 0
      · rw [if_pos k] at e2; omega
      · rw [if_neg k] at e2; omega
    · have a1 := Lr_Ex (T := T) (mv := 255) i to h1
      have a2 := Lr_all w6 i hto
      have a3 := Lr_step (T := T) (mv := allP T) (r := i) (s := s) hto (okB_mk hf h1 h2 h3 (nDf_full hx)) (by omega)
      have a4 := hno (i + 1) (by omega)
      omega
  · rintro ⟨h1, h2⟩
    rcases nb_cases (T := T) s to (Ex T 255 r to) with z | ⟨z1, z2, z3, z4, z5, z6⟩
    · omega
    · have a1 := Lr_Ex (T := T) (mv := 255) r to z3
      have a2 := Lr_all w6 r hto
      refine ⟨⟨⟨z3, z4⟩, by rw [Yd_xor]; exact z2⟩, (by omega)⟩
/-- along the way: firm, enough, and not in fewer weeks -/
theorem way_inv (w : wfT T) {k : Nat} (hk : fnd T (allP T) = some k) : ∀ i, i ≤ k → firmB T (wayA T k i).1 = true ∧ Lr T (allP T) (k - i) (wayA T k i).1 ≤ (wayA T k i).2 ∧ ∀ j, j < k - i → (wayA T k i).2 < Lr T (allP T) j (wayA T k i).1 := by
  obtain ⟨-, h2, h3, h4⟩ := findFrom_some hk
  have h3 := of_decide_eq_true h3
  intro i
  induction i with
  | zero =>
    intro _
    exact ⟨w.2.2, h3, fun j hj => by have := of_decide_eq_false (h4 j (by omega) (by omega)); show (T.2 10 : Int) < Lr T (allP T) j (T.2 8); omega⟩
  | succ i ih =>
    intro hi
    obtain ⟨a1, a2, a3⟩ := ih (by omega)
    obtain ⟨b1, b2, b3⟩ := way_bd w k i
    have c1 := a3 (k - 1 - i) (by omega)
    have lt : Lr T (allP T) (k - 1 - i + 1) (wayA T k i).1 < Lr T (allP T) (k - 1 - i) (wayA T k i).1 := by
      rw [show k - 1 - i + 1 = k - i by omega]
      omega
    have hto : wayTo T (wayA T k i).1 (wayA T k i).2 (k - 1 - i) < 2 ^ T.2 6 ∧ firmB T (wayTo T (wayA T k i).1 (wayA T k i).2 (k - 1 - i)) = true ∧ dryB T ((wayA T k i).1 &&& wayTo T (wayA T k i).1 (wayA T k i).2 (k - 1 - i)) = true ∧ Yd T ((wayA T k i).1 ^^^ wayTo T (wayA T k i).1 (wayA T k i).2 (k - 1 - i)) ≤ (T.2 11 : Int) ∧ Lr T (allP T) (k - 1 - i) (wayTo T (wayA T k i).1 (wayA T k i).2 (k - 1 - i)) ≤ min 999 ((wayA T k i).2 + gv T (wayA T k i).1 (wayTo T (wayA T k i).1 (wayA T k i).2 (k - 1 - i))) := by
      obtain ⟨to, t1, t2, t3, t4⟩ := Lr_at lt
      rw [show k - 1 - i + 1 = k - i by omega] at t4
      obtain ⟨o1, o2, o3, o4, o5⟩ := okB_split t2
      unfold wayTo
      cases hf : firstTo (fun to => firmB T to && dryB T ((wayA T k i).1 &&& to) && decide (Yd T ((wayA T k i).1 ^^^ to) ≤ (T.2 11 : Int)) && decide (Lr T (allP T) (k - 1 - i) to ≤ min 999 ((wayA T k i).2 + gv T (wayA T k i).1 to))) (2 ^ T.2 6) with
      | none =>
        have := findFrom_none hf to (by omega) (by omega)
        rw [o2, o3, decide_eq_true o4, decide_eq_true (show Lr T (allP T) (k - 1 - i) to ≤ min 999 ((wayA T k i).2 + gv T (wayA T k i).1 to) by omega)] at this
        cases this
      | some q =>
        obtain ⟨-, q1, q2, -⟩ := findFrom_some hf
        rw [Bool.and_eq_true, Bool.and_eq_true, Bool.and_eq_true] at q2
        exact ⟨(by show q < _; omega), q2.1.1.1, q2.1.1.2, of_decide_eq_true q2.1.2, of_decide_eq_true q2.2⟩
    obtain ⟨d1, d2, d3, d4, d5⟩ := hto
    refine ⟨d2, ?_, fun j hj => ?_⟩
    · rw [show k - (i + 1) = k - 1 - i by omega]
      exact d5
    · show min 999 ((wayA T k i).2 + gv T (wayA T k i).1 (wayTo T (wayA T k i).1 (wayA T k i).2 (k - 1 - i))) < Lr T (allP T) j (wayTo T (wayA T k i).1 (wayA T k i).2 (k - 1 - i))
      apply Decidable.byContradiction
      intro hn
      have a4 := Lr_step (T := T) (mv := allP T) (r := j) (s := (wayA T k i).1) d1 (okB_mk a1 d2 d3 d4 (nDf_full (Nat.xor_lt_two_pow b1 d1))) (by omega)
      have a5 := a3 (j + 1) (by omega)
      omega
theorem sm_way (hm : mAt S T) (w : wfT T) (ht : mT S T) {k i : Nat} (hk : fnd T (allP T) = some k) (hi : i < k) (hk2 : k ≤ 255) (hrow : eRow S T 255 k) (l1 l4 : Int) {n : Nat} (hn : 400 ≤ n) : fM_findRow_2 n S l1 (((wayA T k i).1 : Nat) : Int) (wayA T k i).2 l4 (256 * ((k - 1 - i : Nat) : Int)) 0 = some ((wayTo T (wayA T k i).1 (wayA T k i).2 (k - 1 - i) : Nat) : Int) := by
  have hq := pw_le w.1.1
  obtain ⟨a1, a2, a3⟩ := way_inv w hk i (by omega)
  obtain ⟨b1, b2, b3⟩ := way_bd w k i
  obtain ⟨c1, c2, -⟩ := way_inv w hk (i + 1) (by omega)
  obtain ⟨d1, -, -⟩ := way_bd w k (i + 1)
  have ce : ∀ to, to < 2 ^ T.2 6 → _ := fun to hto => cond_eq w (r := k - 1 - i) b1 hto a1 ⟨b2, b3⟩ (fun j hj => a3 j (by omega))
  have step : ∀ (n to : Nat), to < 2 ^ T.2 6 → 30 ≤ n → fM_findRow_2 (n + 1) S l1 (((wayA T k i).1 : Nat) : Int) (wayA T k i).2 l4 (256 * ((k - 1 - i : Nat) : Int)) (to : Int) = if Ex T 255 (k - 1 - i) to ≤ 999 ∧ nb T (wayA T k i).1 to (Ex T 255 (k - 1 - i) to) ≤ (wayA T k i).2 then some (to : Int) else fM_findRow_2 n S l1 (((wayA T k i).1 : Nat) : Int) (wayA T k i).2 l4 (256 * ((k - 1 - i : Nat) : Int)) ((to : Int) + 1) := by
    intro n to hto hn
    have eb := Ex_bd (T := T) (mv := 255) (k - 1 - i) to
    have nbb := nb_bd (T := T) (wayA T k i).1 to (Ex T 255 (k - 1 - i) to)
    have cur := hrow (k - 1 - i) (by omega) to hto
    rw [fM_findRow_2, gX_pos (by omega) (by omega) (by omega), cur, gC_pos (x := Ex T 255 (k - 1 - i) to) (by omega) (by omega) (by omega) (by omega)]
    by_cases k1 : 999 < Ex T 255 (k - 1 - i) to
    · rw [if_pos k1, if_neg (by omega)]
    · rw [if_neg k1, gX_pos (by omega) (by omega) (by omega), sm_needBy hm w ht b1 hto (by omega) (by omega), Option.bind_some, gC_pos (x := nb T (wayA T k i).1 to (Ex T 255 (k - 1 - i) to)) (by omega) (by omega) (by omega) (by omega)]
      by_cases k2 : (wayA T k i).2 < nb T (wayA T k i).1 to (Ex T 255 (k - 1 - i) to)
      · rw [if_pos k2, if_neg (by omega)]
      · rw [if_neg k2, if_pos (by omega)]
  have hw : firstTo (fun to => firmB T to && dryB T ((wayA T k i).1 &&& to) && decide (Yd T ((wayA T k i).1 ^^^ to) ≤ (T.2 11 : Int)) && decide (Lr T (allP T) (k - 1 - i) to ≤ min 999 ((wayA T k i).2 + gv T (wayA T k i).1 to))) (2 ^ T.2 6) = some (wayTo T (wayA T k i).1 (wayA T k i).2 (k - 1 - i)) := by
    cases hf : firstTo (fun to => firmB T to && dryB T ((wayA T k i).1 &&& to) && decide (Yd T ((wayA T k i).1 ^^^ to) ≤ (T.2 11 : Int)) && decide (Lr T (allP T) (k - 1 - i) to ≤ min 999 ((wayA T k i).2 + gv T (wayA T k i).1 to))) (2 ^ T.2 6) with
    | some q =>
      unfold wayTo
      rw [hf]
      rfl
    | none =>
      have e : wayTo T (wayA T k i).1 (wayA T k i).2 (k - 1 - i) = (wayA T k i).1 := by
        unfold wayTo
        rw [hf]
        rfl
      have c2 : Lr T (allP T) (k - (i + 1)) (wayTo T (wayA T k i).1 (wayA T k i).2 (k - 1 - i)) ≤ min 999 ((wayA T k i).2 + gv T (wayA T k i).1 (wayTo T (wayA T k i).1 (wayA T k i).2 (k - 1 - i))) := c2
      rw [e, gv_self] at c2
      have := a3 (k - (i + 1)) (by omega)
      omega
  obtain ⟨-, q1, q2, q3⟩ := findFrom_some hw
  have e := loop_for (F := fun n (_ : Unit) p => fM_findRow_2 n S l1 (((wayA T k i).1 : Nat) : Int) (wayA T k i).2 l4 (256 * ((k - 1 - i : Nat) : Int)) p) (fun _ => ()) (wayTo T (wayA T k i).1 (wayA T k i).2 (k - 1 - i)) 30 (res := some ((wayTo T (wayA T k i).1 (wayA T k i).2 (k - 1 - i) : Nat) : Int)) ?_ ?_ n (by omega)
  · exact e
  · intro n to hto hn
    refine (step n to (by omega) hn).trans ?_
    rw [if_neg]
    intro z
    have := q3 to (by omega) hto
    rw [(ce to (by omega)).mpr z] at this
    cases this
  · intro n hn
    refine (step n _ (by omega) hn).trans ?_
    rw [if_pos ((ce _ (by omega)).mp q2)]
end RW
