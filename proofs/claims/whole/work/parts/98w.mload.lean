/-! ===== the reference loads ===== -/
section MLD
variable {T : TW} {go come : Nat}
theorem gg_nn (w : wfR T) {p : Nat} (hp : p < T.2 6) (h : T.1 1 p ≠ 2) : 0 ≤ gg T p := by
  have := w.2.2.1 p hp
  unfold gg
  by_cases c1 : T.1 1 p = 1
  · rw [if_pos c1]; omega
  · rw [if_neg c1, if_neg h]
    by_cases c3 : T.1 1 p = 3
    · rw [if_pos c3]; omega
    · rw [if_neg c3]; omega
theorem LpM_bd (w : wfR T) (wn : wfN T) (i : Nat) : 0 ≤ LpM T go i ∧ LpM T go i ≤ 999 := by
  have := wn.2.2.1
  unfold LpM
  by_cases c : i = 8
  · rw [if_pos c]; omega
  · rw [if_neg c]
    by_cases c2 : isHb T go i = true
    · rw [if_pos c2]
      obtain ⟨h1, -, h3⟩ := isHb_i c2
      have h4 := gg_nn w h1 h3
      have h5 := gg_bd w h1
      omega
    · rw [if_neg c2]; omega
theorem WpM_bd (w : wfR T) (j : Nat) : 0 ≤ WpM T come j ∧ WpM T come j ≤ 99 := by
  unfold WpM
  by_cases c2 : isHb T come j = true
  · rw [if_pos c2]
    have := w.2.2.1 j (isHb_i c2).1
    omega
  · rw [if_neg c2]; omega
theorem sm_c1 (w : wfR T) (hg : go < 256) (hc : come < 256) : ∀ (j p n : Nat) (S : ZS), p + j = 8 → j < n → mAt S T → (∀ i : Nat, i < p → zA S 61 (i : Int) = LpM T go i ∧ zA S 62 (i : Int) = WpM T come i) → ∃ S', fM_carry_1 n S (go : Int) (come : Int) (sumTo (WpM T come) p) (p : Int) = some (sumTo (WpM T come) 8, S') ∧ frN 61 62 S S' ∧ ∀ i : Nat, i < 8 → zA S' 61 (i : Int) = LpM T go i ∧ zA S' 62 (i : Int) = WpM T come i := by
  have w6 := w.1
  intro j
  induction j with
  | zero =>
    intro p n S h1 h2 hm h
    obtain ⟨k, rfl⟩ : ∃ k, n = k + 1 := ⟨n - 1, by omega⟩
    obtain rfl : p = 8 := by omega
    refine ⟨S, ?_, frN_rfl, h⟩
    rw [fM_carry_1, gC_pos (by omega) (by omega) (by omega) (by omega), if_neg (by omega)]
  | succ j ih =>
    intro p n S h1 h2 hm h
    obtain ⟨k, rfl⟩ : ∃ k, n = k + 1 := ⟨n - 1, by omega⟩
    obtain ⟨is, his⟩ : ∃ is : Bool, is = (decide (p < T.2 6) && !(T.1 1 p == 2)) := ⟨_, rfl⟩
    have e1 : (gC (p : Int) (zF S 49 1) (if (p : Int) < (zF S 49 1) then gX (5 * (p : Int)) 40 (gC (zA S 50 (5 * (p : Int))) 2 (if (zA S 50 (5 * (p : Int))) = 2 then some (0 : Int) else some 1)) else some 0)) = some (bZ is) := by
      rw [hm.1.1, gC_pos (by omega) (by omega) (by omega) (by omega)]
      by_cases c : p < T.2 6
      · have r0 := hm.2.1 0 p (by omega) c
        rw [show 5 * (p : Int) + ((0 : Nat) : Int) = 5 * (p : Int) by omega, show 0 + 1 = 1 from rfl] at r0
        have wp := w.2.2.1 p c
        rw [if_pos (by omega), gX_pos (by omega) (by omega) (by omega), r0, gC_pos (by omega) (by omega) (by omega) (by omega), his, decide_eq_true c, Bool.true_and]
        show (if (T.1 1 p : Int) = 2 then _ else _) = _
        by_cases c2 : T.1 1 p = 2
        · rw [if_pos (by omega), show (T.1 1 p == 2) = true by rw [c2]; rfl]
          rfl
        · rw [if_neg (by omega), beq_false_of_ne c2]
          rfl
      · rw [if_neg (by omega), his, decide_eq_false c, Bool.false_and]
        rfl
    have hH : ∀ g : Nat, isHb T g p = (is && g.testBit p) := fun g => by
      unfold isHb
      rw [his]
      cases decide (p < T.2 6) <;> cases g.testBit p <;> cases (T.1 1 p == 2) <;> rfl
    have e2 : (gC (bZ is) 0 (if bZ is = 0 then some (0 : Int) else (fM_has k S (go : Int) (p : Int)).bind fun z5 => gC z5 0 (if z5 = 0 then some 0 else (fM_givenBy k S (p : Int)).bind fun z6 => some z6))) = some (LpM T go p) := by
      unfold LpM
      rw [gC_b, if_neg (show ¬ p = 8 by omega), hH go]
      cases is with
      | false => rw [if_pos (show bZ false = 0 from rfl), Bool.false_and, if_neg Bool.false_ne_true]
      | true =>
        rw [if_neg (show ¬ bZ true = 0 by decide), sm_has S (by omega) (by omega), Option.bind_some, gC_b, Bool.true_and]
        have hp : p < T.2 6 := by
          by_cases c : p < T.2 6
          · exact c
          · rw [decide_eq_false c, Bool.false_and] at his
            cases his
        cases go.testBit p with
        | false => rw [if_pos (show bZ false = 0 from rfl), if_neg Bool.false_ne_true]
        | true => rw [if_neg (show ¬ bZ true = 0 by decide), if_pos rfl, sm_gg hm w hp, Option.bind_some]
    have e3 : (gC (bZ is) 0 (if bZ is = 0 then some (0 : Int) else (fM_has k (wA S 61 (p : Int) (LpM T go p)) (come : Int) (p : Int)).bind fun z4 => gC z4 0 (if z4 = 0 then some 0 else gX ((5 * (p : Int)) + 1) 40 (some (zA S 50 ((5 * (p : Int)) + 1)))))) = some (WpM T come p) := by
      unfold WpM
      rw [gC_b, hH come]
      cases is with
      | false => rw [if_pos (show bZ false = 0 from rfl), Bool.false_and, if_neg Bool.false_ne_true]
      | true =>
        rw [if_neg (show ¬ bZ true = 0 by decide), sm_has _ (by omega) (by omega), Option.bind_some, gC_b, Bool.true_and]
        have hp : p < T.2 6 := by
          by_cases c : p < T.2 6
          · exact c
          · rw [decide_eq_false c, Bool.false_and] at his
            cases his
        have r1 : zA S 50 (5 * (p : Int) + 1) = (T.1 2 p : Int) := hm.2.1 1 p (by omega) hp
        cases come.testBit p with
        | false => rw [if_pos (show bZ false = 0 from rfl), if_neg Bool.false_ne_true]
        | true => rw [if_neg (show ¬ bZ true = 0 by decide), if_pos rfl, gX_pos (by omega) (by omega) (by omega), r1]
    have f1 : frN 61 62 S (wA (wA S 61 (p : Int) (LpM T go p)) 62 (p : Int) (WpM T come p)) := frN_trans (frN_wA _ _ _ (by omega) (by omega)) (frN_wA _ _ _ (by omega) (by omega))
    obtain ⟨S', g1, g2, g3⟩ := ih (p + 1) k _ (by omega) (by omega) (frN_m f1 (by omega) hm) (fun i hi => by
      rw [zA_2a _ (by omega), zA_2b _ (by omega)]
      by_cases c : i = p
      · rw [if_pos (by omega), if_pos (by omega), c]
        exact ⟨rfl, rfl⟩
      · rw [if_neg (by omega), if_neg (by omega)]
        exact h i (by omega))
    refine ⟨S', ?_, frN_trans f1 g2, g3⟩
    rw [fM_carry_1, gC_pos (x := (p : Int)) (y := 8) (by omega) (by omega) (by omega) (by omega), if_pos (by omega), e1, Option.bind_some, e2, Option.bind_some, gX_pos (by omega) (by omega) (by omega), e3, Option.bind_some, gX_pos (by omega) (by omega) (by omega), gX_pos (by omega) (by omega) (by omega), zA_same]
    exact g1
theorem sm_c2 (l3 : Int) : ∀ (j p n : Nat) (S : ZS), p + j = 72 → j < n → (∀ i : Nat, i < p → zA S 63 (i : Int) = 0) → ∃ S', fM_carry_2 n S l3 (p : Int) = some S' ∧ frN 63 63 S S' ∧ ∀ i : Nat, i < 72 → zA S' 63 (i : Int) = 0 := by
  intro j
  induction j with
  | zero =>
    intro p n S h1 h2 h
    obtain ⟨k, rfl⟩ : ∃ k, n = k + 1 := ⟨n - 1, by omega⟩
    refine ⟨S, ?_, frN_rfl, fun i hi => h i (by omega)⟩
    rw [fM_carry_2, gC_pos (by omega) (by omega) (by omega) (by omega), if_neg (by omega)]
  | succ j ih =>
    intro p n S h1 h2 h
    obtain ⟨k, rfl⟩ : ∃ k, n = k + 1 := ⟨n - 1, by omega⟩
    rw [fM_carry_2, gC_pos (by omega) (by omega) (by omega) (by omega), if_pos (by omega), gX_pos (by omega) (by omega) (by omega)]
    obtain ⟨S', g1, g2, g3⟩ := ih (p + 1) k (wA S 63 (p : Int) 0) (by omega) (by omega) (fun i hi => by
      rw [zA_wA, if_pos rfl]
      by_cases c : i = p
      · rw [if_pos (by omega)]
      · rw [if_neg (by omega)]
        exact h i (by omega))
    exact ⟨S', g1, frN_trans (frN_wA _ _ _ (by omega) (by omega)) g2, g3⟩
theorem FL_0 {A B : Nat} {d : Nat → Nat → Int} {Lp W : Nat → Int} (h1 : ∀ i, 0 ≤ Lp i) (h2 : ∀ j, 0 ≤ W j) : FL A B d Lp W (fun _ _ => 0) Lp W 0 := by
  refine ⟨fun _ _ _ _ => Int.le_refl _, fun i _ => ⟨h1 i, ?_⟩, fun j _ => ⟨h2 j, ?_⟩, ?_⟩
  · unfold rwS
    rw [sumTo_0, Int.add_zero]
  · unfold clS
    rw [sumTo_0, Int.add_zero]
  · unfold cst
    have : sumTo (fun i => sumTo (fun j => (0 : Int) * d i j) B) A = sumTo (fun _ => 0) A := sumTo_cg (fun i _ => by
      have : sumTo (fun j => (0 : Int) * d i j) B = sumTo (fun _ => 0) B := sumTo_cg (fun j _ => Int.zero_mul _)
      rw [this, sumTo_0])
    rw [this, sumTo_0]
theorem DU_0 {A B : Nat} {d : Nat → Nat → Int} {lf : Nat → Int} (hd : dOk A B d) : DU A B d (fun _ _ => 0) lf (fun _ => 0) (fun _ => 0) := by
  have z : (0 : Int) ≤ 0 ∧ (0 : Int) ≤ 1000000 := by omega
  refine ⟨fun i _ => ⟨z.1, z.2, fun _ => rfl⟩, fun j _ => z, fun i j hi hj => ⟨?_, fun h => absurd (show (0 : Int) < 0 from h) (by decide)⟩⟩
  have := hd i j hi hj
  show (0 : Int) ≤ 0 + d i j
  omega
end MLD
