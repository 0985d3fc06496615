/-! ===== pair: worth, its end ===== -/
section WO2
variable {S : ZS} {T : TW}
theorem sm_worth1 (hm : mAt S T) (w : wfT T) (l1 l2 : Int) {n : Nat} (hn : 4000 ≤ n) : ∃ S', fM_worth_1 n S l1 l2 0 = some S' ∧ frR 54 67 S S' ∧ ∀ c : Nat, c < 16 → zA S' 67 (c : Int) = bZ (able T c) := by
  have hq := pw_le w.1.1
  have h10 := w.2.1.2.2.1
  have e := loop_inv (F := fun n (a : ZS) p => fM_worth_1 n a l1 l2 p) (fun c a => frR 54 67 S a ∧ ∀ c' : Nat, c' < c → zA a 67 (c' : Int) = bZ (able T c')) (fun b => frR 54 67 S b ∧ ∀ c : Nat, c < 16 → zA b 67 (c : Int) = bZ (able T c)) 16 3500 ?_ ?_ n S (by omega) ⟨frR_rfl, fun c hc => absurd hc (by omega)⟩
  · exact e
  · intro n c a hc hn ⟨h1, h2⟩
    have ma := frR_mAt h1 hm (by omega)
    have hp := pOf_lt T c
    obtain ⟨v, S1, a1, a2, a3, a4⟩ := sm_needs (mv := pOf T c) (has := (T.2 10 : Int)) ma w (by omega) (by omega) (by omega) (n := n) (by omega)
    obtain ⟨c1, -⟩ := res_fnd w a4
    have ez : (gC v 0 (if v < 0 then some (0 : Int) else some 1)) = some (bZ (able T c)) := by
      unfold byW at c1
      unfold able
      cases hf : fnd T (pOf T c) with
      | none =>
        rw [hf] at c1
        have c1 : v = -4 := c1
        rw [c1, gC_pos (x := -4) (y := 0) (by omega) (by omega) (by omega) (by omega), if_pos (by omega)]
        rfl
      | some k =>
        rw [hf] at c1
        obtain ⟨c3, c4⟩ := c1
        rw [c3, gC_pos (x := (k : Int)) (y := 0) (by omega) (by omega) (by omega) (by omega), if_neg (by omega)]
        rfl
    have wid : frR 54 67 a S1 := ⟨fun h hh => a2.1 h (by omega), a2.2⟩
    refine ⟨wA S1 67 (c : Int) (bZ (able T c)), ⟨frR_trans (frR_trans h1 wid) (frR_wA _ _ _ (by omega) (by omega)), fun c' hc' => ?_⟩, ?_⟩
    · rw [zA_wA, if_pos rfl]
      by_cases k : c' = c
      · rw [k, if_pos rfl]
      · rw [if_neg (by omega), frR_A a2 (by omega)]
        exact h2 c' (by omega)
    · show fM_worth_1 (n + 1) a l1 l2 (c : Int) = fM_worth_1 n (wA S1 67 (c : Int) (bZ (able T c))) l1 l2 ((c : Int) + 1)
      rw [fM_worth_1, gC_pos (by omega) (by omega) (by omega) (by omega), if_pos (by omega), sm_partsOf ma w hc (by omega), Option.bind_some, ma.1.2.2.2.2.1, a1, Option.bind_some]
      show ((gC v 0 (if v < 0 then some (0 : Int) else some 1)).bind fun z3 => gB z3 (gX (c : Int) 16 (fM_worth_1 n (wA S1 67 (c : Int) z3) l1 l2 ((c : Int) + 1)))) = _
      rw [ez, Option.bind_some, gB_b, gX_pos (by omega) (by omega) (by omega)]
  · intro n a _ ⟨h1, h2⟩
    refine ⟨a, ?_, h1, h2⟩
    show fM_worth_1 (n + 1) a l1 l2 16 = _
    rw [fM_worth_1, gC_pos (by omega) (by omega) (by omega) (by omega), if_neg (by omega)]
theorem good_mw {S1 : ZS} (hG : Good S) (f : frR 54 67 S S1) : Good S1 := by
  obtain ⟨T, ⟨h1, h2, h3⟩, h4, h5, h6, h7, h8⟩ := hG
  have f1 := frR_fr f 1000
  exact ⟨T, ⟨fr_tAt f1 h1 (by omega) (by omega), fr_mAt f1 h2 (by omega) (by omega), h3⟩, fr_gTape f1 h4 (by omega) (by omega) (by omega), fr_gImg f1 h5 (by omega) (by omega) (by omega) (by omega), fr_gSh f1 h6 (by omega), fr_gWay f1 h7 (by omega) (by omega), fr_gRoom f1 h8⟩
theorem sp_turns (ht : tAt S 1 T) (w : wfT T) (hw : gWay S T) (hroom : gRoom S) {o n : Nat} (ho : o < 4) (hn : 4000 ≤ n) : ∃ S', fW_turningOrders n S (o : Int) = some (sumTo (sw T o) 16, S') ∧ gWay S' T ∧ gRoom S' ∧ (∀ h : Nat, (h < 25 ∨ 32 < h) → S'.1 h = S.1 h) ∧ ∀ h j : Nat, h ≠ 24 → S'.2.1 h j = S.2.1 h j := by
  obtain ⟨w14, w15, w16⟩ := id hw
  unfold fW_turningOrders
  rcases w16 with h | ⟨h, hs⟩
  · obtain ⟨S1, a1, a2, a3, a4⟩ := sp_able ht w w14 hroom (n := n) (by omega)
    have e := sp_turn1 (S := wF (wF S1 24 13 ((maskTo (able T) 16 : Nat) : Int)) 24 16 1) (T := T) rfl ho (n := n) (by omega)
    refine ⟨wF (wF S1 24 13 ((maskTo (able T) 16 : Nat) : Int)) 24 16 1, ?_, ⟨a3, ?_, Or.inr ⟨rfl, rfl⟩⟩, a4, fun x hx => a2.1 x (by omega), fun x j hx => ?_⟩
    · rw [h, gC_pos (by omega) (by omega) (by omega) (by omega), if_pos rfl, a1, Option.bind_some, gB_1, Option.bind_some, e, Option.bind_some]
    · rcases w15 with k | ⟨k, ks⟩
      · exact Or.inl ((frW_F a2 (a := 24) (j := 15) (by omega)).trans k)
      · refine Or.inr ⟨(frW_F a2 (a := 24) (j := 15) (by omega)).trans k, ?_⟩
        have f8 : zF S1 24 8 = zF S 24 8 := frW_F a2 (by omega)
        have f9 : zF S1 24 9 = zF S 24 9 := frW_F a2 (by omega)
        have f10 : zF S1 24 10 = zF S 24 10 := frW_F a2 (by omega)
        unfold sought at ks ⊢
        cases hf : fnd T (allP T) with
        | none =>
          rw [hf] at ks
          exact ⟨f8.trans ks.1, f9.trans ks.2.1, f10.trans ks.2.2⟩
        | some q =>
          rw [hf] at ks
          exact ⟨f8.trans ks.1, f9.trans ks.2.1, fun i hi => (frW_A a2 (a := 32) (by omega) _).trans (ks.2.2 i hi)⟩
    · have k : S1.2.1 x j = S.2.1 x j := a2.2 x j (by omega)
      show (if j = 16 then (if x = 24 then (1 : Int) else (if j = 13 then (if x = 24 then ((maskTo (able T) 16 : Nat) : Int) else S1.2.1 x j) else S1.2.1 x j)) else (if j = 13 then (if x = 24 then ((maskTo (able T) 16 : Nat) : Int) else S1.2.1 x j) else S1.2.1 x j)) = _
      rw [if_neg hx, if_neg hx, k]
      split
      · split <;> rfl
      · split <;> rfl
  · refine ⟨S, ?_, hw, hroom, fun _ _ => rfl, fun _ _ _ => rfl⟩
    rw [h, gC_pos (by omega) (by omega) (by omega) (by omega), if_neg (by omega), Option.bind_some, sp_turn1 hs ho (by omega), Option.bind_some]
theorem q_worth (hG : Good S) {x y : Int} (h1 : -2147483648 ≤ x) (h2 : x < 2147483648) (h3 : -2147483648 ≤ y) (h4 : y < 2147483648) : ∃ n v S1 S2, fD_worth n S x y = some (v, S1) ∧ fM_worth n S1 x y = some (v, S2) ∧ Good S2 := by
  obtain ⟨T, ⟨ht, hm, w⟩, -, -, -, hw, hroom⟩ := id hG
  refine ⟨5000, ?_⟩
  by_cases r : 0 ≤ x ∧ x ≤ 3
  · by_cases q : 0 ≤ y ∧ y ≤ 1
    · obtain ⟨o, rfl⟩ : ∃ o : Nat, x = (o : Int) := ⟨x.toNat, by omega⟩
      have ho : o < 4 := by omega
      obtain ⟨S1, a1, a2, a3, a4, a5⟩ := sp_turns ht w hw hroom ho (n := 5000) (by omega)
      obtain ⟨G1, t1, m1⟩ := good_ways hG ht hm w a2 a3 a4 a5
      obtain ⟨S2, b1, b2, b3⟩ := sm_worth1 m1 w (o : Int) y (n := 5000) (by omega)
      have tb := tot_bd T ho
      obtain ⟨z, hz⟩ : ∃ z : Nat, sumTo (sw T o) 16 = (z : Int) := ⟨(sumTo (sw T o) 16).toNat, by omega⟩
      have c2 := sm_worth2 (S := S2) b3 ho y (n := 5000) (by omega)
      have gp : 1 ≤ gd z ∧ gd z ≤ 24 := ⟨Nat.gcd_pos_of_pos_right z (by omega), Nat.gcd_le_right z (by omega)⟩
      have sel : ∃ u : Int, (gC y 0 (if y = 0 then some (z : Int) else some 24)) = some u ∧ 0 ≤ u ∧ u ≤ 24 := by
        rw [gC_pos (by omega) (by omega) (by omega) (by omega)]
        by_cases k : y = 0
        · rw [if_pos k]; exact ⟨_, rfl, (by omega), (by omega)⟩
        · rw [if_neg k]; exact ⟨_, rfl, (by omega), (by omega)⟩
      obtain ⟨u, u1, u2, u3⟩ := sel
      have mx : max (1 : Int) ((gd z : Nat) : Int) = ((gd z : Nat) : Int) := Int.max_eq_right (by omega)
      rw [hz] at a1 c2
      refine ⟨u.tdiv ((gd z : Nat) : Int), S1, S2, ?_, ?_, good_mw G1 b2⟩
      · unfold fD_worth
        rw [sp_isOwner 5000 S h1 h2, Option.bind_some, gC_b, decide_eq_true r, if_neg (show ¬ bZ true = 0 by decide), gC_pos (x := y) (y := 0) (by omega) (by omega) (by omega) (by omega), if_neg (by omega), gC_pos (x := y) (y := 1) (by omega) (by omega) (by omega) (by omega), if_neg (by omega), a1, Option.bind_some]
        show ((fW_sharedDivisor 5000 S1 (z : Int)).bind fun z3 => (gC y 0 (if y = 0 then some (z : Int) else some 24)).bind fun z4 => gC 1 z3 (gV z4 (max 1 z3) (some (z4.tdiv (max 1 z3), S1)))) = _
        rw [sp_divisor S1 (by omega) (by omega), Option.bind_some, u1, Option.bind_some, mx, gC_pos (by omega) (by omega) (by omega) (by omega), gV_pos (by omega) (by omega) (by omega) (by omega)]
      · unfold fM_worth
        rw [gC_pos (x := (o : Int)) (y := 0) (by omega) (by omega) (by omega) (by omega), sp_in S1 5000 (by omega) (by omega) (by omega) (by omega) (by omega) (by omega), Option.bind_some, gC_b, decide_eq_true r, if_neg (show ¬ bZ true = 0 by decide), sp_in S1 5000 (by omega) (by omega) (by omega) (by omega) (by omega) (by omega), Option.bind_some, gC_b, decide_eq_true q, if_neg (show ¬ bZ true = 0 by decide), b1, Option.bind_some, c2, Option.bind_some, u1, gC_pos (x := y) (y := 0) (by omega) (by omega) (by omega) (by omega), Option.bind_some, sm_common S2 (by omega) (by omega), Option.bind_some, gV_pos (by omega) (by omega) (by omega) (by omega)]
    · refine ⟨-1, S, S, ?_, ?_, hG⟩
      · unfold fD_worth
        rw [sp_isOwner 5000 S h1 h2, Option.bind_some, gC_b, decide_eq_true r, if_neg (show ¬ bZ true = 0 by decide), gC_pos (x := y) (y := 0) (by omega) (by omega) (by omega) (by omega)]
        by_cases k : y < 0
        · rw [if_pos k]
        · rw [if_neg k, gC_pos (x := y) (y := 1) (by omega) (by omega) (by omega) (by omega), if_pos (by omega)]
      · unfold fM_worth
        rw [gC_pos (x := x) (y := 0) (by omega) (by omega) (by omega) (by omega), sp_in S 5000 (by omega) (by omega) (by omega) (by omega) (by omega) (by omega), Option.bind_some, gC_b, decide_eq_true r, if_neg (show ¬ bZ true = 0 by decide), gC_pos (x := y) (y := 0) (by omega) (by omega) (by omega) (by omega), sp_in S 5000 (by omega) (by omega) (by omega) (by omega) (by omega) (by omega), Option.bind_some, gC_b, decide_eq_false q, if_pos (show bZ false = 0 from rfl)]
  · refine ⟨-1, S, S, ?_, ?_, hG⟩
    · unfold fD_worth
      rw [sp_isOwner 5000 S h1 h2, Option.bind_some, gC_b, decide_eq_false r, if_pos (show bZ false = 0 from rfl)]
    · unfold fM_worth
      rw [gC_pos (x := x) (y := 0) (by omega) (by omega) (by omega) (by omega), sp_in S 5000 (by omega) (by omega) (by omega) (by omega) (by omega) (by omega), Option.bind_some, gC_b, decide_eq_false r, if_pos (show bZ false = 0 from rfl)]
theorem p_worth : P_worth Inv := by
  intro x0 x1
  have e0 : (Value.int x0) = .int (zI x0.toInt) := by rw [zI_of]
  have e1 : (Value.int x1) = .int (zI x1.toInt) := by rw [zI_of]
  rw [e0, e1]
  exact mkPair (fun n S => fD_worth n S x0.toInt x1.toInt) (fun n S => fM_worth n S x0.toInt x1.toInt) (fun o n S w h => sD_worth o n S _ _ h) (fun o n S w h => sM_worth o n S _ _ h) (fun S hG => q_worth hG (rngI x0).1 (rngI x0).2 (rngI x1).1 (rngI x1).2)
end WO2
