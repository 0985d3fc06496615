/-! ===== pair: can ===== -/
section CN
variable {S : ZS} {T : TW}
/-- what a search of the reference ends with, by weeks -/
def byW (T : TW) (mv : Nat) (v : Int) : Prop := match fnd T mv with
  | some k => v = (k : Int) ∧ k ≤ 255
  | none => v = -4
theorem res_fnd {S' : ZS} {mv : Nat} {v : Int} (w : wfT T) (h : resN S' T mv (T.2 10 : Int) v) : byW T mv v ∧ ∀ k, fnd T mv = some k → eRow S' T mv k := by
  have h8 := w.2.1.1
  have h10 := w.2.1.2.2.1
  rcases h with ⟨t, c1, c2, c3, c4, c5⟩ | ⟨hv, tE, c1, c2, c3, c4⟩
  · have a1 := Lr_Ex (T := T) (mv := mv) t (T.2 8) w.2.2
    have e : fnd T mv = some t := by
      refine fnd_some c1 (by omega) (fun r hr => ?_)
      apply Decidable.byContradiction
      intro hn
      obtain ⟨i, k1, k2⟩ := Ex_Lr (T := T) (mv := mv) r (T.2 8) (by omega)
      have := c5 i (by omega)
      omega
    unfold byW
    rw [e]
    refine ⟨⟨c2, c1⟩, fun k hk => ?_⟩
    cases hk
    exact c3
  · have L2 := Ex_none c1 c4 h8
    have e : fnd T mv = none := by
      apply fnd_none
      apply Decidable.byContradiction
      intro hn
      obtain ⟨i, k1, k2⟩ := Ex_Lr (T := T) (mv := mv) tE (T.2 8) (by omega)
      have := c2 i k1
      omega
    unfold byW
    rw [e]
    exact ⟨hv, fun k hk => (by cases hk)⟩
theorem fnd_255 (w : wfT T) : fnd T 255 = fnd T (allP T) := by
  have e : (fun r => decide (Lr T 255 r (T.2 8) ≤ (T.2 10 : Int))) = fun r => decide (Lr T (allP T) r (T.2 8) ≤ (T.2 10 : Int)) := by
    funext r
    rw [Lr_all w.1.1 r w.2.1.1]
  unfold fnd
  rw [e]
/-- the reference's row of weeks -/
def rowed (S' : ZS) (T : TW) (v : Int) : Prop := match fnd T (allP T) with
  | some k => v = (k : Int) ∧ k ≤ 255 ∧ ∀ i : Nat, i < k → zA S' 60 (i : Int) = (((wayA T k (i + 1)).1 : Nat) : Int)
  | none => v = -4
theorem sm_row1 (hm : mAt S T) (w : wfT T) (ht : mT S T) {k : Nat} (hk : fnd T (allP T) = some k) (hk2 : k ≤ 255) (hrow : eRow S T 255 k) {n : Nat} (hn : 1000 ≤ n) : ∃ S', fM_findRow_1 n S (k : Int) (T.2 8 : Int) (T.2 10 : Int) 0 = some S' ∧ frR 60 60 S S' ∧ ∀ i : Nat, i < k → zA S' 60 (i : Int) = (((wayA T k (i + 1)).1 : Nat) : Int) := by
  have hq := pw_le w.1.1
  have e := loop_inv (F := fun n (a : ZS × Int × Int) p => fM_findRow_1 n a.1 (k : Int) a.2.1 a.2.2 p) (fun i a => a.2.1 = (((wayA T k i).1 : Nat) : Int) ∧ a.2.2 = (wayA T k i).2 ∧ frR 60 60 S a.1 ∧ ∀ j : Nat, j < i → zA a.1 60 (j : Int) = (((wayA T k (j + 1)).1 : Nat) : Int)) (fun b => frR 60 60 S b ∧ ∀ j : Nat, j < k → zA b 60 (j : Int) = (((wayA T k (j + 1)).1 : Nat) : Int)) k 500 ?_ ?_ n (S, (T.2 8 : Int), (T.2 10 : Int)) (by omega) ⟨rfl, rfl, frR_rfl, fun j hj => absurd hj (by omega)⟩
  · exact e
  · rintro n i ⟨a, l2, l3⟩ hi hn ⟨h1, h2, h3, h4⟩
    have h1 : l2 = (((wayA T k i).1 : Nat) : Int) := h1
    have h2 : l3 = (wayA T k i).2 := h2
    have h3 : frR 60 60 S a := h3
    have h4 : ∀ j : Nat, j < i → zA a 60 (j : Int) = (((wayA T k (j + 1)).1 : Nat) : Int) := h4
    have ma := frR_mAt h3 hm (by omega)
    have ta := frR_mT h3 ht (by omega)
    have ra : eRow a T 255 k := by
      intro r hr s hs
      rw [frR_A h3 (by omega)]
      exact hrow r hr s hs
    obtain ⟨b1, b2, b3⟩ := way_bd w k i
    obtain ⟨d1, d2, d3⟩ := way_bd w k (i + 1)
    have d1 : wayTo T (wayA T k i).1 (wayA T k i).2 (k - 1 - i) < 2 ^ T.2 6 := d1
    have sw := sm_way ma w ta hk hi hk2 ra (k : Int) (i : Int) (n := n) (by omega)
    have gb := gv_bd w.1 (wayA T k i).1 (wayTo T (wayA T k i).1 (wayA T k i).2 (k - 1 - i))
    have n1 := nDf_le (wayA T k i).1 (wayTo T (wayA T k i).1 (wayA T k i).2 (k - 1 - i))
    have n2 := nDf_le (wayTo T (wayA T k i).1 (wayA T k i).2 (k - 1 - i)) (wayA T k i).1
    have mo : Mo T (nDf (wayA T k i).1 (wayTo T (wayA T k i).1 (wayA T k i).2 (k - 1 - i))) (nDf (wayTo T (wayA T k i).1 (wayA T k i).2 (k - 1 - i)) (wayA T k i).1) = gv T (wayA T k i).1 (wayTo T (wayA T k i).1 (wayA T k i).2 (k - 1 - i)) := Mo_Ov (df_apart _ _)
    refine ⟨(wA a 60 (i : Int) (((wayA T k (i + 1)).1 : Nat) : Int), (((wayA T k (i + 1)).1 : Nat) : Int), (wayA T k (i + 1)).2), ⟨rfl, rfl, frR_trans h3 (frR_wA _ _ _ (by omega) (by omega)), fun j hj => ?_⟩, ?_⟩
    · show zA (wA a 60 (i : Int) _) 60 (j : Int) = _
      rw [zA_wA, if_pos rfl]
      by_cases c : j = i
      · rw [c, if_pos rfl]
      · rw [if_neg (by omega)]
        exact h4 j (by omega)
    · show fM_findRow_1 (n + 1) a (k : Int) l2 l3 (i : Int) = fM_findRow_1 n (wA a 60 (i : Int) ((wayTo T (wayA T k i).1 (wayA T k i).2 (k - 1 - i) : Nat) : Int)) (k : Int) ((wayTo T (wayA T k i).1 (wayA T k i).2 (k - 1 - i) : Nat) : Int) (min 999 ((wayA T k i).2 + gv T (wayA T k i).1 (wayTo T (wayA T k i).1 (wayA T k i).2 (k - 1 - i)))) ((i : Int) + 1)
      rw [fM_findRow_1, gC_pos (by omega) (by omega) (by omega) (by omega), if_pos (by omega), h1, h2, show 256 * (((k : Int) - (i : Int)) - 1) = 256 * ((k - 1 - i : Nat) : Int) by omega, sw, Option.bind_some, zdf_n (by omega) (by omega), zdf_n (by omega) (by omega), sm_moreBy ma w.1 (by omega) (by omega) (by omega), Option.bind_some, mo, sm_most _ n (by omega) (by omega), Option.bind_some, gX_pos (by omega) (by omega) (by omega)]
  · rintro n ⟨a, l2, l3⟩ _ ⟨h1, h2, h3, h4⟩
    refine ⟨a, ?_, h3, h4⟩
    show fM_findRow_1 (n + 1) a (k : Int) l2 l3 (k : Int) = _
    rw [fM_findRow_1, gC_pos (by omega) (by omega) (by omega) (by omega), if_neg (by omega)]
theorem sm_row (hm : mAt S T) (w : wfT T) {n : Nat} (hn : 3000 ≤ n) : ∃ (v : Int) (S' : ZS), fM_findRow n S = some (v, S') ∧ frR 54 60 S S' ∧ rowed S' T v := by
  have h10 := w.2.1.2.2.1
  obtain ⟨v, S1, a1, a2, a3, a4⟩ := sm_needs (mv := 255) (has := (T.2 10 : Int)) hm w (by omega) (by omega) (by omega) (n := n) (by omega)
  have a1 : fM_findNeeds n S 255 (T.2 10 : Int) = some (v, S1) := a1
  have m1 := frR_mAt a2 hm (by omega)
  have wid : frR 54 60 S S1 := ⟨fun h hh => a2.1 h (by omega), a2.2⟩
  obtain ⟨c1, c2⟩ := res_fnd w a4
  unfold byW at c1
  rw [fnd_255 w] at c1 c2
  unfold fM_findRow rowed
  rw [hm.1.2.2.2.2.1, a1, Option.bind_some]
  cases hf : fnd T (allP T) with
  | none =>
    rw [hf] at c1
    have c1 : v = -4 := c1
    subst c1
    obtain ⟨k, rfl⟩ : ∃ k, n = k + 1 := ⟨n - 1, by omega⟩
    refine ⟨-4, S1, ?_, wid, rfl⟩
    show (fM_findRow_1 (k + 1) S1 (-4) (zF S1 49 2) (zF S1 49 4) 0).bind _ = _
    rw [fM_findRow_1, gC_pos (x := 0) (y := -4) (by omega) (by omega) (by omega) (by omega), if_neg (by omega), Option.bind_some]
  | some k =>
    rw [hf] at c1
    obtain ⟨c3, c4⟩ := c1
    obtain ⟨S2, d1, d2, d3⟩ := sm_row1 m1 w a3 hf c4 (c2 k hf) (n := n) (by omega)
    subst c3
    refine ⟨(k : Int), S2, ?_, ⟨fun h hh => (d2.1 h (by omega)).trans (wid.1 h hh), d2.2.trans wid.2⟩, rfl, c4, d3⟩
    show (fM_findRow_1 n S1 (k : Int) (zF S1 49 2) (zF S1 49 4) 0).bind _ = _
    rw [m1.1.2.2.1, m1.1.2.2.2.2.1, d1, Option.bind_some]
theorem q_can (hG : Good S) {x : Int} (hx : -2147483648 ≤ x) (hx2 : x < 2147483648) : ∃ n v S1 S2, fD_can n S x = some (v, S1) ∧ fM_can n S1 x = some (v, S2) ∧ Good S2 := by
  obtain ⟨T, ⟨ht, hm, w⟩, -, -, -, hw, hroom⟩ := id hG
  refine ⟨5000, ?_⟩
  by_cases r : -1 ≤ x ∧ x ≤ 255
  · obtain ⟨S1, a1, a2, a3, a4, a5, a6⟩ := sp_wanted ht w hw hroom (n := 5000) (by omega)
    obtain ⟨G1, t1, m1⟩ := good_ways hG ht hm w a2 a4 a5 a6
    obtain ⟨v, S2, b1, b2, b3⟩ := sm_row m1 w (n := 5000) (by omega)
    have EM : fM_can 5000 S1 x = gC v 0 (if v < 0 then some (-4, S2) else gC x v (if x < v then gC x 0 (if x < 0 then some (v, S2) else gX x 256 (some (zA S2 60 x, S2))) else some (-4, S2))) := by
      unfold fM_can
      rw [gC_pos (by omega) (by omega) (by omega) (by omega), sp_in S1 5000 (by omega) (by omega) (by omega) (by omega) (by omega) (by omega), Option.bind_some, gC_b, decide_eq_true r, if_neg (show ¬ bZ true = 0 by decide), b1, Option.bind_some]
    have EX : fD_can 5000 S x = gC (zF S1 24 8) 0 (if (zF S1 24 8) = 0 then some (-4, S1) else gC x (zF S1 24 9) (if x < (zF S1 24 9) then gC x (-1) (if x = (-1) then some (zF S1 24 9, S1) else gX x 256 (some (zA S1 32 x, S1))) else some (-4, S1))) := by
      unfold fD_can
      rw [gC_pos (x := x) (y := -1) (by omega) (by omega) (by omega) (by omega), if_neg (by omega), gC_pos (x := x) (y := 255) (by omega) (by omega) (by omega) (by omega), if_neg (by omega), a1, Option.bind_some]
    have G2 := good_ms G1 b2
    rw [EX]
    unfold sought at a3
    unfold rowed at b3
    cases hf : fnd T (allP T) with
    | none =>
      rw [hf] at a3 b3
      have b3 : v = -4 := b3
      obtain ⟨s1, -, -⟩ := a3
      refine ⟨-4, S1, S2, ?_, ?_, G2⟩
      · rw [s1, gC_pos (x := 0) (y := 0) (by omega) (by omega) (by omega) (by omega), if_pos rfl]
      · rw [EM, b3, gC_pos (x := -4) (y := 0) (by omega) (by omega) (by omega) (by omega), if_pos (by omega)]
    | some k =>
      rw [hf] at a3 b3
      obtain ⟨s1, s2, s3⟩ := a3
      obtain ⟨z1, z2, z3⟩ := b3
      rw [s1, gC_pos (x := 1) (y := 0) (by omega) (by omega) (by omega) (by omega), if_neg (by omega), s2, gC_pos (x := x) (y := (k : Int)) (by omega) (by omega) (by omega) (by omega)]
      rw [z1, gC_pos (x := (k : Int)) (y := 0) (by omega) (by omega) (by omega) (by omega), if_neg (by omega), gC_pos (x := x) (y := (k : Int)) (by omega) (by omega) (by omega) (by omega)] at EM
      by_cases c : x < (k : Int)
      · rw [if_pos c, gC_pos (x := x) (y := 0) (by omega) (by omega) (by omega) (by omega)] at EM
        rw [if_pos c, gC_pos (x := x) (y := -1) (by omega) (by omega) (by omega) (by omega)]
        by_cases d : x < 0
        · rw [if_pos d] at EM
          rw [if_pos (show x = -1 by omega)]
          exact ⟨(k : Int), S1, S2, rfl, EM, G2⟩
        · obtain ⟨i, rfl⟩ : ∃ i : Nat, x = (i : Int) := ⟨x.toNat, by omega⟩
          rw [if_neg d, gX_pos (by omega) (by omega) (by omega), z3 i (by omega)] at EM
          rw [if_neg (by omega), gX_pos (by omega) (by omega) (by omega), s3 i (by omega)]
          exact ⟨_, S1, S2, rfl, EM, G2⟩
      · rw [if_neg c] at EM
        rw [if_neg c]
        exact ⟨-4, S1, S2, rfl, EM, G2⟩
  · refine ⟨-1, S, S, ?_, ?_, hG⟩
    · unfold fD_can
      rw [gC_pos (x := x) (y := -1) (by omega) (by omega) (by omega) (by omega)]
      by_cases c : x < -1
      · rw [if_pos c]
      · rw [if_neg c, gC_pos (x := x) (y := 255) (by omega) (by omega) (by omega) (by omega), if_pos (by omega)]
    · unfold fM_can
      rw [gC_pos (x := x) (y := 0) (by omega) (by omega) (by omega) (by omega), sp_in S 5000 (by omega) (by omega) (by omega) (by omega) (by omega) (by omega), Option.bind_some, gC_b, decide_eq_false r, if_pos (show bZ false = 0 from rfl)]
theorem p_can : P_can Inv := by
  intro x0
  have e0 : (Value.int x0) = .int (zI x0.toInt) := by rw [zI_of]
  rw [e0]
  exact mkPair (fun n S => fD_can n S x0.toInt) (fun n S => fM_can n S x0.toInt) (fun o n S w h => sD_can o n S _ h) (fun o n S w h => sM_can o n S _ h) (fun S hG => q_can hG (rngI x0).1 (rngI x0).2)
end CN
