/-! ===== pairs: copy, image, restore, person ===== -/
section SH
variable {S : ZS}
theorem q_copy (hG : Good S) {f i t j m : Int} (h1 : -2147483648 ≤ f) (h2 : f < 2147483648) (h3 : -2147483648 ≤ i) (h4 : i < 2147483648) (h5 : -2147483648 ≤ t) (h6 : t < 2147483648) (h7 : -2147483648 ≤ j) (h8 : j < 2147483648) (h9 : -2147483648 ≤ m) (h10 : m < 2147483648) : ∃ n w S1 S2, fD_copy n S f i t j m = some (w, S1) ∧ fM_copy n S1 f i t j m = some (w, S2) ∧ Good S2 := by
  obtain ⟨T, -, -, -, g, -⟩ := id hG
  have no : ∀ b : Bool, b = false → bZ b = 0 := fun b h => by rw [h]; rfl
  have yes : ∀ b : Bool, b = true → ¬ bZ b = 0 := fun b h => by rw [h]; decide
  refine ⟨300, ?_⟩
  unfold fD_copy
  rw [sp_isSheet 300 S h1 h2, Option.bind_some, gC_b]
  by_cases c1 : 0 ≤ f ∧ f ≤ 3
  rotate_left
  · refine ⟨-1, S, S, ?_, ?_, hG⟩
    · rw [decide_eq_false c1, if_pos (no _ rfl)]
    · unfold fM_copy
      rw [gC_pos (by omega) (by omega) (by omega) (by omega), sp_in S 300 (by omega) (by omega) (by omega) (by omega) (by omega) (by omega), decide_eq_false c1, Option.bind_some, gC_b, if_pos (no _ rfl)]
  rw [decide_eq_true c1, if_neg (yes _ rfl), sp_isSheet 300 S h5 h6, Option.bind_some, gC_b]
  by_cases c2 : 0 ≤ t ∧ t ≤ 3
  rotate_left
  · refine ⟨-1, S, S, ?_, ?_, hG⟩
    · rw [decide_eq_false c2, if_pos (no _ rfl)]
    · unfold fM_copy
      rw [gC_pos (by omega) (by omega) (by omega) (by omega), sp_in S 300 (by omega) (by omega) (by omega) (by omega) (by omega) (by omega), decide_eq_true c1, Option.bind_some, gC_b, if_neg (yes _ rfl), gC_pos (by omega) (by omega) (by omega) (by omega), sp_in S 300 (by omega) (by omega) (by omega) (by omega) (by omega) (by omega), decide_eq_false c2, Option.bind_some, gC_b, if_pos (no _ rfl)]
  have gf := g.2 f (by omega) (by omega)
  have gt := g.2 t (by omega) (by omega)
  rw [decide_eq_true c2, if_neg (yes _ rfl), sp_isNothing g 300 (by omega) (by omega), Option.bind_some, gC_b]
  have E : ∀ (S' : ZS) (x y : Int), zA S' 70 f = x → zA S' 70 t = y → -1 ≤ x → x ≤ 2 → -1 ≤ y → y ≤ 2 → fM_copy 300 S' f i t j m = if x < 0 then some (-11, S') else if y < 0 then some (-11, S') else if x = y then gC m 0 (if m < 0 then some (-13, S') else gC i 0 (gX f 4 (gC (zA S' 71 f) 0 (gC m 0 ((fM_in 300 S' i 0 ((zA S' 71 f) - m)).bind fun z3 => gC z3 0 (if z3 = 0 then some (-13, S') else gC j 0 (gX t 4 (gC (zA S' 71 t) 0 (gC m 0 ((fM_in 300 S' j 0 ((zA S' 71 t) - m)).bind fun z4 => gC z4 0 (if z4 = 0 then some (-13, S') else (fM_copy_1 300 S' f i t j m 0).bind fun z5 => (fM_copy_2 300 z5 t j m 0).bind fun z6 => some (m, z6)))))))))))) else some (-12, S') := by
    intro S' x y ex ey b1 b2 b3 b4
    unfold fM_copy
    rw [gC_pos (x := f) (y := 0) (by omega) (by omega) (by omega) (by omega), sp_in S' 300 (by omega) (by omega) (by omega) (by omega) (by omega) (by omega), decide_eq_true c1, Option.bind_some, gC_b, if_neg (yes _ rfl), gC_pos (x := t) (y := 0) (by omega) (by omega) (by omega) (by omega), sp_in S' 300 (by omega) (by omega) (by omega) (by omega) (by omega) (by omega), decide_eq_true c2, Option.bind_some, gC_b, if_neg (yes _ rfl), ex, ey, gX_pos (x := f) (by omega) (by omega) (by omega), gC_pos (x := x) (y := 0) (by omega) (by omega) (by omega) (by omega)]
    by_cases k : x < 0
    · rw [if_pos k, if_pos k]
    · rw [if_neg k, if_neg k, gX_pos (x := t) (by omega) (by omega) (by omega), gC_pos (x := y) (y := 0) (by omega) (by omega) (by omega) (by omega)]
      by_cases k2 : y < 0
      · rw [if_pos k2, if_pos k2]
      · rw [if_neg k2, if_neg k2, gX_pos (x := f) (by omega) (by omega) (by omega), gX_pos (x := t) (by omega) (by omega) (by omega), gC_pos (x := x) (y := y) (by omega) (by omega) (by omega) (by omega)]
  by_cases d1 : zA S 48 f < 0
  · refine ⟨-11, S, S, ?_, ?_, hG⟩
    · rw [decide_eq_true d1, if_neg (yes _ rfl)]
    · rw [E S _ _ rfl rfl (by omega) (by omega) (by omega) (by omega), if_pos (by omega)]
  rw [decide_eq_false d1, if_pos (no _ rfl), sp_isNothing g 300 (by omega) (by omega), Option.bind_some, gC_b]
  by_cases d2 : zA S 48 t < 0
  · refine ⟨-11, S, S, ?_, ?_, hG⟩
    · rw [decide_eq_true d2, if_neg (yes _ rfl)]
    · rw [E S _ _ rfl rfl (by omega) (by omega) (by omega) (by omega), if_neg (by omega), if_pos (by omega)]
  rw [decide_eq_false d2, if_pos (no _ rfl)]
  unfold fH_areAlike
  rw [gX_pos (x := f) (by omega) (by omega) (by omega), gX_pos (x := t) (by omega) (by omega) (by omega), gC_pos (by omega) (by omega) (by omega) (by omega), gB_0, gB_1]
  by_cases d3 : zA S 70 f = zA S 70 t
  rotate_left
  · refine ⟨-12, S, S, ?_, ?_, hG⟩
    · rw [if_neg (by omega), Option.bind_some, gC_pos (by omega) (by omega) (by omega) (by omega), if_pos rfl]
    · rw [E S _ _ rfl rfl (by omega) (by omega) (by omega) (by omega), if_neg (by omega), if_neg (by omega), if_neg d3]
  rw [if_pos (by omega), Option.bind_some, gC_pos (by omega) (by omega) (by omega) (by omega), if_neg (by omega), sp_holds g 300 (by omega) (by omega) (by omega) (by omega) (by omega) (by omega), Option.bind_some, gC_b]
  by_cases d4 : 0 ≤ m ∧ 0 ≤ i ∧ i ≤ zA S 48 f - m
  rotate_left
  · refine ⟨-13, S, S, ?_, ?_, hG⟩
    · rw [decide_eq_false d4, if_pos (no _ rfl)]
    · rw [E S _ _ rfl rfl (by omega) (by omega) (by omega) (by omega), if_neg (by omega), if_neg (by omega), if_pos d3, gC_pos (by omega) (by omega) (by omega) (by omega)]
      by_cases k : m < 0
      · rw [if_pos k]
      · rw [if_neg k, gC_pos (by omega) (by omega) (by omega) (by omega), gX_pos (by omega) (by omega) (by omega), gC_pos (by omega) (by omega) (by omega) (by omega), gC_pos (by omega) (by omega) (by omega) (by omega), sp_in S 300 (by omega) (by omega) (by omega) (by omega) (by omega) (by omega), decide_eq_false (by omega), Option.bind_some, gC_b, if_pos (no _ rfl)]
  rw [decide_eq_true d4, if_neg (yes _ rfl), sp_holds g 300 (by omega) (by omega) (by omega) (by omega) (by omega) (by omega), Option.bind_some, gC_b]
  by_cases d5 : 0 ≤ m ∧ 0 ≤ j ∧ j ≤ zA S 48 t - m
  rotate_left
  · refine ⟨-13, S, S, ?_, ?_, hG⟩
    · rw [decide_eq_false d5, if_pos (no _ rfl)]
    · rw [E S _ _ rfl rfl (by omega) (by omega) (by omega) (by omega), if_neg (by omega), if_neg (by omega), if_pos d3, gC_pos (by omega) (by omega) (by omega) (by omega), if_neg (by omega), gC_pos (by omega) (by omega) (by omega) (by omega), gX_pos (by omega) (by omega) (by omega), gC_pos (by omega) (by omega) (by omega) (by omega), gC_pos (by omega) (by omega) (by omega) (by omega), sp_in S 300 (by omega) (by omega) (by omega) (by omega) (by omega) (by omega), decide_eq_true (by omega), Option.bind_some, gC_b, if_neg (yes _ rfl), gC_pos (by omega) (by omega) (by omega) (by omega), gX_pos (by omega) (by omega) (by omega), gC_pos (by omega) (by omega) (by omega) (by omega), gC_pos (by omega) (by omega) (by omega) (by omega), sp_in S 300 (by omega) (by omega) (by omega) (by omega) (by omega) (by omega), decide_eq_false (by omega), Option.bind_some, gC_b, if_pos (no _ rfl)]
  rw [decide_eq_true d5, if_neg (yes _ rfl)]
  obtain ⟨k, rfl⟩ : ∃ k : Nat, m = (k : Int) := ⟨m.toNat, by omega⟩
  have f1 : fr 46 48 45 S (wR S 46 (cpy (S.1 46) (S.1 46) (f * 24 + i) (t * 24 + j) k)) := fr_wR _ _ (by omega) (by omega)
  generalize hS1 : wR S 46 (cpy (S.1 46) (S.1 46) (f * 24 + i) (t * 24 + j) k) = S1 at *
  have A : ∀ h i, h ≠ 46 → zA S1 h i = zA S h i := by
    intro h y hh
    rw [← hS1, zA_wR, if_neg hh]
  refine ⟨(k : Int), S1, wR (wR S1 73 (cpy (S1.1 72) (S1.1 73) (24 * f + i) 0 k)) 72 (cpy ((wR S1 73 (cpy (S1.1 72) (S1.1 73) (24 * f + i) 0 k)).1 73) ((wR S1 73 (cpy (S1.1 72) (S1.1 73) (24 * f + i) 0 k)).1 72) 0 (24 * t + j) k), ?_, ?_, ?_⟩
  · unfold fH_bring
    rw [gY_pos (by omega) (by omega) (by omega) (by omega) (by omega) (by omega) (by omega), Option.bind_some, ← hS1]
    rfl
  · rw [E S1 _ _ (A 70 f (by omega)) (A 70 t (by omega)) (by omega) (by omega) (by omega) (by omega), if_neg (by omega), if_neg (by omega), if_pos d3, gC_pos (by omega) (by omega) (by omega) (by omega), if_neg (by omega), A 71 f (by omega), A 71 t (by omega), gC_pos (by omega) (by omega) (by omega) (by omega), gX_pos (by omega) (by omega) (by omega), gC_pos (by omega) (by omega) (by omega) (by omega), gC_pos (by omega) (by omega) (by omega) (by omega), sp_in S1 300 (by omega) (by omega) (by omega) (by omega) (by omega) (by omega), decide_eq_true (by omega), Option.bind_some, gC_b, if_neg (yes _ rfl), gC_pos (by omega) (by omega) (by omega) (by omega), gX_pos (by omega) (by omega) (by omega), gC_pos (by omega) (by omega) (by omega) (by omega), gC_pos (by omega) (by omega) (by omega) (by omega), sp_in S1 300 (by omega) (by omega) (by omega) (by omega) (by omega) (by omega), decide_eq_true (by omega), Option.bind_some, gC_b, if_neg (yes _ rfl), sm_cp1 S1 (by omega) (by omega) (by omega) (by omega) (by omega), Option.bind_some, sm_cp2 _ (by omega) (by omega) (by omega) (by omega) (by omega), Option.bind_some]
  · refine good_sh hG f1 (fr_trans (fr_wR _ _ (by omega) (by omega)) (fr_wR _ _ (by omega) (by omega))) ⟨fun y a b => ?_, fun s' a b => ?_⟩
    · simp only [zA_wR, if_true, show ¬ (46 : Nat) = 72 by decide, show ¬ (46 : Nat) = 73 by decide, if_false]
      have e1 : zA S1 46 y = cpy (S.1 46) (S.1 46) (f * 24 + i) (t * 24 + j) k y := by rw [← hS1, zA_wR, if_pos rfl]
      rw [e1]
      show _ = cpy (cpy (S1.1 72) (S1.1 73) (24 * f + i) 0 k) (S1.1 72) 0 (24 * t + j) k y ∧ _ ≤ cpy (cpy (S1.1 72) (S1.1 73) (24 * f + i) 0 k) (S1.1 72) 0 (24 * t + j) k y ∧ cpy (cpy (S1.1 72) (S1.1 73) (24 * f + i) 0 k) (S1.1 72) 0 (24 * t + j) k y < _
      have e2 : cpy (cpy (S1.1 72) (S1.1 73) (24 * f + i) 0 k) (S1.1 72) 0 (24 * t + j) k y = cpy (S.1 72) (S.1 72) (f * 24 + i) (t * 24 + j) k y := by
        have e72 : ∀ z, S1.1 72 z = S.1 72 z := fun z => A 72 z (by omega)
        unfold cpy
        rw [Int.mul_comm 24 t, Int.mul_comm 24 f]
        by_cases q : t * 24 + j ≤ y ∧ y < t * 24 + j + (k : Int)
        · rw [if_pos q, if_pos q, if_pos (by omega), e72, show f * 24 + i + (0 + (y - (t * 24 + j)) - 0) = f * 24 + i + (y - (t * 24 + j)) by omega]
        · rw [if_neg q, if_neg q, e72]
      rw [e2]
      unfold cpy
      by_cases q : t * 24 + j ≤ y ∧ y < t * 24 + j + (k : Int)
      · rw [if_pos q, if_pos q]
        exact g.1 _ (by omega) (by omega)
      · rw [if_neg q, if_neg q]
        exact g.1 y a b
    · have := g.2 s' a b
      simp only [zA_wR, show ¬ (48 : Nat) = 72 by decide, show ¬ (48 : Nat) = 73 by decide, show ¬ (70 : Nat) = 72 by decide, show ¬ (70 : Nat) = 73 by decide, show ¬ (71 : Nat) = 72 by decide, show ¬ (71 : Nat) = 73 by decide, show ¬ (47 : Nat) = 72 by decide, show ¬ (47 : Nat) = 73 by decide, if_false]
      rw [A 48 _ (by omega), A 70 _ (by omega), A 71 _ (by omega), A 47 _ (by omega)]
      exact this
theorem p_copy : P_copy Inv := by
  intro x0 x1 x2 x3 x4
  have e0 : (Value.int x0) = .int (zI x0.toInt) := by rw [zI_of]
  have e1 : (Value.int x1) = .int (zI x1.toInt) := by rw [zI_of]
  have e2 : (Value.int x2) = .int (zI x2.toInt) := by rw [zI_of]
  have e3 : (Value.int x3) = .int (zI x3.toInt) := by rw [zI_of]
  have e4 : (Value.int x4) = .int (zI x4.toInt) := by rw [zI_of]
  rw [e0, e1, e2, e3, e4]
  exact mkPair (fun n S => fD_copy n S x0.toInt x1.toInt x2.toInt x3.toInt x4.toInt) (fun n S => fM_copy n S x0.toInt x1.toInt x2.toInt x3.toInt x4.toInt) (fun o n S w h => sD_copy o n S _ _ _ _ _ h) (fun o n S w h => sM_copy o n S _ _ _ _ _ h) (fun S hG => q_copy hG (rngI x0).1 (rngI x0).2 (rngI x1).1 (rngI x1).2 (rngI x2).1 (rngI x2).2 (rngI x3).1 (rngI x3).2 (rngI x4).1 (rngI x4).2)
theorem tk_A (f g : Int → Int) {y : Int} (m : Nat) (h1 : 0 ≤ y) (h2 : y < (m : Int)) : zc f g 0 0 (m : Int) y = f y := by
  unfold zc
  rw [if_pos (by omega)]
  congr 1
  omega
theorem sp_take81 {T : TW} (ht : tAt S 1 T) (w : wfR T) (n : Nat) : ∃ S1, fT_takeOver_8_1 n S = some S1 ∧ fr 9 14 8 S S1 ∧ tAt S1 8 T := by
  have w6 := w.1
  have w7 := w.2.1
  unfold fT_takeOver_8_1
  rw [gY_pos (by omega) (by omega) (by omega) (by omega) (by omega) (by omega) (by omega), gY_pos (by omega) (by omega) (by omega) (by omega) (by omega) (by omega) (by omega), gY_pos (by omega) (by omega) (by omega) (by omega) (by omega) (by omega) (by omega), gY_pos (by omega) (by omega) (by omega) (by omega) (by omega) (by omega) (by omega), gY_pos (by omega) (by omega) (by omega) (by omega) (by omega) (by omega) (by omega), gY_pos (by omega) (by omega) (by omega) (by omega) (by omega) (by omega) (by omega)]
  refine ⟨_, rfl, ?_, ?_⟩
  · exact fr_trans (fr_trans (fr_trans (fr_trans (fr_trans (fr_trans (fr_trans (fr_trans (fr_trans (fr_trans (fr_trans (fr_wR _ _ (by omega) (by omega)) (fr_wR _ _ (by omega) (by omega))) (fr_wR _ _ (by omega) (by omega))) (fr_wR _ _ (by omega) (by omega))) (fr_wR _ _ (by omega) (by omega))) (fr_wR _ _ (by omega) (by omega))) (fr_wF _ 6 _)) (fr_wF _ 7 _)) (fr_wF _ 8 _)) (fr_wF _ 9 _)) (fr_wF _ 10 _)) (fr_wF _ 11 _)
  · refine ⟨fun j a b => ?_, fun i p a b c => ?_, fun p a => ?_⟩
    · rw [← ht.1 j a b]
      have hj : j = 6 ∨ j = 7 ∨ j = 8 ∨ j = 9 ∨ j = 10 ∨ j = 11 := by omega
      rcases hj with rfl | rfl | rfl | rfl | rfl | rfl <;> rfl
    · rw [← ht.2.1 i p a b c]
      have hi : i = 1 ∨ i = 2 ∨ i = 3 ∨ i = 4 ∨ i = 5 := by omega
      rcases hi with rfl | rfl | rfl | rfl | rfl
      · exact tk_A (S.1 2) (S.1 9) 8 (by omega) (by omega)
      · exact tk_A (S.1 3) (S.1 10) 8 (by omega) (by omega)
      · exact tk_A (S.1 4) (S.1 11) 8 (by omega) (by omega)
      · exact tk_A (S.1 5) (S.1 12) 8 (by omega) (by omega)
      · exact tk_A (S.1 6) (S.1 13) 8 (by omega) (by omega)
    · rw [← ht.2.2 p a]
      exact tk_A (S.1 7) (S.1 14) 4 (by omega) (by omega)
theorem sp_take18 {T : TW} (ht : tAt S 8 T) (w : wfR T) (n : Nat) : ∃ S1, fT_takeOver_1_8 n S = some S1 ∧ fr 2 7 1 S S1 ∧ tAt S1 1 T := by
  have w6 := w.1
  have w7 := w.2.1
  unfold fT_takeOver_1_8
  rw [gY_pos (by omega) (by omega) (by omega) (by omega) (by omega) (by omega) (by omega), gY_pos (by omega) (by omega) (by omega) (by omega) (by omega) (by omega) (by omega), gY_pos (by omega) (by omega) (by omega) (by omega) (by omega) (by omega) (by omega), gY_pos (by omega) (by omega) (by omega) (by omega) (by omega) (by omega) (by omega), gY_pos (by omega) (by omega) (by omega) (by omega) (by omega) (by omega) (by omega), gY_pos (by omega) (by omega) (by omega) (by omega) (by omega) (by omega) (by omega)]
  refine ⟨_, rfl, ?_, ?_⟩
  · exact fr_trans (fr_trans (fr_trans (fr_trans (fr_trans (fr_trans (fr_trans (fr_trans (fr_trans (fr_trans (fr_trans (fr_wR _ _ (by omega) (by omega)) (fr_wR _ _ (by omega) (by omega))) (fr_wR _ _ (by omega) (by omega))) (fr_wR _ _ (by omega) (by omega))) (fr_wR _ _ (by omega) (by omega))) (fr_wR _ _ (by omega) (by omega))) (fr_wF _ 6 _)) (fr_wF _ 7 _)) (fr_wF _ 8 _)) (fr_wF _ 9 _)) (fr_wF _ 10 _)) (fr_wF _ 11 _)
  · refine ⟨fun j a b => ?_, fun i p a b c => ?_, fun p a => ?_⟩
    · rw [← ht.1 j a b]
      have hj : j = 6 ∨ j = 7 ∨ j = 8 ∨ j = 9 ∨ j = 10 ∨ j = 11 := by omega
      rcases hj with rfl | rfl | rfl | rfl | rfl | rfl <;> rfl
    · rw [← ht.2.1 i p a b c]
      have hi : i = 1 ∨ i = 2 ∨ i = 3 ∨ i = 4 ∨ i = 5 := by omega
      rcases hi with rfl | rfl | rfl | rfl | rfl
      · exact tk_A (S.1 9) (S.1 2) 8 (by omega) (by omega)
      · exact tk_A (S.1 10) (S.1 3) 8 (by omega) (by omega)
      · exact tk_A (S.1 11) (S.1 4) 8 (by omega) (by omega)
      · exact tk_A (S.1 12) (S.1 5) 8 (by omega) (by omega)
      · exact tk_A (S.1 13) (S.1 6) 8 (by omega) (by omega)
    · rw [← ht.2.2 p a]
      exact tk_A (S.1 14) (S.1 7) 4 (by omega) (by omega)
theorem sm_im1 (S : ZS) {n : Nat} (hn : 100 ≤ n) : fM_image_1 n S 0 = some (wR S 68 (cpy (S.1 50) (S.1 68) 0 0 40)) := by
  refine loop_row (F := fun n a p => fM_image_1 n a p) S 68 40 (fun p => cpy (S.1 50) (S.1 68) 0 0 p) (fun p => 0 + (p : Int)) (fun p => S.1 50 (0 + (p : Int))) (cpy_0 _ _ _ _) (fun p _ => cpy_s _ _ _ _ p) ?_ ?_ (by omega)
  · intro n p hp
    show fM_image_1 (n + 1) (wR S 68 (cpy (S.1 50) (S.1 68) 0 0 p)) (p : Int) = fM_image_1 n (wA (wR S 68 (cpy (S.1 50) (S.1 68) 0 0 p)) 68 (0 + (p : Int)) (S.1 50 (0 + (p : Int)))) ((p : Int) + 1)
    rw [fM_image_1, gC_pos (by omega) (by omega) (by omega) (by omega), if_pos (by omega), gX_pos (by omega) (by omega) (by omega), gX_pos (by omega) (by omega) (by omega), Int.zero_add]
    rfl
  · intro n
    show fM_image_1 (n + 1) (wR S 68 (cpy (S.1 50) (S.1 68) 0 0 40)) ((40 : Nat) : Int) = _
    rw [fM_image_1, gC_pos (by omega) (by omega) (by omega) (by omega), if_neg (by omega)]
theorem sm_im2 (S : ZS) {n : Nat} (hn : 100 ≤ n) : fM_image_2 n S 0 = some (wR S 68 (cpy (S.1 51) (S.1 68) 0 40 4)) := by
  refine loop_row (F := fun n a p => fM_image_2 n a p) S 68 4 (fun p => cpy (S.1 51) (S.1 68) 0 40 p) (fun p => 40 + (p : Int)) (fun p => S.1 51 (0 + (p : Int))) (cpy_0 _ _ _ _) (fun p _ => cpy_s _ _ _ _ p) ?_ ?_ (by omega)
  · intro n p hp
    show fM_image_2 (n + 1) (wR S 68 (cpy (S.1 51) (S.1 68) 0 40 p)) (p : Int) = fM_image_2 n (wA (wR S 68 (cpy (S.1 51) (S.1 68) 0 40 p)) 68 (40 + (p : Int)) (S.1 51 (0 + (p : Int)))) ((p : Int) + 1)
    rw [fM_image_2, gC_pos (by omega) (by omega) (by omega) (by omega), if_pos (by omega), gX_pos (by omega) (by omega) (by omega), gX_pos (by omega) (by omega) (by omega), Int.zero_add]
    rfl
  · intro n
    show fM_image_2 (n + 1) (wR S 68 (cpy (S.1 51) (S.1 68) 0 40 4)) ((4 : Nat) : Int) = _
    rw [fM_image_2, gC_pos (by omega) (by omega) (by omega) (by omega), if_neg (by omega)]
theorem sm_re1 (S : ZS) {n : Nat} (hn : 100 ≤ n) : fM_restore_1 n S 0 = some (wR S 50 (cpy (S.1 68) (S.1 50) 0 0 40)) := by
  refine loop_row (F := fun n a p => fM_restore_1 n a p) S 50 40 (fun p => cpy (S.1 68) (S.1 50) 0 0 p) (fun p => 0 + (p : Int)) (fun p => S.1 68 (0 + (p : Int))) (cpy_0 _ _ _ _) (fun p _ => cpy_s _ _ _ _ p) ?_ ?_ (by omega)
  · intro n p hp
    show fM_restore_1 (n + 1) (wR S 50 (cpy (S.1 68) (S.1 50) 0 0 p)) (p : Int) = fM_restore_1 n (wA (wR S 50 (cpy (S.1 68) (S.1 50) 0 0 p)) 50 (0 + (p : Int)) (S.1 68 (0 + (p : Int)))) ((p : Int) + 1)
    rw [fM_restore_1, gC_pos (by omega) (by omega) (by omega) (by omega), if_pos (by omega), gX_pos (by omega) (by omega) (by omega), gX_pos (by omega) (by omega) (by omega), Int.zero_add]
    rfl
  · intro n
    show fM_restore_1 (n + 1) (wR S 50 (cpy (S.1 68) (S.1 50) 0 0 40)) ((40 : Nat) : Int) = _
    rw [fM_restore_1, gC_pos (by omega) (by omega) (by omega) (by omega), if_neg (by omega)]
theorem sm_re2 (S : ZS) {n : Nat} (hn : 100 ≤ n) : fM_restore_2 n S 0 = some (wR S 51 (cpy (S.1 68) (S.1 51) 40 0 4)) := by
  refine loop_row (F := fun n a p => fM_restore_2 n a p) S 51 4 (fun p => cpy (S.1 68) (S.1 51) 40 0 p) (fun p => 0 + (p : Int)) (fun p => S.1 68 (40 + (p : Int))) (cpy_0 _ _ _ _) (fun p _ => cpy_s _ _ _ _ p) ?_ ?_ (by omega)
  · intro n p hp
    show fM_restore_2 (n + 1) (wR S 51 (cpy (S.1 68) (S.1 51) 40 0 p)) (p : Int) = fM_restore_2 n (wA (wR S 51 (cpy (S.1 68) (S.1 51) 40 0 p)) 51 (0 + (p : Int)) (S.1 68 (40 + (p : Int)))) ((p : Int) + 1)
    rw [fM_restore_2, gC_pos (by omega) (by omega) (by omega) (by omega), if_pos (by omega), gX_pos (by omega) (by omega) (by omega), gX_pos (by omega) (by omega) (by omega), Int.zero_add]
    rfl
  · intro n
    show fM_restore_2 (n + 1) (wR S 51 (cpy (S.1 68) (S.1 51) 40 0 4)) ((4 : Nat) : Int) = _
    rw [fM_restore_2, gC_pos (by omega) (by omega) (by omega) (by omega), if_neg (by omega)]
theorem cpy_in (f g : Int → Int) {sp dp y : Int} {k : Nat} (h1 : dp ≤ y) (h2 : y < dp + (k : Int)) : cpy f g sp dp k y = f (sp + (y - dp)) := if_pos ⟨h1, h2⟩
theorem cpy_out (f g : Int → Int) {sp dp y : Int} {k : Nat} (h : ¬ (dp ≤ y ∧ y < dp + (k : Int))) : cpy f g sp dp k y = g y := if_neg h
theorem q_image (hG : Good S) : ∃ n w S1 S2, fD_image n S = some (w, S1) ∧ fM_image n S1 = some (w, S2) ∧ Good S2 := by
  obtain ⟨T, ⟨ht, hm, wT⟩, g2, g3, g4, g5, g6⟩ := id hG
  have w := wT.1
  have w6 := w.1
  have w7 := w.2.1
  refine ⟨300, ?_⟩
  obtain ⟨S0, e0, f0, t0⟩ := sp_take81 ht w 300
  have f1 : fr 9 14 8 S S0 := f0
  have f2 : fr 1000 0 0 S0 (wF S0 0 8 1) := fr_wF S0 8 1
  generalize hS1 : wF S0 0 8 1 = S1 at *
  have t1 : tAt S1 8 T := fr_tAt f2 t0 (by omega) (by omega)
  have n1 : tAt S1 1 T := fr_tAt f2 (fr_tAt f1 ht (by omega) (by omega)) (by omega) (by omega)
  have m1 : mAt S1 T := fr_mAt f2 (fr_mAt f1 hm (by omega) (by omega)) (by omega) (by omega)
  have a1 : gTape S1 := fr_gTape f2 (fr_gTape f1 g2 (by omega) (by omega) (by omega)) (by omega) (by omega) (by omega)
  have a2 : gSh S1 := fr_gSh f2 (fr_gSh f1 g4 (by omega)) (by omega)
  have a3 : gWay S1 T := fr_gWay f2 (fr_gWay f1 g5 (by omega) (by omega)) (by omega) (by omega)
  have a4 : gRoom S1 := fr_gRoom f2 (fr_gRoom f1 g6)
  have a5 : zF S1 0 8 = 1 := by rw [← hS1]; rfl
  have f3 : fr 68 69 1000 S1 (wR (wR S1 68 (cpy (S1.1 50) (S1.1 68) 0 0 40)) 68 (cpy ((wR S1 68 (cpy (S1.1 50) (S1.1 68) 0 0 40)).1 51) ((wR S1 68 (cpy (S1.1 50) (S1.1 68) 0 0 40)).1 68) 0 40 4)) := fr_trans (fr_wR _ _ (by omega) (by omega)) (fr_wR _ _ (by omega) (by omega))
  have r68 : ∀ y, zA (wR (wR S1 68 (cpy (S1.1 50) (S1.1 68) 0 0 40)) 68 (cpy ((wR S1 68 (cpy (S1.1 50) (S1.1 68) 0 0 40)).1 51) ((wR S1 68 (cpy (S1.1 50) (S1.1 68) 0 0 40)).1 68) 0 40 4)) 68 y = cpy (S1.1 51) (cpy (S1.1 50) (S1.1 68) 0 0 40) 0 40 4 y := fun y => rfl
  have e1 := sm_im1 S1 (n := 300) (by omega)
  have e2 := sm_im2 (wR S1 68 (cpy (S1.1 50) (S1.1 68) 0 0 40)) (n := 300) (by omega)
  generalize hS2 : wR (wR S1 68 (cpy (S1.1 50) (S1.1 68) 0 0 40)) 68 (cpy ((wR S1 68 (cpy (S1.1 50) (S1.1 68) 0 0 40)).1 51) ((wR S1 68 (cpy (S1.1 50) (S1.1 68) 0 0 40)).1 68) 0 40 4) = S2 at *
  have m2 : mAt S2 T := fr_mAt f3 m1 (by omega) (by omega)
  have F49 : ∀ j, zF S2 49 j = zF S1 49 j := fun j => fr_F f3 (by omega) j
  obtain ⟨⟨b1, b2, b3, b4, b5, b6⟩, -, -⟩ := m2
  have f4 : fr 68 69 49 S2 (wF (wA (wA (wA (wA (wA (wA S2 69 0 (zF S2 49 1)) 69 1 (zF S2 49 2)) 69 2 (zF S2 49 3)) 69 3 (zF S2 49 4)) 69 4 (zF S2 49 5)) 69 5 (zF S2 49 7)) 49 28 1) := fr_trans (fr_trans (fr_trans (fr_trans (fr_trans (fr_trans (fr_wA _ _ _ (by omega) (by omega)) (fr_wA _ _ _ (by omega) (by omega))) (fr_wA _ _ _ (by omega) (by omega))) (fr_wA _ _ _ (by omega) (by omega))) (fr_wA _ _ _ (by omega) (by omega))) (fr_wA _ _ _ (by omega) (by omega))) (fr_wF _ 28 1)
  have G49 : ∀ j, j ≠ 28 → zF (wF (wA (wA (wA (wA (wA (wA S2 69 0 (zF S2 49 1)) 69 1 (zF S2 49 2)) 69 2 (zF S2 49 3)) 69 3 (zF S2 49 4)) 69 4 (zF S2 49 5)) 69 5 (zF S2 49 7)) 49 28 1) 49 j = zF S1 49 j := fun j hj => by rw [zF_wF, if_neg hj]; exact F49 j
  have R69 : ∀ y, zA (wF (wA (wA (wA (wA (wA (wA S2 69 0 (zF S2 49 1)) 69 1 (zF S2 49 2)) 69 2 (zF S2 49 3)) 69 3 (zF S2 49 4)) 69 4 (zF S2 49 5)) 69 5 (zF S2 49 7)) 49 28 1) 69 y = if y = 5 then zF S2 49 7 else if y = 4 then zF S2 49 5 else if y = 3 then zF S2 49 4 else if y = 2 then zF S2 49 3 else if y = 1 then zF S2 49 2 else if y = 0 then zF S2 49 1 else zA S2 69 y := by
    intro y
    simp only [zA_wF, zA_wA, if_true]
  have R68 : ∀ y, zA (wF (wA (wA (wA (wA (wA (wA S2 69 0 (zF S2 49 1)) 69 1 (zF S2 49 2)) 69 2 (zF S2 49 3)) 69 3 (zF S2 49 4)) 69 4 (zF S2 49 5)) 69 5 (zF S2 49 7)) 49 28 1) 68 y = zA S2 68 y := fun y => rfl
  have e28 : zF (wF (wA (wA (wA (wA (wA (wA S2 69 0 (zF S2 49 1)) 69 1 (zF S2 49 2)) 69 2 (zF S2 49 3)) 69 3 (zF S2 49 4)) 69 4 (zF S2 49 5)) 69 5 (zF S2 49 7)) 49 28 1) 49 28 = 1 := rfl
  refine ⟨1, S1, wF (wA (wA (wA (wA (wA (wA S2 69 0 (zF S2 49 1)) 69 1 (zF S2 49 2)) 69 2 (zF S2 49 3)) 69 3 (zF S2 49 4)) 69 4 (zF S2 49 5)) 69 5 (zF S2 49 7)) 49 28 1, ?_, ?_, ?_⟩
  · unfold fD_image
    rw [e0, Option.bind_some, gB_1, hS1]
  · unfold fM_image
    rw [e1, Option.bind_some, e2, Option.bind_some, gX_pos (by omega) (by omega) (by omega), gX_pos (by omega) (by omega) (by omega), gX_pos (by omega) (by omega) (by omega), gX_pos (by omega) (by omega) (by omega), gX_pos (by omega) (by omega) (by omega), gX_pos (by omega) (by omega) (by omega), gB_1]
  · generalize wF (wA (wA (wA (wA (wA (wA S2 69 0 (zF S2 49 1)) 69 1 (zF S2 49 2)) 69 2 (zF S2 49 3)) 69 3 (zF S2 49 4)) 69 4 (zF S2 49 5)) 69 5 (zF S2 49 7)) 49 28 1 = S3 at *
    obtain ⟨⟨c1, c2, c3, c4, c5, c6⟩, c7, c8⟩ := m1
    refine ⟨T, ⟨fr_tAt f4 (fr_tAt f3 n1 (by omega) (by omega)) (by omega) (by omega), ⟨⟨(G49 1 (by omega)).trans c1, (G49 7 (by omega)).trans c2, (G49 2 (by omega)).trans c3, (G49 3 (by omega)).trans c4, (G49 4 (by omega)).trans c5, (G49 5 (by omega)).trans c6⟩, fun i p x y => (fr_A f4 (by omega) _).trans ((fr_A f3 (by omega) _).trans (c7 i p x y)), fun p x => (fr_A f4 (by omega) _).trans ((fr_A f3 (by omega) _).trans (c8 p x))⟩, wT⟩, ?_, Or.inr ⟨?_, e28, T, fr_tAt f4 (fr_tAt f3 t1 (by omega) (by omega)) (by omega) (by omega), ⟨⟨?_, ?_, ?_, ?_, ?_, ?_⟩, fun i p x y => ?_, fun p x => ?_⟩, wT⟩, fr_gSh f4 (fr_gSh f3 a2 (by omega)) (by omega), fr_gWay f4 (fr_gWay f3 a3 (by omega) (by omega)) (by omega) (by omega), fr_gRoom f4 (fr_gRoom f3 a4)⟩
    · obtain ⟨k, k1, k2, k3, k4⟩ := a1
      refine ⟨k, k1, (fr_F f4 (by omega) _).trans ((fr_F f3 (by omega) _).trans k2), (G49 9 (by omega)).trans k3, fun i hi => ?_⟩
      rw [fr_A f4 (by omega), fr_A f3 (by omega), fr_A f4 (by omega), fr_A f3 (by omega)]
      exact k4 i hi
    · rw [fr_F f4 (by omega), fr_F f3 (by omega)]
      exact a5
    · rw [R69]; simp only [show ¬ (0 : Int) = 5 by decide, show ¬ (0 : Int) = 4 by decide, show ¬ (0 : Int) = 3 by decide, show ¬ (0 : Int) = 2 by decide, show ¬ (0 : Int) = 1 by decide, if_false, if_true]; exact b1
    · rw [R69]; simp only [show ¬ (1 : Int) = 5 by decide, show ¬ (1 : Int) = 4 by decide, show ¬ (1 : Int) = 3 by decide, show ¬ (1 : Int) = 2 by decide, if_false, if_true]; exact b3
    · rw [R69]; simp only [show ¬ (2 : Int) = 5 by decide, show ¬ (2 : Int) = 4 by decide, show ¬ (2 : Int) = 3 by decide, if_false, if_true]; exact b4
    · rw [R69]; simp only [show ¬ (3 : Int) = 5 by decide, show ¬ (3 : Int) = 4 by decide, if_false, if_true]; exact b5
    · rw [R69]; simp only [show ¬ (4 : Int) = 5 by decide, if_false, if_true]; exact b6
    · rw [R69]; simp only [if_true]; exact b2
    · rw [R68, r68, cpy_out _ _ (by omega), cpy_in _ _ (by omega) (by omega), show (0 : Int) + (5 * (p : Int) + (i : Int) - 0) = 5 * (p : Int) + (i : Int) by omega]
      exact c7 i p x y
    · rw [R68, r68, cpy_in _ _ (by omega) (by omega), show (0 : Int) + (40 + (p : Int) - 40) = (p : Int) by omega]
      exact c8 p x
theorem p_image : P_image Inv := mkPair (fun n S => fD_image n S) (fun n S => fM_image n S) (fun o n S w h => sD_image o n S h) (fun o n S w h => sM_image o n S h) (fun S hG => q_image hG)
end SH
