/-! ===== the reference: the least that is carried ===== -/
section MCA
variable {T : TW} {Lp W : Nat → Int}
theorem dM_ok (w : wfR T) : dOk 9 (T.2 6) (dM T) := by
  intro i j hi hj
  by_cases c : okM T i = true
  · exact dM_bd w c hj
  · unfold dM
    rw [if_neg c]
    omega
theorem sm_c3 (w : wfR T) (hL : ∀ i, i < 9 → Lp i ≤ 100000) (hW : ∀ j, j < T.2 6 → W j ≤ 100000) (hNo : ∀ i, i < 9 → okM T i = false → Lp i = 0) : ∀ (M n : Nat) (S : ZS) (m : Nat → Nat → Int) (lf lk hh ss : Nat → Int) (sum : Int), sumTo lk (T.2 6) ≤ (M : Int) → M ≤ 100000 → M + 18000001 ≤ n → FL 9 (T.2 6) (dM T) Lp W m lf lk sum → DU 9 (T.2 6) (dM T) m lf hh ss → mAt S T → mRep (T.2 6) S m → mLf (T.2 6) lf lk S → ∃ S' V, fcOut (fM_carry_3 n S (sumTo lk (T.2 6)) sum) V S' ∧ frN 61 65 S S' ∧ (sumTo W (T.2 6) ≤ sumTo Lp 9 → ∃ m lf lk hh ss, FL 9 (T.2 6) (dM T) Lp W m lf lk V ∧ DU 9 (T.2 6) (dM T) m lf hh ss ∧ ∀ j, j < T.2 6 → lk j = 0) ∧ (sumTo Lp 9 < sumTo W (T.2 6) → V = -4) := by
  have w6 := w.1
  have hd := dM_ok w
  have done : ∀ (n : Nat) (S : ZS) (m : Nat → Nat → Int) (lf lk hh ss : Nat → Int) (sum : Int), 1 ≤ n → FL 9 (T.2 6) (dM T) Lp W m lf lk sum → DU 9 (T.2 6) (dM T) m lf hh ss → sumTo lk (T.2 6) ≤ 0 → ∃ S' V, fcOut (fM_carry_3 n S (sumTo lk (T.2 6)) sum) V S' ∧ frN 61 65 S S' ∧ (sumTo W (T.2 6) ≤ sumTo Lp 9 → ∃ m lf lk hh ss, FL 9 (T.2 6) (dM T) Lp W m lf lk V ∧ DU 9 (T.2 6) (dM T) m lf hh ss ∧ ∀ j, j < T.2 6 → lk j = 0) ∧ (sumTo Lp 9 < sumTo W (T.2 6) → V = -4) := by
    intro n S m lf lk hh ss sum h2 F D h3
    obtain ⟨n, rfl⟩ : ∃ k, n = k + 1 := ⟨n - 1, by omega⟩
    have nn0 := sumTo_nn (f := lk) (k := T.2 6) (fun j hj => (F.2.2.1 j hj).1)
    have nn1 := sumTo_nn (f := lf) (k := 9) (fun j hj => (F.2.1 j hj).1)
    have tot := FL_tot F
    refine ⟨S, sum, Or.inr ?_, frN_rfl, fun _ => ⟨m, lf, lk, hh, ss, F, D, fun j hj => ?_⟩, fun h => absurd h (by omega)⟩
    · rw [fM_carry_3, gC_pos (x := sumTo lk (T.2 6)) (y := 0) (by omega) (by omega) (by omega) (by omega), if_neg (show ¬ 0 < sumTo lk (T.2 6) by omega)]
    · have e1 := sumTo_ge (f := lk) (k := T.2 6) (fun j hj => (F.2.2.1 j hj).1) hj
      have e2 := (F.2.2.1 j hj).1
      omega
  intro M
  induction M with
  | zero =>
    intro n S m lf lk hh ss sum h1 h2 h3 F D hm mr lf'
    exact done n S m lf lk hh ss sum (by omega) F D (by omega)
  | succ M ih =>
    intro n S m lf lk hh ss sum h1 h2 h3 F D hm mr lf'
    by_cases c0 : sumTo lk (T.2 6) ≤ 0
    · exact done n S m lf lk hh ss sum (by omega) F D c0
    obtain ⟨n, rfl⟩ : ∃ k, n = k + 1 := ⟨n - 1, by omega⟩
    have tot := FL_tot F
    obtain ⟨j0, j1, j2⟩ := sum_ex (f := lk) (k := T.2 6) (by omega)
    obtain ⟨mb, lb1, lb2⟩ := FL_bd F hL hW
    have nk : NK 9 (T.2 6) (okM T) m lf := fun i hi h => by
      have e1 := hNo i hi h
      have e2 := F.2.1 i hi
      have e3 := sumTo_nn (f := fun j => m i j) (k := T.2 6) (fun j hj => F.1 i j hi hj)
      unfold rwS at e2
      refine ⟨(by omega), fun j hj => ?_⟩
      have e4 := sumTo_ge (f := fun j => m i j) (k := T.2 6) (fun j hj => F.1 i j hi hj) hj
      have e5 := F.1 i j hi hj
      omega
    obtain ⟨⟨tau, wy⟩, w2, w3⟩ := ways_ok (Nat.le_refl 9) w6 hd D nk
    obtain ⟨best, S1, e1, e2, e3, e4⟩ := sm_findWay w hd D mb lb1 lb2 hm mr lf' wy.1 (n := n) (by omega)
    generalize fin (LLs 9 (T.2 6) (okM T) (dM T) m) (x0F 9 lf) = X at *
    by_cases src : ∃ i, i < 9 ∧ 0 < lf i
    · obtain ⟨D2, xs⟩ := w2 src
      rcases e4 with ⟨-, e4⟩ | ⟨c, rfl, g3, g4, g5⟩
      · exact absurd ⟨j2, xs j0 j1⟩ (e4 j0 j1)
      have lf1 := mLf_fr e2 (by omega) lf'
      have hc1 : zA S1 62 (c : Int) = lk c := lf1.2 c g3
      obtain ⟨q, S2, m', lf2, lk2, b1, b2, b3, b4, b5, b6, b7, b8, b9⟩ := sm_moveBy w6 F hL hW wy D2 (mRep_fr e2 (by omega) mr) e3 lf1 g3 g4 g5 (n := n) (by omega)
      have f2 : frN 61 65 S S2 := frN_trans (frN_up e2 (by omega) (by omega)) b9
      obtain ⟨S', V, i1, i2, i3⟩ := ih n S2 m' lf2 lk2 _ _ _ (by omega) (by omega) (by omega) b3 b4 (frN_m f2 (by omega) hm) b5 b6
      refine ⟨S', V, ?_, frN_trans f2 i2, i3⟩
      rw [fM_carry_3, gC_pos (x := sumTo lk (T.2 6)) (y := 0) (by omega) (by omega) (by omega) (by omega), if_pos (by omega), e1, Option.bind_some]
      dsimp only
      rw [gC_pos (x := (c : Int)) (y := 0) (by omega) (by omega) (by omega) (by omega), if_neg (show ¬ (c : Int) < 0 by omega), gX_pos (by omega) (by omega) (by omega), b1, Option.bind_some, gX_pos (x := (c : Int)) (by omega) (by omega) (by omega)]
      dsimp only
      rw [hc1, b7, show sumTo lk (T.2 6) - (lk c - (lk c - q)) = sumTo lk2 (T.2 6) by omega, Int.mul_comm q]
      exact i1
    · have no : ∀ i, i < 9 → ¬ 0 < lf i := fun i hi h => src ⟨i, hi, h⟩
      have all := w3 no
      rcases e4 with ⟨rfl, e4⟩ | ⟨c, rfl, g3, g4, g5⟩
      rotate_left
      · have := all (9 + c)
        omega
      have z0 : sumTo lf 9 ≤ 0 := by
        have := sumTo_le (f := lf) (g := fun _ => 0) (k := 9) (fun i hi => by
          have := no i hi
          show lf i ≤ 0
          omega)
        rw [sumTo_0] at this
        exact this
      refine ⟨S1, -4, Or.inl ?_, frN_up e2 (by omega) (by omega), fun h => absurd h (by omega), fun _ => rfl⟩
      rw [fM_carry_3, gC_pos (x := sumTo lk (T.2 6)) (y := 0) (by omega) (by omega) (by omega) (by omega), if_pos (by omega), e1, Option.bind_some]
      dsimp only
      rw [gC_pos (x := -4) (y := 0) (by omega) (by omega) (by omega) (by omega), if_pos (show (-4 : Int) < 0 by decide)]
end MCA
