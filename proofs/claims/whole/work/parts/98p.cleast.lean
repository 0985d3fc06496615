/-! ===== the class: the least that is carried ===== -/
section CLE
variable {A B : Nat} {d m : Nat → Nat → Int} {lf lk Lp W : Nat → Int}
theorem sum_ex {f : Nat → Int} : ∀ {k : Nat}, 0 < sumTo f k → ∃ i, i < k ∧ 0 < f i := by
  intro k
  induction k with
  | zero => intro h; exact absurd (show (0 : Int) < 0 from h) (by decide)
  | succ k ih =>
    intro h
    have h : 0 < sumTo f k + f k := h
    by_cases c : 0 < f k
    · exact ⟨k, by omega, c⟩
    · obtain ⟨i, h1, h2⟩ := ih (by omega)
      exact ⟨i, by omega, h2⟩
theorem FL_tot {sum : Int} (F : FL A B d Lp W m lf lk sum) : sumTo lf A - sumTo lk B = sumTo Lp A - sumTo W B := by
  obtain ⟨F1, F2, F3, F4⟩ := F
  have e1 : sumTo Lp A = sumTo lf A + sumTo (fun i => rwS B m i) A := by
    rw [← sumTo_add]
    exact sumTo_cg (fun i hi => (F2 i hi).2.symm)
  have e2 : sumTo W B = sumTo lk B + sumTo (fun j => clS A m j) B := by
    rw [← sumTo_add]
    exact sumTo_cg (fun j hj => (F3 j hj).2.symm)
  have e3 : sumTo (fun i => rwS B m i) A = sumTo (fun j => clS A m j) B := sumTo_swap m A B
  omega
def fcOut (q : Option ((Int × ZS) ⊕ (Int × ZS))) (v : Int) (S' : ZS) : Prop := q = some (.inl (v, S')) ∨ q = some (.inr (v, S'))
theorem sc_least (hA : A ≤ 9) (hB : B ≤ 8) (hd : dOk A B d) (hL : ∀ i, i < A → Lp i ≤ 100000) (hW : ∀ j, j < B → W j ≤ 100000) (en : sumTo W B ≤ sumTo Lp A) : ∀ (M t n : Nat) (S : ZS) (m : Nat → Nat → Int) (lf lk hh ss : Nat → Int) (sum : Int), sumTo lk B ≤ (M : Int) → t + M ≤ 792 → M + 200 < n → FL A B d Lp W m lf lk sum → DU A B d m lf hh ss → cS A B d m S → cLf A B lf lk S → zF S 33 11 = sumTo lk B → ∃ S' V, fcOut (fC_leastCarried_1 n S sum 792 (t : Int)) V S' ∧ fr 34 42 33 S S' ∧ ∃ m lf lk hh ss, FL A B d Lp W m lf lk V ∧ DU A B d m lf hh ss ∧ ∀ j, j < B → lk j = 0 := by
  have done : ∀ (t n : Nat) (S : ZS) (m : Nat → Nat → Int) (lf lk hh ss : Nat → Int) (sum : Int), t ≤ 792 → 1 ≤ n → FL A B d Lp W m lf lk sum → DU A B d m lf hh ss → zF S 33 11 = sumTo lk B → sumTo lk B ≤ 0 → ∃ S' V, fcOut (fC_leastCarried_1 n S sum 792 (t : Int)) V S' ∧ fr 34 42 33 S S' ∧ ∃ m lf lk hh ss, FL A B d Lp W m lf lk V ∧ DU A B d m lf hh ss ∧ ∀ j, j < B → lk j = 0 := by
    intro t n S m lf lk hh ss sum h1 h2 F D z h3
    obtain ⟨n, rfl⟩ : ∃ k, n = k + 1 := ⟨n - 1, by omega⟩
    have nn0 := sumTo_nn (f := lk) (k := B) (fun j hj => (F.2.2.1 j hj).1)
    refine ⟨S, sum, Or.inr ?_, fr_rfl, m, lf, lk, hh, ss, F, D, fun j hj => ?_⟩
    · rw [fC_leastCarried_1, gC_pos (x := (t : Int)) (y := 792) (by omega) (by omega) (by omega) (by omega), z, gC_pos (x := sumTo lk B) (y := 0) (by omega) (by omega) (by omega) (by omega), if_neg (show ¬ 0 < sumTo lk B by omega), ite_self]
    · have e1 := sumTo_ge (f := lk) (k := B) (fun j hj => (F.2.2.1 j hj).1) hj
      have e2 := (F.2.2.1 j hj).1
      omega
  intro M
  induction M with
  | zero =>
    intro t n S m lf lk hh ss sum h1 h2 h3 F D st lf' z
    exact done t n S m lf lk hh ss sum (by omega) (by omega) F D z (by omega)
  | succ M ih =>
    intro t n S m lf lk hh ss sum h1 h2 h3 F D st lf' z
    by_cases c0 : sumTo lk B ≤ 0
    · exact done t n S m lf lk hh ss sum (by omega) (by omega) F D z c0
    obtain ⟨n, rfl⟩ : ∃ k, n = k + 1 := ⟨n - 1, by omega⟩
    have tot := FL_tot F
    obtain ⟨j0, j1, j2⟩ := sum_ex (f := lk) (k := B) (by omega)
    have src := sum_ex (f := lf) (k := A) (by omega)
    obtain ⟨mb, lb1, lb2⟩ := FL_bd F hL hW
    obtain ⟨S1, e1, e2, e3⟩ := sc_findWays hA hB hd D mb lb1 st lf' (n := n) (by omega)
    have nk : NK A B (fun _ => true) m lf := fun i _ h => Bool.noConfusion h
    obtain ⟨⟨tau, w⟩, w2, -⟩ := ways_ok hA hB hd D nk
    obtain ⟨D2, xs⟩ := w2 src
    have vk : vOk (fin (LLs A B (fun _ => true) d m) (x0F A lf)) := vOk_itr (LL_a hA hB) 17 _ (vOk_start hA)
    generalize fin (LLs A B (fun _ => true) d m) (x0F A lf) = X at *
    have st1 := cS_fr e2 st
    have lf1 := cLf_fr e2 lf'
    obtain ⟨best, g1, g2⟩ := sc_near1 hA hB w.1 lb2 st1 e3 vk lf1 B 0 n (-1) (by omega) (by omega) (Or.inl ⟨rfl, fun i hi => absurd hi (by omega)⟩)
    rw [show ((0 : Nat) : Int) = 0 from rfl] at g1
    have eN : fC_nearestSite n S1 = some best := by
      unfold fC_nearestSite
      rw [g1, Option.bind_some]
    rcases g2 with ⟨-, g2⟩ | ⟨c, rfl, g3, g4, g5⟩
    · exact absurd ⟨j2, xs j0 j1⟩ (g2 j0 j1)
    obtain ⟨q, S2, m', lf2, lk2, b1, b2, b3, b4, b5, b6, b7, b8, b9⟩ := sc_bring hA hB F hL hW w D2 st1 e3 lf1 g3 g4 g5 (n := n) (by omega)
    have z1 : zF S1 33 11 = zF S 33 11 := frL_F e2 _ _
    obtain ⟨S', V, i1, i2, i3⟩ := ih (t + 1) n S2 m' lf2 lk2 _ _ _ (by omega) (by omega) (by omega) b3 b4 b5 b6 (by rw [b7, z1, z, b8])
    refine ⟨S', V, ?_, fr_trans (frL_fr e2) (fr_trans b9 i2), i3⟩
    rw [fC_leastCarried_1, gC_pos (x := (t : Int)) (y := 792) (by omega) (by omega) (by omega) (by omega), if_pos (by omega), z, gC_pos (x := sumTo lk B) (y := 0) (by omega) (by omega) (by omega) (by omega), if_pos (by omega), e1, Option.bind_some, eN, Option.bind_some, gC_pos (x := (c : Int)) (y := 0) (by omega) (by omega) (by omega) (by omega), if_neg (show ¬ (c : Int) < 0 by omega), gX_pos (by omega) (by omega) (by omega), b1, Option.bind_some]
    dsimp only
    rw [(e3.2 c g3).1]
    exact i1
end CLE
