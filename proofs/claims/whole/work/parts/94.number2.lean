/-! ===== numbers on the tape, the reference ===== -/
section NU2
variable {S : ZS}
/-- what the reference keeps of a number -/
def kp (V u : Int) : Prop := (V ≤ 999 ∧ u = V) ∨ (999 < V ∧ 999 < u ∧ u ≤ 9999)
theorem sm_num1 {N : Nat} (hN : N ≤ 160) (l1 l2 l3 : Int) : ∀ (d p n : Nat) (V u : Int) (S : ZS), p + d = N → d < n → 0 ≤ V → kp V u → zF S 49 9 = (N : Int) → zF S 49 10 = (p : Int) → (∀ i : Nat, i < N → 32 ≤ zA S 52 (i : Int) ∧ zA S 52 (i : Int) ≤ 126) → ∃ u' S', fM_readNumber_1 n S l1 l2 l3 u = some (u', S') ∧ kp (dg (zA S 52) d p V).1 u' ∧ fr1 49 10 S S' ∧ zF S' 49 10 = (((dg (zA S 52) d p V).2 : Nat) : Int) := by
  intro d
  induction d with
  | zero =>
    intro p n V u S hp hn hV hu h1 h2 hb
    obtain ⟨m, rfl⟩ : ∃ m, n = m + 1 := ⟨n - 1, by omega⟩
    refine ⟨u, S, ?_, hu, fr1_rfl, h2⟩
    rw [fM_readNumber_1, h1, h2, gC_pos (x := (p : Int)) (y := (N : Int)) (by omega) (by omega) (by omega) (by omega), if_neg (by omega)]
  | succ d ih =>
    intro p n V u S hp hn hV hu h1 h2 hb
    obtain ⟨m, rfl⟩ : ∃ m, n = m + 1 := ⟨n - 1, by omega⟩
    have bb := hb p (by omega)
    have ub : 0 ≤ u ∧ u ≤ 9999 := by unfold kp at hu; omega
    rw [fM_readNumber_1, h1, h2, gC_pos (x := (p : Int)) (y := (N : Int)) (by omega) (by omega) (by omega) (by omega), if_pos (by omega), gX_pos (x := (p : Int)) (by omega) (by omega) (by omega), gC_pos (x := zA S 52 (p : Int)) (y := 0) (by omega) (by omega) (by omega) (by omega), sp_in S m (by omega) (by omega) (by omega) (by omega) (by omega) (by omega), Option.bind_some, gC_b, dg]
    by_cases k : 48 ≤ zA S 52 (p : Int) ∧ zA S 52 (p : Int) ≤ 57
    · rw [decide_eq_true k, if_neg (show ¬ bZ true = 0 by decide), if_pos k, gC_pos (x := u) (y := 999) (by omega) (by omega) (by omega) (by omega)]
      by_cases c : 999 < u
      · obtain ⟨u', S', a1, a2, a3, a4⟩ := ih (p + 1) m (10 * V + zA S 52 (p : Int) - 48) u (wF S 49 10 ((p : Int) + 1)) (by omega) (by omega) (by omega) (by unfold kp at hu ⊢; omega) h1 rfl hb
        rw [if_pos c]
        exact ⟨u', S', a1, a2, fr1_trans (fr1_wF _ _ _ _) a3, a4⟩
      · obtain ⟨u', S', a1, a2, a3, a4⟩ := ih (p + 1) m (10 * V + zA S 52 (p : Int) - 48) (10 * u + zA S 52 (p : Int) - 48) (wF S 49 10 ((p : Int) + 1)) (by omega) (by omega) (by omega) (by unfold kp at hu ⊢; omega) h1 rfl hb
        rw [if_neg c, gX_pos (by omega) (by omega) (by omega)]
        exact ⟨u', S', a1, a2, fr1_trans (fr1_wF _ _ _ _) a3, a4⟩
    · rw [decide_eq_false k, if_pos (show bZ false = 0 from rfl), if_neg k]
      exact ⟨u, S, rfl, hu, fr1_rfl, h2⟩
end NU2
