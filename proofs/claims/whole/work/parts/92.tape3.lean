/-! ===== the tape: next and take ===== -/
section TP3
variable {S : ZS}
theorem sp_next {N p n : Nat} (hN : N ≤ 160) (hp : p ≤ N) (hn : 200 ≤ n) (h1 : zF S 22 1 = (N : Int)) (h2 : zF S 22 2 = (p : Int)) (hb : ∀ i : Nat, i < N → 32 ≤ zA S 23 (i : Int) ∧ zA S 23 (i : Int) ≤ 126) : ∃ S', fP_next n S = some (if skp (zA S 23) N p < N then zA S 23 ((skp (zA S 23) N p : Nat) : Int) else 0, S') ∧ fr1 22 2 S S' ∧ zF S' 22 2 = ((skp (zA S 23) N p : Nat) : Int) := by
  obtain ⟨S', a1, a2, a3⟩ := sp_skip hN (N - p) p n S (by omega) (by omega) h1 h2 hb
  have bd := skp_bd (b := zA S 23) hp
  have e9 : zF S' 22 1 = (N : Int) := (fr1_F a2 (by omega)).trans h1
  refine ⟨S', ?_, a2, a3⟩
  unfold fP_next
  rw [a1, Option.bind_some, a3, e9, gC_pos (by omega) (by omega) (by omega) (by omega), fr1_A a2]
  by_cases k : skp (zA S 23) N p < N
  · have := hb _ k
    rw [if_pos (by omega), if_pos k, gX_pos (by omega) (by omega) (by omega), gH_pos (by omega) (by omega)]
  · rw [if_neg (by omega), if_neg k, gH_pos (by omega) (by omega)]
end TP3
