/-! ===== reading: what both sides compute ===== -/
section RDa
variable {S : ZS} {b : Int → Int} {N p n : Nat}
def okb (b : Int → Int) (N : Nat) : Prop := N ≤ 160 ∧ ∀ i : Nat, i < N → 32 ≤ b (i : Int) ∧ b (i : Int) ≤ 126
def tC (S : ZS) (b : Int → Int) (N p : Nat) : Prop := zF S 22 1 = (N : Int) ∧ zF S 22 2 = (p : Int) ∧ p ≤ N ∧ ∀ i : Nat, i < N → zA S 23 (i : Int) = b (i : Int)
def tM (S : ZS) (b : Int → Int) (N p : Nat) : Prop := zF S 49 9 = (N : Int) ∧ zF S 49 10 = (p : Int) ∧ p ≤ N ∧ ∀ i : Nat, i < N → zA S 52 (i : Int) = b (i : Int)
theorem skp_cg {b c : Int → Int} {N : Nat} (h : ∀ i : Nat, i < N → b (i : Int) = c (i : Int)) : ∀ (d p : Nat), p + d = N → skp b N p = skp c N p := by
  intro d
  induction d with
  | zero => intro p hp; rw [skp_end (by omega), skp_end (by omega)]
  | succ d ih => intro p hp; rw [skp_step (b := b) (p := p) (by omega), skp_step (b := c) (p := p) (by omega), h p (by omega), ih (p + 1) (by omega)]
theorem dg_cg {b c : Int → Int} {N : Nat} (h : ∀ i : Nat, i < N → b (i : Int) = c (i : Int)) : ∀ (d p : Nat) (V : Int), p + d ≤ N → dg b d p V = dg c d p V := by
  intro d
  induction d with
  | zero => intro p V hp; rfl
  | succ d ih => intro p V hp; rw [dg, dg, h p (by omega), ih (p + 1) _ (by omega)]
theorem dg_bd {b : Int → Int} : ∀ (d p : Nat) (V : Int), p ≤ (dg b d p V).2 ∧ (dg b d p V).2 ≤ p + d ∧ (0 ≤ V → 0 ≤ (dg b d p V).1) := by
  intro d
  induction d with
  | zero => intro p V; exact ⟨Nat.le_refl _, Nat.le_refl _, id⟩
  | succ d ih =>
    intro p V
    rw [dg]
    by_cases k : 48 ≤ b (p : Int) ∧ b (p : Int) ≤ 57
    · rw [if_pos k]
      have := ih (p + 1) (10 * V + b (p : Int) - 48)
      refine ⟨(by omega), (by omega), fun hV => this.2.2 (by omega)⟩
    · rw [if_neg k]
      exact ⟨Nat.le_refl _, by show p ≤ _; omega, id⟩
theorem tC_next (o : okb b N) (h : tC S b N p) (hn : 200 ≤ n) : ∃ S', fP_next n S = some (if skp b N p < N then b ((skp b N p : Nat) : Int) else 0, S') ∧ fr1 22 2 S S' ∧ tC S' b N (skp b N p) := by
  obtain ⟨h1, h2, h3, h4⟩ := h
  have hb : ∀ i : Nat, i < N → 32 ≤ zA S 23 (i : Int) ∧ zA S 23 (i : Int) ≤ 126 := fun i hi => by rw [h4 i hi]; exact o.2 i hi
  have e := skp_cg h4 (N - p) p (by omega)
  obtain ⟨S', a1, a2, a3⟩ := sp_next o.1 h3 hn h1 h2 hb
  rw [e] at a1 a3
  refine ⟨S', ?_, a2, (fr1_F a2 (Or.inr (by decide))).trans h1, a3, (skp_bd h3).2, fun i hi => (fr1_A a2 _ _).trans (h4 i hi)⟩
  rw [a1]
  by_cases k : skp b N p < N
  · rw [if_pos k, if_pos k, h4 _ k]
  · rw [if_neg k, if_neg k]
theorem tM_next (o : okb b N) (h : tM S b N p) (hn : 200 ≤ n) : ∃ S', fM_nextByte n S = some (if skp b N p < N then b ((skp b N p : Nat) : Int) else -1, S') ∧ fr1 49 10 S S' ∧ tM S' b N (skp b N p) := by
  obtain ⟨h1, h2, h3, h4⟩ := h
  have hb : ∀ i : Nat, i < N → 32 ≤ zA S 52 (i : Int) ∧ zA S 52 (i : Int) ≤ 126 := fun i hi => by rw [h4 i hi]; exact o.2 i hi
  have e := skp_cg h4 (N - p) p (by omega)
  obtain ⟨S', a1, a2, a3⟩ := sm_next o.1 h3 hn h1 h2 hb
  rw [e] at a1 a3
  refine ⟨S', ?_, a2, (fr1_F a2 (Or.inr (by decide))).trans h1, a3, (skp_bd h3).2, fun i hi => (fr1_A a2 _ _).trans (h4 i hi)⟩
  rw [a1]
  by_cases k : skp b N p < N
  · rw [if_pos k, if_pos k, h4 _ k]
  · rw [if_neg k, if_neg k]
theorem tC_to (h : tC S b N p) {q : Nat} (hq : q ≤ N) {x : Int} (hx : x = (q : Int)) : tC (wF S 22 2 x) b N q := ⟨h.1, hx, hq, h.2.2.2⟩
theorem tM_to (h : tM S b N p) {q : Nat} (hq : q ≤ N) {x : Int} (hx : x = (q : Int)) : tM (wF S 49 10 x) b N q := ⟨h.1, hx, hq, h.2.2.2⟩
theorem skp_skp (h : p ≤ N) : skp b N (skp b N p) = skp b N p := by
  have bd := skp_bd (b := b) h
  by_cases k : skp b N p < N
  · rw [skp_step k]
    refine if_neg ?_
    intro k2
    revert k2
    unfold skp at k ⊢
    cases hf : findFrom (fun i => decide (b (i : Int) ≠ 32)) (N - p) p with
    | none =>
      rw [hf] at k
      exact absurd k (Nat.lt_irrefl _)
    | some q =>
      obtain ⟨-, -, h3, -⟩ := findFrom_some hf
      have h3 : decide (b (q : Int) ≠ 32) = true := h3
      intro k2
      have k2 : b (q : Int) = 32 := k2
      simp [k2] at h3
  · exact (skp_end (by omega)).trans (by omega)
end RDa
