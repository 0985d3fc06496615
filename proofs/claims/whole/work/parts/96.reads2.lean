/-! ===== reading: a number ===== -/
section RDb
variable {S : ZS} {b : Int → Int} {N p n : Nat}
def rN (b : Int → Int) (N : Nat) (lo hi : Int) (p : Nat) : Int × Nat := if (dg b (N - skp b N p) (skp b N p) 0).2 = skp b N p ∨ (dg b (N - skp b N p) (skp b N p) 0).1 < lo ∨ hi < (dg b (N - skp b N p) (skp b N p) 0).1 then (-1, skp b N p) else dg b (N - skp b N p) (skp b N p) 0
theorem tC_num (o : okb b N) (h : tC S b N p) (hn : 400 ≤ n) {lo hi : Int} (h0 : 0 ≤ lo) (h1 : lo ≤ hi) (h2 : hi ≤ 999) : ∃ S', fP_readNumber n S lo hi = some ((rN b N lo hi p).1, S') ∧ fr1 22 2 S S' ∧ tC S' b N (rN b N lo hi p).2 := by
  obtain ⟨S1, a1, a2, a3⟩ := tC_next o h (n := n) (by omega)
  have bd := skp_bd (b := b) h.2.2.1
  have o1 := o.1
  have hb : ∀ i : Nat, i < N → 32 ≤ zA S1 23 (i : Int) ∧ zA S1 23 (i : Int) ≤ 126 := fun i hi => by rw [a3.2.2.2 i hi]; exact o.2 i hi
  obtain ⟨S2, c1, c2, c3⟩ := sp_num1 o.1 (hi := hi) (by omega) h2 lo (zF S1 22 2) (N - skp b N p) (skp b N p) n 0 S1 (by omega) (by omega) (Int.le_refl 0) a3.1 a3.2.1 hb
  rw [dg_cg a3.2.2.2 _ _ _ (by omega)] at c1 c3
  rw [show min (hi + 1) 0 = 0 by omega] at c1
  have c4 : tC S2 b N (dg b (N - skp b N p) (skp b N p) 0).2 := ⟨(fr1_F c2 (Or.inr (by decide))).trans a3.1, c3, by have := (dg_bd (b := b) (N - skp b N p) (skp b N p) 0).2.1; omega, fun i hi => (fr1_A c2 _ _).trans (a3.2.2.2 i hi)⟩
  have d0 := dg_bd (b := b) (N - skp b N p) (skp b N p) 0
  have d1 := d0.2.2 (Int.le_refl 0)
  unfold fP_readNumber rN
  rw [a1, Option.bind_some]
  dsimp only
  rw [c1, Option.bind_some]
  dsimp only
  rw [c3, a3.2.1]
  generalize dg b (N - skp b N p) (skp b N p) 0 = r at *
  generalize skp b N p = q at *
  rw [gC_pos (x := (r.2 : Int)) (y := (q : Int)) (by omega) (by omega) (by omega) (by omega)]
  have back : tC (wF S2 22 2 (q : Int)) b N q := tC_to c4 (by omega) rfl
  have fb : fr1 22 2 S (wF S2 22 2 (q : Int)) := fr1_trans a2 (fr1_trans c2 (fr1_wF _ _ _ _))
  by_cases k1 : r.2 = q
  · rw [if_pos (by omega), if_pos (Or.inl k1)]
    exact ⟨_, rfl, fb, back⟩
  rw [if_neg (by omega), gC_pos (x := min (hi + 1) r.1) (y := lo) (by omega) (by omega) (by omega) (by omega)]
  by_cases k2 : r.1 < lo
  · rw [if_pos (by omega), if_pos (Or.inr (Or.inl k2))]
    exact ⟨_, rfl, fb, back⟩
  rw [if_neg (by omega), gC_pos (x := min (hi + 1) r.1) (y := hi) (by omega) (by omega) (by omega) (by omega)]
  by_cases k3 : hi < r.1
  · rw [if_pos (by omega), if_pos (Or.inr (Or.inr k3))]
    exact ⟨_, rfl, fb, back⟩
  · rw [if_neg (by omega), if_neg (fun z => z.elim k1 (fun z => z.elim k2 k3)), show min (hi + 1) r.1 = r.1 by omega]
    exact ⟨_, rfl, fr1_trans a2 c2, c4⟩
theorem tM_num (o : okb b N) (h : tM S b N p) (hn : 400 ≤ n) {lo hi : Int} (h0 : 0 ≤ lo) (h1 : lo ≤ hi) (h2 : hi ≤ 999) : ∃ S', fM_readNumber n S lo hi = some ((rN b N lo hi p).1, S') ∧ fr1 49 10 S S' ∧ tM S' b N (rN b N lo hi p).2 := by
  obtain ⟨S1, a1, a2, a3⟩ := tM_next o h (n := n) (by omega)
  have bd := skp_bd (b := b) h.2.2.1
  have o1 := o.1
  have hb : ∀ i : Nat, i < N → 32 ≤ zA S1 52 (i : Int) ∧ zA S1 52 (i : Int) ≤ 126 := fun i hi => by rw [a3.2.2.2 i hi]; exact o.2 i hi
  obtain ⟨u, S2, c1, cu, c2, c3⟩ := sm_num1 o.1 lo hi (zF S1 49 10) (N - skp b N p) (skp b N p) n 0 0 S1 (by omega) (by omega) (Int.le_refl 0) (Or.inl ⟨by decide, rfl⟩) a3.1 a3.2.1 hb
  rw [dg_cg a3.2.2.2 _ _ _ (by omega)] at cu c3
  have c4 : tM S2 b N (dg b (N - skp b N p) (skp b N p) 0).2 := ⟨(fr1_F c2 (Or.inr (by decide))).trans a3.1, c3, by have := (dg_bd (b := b) (N - skp b N p) (skp b N p) 0).2.1; omega, fun i hi => (fr1_A c2 _ _).trans (a3.2.2.2 i hi)⟩
  have d0 := dg_bd (b := b) (N - skp b N p) (skp b N p) 0
  have d1 := d0.2.2 (Int.le_refl 0)
  unfold fM_readNumber rN
  rw [a1, Option.bind_some]
  dsimp only
  rw [c1, Option.bind_some]
  dsimp only
  rw [c3, a3.2.1]
  generalize dg b (N - skp b N p) (skp b N p) 0 = r at *
  generalize skp b N p = q at *
  rw [gC_pos (x := (r.2 : Int)) (y := (q : Int)) (by omega) (by omega) (by omega) (by omega)]
  have fb : fr1 49 10 S (wF S2 49 10 (q : Int)) := fr1_trans a2 (fr1_trans c2 (fr1_wF _ _ _ _))
  have ub : 0 ≤ u ∧ u ≤ 9999 := by unfold kp at cu; omega
  by_cases k1 : r.2 = q
  · rw [if_pos (by omega), if_pos (Or.inl k1)]
    exact ⟨_, rfl, fr1_trans a2 c2, k1 ▸ c4⟩
  rw [if_neg (by omega), gC_pos (x := u) (y := 0) (by omega) (by omega) (by omega) (by omega), gC_pos (x := lo) (y := 0) (by omega) (by omega) (by omega) (by omega), gC_pos (x := hi) (y := 0) (by omega) (by omega) (by omega) (by omega), sp_in S2 n (by omega) (by omega) (by omega) (by omega) (by omega) (by omega), Option.bind_some, gC_b]
  by_cases k2 : r.1 < lo ∨ hi < r.1
  · rw [decide_eq_false (by unfold kp at cu; omega), if_pos (show bZ false = 0 from rfl), if_pos (Or.inr k2)]
    exact ⟨_, rfl, fb, tM_to c4 (by omega) rfl⟩
  · rw [decide_eq_true (by unfold kp at cu; omega), if_neg (show ¬ bZ true = 0 by decide), if_neg (fun z => z.elim k1 k2), show u = r.1 by unfold kp at cu; omega]
    exact ⟨_, rfl, fr1_trans a2 c2, c4⟩
theorem rN_bd (h : p ≤ N) {lo hi : Int} (h0 : 0 ≤ lo) : ((rN b N lo hi p).1 = -1 ∧ (rN b N lo hi p).2 = skp b N p) ∨ (lo ≤ (rN b N lo hi p).1 ∧ (rN b N lo hi p).1 ≤ hi) := by
  unfold rN
  split
  · exact Or.inl ⟨rfl, rfl⟩
  · right; omega
/-- a sign -/
def tk (b : Int → Int) (N : Nat) (c : Int) (p : Nat) : Int × Nat := if skp b N p < N ∧ b ((skp b N p : Nat) : Int) = c then (1, skp b N p + 1) else (0, skp b N p)
theorem tC_take (o : okb b N) (h : tC S b N p) (hn : 400 ≤ n) {c : Int} (h0 : 1 ≤ c) (h1 : c ≤ 126) : ∃ S', fP_take n S c = some ((tk b N c p).1, S') ∧ fr1 22 2 S S' ∧ tC S' b N (tk b N c p).2 := by
  obtain ⟨S1, a1, a2, a3⟩ := tC_next o h (n := n) (by omega)
  unfold fP_take tk
  rw [a1, Option.bind_some]
  dsimp only
  rw [a3.2.1]
  generalize skp b N p = q at *
  by_cases k : q < N
  · have := o.2 q k
    rw [if_pos k, gC_pos (by omega) (by omega) (by omega) (by omega), gB_0, gB_1]
    by_cases k2 : b (q : Int) = c
    · rw [if_pos k2, if_pos ⟨k, k2⟩]
      exact ⟨_, rfl, fr1_trans a2 (fr1_wF _ _ _ _), tC_to a3 (by omega) (by omega)⟩
    · rw [if_neg k2, if_neg (fun z => k2 z.2)]
      exact ⟨_, rfl, a2, a3⟩
  · rw [if_neg k, gC_pos (by omega) (by omega) (by omega) (by omega), if_neg (by omega), gB_0, if_neg (fun z => k z.1)]
    exact ⟨_, rfl, a2, a3⟩
theorem tM_take (o : okb b N) (h : tM S b N p) (hn : 400 ≤ n) {c : Int} (h0 : 1 ≤ c) (h1 : c ≤ 126) : ∃ S', fM_takes n S c = some ((tk b N c p).1, S') ∧ fr1 49 10 S S' ∧ tM S' b N (tk b N c p).2 := by
  obtain ⟨S1, a1, a2, a3⟩ := tM_next o h (n := n) (by omega)
  unfold fM_takes tk
  rw [a1, Option.bind_some]
  dsimp only
  rw [a3.2.1]
  generalize skp b N p = q at *
  have a33 := a3.2.2.1
  by_cases k : q < N ∧ b (q : Int) = c
  · have := o.2 q k.1
    rw [if_pos k.1, gC_pos (x := b (q : Int)) (y := c) (by omega) (by omega) (by omega) (by omega), if_pos k.2, Option.bind_some, gC_pos (x := 1) (y := 0) (by omega) (by omega) (by omega) (by omega), if_neg (by decide), gB_1, if_pos k]
    exact ⟨_, rfl, fr1_trans a2 (fr1_wF _ _ _ _), tM_to a3 (by omega) (by omega)⟩
  · rw [gC_pos (x := if q < N then b (q : Int) else -1) (y := c) (by split; (have := o.2 q (by assumption); omega); omega) (by split; (have := o.2 q (by assumption); omega); omega) (by omega) (by omega), if_neg (c := (if q < N then b (q : Int) else -1) = c) (by split; (intro z; exact k ⟨by assumption, z⟩); omega), Option.bind_some, gC_pos (x := 0) (y := 0) (by omega) (by omega) (by omega) (by omega), if_pos rfl, gB_0, if_neg k]
    exact ⟨_, rfl, fr1_trans a2 (fr1_wF _ _ _ _), tM_to a3 (by omega) (by omega)⟩
/-- one digit below m -/
def rD (b : Int → Int) (N : Nat) (m : Int) (p : Nat) : Int × Nat := if skp b N p < N ∧ (48 ≤ b ((skp b N p : Nat) : Int) ∧ b ((skp b N p : Nat) : Int) ≤ 57) ∧ b ((skp b N p : Nat) : Int) - 48 < m then (b ((skp b N p : Nat) : Int) - 48, skp b N p + 1) else (-1, skp b N p)
theorem tC_digit (o : okb b N) (h : tC S b N p) (hn : 400 ≤ n) {m : Int} (h0 : 0 ≤ m) (h1 : m ≤ 126) : ∃ S', fP_readDigit n S m = some ((rD b N m p).1, S') ∧ fr1 22 2 S S' ∧ tC S' b N (rD b N m p).2 := by
  obtain ⟨S1, a1, a2, a3⟩ := tC_next o h (n := n) (by omega)
  unfold fP_readDigit rD
  rw [a1, Option.bind_some]
  dsimp only
  rw [a3.2.1]
  generalize skp b N p = q at *
  by_cases k : q < N
  · have := o.2 q k
    rw [if_pos k, sp_isDigit n S1 (by omega) (by omega), Option.bind_some, gC_b]
    by_cases k2 : 48 ≤ b (q : Int) ∧ b (q : Int) ≤ 57
    · rw [decide_eq_true k2, if_neg (show ¬ bZ true = 0 by decide), gC_pos (by omega) (by omega) (by omega) (by omega)]
      by_cases k3 : b (q : Int) - 48 < m
      · rw [if_pos k3, if_pos ⟨k, k2, k3⟩]
        exact ⟨_, rfl, fr1_trans a2 (fr1_wF _ _ _ _), tC_to a3 (by omega) (by omega)⟩
      · rw [if_neg k3, if_neg (fun z => k3 z.2.2)]
        exact ⟨_, rfl, a2, a3⟩
    · rw [decide_eq_false k2, if_pos (show bZ false = 0 from rfl), if_neg (fun z => k2 z.2.1)]
      exact ⟨_, rfl, a2, a3⟩
  · rw [if_neg k, sp_isDigit n S1 (by omega) (by omega), Option.bind_some, gC_b, decide_eq_false (by omega), if_pos (show bZ false = 0 from rfl), if_neg (fun z => k z.1)]
    exact ⟨_, rfl, a2, a3⟩
end RDb
