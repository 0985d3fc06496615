/-- a stretch of ints filled -/
def filI (f : Nat → Int32) (v : Int32) (a b : Nat) : Nat → Int32 := fun j => if a ≤ j ∧ j < b then v else f j
theorem filI_0 (f : Nat → Int32) (v : Int32) (a n : Nat) : ∀ q, q < n → f q = filI f v a a q := by
  intro q _
  unfold filI
  rw [if_neg (by omega)]
theorem filI_1 (f : Nat → Int32) (v : Int32) (a b n : Nat) (hb : a ≤ b) : ∀ q, q < n → upd (filI f v a b) b v q = filI f v a (b + 1) q := by
  intro q _
  show (if q = b then v else if a ≤ q ∧ q < b then v else f q) = (if a ≤ q ∧ q < b + 1 then v else f q)
  by_cases h : q = b
  · subst h
    rw [if_pos rfl, if_pos (by omega)]
  · rw [if_neg h]
    by_cases h2 : a ≤ q ∧ q < b
    · rw [if_pos h2, if_pos (by omega)]
    · rw [if_neg h2, if_neg (by omega)]
theorem l_fillI (o : eO) (a n loQ hiQ : Nat) (f : Nat → Int32) (v : Int32) (hloQ : hiQ ≤ n) (hn : n ≤ 1000000) {r : eP} : ∀ (j p : Nat) (H : eH), arN 0 H a n (filI f v loQ p) ∧ loQ ≤ p → p + j = hiQ → (∀ H1, arN 0 H1 a n (filI f v loQ hiQ) ∧ loQ ≤ hiQ → off a (a + 1) H H1 → eG o 65 27 [some (.ref a), some (.int (nI loQ)), some (.int (nI hiQ)), some (.int v), some (.int (nI hiQ))] [] H1 r) → eG o 65 10 [some (.ref a), some (.int (nI loQ)), some (.int (nI hiQ)), some (.int v), some (.int (nI p))] [] H r := by
  intro j
  induction j with
  | zero =>
    intro p H hX hp hk
    have hp : hiQ = p := by omega
    subst hp
    refine g_run 2 13 [some (.ref a), some (.int (nI loQ)), some (.int (nI hiQ)), some (.int v), some (.int (nI hiQ))] [.int (nI hiQ), .int (nI hiQ)] H rfl ?_
    refine g_icmp_ge rfl (fun _ => ?_) (fun c1 => absurd (nI_le (Nat.le_refl _) (by omega)) c1)
    show eG _ 65 27 [some (.ref a), some (.int (nI loQ)), some (.int (nI hiQ)), some (.int v), some (.int (nI hiQ))] [] H _
    exact hk H hX off_rfl
  | succ j ih =>
    intro p H hX hp hk
    refine g_run 2 13 [some (.ref a), some (.int (nI loQ)), some (.int (nI hiQ)), some (.int v), some (.int (nI p))] [.int (nI hiQ), .int (nI p)] H rfl ?_
    refine g_icmp_ge rfl (fun c1 => absurd c1 (nI_ge (show p < hiQ by omega) (by omega))) (fun _ => ?_)
    show eG _ 65 16 [some (.ref a), some (.int (nI loQ)), some (.int (nI hiQ)), some (.int v), some (.int (nI p))] [] H _
    refine g_run 3 20 [some (.ref a), some (.int (nI loQ)), some (.int (nI hiQ)), some (.int v), some (.int (nI p))] [.int v, .int (nI p), .ref a] H rfl ?_
    refine g_iast_a rfl hX.1 (by omega) hn (fun H1 q1 w1 => ?_)
    show eG _ 65 21 [some (.ref a), some (.int (nI loQ)), some (.int (nI hiQ)), some (.int v), some (.int (nI p))] [] H1 _
    refine g_run 2 10 [some (.ref a), some (.int (nI loQ)), some (.int (nI hiQ)), some (.int v), some (.int ((nI p) + 1))] [] H1 rfl ?_
    have e1 : nI p + 1 = nI (p + 1) := nI_1 p
    rw [e1]
    have hX1 : arN 0 H1 a n (filI f v loQ (p + 1)) ∧ loQ ≤ p + 1 := ⟨arN_ext q1 (filI_1 f v loQ p n hX.2), by omega⟩
    exact ih (p + 1) H1 hX1 (by omega) (fun H9 f9 w9 => hk H9 f9 (off_trans (off_trans off_rfl (off_wide w1 (by omega) (by omega))) w9))
theorem t_fillI (o : eO) (a n loQ hiQ : Nat) (f : Nat → Int32) (v : Int32) (H : eH) (hA : arN 0 H a n f) (hloQ : loQ ≤ hiQ) (hhiQ : hiQ ≤ n) (hn : n ≤ 1000000) : eG o 65 0 (eEnt 65 [.ref a, .int (nI loQ), .int (nI hiQ), .int v]) [] H (fun z => z.1 = none ∧ arN 0 z.2 a n (filI f v loQ hiQ) ∧ off a (a + 1) H z.2) := by
  show eG o 65 0 [some (.ref a), some (.int (nI loQ)), some (.int (nI hiQ)), some (.int v), none] [] H _
  refine g_run 1 1 [some (.ref a), some (.int (nI loQ)), some (.int (nI hiQ)), some (.int v), none] [.ref a] H rfl ?_
  refine g_alen_a rfl hA rfl ?_
  refine g_run 2 4 [some (.ref a), some (.int (nI loQ)), some (.int (nI hiQ)), some (.int v), none] [.int (nI hiQ), .int (nI loQ), .int (nI n)] H rfl ?_
  refine g_sta rfl rfl rfl rfl rfl rfl rfl (t_rangeCheck o n loQ hiQ H hloQ hhiQ hn) rfl ?_
  refine g_run 2 10 [some (.ref a), some (.int (nI loQ)), some (.int (nI hiQ)), some (.int v), some (.int (nI loQ))] [] H rfl ?_
  refine l_fillI o a n loQ hiQ f v hhiQ hn (hiQ - loQ) loQ H ⟨arN_ext hA (filI_0 f v loQ n), Nat.le_refl _⟩ (by omega) fun H1 h1 w1 => ?_
  exact g_retv rfl rfl ⟨rfl, h1.1, w1⟩
theorem l_fillA (o : eO) (a n : Nat) (f : Nat → Int32) (v : Int32) (hn : n ≤ 1000000) {r : eP} : ∀ (j p : Nat) (H : eH), arN 0 H a n (filI f v 0 p) → p + j = n → (∀ H1, arN 0 H1 a n (filI f v 0 n) → off a (a + 1) H H1 → eG o 76 20 [some (.ref a), some (.int v), some (.int (nI n)), some (.int (nI n))] [] H1 r) → eG o 76 5 [some (.ref a), some (.int v), some (.int (nI p)), some (.int (nI n))] [] H r := by
  intro j
  induction j with
  | zero =>
    intro p H hX hp hk
    have hp : n = p := by omega
    subst hp
    refine g_run 2 7 [some (.ref a), some (.int v), some (.int (nI n)), some (.int (nI n))] [.int (nI n), .int (nI n)] H rfl ?_
    refine g_icmp_ge rfl (fun _ => ?_) (fun c1 => absurd (nI_le (Nat.le_refl _) (by omega)) c1)
    show eG _ 76 20 [some (.ref a), some (.int v), some (.int (nI n)), some (.int (nI n))] [] H _
    exact hk H hX off_rfl
  | succ j ih =>
    intro p H hX hp hk
    refine g_run 2 7 [some (.ref a), some (.int v), some (.int (nI p)), some (.int (nI n))] [.int (nI n), .int (nI p)] H rfl ?_
    refine g_icmp_ge rfl (fun c1 => absurd c1 (nI_ge (show p < n by omega) (by omega))) (fun _ => ?_)
    show eG _ 76 10 [some (.ref a), some (.int v), some (.int (nI p)), some (.int (nI n))] [] H _
    refine g_run 3 13 [some (.ref a), some (.int v), some (.int (nI p)), some (.int (nI n))] [.int v, .int (nI p), .ref a] H rfl ?_
    refine g_iast_a rfl hX (by omega) hn (fun H1 q1 w1 => ?_)
    show eG _ 76 14 [some (.ref a), some (.int v), some (.int (nI p)), some (.int (nI n))] [] H1 _
    refine g_run 2 5 [some (.ref a), some (.int v), some (.int ((nI p) + 1)), some (.int (nI n))] [] H1 rfl ?_
    have e1 : nI p + 1 = nI (p + 1) := nI_1 p
    rw [e1]
    have hX1 : arN 0 H1 a n (filI f v 0 (p + 1)) := arN_ext q1 (filI_1 f v 0 p n (by omega))
    exact ih (p + 1) H1 hX1 (by omega) (fun H9 f9 w9 => hk H9 f9 (off_trans (off_trans off_rfl (off_wide w1 (by omega) (by omega))) w9))
theorem t_fillA (o : eO) (a n : Nat) (f : Nat → Int32) (v : Int32) (H : eH) (hA : arN 0 H a n f) (hn : n ≤ 1000000) : eG o 76 0 (eEnt 76 [.ref a, .int v]) [] H (fun z => z.1 = none ∧ arN 0 z.2 a n (fun _ => v) ∧ off a (a + 1) H z.2) := by
  show eG o 76 0 [some (.ref a), some (.int v), none, none] [] H _
  refine g_run 3 3 [some (.ref a), some (.int v), some (.int (nI 0)), none] [.ref a] H rfl ?_
  refine g_alen_a rfl hA rfl ?_
  refine g_run 1 5 [some (.ref a), some (.int v), some (.int (nI 0)), some (.int (nI n))] [] H rfl ?_
  refine l_fillA o a n f v hn n 0 H (arN_ext hA (filI_0 f v 0 n)) (by omega) fun H1 h1 w1 => ?_
  refine g_retv rfl rfl ⟨rfl, arN_ext h1 (fun q hq => ?_), w1⟩
  show (if 0 ≤ q ∧ q < n then v else f q) = v
  exact if_pos (by omega)
