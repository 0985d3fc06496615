/-- the parts of some owners -/
def pofF (w : Nat → Int32) (cQ : Int32) : Nat → Int32
  | 0 => 0
  | p + 1 => if (cQ >>> ((w p) &&& 31)) &&& 1 = 1 then pofF w cQ p ||| (1 <<< (nI p &&& 31)) else pofF w cQ p
theorem l_w_partsOf (o : eO) (t : Nat) (T : Tn) (cQ : Int32) (H : eH) (hT : tnAt H t T) (hn : T.2.2.1 ≤ 8) {r : eP} (hk : eG o 101 38 [some (.ref t), some (.int cQ), some (.int (pofF (T.1 3) cQ T.2.2.1)), some (.int (nI T.2.2.1))] [] H r) : ∀ (j p : Nat), p + j = T.2.2.1 → eG o 101 4 [some (.ref t), some (.int cQ), some (.int (pofF (T.1 3) cQ p)), some (.int (nI p))] [] H r := by
  intro j
  induction j with
  | zero =>
    intro p hp
    have hp : T.2.2.1 = p := by omega
    subst hp
    refine g_run 2 6 [some (.ref t), some (.int cQ), some (.int (pofF (T.1 3) cQ T.2.2.1)), some (.int (nI T.2.2.1))] [.ref t, .int (nI T.2.2.1)] H rfl ?_
    refine g_getf rfl rfl hT.1 rfl ?_
    refine g_icmp_ge rfl (fun _ => ?_) (fun c1 => absurd (nI_le (Nat.le_refl _) (by omega)) c1)
    show eG _ 101 38 [some (.ref t), some (.int cQ), some (.int (pofF (T.1 3) cQ T.2.2.1)), some (.int (nI T.2.2.1))] [] H _
    exact hk
  | succ j ih =>
    intro p hp
    refine g_run 2 6 [some (.ref t), some (.int cQ), some (.int (pofF (T.1 3) cQ p)), some (.int (nI p))] [.ref t, .int (nI p)] H rfl ?_
    refine g_getf rfl rfl hT.1 rfl ?_
    refine g_icmp_ge rfl (fun c1 => absurd c1 (nI_ge (show p < T.2.2.1 by omega) (by omega))) (fun _ => ?_)
    show eG _ 101 12 [some (.ref t), some (.int cQ), some (.int (pofF (T.1 3) cQ p)), some (.int (nI p))] [] H _
    refine g_run 2 14 [some (.ref t), some (.int cQ), some (.int (pofF (T.1 3) cQ p)), some (.int (nI p))] [.ref t, .int cQ] H rfl ?_
    refine g_getf rfl rfl hT.1 rfl ?_
    refine g_run 1 18 [some (.ref t), some (.int cQ), some (.int (pofF (T.1 3) cQ p)), some (.int (nI p))] [.int (nI p), .ref (t + 4), .int cQ] H rfl ?_
    refine g_iald_a rfl hT.2.2.2.2.1 (by omega) (by decide) ?_
    refine g_run 4 23 [some (.ref t), some (.int cQ), some (.int (pofF (T.1 3) cQ p)), some (.int (nI p))] [.int 1, .int ((cQ >>> (((T.1 3) p) &&& 31)) &&& 1)] H rfl ?_
    refine g_icmp_ne rfl (fun c2 => ?_) (fun c2 => ?_)
    · show eG _ 101 32 [some (.ref t), some (.int cQ), some (.int (pofF (T.1 3) cQ p)), some (.int (nI p))] [] H _
      refine g_run 2 4 [some (.ref t), some (.int cQ), some (.int (pofF (T.1 3) cQ p)), some (.int ((nI p) + 1))] [] H rfl ?_
      have e1 : nI p + 1 = nI (p + 1) := nI_1 p
      have e2 : pofF (T.1 3) cQ p = pofF (T.1 3) cQ (p + 1) := by first | exact (if_pos c2).symm | exact (if_neg c2).symm
      rw [e1, e2]
      exact ih (p + 1) (by omega)
    · show eG _ 101 26 [some (.ref t), some (.int cQ), some (.int (pofF (T.1 3) cQ p)), some (.int (nI p))] [] H _
      refine g_run 8 4 [some (.ref t), some (.int cQ), some (.int ((pofF (T.1 3) cQ p) ||| (1 <<< ((nI p) &&& 31)))), some (.int ((nI p) + 1))] [] H rfl ?_
      have e1 : nI p + 1 = nI (p + 1) := nI_1 p
      have e2 : (pofF (T.1 3) cQ p) ||| (1 <<< ((nI p) &&& 31)) = pofF (T.1 3) cQ (p + 1) := by first | exact (if_pos c2).symm | exact (if_neg c2).symm
      rw [e1, e2]
      exact ih (p + 1) (by omega)
theorem t_w_partsOf (o : eO) (t : Nat) (T : Tn) (cQ : Int32) (H : eH) (hT : tnAt H t T) (hn : T.2.2.1 ≤ 8) : eG o 101 0 (eEnt 101 [.ref t, .int cQ]) [] H (rv (some (.int (pofF (T.1 3) cQ T.2.2.1))) H) := by
  refine g_run 4 4 [some (.ref t), some (.int cQ), some (.int 0), some (.int (nI 0))] [] H rfl ?_
  refine l_w_partsOf o t T cQ H hT hn ?_ T.2.2.1 0 (by omega)
  refine g_run 1 39 [some (.ref t), some (.int cQ), some (.int (pofF (T.1 3) cQ T.2.2.1)), some (.int (nI T.2.2.1))] [.int (pofF (T.1 3) cQ T.2.2.1)] H rfl ?_
  exact g_reti rfl rfl rfl rfl
