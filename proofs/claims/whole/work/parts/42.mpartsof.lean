theorem hasI_pos {s p : Int32} (h : b_hasI s p = true) : (s >>> (p &&& 31)) &&& 1 = 1 := by
  unfold b_hasI at h
  split at h
  · assumption
  · cases h
theorem hasI_neg {s p : Int32} (h : b_hasI s p = false) : ¬ (s >>> (p &&& 31)) &&& 1 = 1 := by
  unfold b_hasI at h
  split at h
  · cases h
  · assumption
theorem l_m_partsOf (o : eO) (m : Nat) (M : Cm) (cQ : Int32) (H : eH) (hM : mdAt H m M) (hn : M.2.2.2 1 ≤ 8) {r : eP} (hk : eG o 178 45 [some (.ref m), some (.int cQ), some (.int (pofF (fun p => M.1 1 ((5 * p) + 3)) cQ (M.2.2.2 1))), some (.int (nI (M.2.2.2 1)))] [] H r) : ∀ (j p : Nat), p + j = (M.2.2.2 1) → eG o 178 4 [some (.ref m), some (.int cQ), some (.int (pofF (fun p => M.1 1 ((5 * p) + 3)) cQ p)), some (.int (nI p))] [] H r := by
  obtain ⟨h0, h1, h2, h3, h4, h5, h6, h7, h8, h9, h10, h11, h12, h13, h14, h15, h16, h17, h18, h19, h20, h21, h22, h23, h24⟩ := id hM
  intro j
  induction j with
  | zero =>
    intro p hp
    have hp : (M.2.2.2 1) = p := by omega
    subst hp
    refine g_run 2 6 [some (.ref m), some (.int cQ), some (.int (pofF (fun p => M.1 1 ((5 * p) + 3)) cQ (M.2.2.2 1))), some (.int (nI (M.2.2.2 1)))] [.ref m, .int (nI (M.2.2.2 1))] H rfl ?_
    refine g_getf rfl rfl h0 rfl ?_
    refine g_icmp_ge rfl (fun _ => ?_) (fun c1 => absurd (nI_le (Nat.le_refl _) (by omega)) c1)
    show eG _ 178 45 [some (.ref m), some (.int cQ), some (.int (pofF (fun p => M.1 1 ((5 * p) + 3)) cQ (M.2.2.2 1))), some (.int (nI (M.2.2.2 1)))] [] H _
    exact hk
  | succ j ih =>
    intro p hp
    refine g_run 2 6 [some (.ref m), some (.int cQ), some (.int (pofF (fun p => M.1 1 ((5 * p) + 3)) cQ p)), some (.int (nI p))] [.ref m, .int (nI p)] H rfl ?_
    refine g_getf rfl rfl h0 rfl ?_
    refine g_icmp_ge rfl (fun c1 => absurd c1 (nI_ge (show p < (M.2.2.2 1) by omega) (by omega))) (fun _ => ?_)
    show eG _ 178 12 [some (.ref m), some (.int cQ), some (.int (pofF (fun p => M.1 1 ((5 * p) + 3)) cQ p)), some (.int (nI p))] [] H _
    refine g_run 3 15 [some (.ref m), some (.int cQ), some (.int (pofF (fun p => M.1 1 ((5 * p) + 3)) cQ p)), some (.int (nI p))] [.ref m, .int cQ, .int (pofF (fun p => M.1 1 ((5 * p) + 3)) cQ p)] H rfl ?_
    refine g_getf rfl rfl h0 rfl ?_
    refine g_run 3 21 [some (.ref m), some (.int cQ), some (.int (pofF (fun p => M.1 1 ((5 * p) + 3)) cQ p)), some (.int (nI p))] [.int (nI 5 * nI p), .ref (m + 1), .int cQ, .int (pofF (fun p => M.1 1 ((5 * p) + 3)) cQ p)] H rfl ?_
    refine g_top (nI_mul 5 p) ?_
    refine g_run 2 23 [some (.ref m), some (.int cQ), some (.int (pofF (fun p => M.1 1 ((5 * p) + 3)) cQ p)), some (.int (nI p))] [.int (nI (5 * p) + nI 3), .ref (m + 1), .int cQ, .int (pofF (fun p => M.1 1 ((5 * p) + 3)) cQ p)] H rfl ?_
    refine g_top (nI_add (5 * p) 3) ?_
    refine g_iald_a rfl h1 (by omega) (by decide) ?_
    refine g_sta rfl rfl rfl rfl rfl rfl rfl (t_hasI o _ _ _) rfl ?_
    show eG _ 178 27 [some (.ref m), some (.int cQ), some (.int (pofF (fun p => M.1 1 ((5 * p) + 3)) cQ p)), some (.int (nI p))] [.int (bI (b_hasI cQ ((M.1 1) ((5 * p) + 3)))), .int (pofF (fun p => M.1 1 ((5 * p) + 3)) cQ p)] H _
    refine g_ifb_eq rfl (fun c2 => ?_) (fun c2 => ?_)
    · show eG _ 178 36 [some (.ref m), some (.int cQ), some (.int (pofF (fun p => M.1 1 ((5 * p) + 3)) cQ p)), some (.int (nI p))] [.int (pofF (fun p => M.1 1 ((5 * p) + 3)) cQ p)] H _
      refine g_run 5 4 [some (.ref m), some (.int cQ), some (.int ((pofF (fun p => M.1 1 ((5 * p) + 3)) cQ p) ||| 0)), some (.int ((nI p) + 1))] [] H rfl ?_
      have e1 : nI p + 1 = nI (p + 1) := nI_1 p
      have e2 : (pofF (fun p => M.1 1 ((5 * p) + 3)) cQ p) ||| 0 = pofF (fun p => M.1 1 ((5 * p) + 3)) cQ (p + 1) := by first | exact (if_pos (hasI_pos c2)).symm | (rw [Int32.or_zero]; exact (if_neg (hasI_neg c2)).symm)
      rw [e1, e2]
      exact ih (p + 1) (by omega)
    · show eG _ 178 30 [some (.ref m), some (.int cQ), some (.int (pofF (fun p => M.1 1 ((5 * p) + 3)) cQ p)), some (.int (nI p))] [.int (pofF (fun p => M.1 1 ((5 * p) + 3)) cQ p)] H _
      refine g_run 8 4 [some (.ref m), some (.int cQ), some (.int ((pofF (fun p => M.1 1 ((5 * p) + 3)) cQ p) ||| (1 <<< ((nI p) &&& 31)))), some (.int ((nI p) + 1))] [] H rfl ?_
      have e1 : nI p + 1 = nI (p + 1) := nI_1 p
      have e2 : (pofF (fun p => M.1 1 ((5 * p) + 3)) cQ p) ||| (1 <<< ((nI p) &&& 31)) = pofF (fun p => M.1 1 ((5 * p) + 3)) cQ (p + 1) := by first | exact (if_pos (hasI_pos c2)).symm | (rw [Int32.or_zero]; exact (if_neg (hasI_neg c2)).symm)
      rw [e1, e2]
      exact ih (p + 1) (by omega)
theorem t_m_partsOf (o : eO) (m : Nat) (M : Cm) (cQ : Int32) (H : eH) (hM : mdAt H m M) (hn : M.2.2.2 1 ≤ 8) : eG o 178 0 (eEnt 178 [.ref m, .int cQ]) [] H (rv (some (.int (pofF (fun p => M.1 1 ((5 * p) + 3)) cQ (M.2.2.2 1)))) H) := by
  refine g_run 4 4 [some (.ref m), some (.int cQ), some (.int 0), some (.int (nI 0))] [] H rfl ?_
  refine l_m_partsOf o m M cQ H hM hn ?_ (M.2.2.2 1) 0 (by omega)
  refine g_run 1 46 [some (.ref m), some (.int cQ), some (.int (pofF (fun p => M.1 1 ((5 * p) + 3)) cQ (M.2.2.2 1))), some (.int (nI (M.2.2.2 1)))] [.int (pofF (fun p => M.1 1 ((5 * p) + 3)) cQ (M.2.2.2 1))] H rfl ?_
  exact g_reti rfl rfl rfl rfl
