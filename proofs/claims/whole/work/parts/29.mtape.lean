theorem l_m_next (o : eO) (m : Nat) (M : Cm) (hz : (M.2.2.2 9) ≤ 160) {r : eP} : ∀ (d aQ : Nat) (H : eH), mdAt H m (cN M 10 aQ) → aQ + d = (M.2.2.2 9) → (∀ H1, mdAt H1 m (cN M 10 (skp (M.1 3) d aQ)) → off m (m + 25) H H1 → eG o 147 38 [some (.ref m)] [] H1 r) → eG o 147 0 [some (.ref m)] [] H r := by
  intro d
  induction d with
  | zero =>
    intro aQ H hX hp hk
    obtain ⟨h0, h1, h2, h3, h4, h5, h6, h7, h8, h9, h10, h11, h12, h13, h14, h15, h16, h17, h18, h19, h20, h21, h22, h23, h24⟩ := id hX
    have hp : aQ = (M.2.2.2 9) := by omega
    refine g_run 1 1 [some (.ref m)] [.ref m] H rfl ?_
    refine g_getf rfl rfl h0 rfl ?_
    show eG _ 147 4 [some (.ref m)] [.int (nI aQ)] H _
    refine g_run 1 5 [some (.ref m)] [.ref m, .int (nI aQ)] H rfl ?_
    refine g_getf rfl rfl h0 rfl ?_
    show eG _ 147 8 [some (.ref m)] [.int (nI (M.2.2.2 9)), .int (nI aQ)] H _
    refine g_icmp_ge rfl (fun _ => ?_) (fun c1 => absurd (nI_le (show (M.2.2.2 9) ≤ aQ by omega) (by omega)) c1)
    show eG _ 147 38 [some (.ref m)] [] H _
    exact hk H hX off_rfl
  | succ d ih =>
    intro aQ H hX hp hk
    obtain ⟨h0, h1, h2, h3, h4, h5, h6, h7, h8, h9, h10, h11, h12, h13, h14, h15, h16, h17, h18, h19, h20, h21, h22, h23, h24⟩ := id hX
    refine g_run 1 1 [some (.ref m)] [.ref m] H rfl ?_
    refine g_getf rfl rfl h0 rfl ?_
    show eG _ 147 4 [some (.ref m)] [.int (nI aQ)] H _
    refine g_run 1 5 [some (.ref m)] [.ref m, .int (nI aQ)] H rfl ?_
    refine g_getf rfl rfl h0 rfl ?_
    show eG _ 147 8 [some (.ref m)] [.int (nI (M.2.2.2 9)), .int (nI aQ)] H _
    refine g_icmp_ge rfl (fun c1 => absurd c1 (nI_ge (show aQ < (M.2.2.2 9) by omega) (by omega))) (fun _ => ?_)
    show eG _ 147 11 [some (.ref m)] [] H _
    refine g_run 1 12 [some (.ref m)] [.ref m] H rfl ?_
    refine g_getf rfl rfl h0 rfl ?_
    show eG _ 147 15 [some (.ref m)] [.ref (m + 3)] H _
    refine g_run 1 16 [some (.ref m)] [.ref m, .ref (m + 3)] H rfl ?_
    refine g_getf rfl rfl h0 rfl ?_
    show eG _ 147 19 [some (.ref m)] [.int (nI aQ), .ref (m + 3)] H _
    refine g_iald_a rfl h3 (by omega) (by decide) ?_
    refine g_run 1 22 [some (.ref m)] [.int 32, .int ((M.1 3) aQ)] H rfl ?_
    refine g_icmp_ne rfl (fun c2 => ?_) (fun c2 => ?_)
    · show eG _ 147 38 [some (.ref m)] [] H _
      exact hk H (by rw [show skp (M.1 3) (d + 1) aQ = aQ from if_neg c2]; exact hX) off_rfl
    · show eG _ 147 25 [some (.ref m)] [] H _
      refine g_run 2 27 [some (.ref m)] [.ref m, .ref m] H rfl ?_
      refine g_getf rfl rfl h0 rfl ?_
      show eG _ 147 30 [some (.ref m)] [.int (nI aQ), .ref m] H _
      refine g_run 2 32 [some (.ref m)] [.int (nI aQ + nI 1), .ref m] H rfl ?_
      refine g_top (nI_add aQ 1) ?_
      refine g_putf_a rfl rfl h0 rfl rfl rfl rfl rfl (fun H1 q1 w1 => ?_)
      show eG _ 147 35 [some (.ref m)] [] H1 _
      refine g_run 1 0 [some (.ref m)] [] H1 rfl ?_
      refine ih (aQ + 1) H1 ?_ (by omega) (fun H9 f9 w9 => hk H9 (by rw [show skp (M.1 3) (d + 1) aQ = skp (M.1 3) d (aQ + 1) from if_pos c2]; exact f9) (off_trans (off_trans off_rfl (off_wide w1 (by omega) (by omega))) w9))
      exact ⟨q1, (off_ar w1 h1 (by omega)), (off_ar w1 h2 (by omega)), (off_ar w1 h3 (by omega)), (off_ar w1 h4 (by omega)), (off_ar w1 h5 (by omega)), (off_ar w1 h6 (by omega)), (off_ar w1 h7 (by omega)), (off_ar w1 h8 (by omega)), (off_ar w1 h9 (by omega)), (off_ar w1 h10 (by omega)), (off_ar w1 h11 (by omega)), (off_ar w1 h12 (by omega)), (off_ar w1 h13 (by omega)), (off_ar w1 h14 (by omega)), (off_ar w1 h15 (by omega)), (off_ar w1 h16 (by omega)), (off_ar w1 h17 (by omega)), (off_ar w1 h18 (by omega)), (off_ar w1 h19 (by omega)), (off_ar w1 h20 (by omega)), (off_ar w1 h21 (by omega)), (off_ar w1 h22 (by omega)), (off_aj w1 h23 (by omega)), (off_aj w1 h24 (by omega))⟩
theorem t_m_next (o : eO) (m : Nat) (M : Cm) (H : eH) (hM : mdAt H m M) (hz : (M.2.2.2 9) ≤ 160) (ha : M.2.2.2 10 ≤ M.2.2.2 9) : eG o 147 0 (eEnt 147 [.ref m]) [] H (fun z => z.1 = some (.int (byt (M.1 3) (M.2.2.2 9) (skp (M.1 3) (M.2.2.2 9 - M.2.2.2 10) (M.2.2.2 10)) (-1))) ∧ mdAt z.2 m (cN M 10 (skp (M.1 3) (M.2.2.2 9 - M.2.2.2 10) (M.2.2.2 10))) ∧ off m (m + 25) H z.2) := by
  show eG o 147 0 [some (.ref m)] [] H _
  have hX0 : mdAt H m (cN M 10 (M.2.2.2 10)) := by
    obtain ⟨h0, h1, h2, h3, h4, h5, h6, h7, h8, h9, h10, h11, h12, h13, h14, h15, h16, h17, h18, h19, h20, h21, h22, h23, h24⟩ := id hM
    exact ⟨h0, h1, h2, h3, h4, h5, h6, h7, h8, h9, h10, h11, h12, h13, h14, h15, h16, h17, h18, h19, h20, h21, h22, h23, h24⟩
  refine l_m_next o m M hz (M.2.2.2 9 - M.2.2.2 10) (M.2.2.2 10) H hX0 (by omega) (fun H9 f9 w9 => ?_)
  generalize hg : skp (M.1 3) (M.2.2.2 9 - M.2.2.2 10) (M.2.2.2 10) = aQ at f9 ⊢
  have hle := skp_le (M.1 3) (M.2.2.2 9 - M.2.2.2 10) (M.2.2.2 10)
  rw [hg] at hle
  obtain ⟨h0, h1, h2, h3, h4, h5, h6, h7, h8, h9, h10, h11, h12, h13, h14, h15, h16, h17, h18, h19, h20, h21, h22, h23, h24⟩ := id f9
  by_cases cq : aQ < M.2.2.2 9
  · refine g_run 1 39 [some (.ref m)] [.ref m] H9 rfl ?_
    refine g_getf rfl rfl h0 rfl ?_
    show eG _ 147 42 [some (.ref m)] [.int (nI aQ)] H9 _
    refine g_run 1 43 [some (.ref m)] [.ref m, .int (nI aQ)] H9 rfl ?_
    refine g_getf rfl rfl h0 rfl ?_
    show eG _ 147 46 [some (.ref m)] [.int (nI (M.2.2.2 9)), .int (nI aQ)] H9 _
    refine g_icmp_ge rfl (fun c1 => absurd c1 (nI_ge cq (by omega))) (fun _ => ?_)
    show eG _ 147 49 [some (.ref m)] [] H9 _
    refine g_run 1 50 [some (.ref m)] [.ref m] H9 rfl ?_
    refine g_getf rfl rfl h0 rfl ?_
    show eG _ 147 53 [some (.ref m)] [.ref (m + 3)] H9 _
    refine g_run 1 54 [some (.ref m)] [.ref m, .ref (m + 3)] H9 rfl ?_
    refine g_getf rfl rfl h0 rfl ?_
    show eG _ 147 57 [some (.ref m)] [.int (nI aQ), .ref (m + 3)] H9 _
    refine g_iald_a rfl h3 (by omega) (by decide) ?_
    refine g_run 1 62 [some (.ref m)] [.int ((M.1 3) aQ)] H9 rfl ?_
    refine g_retiS rfl rfl rfl ⟨?_, f9, w9⟩
    show some (Value.int _) = some (Value.int (byt _ _ _ _))
    unfold byt
    rw [if_pos cq]
  · refine g_run 1 39 [some (.ref m)] [.ref m] H9 rfl ?_
    refine g_getf rfl rfl h0 rfl ?_
    show eG _ 147 42 [some (.ref m)] [.int (nI aQ)] H9 _
    refine g_run 1 43 [some (.ref m)] [.ref m, .int (nI aQ)] H9 rfl ?_
    refine g_getf rfl rfl h0 rfl ?_
    show eG _ 147 46 [some (.ref m)] [.int (nI (M.2.2.2 9)), .int (nI aQ)] H9 _
    refine g_icmp_ge rfl (fun _ => ?_) (fun c1 => absurd (nI_le (show M.2.2.2 9 ≤ aQ by omega) (by omega)) c1)
    show eG _ 147 61 [some (.ref m)] [] H9 _
    refine g_run 1 62 [some (.ref m)] [.int (-1)] H9 rfl ?_
    refine g_retiS rfl rfl rfl ⟨?_, f9, w9⟩
    show some (Value.int _) = some (Value.int (byt _ _ _ _))
    unfold byt
    rw [if_neg cq]
