theorem has_bit {s : Int32} {p : Nat} (h : b_has s p = true) : bit s p := by
  unfold b_has at h
  split at h
  · assumption
  · cases h
theorem has_nbit {s : Int32} {p : Nat} (h : b_has s p = false) : ¬ bit s p := by
  unfold b_has at h
  split at h
  · cases h
  · assumption
theorem l_m_yardsOf (o : eO) (m : Nat) (M : Cm) (s : Int32) (H : eH) (hM : mdAt H m M) (hn : M.2.2.2 1 ≤ 8) {r : eP} (hk : eG o 141 43 [some (.ref m), some (.int s), some (.int (ysum (fun p => M.1 1 ((5 * p) + 1)) s (M.2.2.2 1))), some (.int (nI (M.2.2.2 1)))] [] H r) : ∀ (j p : Nat), p + j = (M.2.2.2 1) → eG o 141 4 [some (.ref m), some (.int s), some (.int (ysum (fun p => M.1 1 ((5 * p) + 1)) s p)), some (.int (nI p))] [] H r := by
  obtain ⟨h0, h1, h2, h3, h4, h5, h6, h7, h8, h9, h10, h11, h12, h13, h14, h15, h16, h17, h18, h19, h20, h21, h22, h23, h24⟩ := id hM
  intro j
  induction j with
  | zero =>
    intro p hp
    have hp : (M.2.2.2 1) = p := by omega
    subst hp
    refine g_run 2 6 [some (.ref m), some (.int s), some (.int (ysum (fun p => M.1 1 ((5 * p) + 1)) s (M.2.2.2 1))), some (.int (nI (M.2.2.2 1)))] [.ref m, .int (nI (M.2.2.2 1))] H rfl ?_
    refine g_getf rfl rfl h0 rfl ?_
    refine g_icmp_ge rfl (fun _ => ?_) (fun c1 => absurd (nI_le (Nat.le_refl _) (by omega)) c1)
    show eG _ 141 43 [some (.ref m), some (.int s), some (.int (ysum (fun p => M.1 1 ((5 * p) + 1)) s (M.2.2.2 1))), some (.int (nI (M.2.2.2 1)))] [] H _
    exact hk
  | succ j ih =>
    intro p hp
    refine g_run 2 6 [some (.ref m), some (.int s), some (.int (ysum (fun p => M.1 1 ((5 * p) + 1)) s p)), some (.int (nI p))] [.ref m, .int (nI p)] H rfl ?_
    refine g_getf rfl rfl h0 rfl ?_
    refine g_icmp_ge rfl (fun c1 => absurd c1 (nI_ge (show p < (M.2.2.2 1) by omega) (by omega))) (fun _ => ?_)
    show eG _ 141 12 [some (.ref m), some (.int s), some (.int (ysum (fun p => M.1 1 ((5 * p) + 1)) s p)), some (.int (nI p))] [] H _
    refine g_run 3 15 [some (.ref m), some (.int s), some (.int (ysum (fun p => M.1 1 ((5 * p) + 1)) s p)), some (.int (nI p))] [.int (nI p), .int s, .int (ysum (fun p => M.1 1 ((5 * p) + 1)) s p)] H rfl ?_
    refine g_sta rfl rfl rfl rfl rfl rfl rfl (t_has o _ _ _) rfl ?_
    show eG _ 141 18 [some (.ref m), some (.int s), some (.int (ysum (fun p => M.1 1 ((5 * p) + 1)) s p)), some (.int (nI p))] [.int (bI (b_has s p)), .int (ysum (fun p => M.1 1 ((5 * p) + 1)) s p)] H _
    refine g_ifb_eq rfl (fun c2 => ?_) (fun c2 => ?_)
    · show eG _ 141 34 [some (.ref m), some (.int s), some (.int (ysum (fun p => M.1 1 ((5 * p) + 1)) s p)), some (.int (nI p))] [.int (ysum (fun p => M.1 1 ((5 * p) + 1)) s p)] H _
      refine g_run 5 4 [some (.ref m), some (.int s), some (.int ((ysum (fun p => M.1 1 ((5 * p) + 1)) s p) + 0)), some (.int ((nI p) + 1))] [] H rfl ?_
      have e1 : nI p + 1 = nI (p + 1) := nI_1 p
      have e2 : (ysum (fun p => M.1 1 ((5 * p) + 1)) s p) + 0 = ysum (fun p => M.1 1 ((5 * p) + 1)) s (p + 1) := by first | exact (if_pos (has_bit c2)).symm | (rw [Int32.add_zero]; exact (if_neg (has_nbit c2)).symm)
      rw [e1, e2]
      exact ih (p + 1) (by omega)
    · show eG _ 141 21 [some (.ref m), some (.int s), some (.int (ysum (fun p => M.1 1 ((5 * p) + 1)) s p)), some (.int (nI p))] [.int (ysum (fun p => M.1 1 ((5 * p) + 1)) s p)] H _
      refine g_run 1 22 [some (.ref m), some (.int s), some (.int (ysum (fun p => M.1 1 ((5 * p) + 1)) s p)), some (.int (nI p))] [.ref m, .int (ysum (fun p => M.1 1 ((5 * p) + 1)) s p)] H rfl ?_
      refine g_getf rfl rfl h0 rfl ?_
      refine g_run 3 28 [some (.ref m), some (.int s), some (.int (ysum (fun p => M.1 1 ((5 * p) + 1)) s p)), some (.int (nI p))] [.int (nI 5 * nI p), .ref (m + 1), .int (ysum (fun p => M.1 1 ((5 * p) + 1)) s p)] H rfl ?_
      refine g_top (nI_mul 5 p) ?_
      refine g_run 2 30 [some (.ref m), some (.int s), some (.int (ysum (fun p => M.1 1 ((5 * p) + 1)) s p)), some (.int (nI p))] [.int (nI (5 * p) + nI 1), .ref (m + 1), .int (ysum (fun p => M.1 1 ((5 * p) + 1)) s p)] H rfl ?_
      refine g_top (nI_add (5 * p) 1) ?_
      refine g_iald_a rfl h1 (by omega) (by decide) ?_
      refine g_run 5 4 [some (.ref m), some (.int s), some (.int ((ysum (fun p => M.1 1 ((5 * p) + 1)) s p) + ((M.1 1) ((5 * p) + 1)))), some (.int ((nI p) + 1))] [] H rfl ?_
      have e1 : nI p + 1 = nI (p + 1) := nI_1 p
      have e2 : (ysum (fun p => M.1 1 ((5 * p) + 1)) s p) + ((M.1 1) ((5 * p) + 1)) = ysum (fun p => M.1 1 ((5 * p) + 1)) s (p + 1) := by first | exact (if_pos (has_bit c2)).symm | (rw [Int32.add_zero]; exact (if_neg (has_nbit c2)).symm)
      rw [e1, e2]
      exact ih (p + 1) (by omega)
theorem t_m_yardsOf (o : eO) (m : Nat) (M : Cm) (s : Int32) (H : eH) (hM : mdAt H m M) (hn : M.2.2.2 1 ≤ 8) : eG o 141 0 (eEnt 141 [.ref m, .int s]) [] H (rv (some (.int (ysum (fun p => M.1 1 ((5 * p) + 1)) s (M.2.2.2 1)))) H) := by
  refine g_run 4 4 [some (.ref m), some (.int s), some (.int 0), some (.int (nI 0))] [] H rfl ?_
  refine l_m_yardsOf o m M s H hM hn ?_ (M.2.2.2 1) 0 (by omega)
  refine g_run 1 44 [some (.ref m), some (.int s), some (.int (ysum (fun p => M.1 1 ((5 * p) + 1)) s (M.2.2.2 1))), some (.int (nI (M.2.2.2 1)))] [.int (ysum (fun p => M.1 1 ((5 * p) + 1)) s (M.2.2.2 1))] H rfl ?_
  exact g_reti rfl rfl rfl rfl
theorem l_m_rests (o : eO) (m : Nat) (M : Cm) (s : Int32) (H : eH) (hM : mdAt H m M) (hn : M.2.2.2 1 ≤ 8) {r : eP} (hk : eG o 135 53 [some (.ref m), some (.int s), some (.int (bI (firmB (fun p => M.1 1 ((5 * p) + 4)) s (M.2.2.2 1)))), some (.int (nI (M.2.2.2 1)))] [] H r) : ∀ (j p : Nat), p + j = (M.2.2.2 1) → eG o 135 4 [some (.ref m), some (.int s), some (.int (bI (firmB (fun p => M.1 1 ((5 * p) + 4)) s p))), some (.int (nI p))] [] H r := by
  obtain ⟨h0, h1, h2, h3, h4, h5, h6, h7, h8, h9, h10, h11, h12, h13, h14, h15, h16, h17, h18, h19, h20, h21, h22, h23, h24⟩ := id hM
  intro j
  induction j with
  | zero =>
    intro p hp
    have hp : (M.2.2.2 1) = p := by omega
    subst hp
    refine g_run 2 6 [some (.ref m), some (.int s), some (.int (bI (firmB (fun p => M.1 1 ((5 * p) + 4)) s (M.2.2.2 1)))), some (.int (nI (M.2.2.2 1)))] [.ref m, .int (nI (M.2.2.2 1))] H rfl ?_
    refine g_getf rfl rfl h0 rfl ?_
    refine g_icmp_ge rfl (fun _ => ?_) (fun c1 => absurd (nI_le (Nat.le_refl _) (by omega)) c1)
    show eG _ 135 53 [some (.ref m), some (.int s), some (.int (bI (firmB (fun p => M.1 1 ((5 * p) + 4)) s (M.2.2.2 1)))), some (.int (nI (M.2.2.2 1)))] [] H _
    exact hk
  | succ j ih =>
    intro p hp
    refine g_run 2 6 [some (.ref m), some (.int s), some (.int (bI (firmB (fun p => M.1 1 ((5 * p) + 4)) s p))), some (.int (nI p))] [.ref m, .int (nI p)] H rfl ?_
    refine g_getf rfl rfl h0 rfl ?_
    refine g_icmp_ge rfl (fun c1 => absurd c1 (nI_ge (show p < (M.2.2.2 1) by omega) (by omega))) (fun _ => ?_)
    show eG _ 135 12 [some (.ref m), some (.int s), some (.int (bI (firmB (fun p => M.1 1 ((5 * p) + 4)) s p))), some (.int (nI p))] [] H _
    refine g_run 1 13 [some (.ref m), some (.int s), some (.int (bI (firmB (fun p => M.1 1 ((5 * p) + 4)) s p))), some (.int (nI p))] [.int (bI (firmB (fun p => M.1 1 ((5 * p) + 4)) s p))] H rfl ?_
    refine g_ifb_eq rfl (fun c2 => ?_) (fun c2 => ?_)
    · show eG _ 135 45 [some (.ref m), some (.int s), some (.int (bI (firmB (fun p => M.1 1 ((5 * p) + 4)) s p))), some (.int (nI p))] [] H _
      refine g_run 4 4 [some (.ref m), some (.int s), some (.int 0), some (.int ((nI p) + 1))] [] H rfl ?_
      have e1 : nI p + 1 = nI (p + 1) := nI_1 p
      have e2 : (0 : Int32) = bI (firmB (fun p => M.1 1 ((5 * p) + 4)) s (p + 1)) := by (show _ = bI (firmB (fun p => M.1 1 ((5 * p) + 4)) s p && _); first | (rw [c2]; rfl) | (rw [c2, decide_eq_true (has_nbit c3)]; rfl) | (rw [c2, decide_eq_true c4, Bool.or_true]; rfl) | (rw [c2, decide_eq_false (fun z => z (has_bit c3)), decide_eq_false c4]; rfl))
      rw [e1, e2]
      exact ih (p + 1) (by omega)
    · show eG _ 135 16 [some (.ref m), some (.int s), some (.int (bI (firmB (fun p => M.1 1 ((5 * p) + 4)) s p))), some (.int (nI p))] [] H _
      refine g_run 2 18 [some (.ref m), some (.int s), some (.int (bI (firmB (fun p => M.1 1 ((5 * p) + 4)) s p))), some (.int (nI p))] [.int (nI p), .int s] H rfl ?_
      refine g_sta rfl rfl rfl rfl rfl rfl rfl (t_has o _ _ _) rfl ?_
      show eG _ 135 21 [some (.ref m), some (.int s), some (.int (bI (firmB (fun p => M.1 1 ((5 * p) + 4)) s p))), some (.int (nI p))] [.int (bI (b_has s p))] H _
      refine g_ifb_eq rfl (fun c3 => ?_) (fun c3 => ?_)
      · show eG _ 135 41 [some (.ref m), some (.int s), some (.int (bI (firmB (fun p => M.1 1 ((5 * p) + 4)) s p))), some (.int (nI p))] [] H _
        refine g_run 5 4 [some (.ref m), some (.int s), some (.int 1), some (.int ((nI p) + 1))] [] H rfl ?_
        have e1 : nI p + 1 = nI (p + 1) := nI_1 p
        have e2 : (1 : Int32) = bI (firmB (fun p => M.1 1 ((5 * p) + 4)) s (p + 1)) := by (show _ = bI (firmB (fun p => M.1 1 ((5 * p) + 4)) s p && _); first | (rw [c2]; rfl) | (rw [c2, decide_eq_true (has_nbit c3)]; rfl) | (rw [c2, decide_eq_true c4, Bool.or_true]; rfl) | (rw [c2, decide_eq_false (fun z => z (has_bit c3)), decide_eq_false c4]; rfl))
        rw [e1, e2]
        exact ih (p + 1) (by omega)
      · show eG _ 135 24 [some (.ref m), some (.int s), some (.int (bI (firmB (fun p => M.1 1 ((5 * p) + 4)) s p))), some (.int (nI p))] [] H _
        refine g_run 1 25 [some (.ref m), some (.int s), some (.int (bI (firmB (fun p => M.1 1 ((5 * p) + 4)) s p))), some (.int (nI p))] [.ref m] H rfl ?_
        refine g_getf rfl rfl h0 rfl ?_
        refine g_run 3 31 [some (.ref m), some (.int s), some (.int (bI (firmB (fun p => M.1 1 ((5 * p) + 4)) s p))), some (.int (nI p))] [.int (nI 5 * nI p), .ref (m + 1)] H rfl ?_
        refine g_top (nI_mul 5 p) ?_
        refine g_run 2 33 [some (.ref m), some (.int s), some (.int (bI (firmB (fun p => M.1 1 ((5 * p) + 4)) s p))), some (.int (nI p))] [.int (nI (5 * p) + nI 4), .ref (m + 1)] H rfl ?_
        refine g_top (nI_add (5 * p) 4) ?_
        refine g_iald_a rfl h1 (by omega) (by decide) ?_
        refine g_run 4 38 [some (.ref m), some (.int s), some (.int (bI (firmB (fun p => M.1 1 ((5 * p) + 4)) s p))), some (.int (nI p))] [.int (((M.1 1) ((5 * p) + 4)) &&& (s ^^^ (-1)))] H rfl ?_
        refine g_if_ne rfl (fun c4 => ?_) (fun c4 => ?_)
        · show eG _ 135 45 [some (.ref m), some (.int s), some (.int (bI (firmB (fun p => M.1 1 ((5 * p) + 4)) s p))), some (.int (nI p))] [] H _
          refine g_run 4 4 [some (.ref m), some (.int s), some (.int 0), some (.int ((nI p) + 1))] [] H rfl ?_
          have e1 : nI p + 1 = nI (p + 1) := nI_1 p
          have e2 : (0 : Int32) = bI (firmB (fun p => M.1 1 ((5 * p) + 4)) s (p + 1)) := by (show _ = bI (firmB (fun p => M.1 1 ((5 * p) + 4)) s p && _); first | (rw [c2]; rfl) | (rw [c2, decide_eq_true (has_nbit c3)]; rfl) | (rw [c2, decide_eq_true c4, Bool.or_true]; rfl) | (rw [c2, decide_eq_false (fun z => z (has_bit c3)), decide_eq_false c4]; rfl))
          rw [e1, e2]
          exact ih (p + 1) (by omega)
        · show eG _ 135 41 [some (.ref m), some (.int s), some (.int (bI (firmB (fun p => M.1 1 ((5 * p) + 4)) s p))), some (.int (nI p))] [] H _
          refine g_run 5 4 [some (.ref m), some (.int s), some (.int 1), some (.int ((nI p) + 1))] [] H rfl ?_
          have e1 : nI p + 1 = nI (p + 1) := nI_1 p
          have e2 : (1 : Int32) = bI (firmB (fun p => M.1 1 ((5 * p) + 4)) s (p + 1)) := by (show _ = bI (firmB (fun p => M.1 1 ((5 * p) + 4)) s p && _); first | (rw [c2]; rfl) | (rw [c2, decide_eq_true (has_nbit c3)]; rfl) | (rw [c2, decide_eq_true c4, Bool.or_true]; rfl) | (rw [c2, decide_eq_false (fun z => z (has_bit c3)), decide_eq_false c4]; rfl))
          rw [e1, e2]
          exact ih (p + 1) (by omega)
theorem t_m_rests (o : eO) (m : Nat) (M : Cm) (s : Int32) (H : eH) (hM : mdAt H m M) (hn : M.2.2.2 1 ≤ 8) : eG o 135 0 (eEnt 135 [.ref m, .int s]) [] H (rv (some (.int (bI (firmB (fun p => M.1 1 ((5 * p) + 4)) s (M.2.2.2 1))))) H) := by
  refine g_run 4 4 [some (.ref m), some (.int s), some (.int (bI (firmB (fun p => M.1 1 ((5 * p) + 4)) s 0))), some (.int (nI 0))] [] H rfl ?_
  refine l_m_rests o m M s H hM hn ?_ (M.2.2.2 1) 0 (by omega)
  refine g_run 1 54 [some (.ref m), some (.int s), some (.int (bI (firmB (fun p => M.1 1 ((5 * p) + 4)) s (M.2.2.2 1)))), some (.int (nI (M.2.2.2 1)))] [.int (bI (firmB (fun p => M.1 1 ((5 * p) + 4)) s (M.2.2.2 1)))] H rfl ?_
  exact g_reti rfl rfl (bI_fit _) rfl
theorem l_m_shelteredBy (o : eO) (m : Nat) (M : Cm) (s : Int32) (H : eH) (hM : mdAt H m M) (hm : M.2.2.2 7 ≤ 4) {r : eP} (hk : eG o 142 39 [some (.ref m), some (.int s), some (.int (shel (M.1 2) s (M.2.2.2 7))), some (.int (nI (M.2.2.2 7)))] [] H r) : ∀ (j p : Nat), p + j = (M.2.2.2 7) → eG o 142 4 [some (.ref m), some (.int s), some (.int (shel (M.1 2) s p)), some (.int (nI p))] [] H r := by
  obtain ⟨h0, h1, h2, h3, h4, h5, h6, h7, h8, h9, h10, h11, h12, h13, h14, h15, h16, h17, h18, h19, h20, h21, h22, h23, h24⟩ := id hM
  intro j
  induction j with
  | zero =>
    intro p hp
    have hp : (M.2.2.2 7) = p := by omega
    subst hp
    refine g_run 2 6 [some (.ref m), some (.int s), some (.int (shel (M.1 2) s (M.2.2.2 7))), some (.int (nI (M.2.2.2 7)))] [.ref m, .int (nI (M.2.2.2 7))] H rfl ?_
    refine g_getf rfl rfl h0 rfl ?_
    refine g_icmp_ge rfl (fun _ => ?_) (fun c1 => absurd (nI_le (Nat.le_refl _) (by omega)) c1)
    show eG _ 142 39 [some (.ref m), some (.int s), some (.int (shel (M.1 2) s (M.2.2.2 7))), some (.int (nI (M.2.2.2 7)))] [] H _
    exact hk
  | succ j ih =>
    intro p hp
    refine g_run 2 6 [some (.ref m), some (.int s), some (.int (shel (M.1 2) s p)), some (.int (nI p))] [.ref m, .int (nI p)] H rfl ?_
    refine g_getf rfl rfl h0 rfl ?_
    refine g_icmp_ge rfl (fun c1 => absurd c1 (nI_ge (show p < (M.2.2.2 7) by omega) (by omega))) (fun _ => ?_)
    show eG _ 142 12 [some (.ref m), some (.int s), some (.int (shel (M.1 2) s p)), some (.int (nI p))] [] H _
    refine g_run 2 14 [some (.ref m), some (.int s), some (.int (shel (M.1 2) s p)), some (.int (nI p))] [.ref m, .int (shel (M.1 2) s p)] H rfl ?_
    refine g_getf rfl rfl h0 rfl ?_
    refine g_run 1 18 [some (.ref m), some (.int s), some (.int (shel (M.1 2) s p)), some (.int (nI p))] [.int (nI p), .ref (m + 2), .int (shel (M.1 2) s p)] H rfl ?_
    refine g_iald_a rfl h2 (by omega) (by decide) ?_
    refine g_run 2 21 [some (.ref m), some (.int s), some (.int (shel (M.1 2) s p)), some (.int (nI p))] [.int (((M.1 2) p) &&& s), .int (shel (M.1 2) s p)] H rfl ?_
    refine g_if_eq rfl (fun c2 => ?_) (fun c2 => ?_)
    · show eG _ 142 30 [some (.ref m), some (.int s), some (.int (shel (M.1 2) s p)), some (.int (nI p))] [.int (shel (M.1 2) s p)] H _
      refine g_run 5 4 [some (.ref m), some (.int s), some (.int ((shel (M.1 2) s p) ||| 0)), some (.int ((nI p) + 1))] [] H rfl ?_
      have e1 : nI p + 1 = nI (p + 1) := nI_1 p
      have e2 : (shel (M.1 2) s p) ||| 0 = shel (M.1 2) s (p + 1) := by first | exact (if_neg c2).symm | (rw [Int32.or_zero]; exact (if_pos c2).symm)
      rw [e1, e2]
      exact ih (p + 1) (by omega)
    · show eG _ 142 24 [some (.ref m), some (.int s), some (.int (shel (M.1 2) s p)), some (.int (nI p))] [.int (shel (M.1 2) s p)] H _
      refine g_run 8 4 [some (.ref m), some (.int s), some (.int ((shel (M.1 2) s p) ||| (1 <<< ((nI p) &&& 31)))), some (.int ((nI p) + 1))] [] H rfl ?_
      have e1 : nI p + 1 = nI (p + 1) := nI_1 p
      have e2 : (shel (M.1 2) s p) ||| (1 <<< ((nI p) &&& 31)) = shel (M.1 2) s (p + 1) := by first | exact (if_neg c2).symm | (rw [Int32.or_zero]; exact (if_pos c2).symm)
      rw [e1, e2]
      exact ih (p + 1) (by omega)
theorem t_m_shelteredBy (o : eO) (m : Nat) (M : Cm) (s : Int32) (H : eH) (hM : mdAt H m M) (hm : M.2.2.2 7 ≤ 4) : eG o 142 0 (eEnt 142 [.ref m, .int s]) [] H (rv (some (.int (shel (M.1 2) s (M.2.2.2 7)))) H) := by
  refine g_run 4 4 [some (.ref m), some (.int s), some (.int 0), some (.int (nI 0))] [] H rfl ?_
  refine l_m_shelteredBy o m M s H hM hm ?_ (M.2.2.2 7) 0 (by omega)
  refine g_run 1 40 [some (.ref m), some (.int s), some (.int (shel (M.1 2) s (M.2.2.2 7))), some (.int (nI (M.2.2.2 7)))] [.int (shel (M.1 2) s (M.2.2.2 7))] H rfl ?_
  exact g_reti rfl rfl rfl rfl
def moreF (M : Cm) (g c : Int32) : Nat → Int32
  | 0 => 0
  | p + 1 => moreF M g c p + ((if bit g p then f_givenBy M p else 0) - (if bit c p then f_takenBy M p else 0))
theorem l_m_moreBy (o : eO) (m : Nat) (M : Cm) (g c : Int32) (H : eH) (hM : mdAt H m M) (hn : M.2.2.2 1 ≤ 8) {r : eP} (hk : eG o 156 62 [some (.ref m), some (.int g), some (.int c), some (.int (moreF M g c (M.2.2.2 1))), some (.int (nI (M.2.2.2 1)))] [] H r) : ∀ (j p : Nat), p + j = (M.2.2.2 1) → eG o 156 5 [some (.ref m), some (.int g), some (.int c), some (.int (moreF M g c p)), some (.int (nI p))] [] H r := by
  obtain ⟨h0, h1, h2, h3, h4, h5, h6, h7, h8, h9, h10, h11, h12, h13, h14, h15, h16, h17, h18, h19, h20, h21, h22, h23, h24⟩ := id hM
  intro j
  induction j with
  | zero =>
    intro p hp
    have hp : (M.2.2.2 1) = p := by omega
    subst hp
    refine g_run 2 8 [some (.ref m), some (.int g), some (.int c), some (.int (moreF M g c (M.2.2.2 1))), some (.int (nI (M.2.2.2 1)))] [.ref m, .int (nI (M.2.2.2 1))] H rfl ?_
    refine g_getf rfl rfl h0 rfl ?_
    refine g_icmp_ge rfl (fun _ => ?_) (fun c1 => absurd (nI_le (Nat.le_refl _) (by omega)) c1)
    show eG _ 156 62 [some (.ref m), some (.int g), some (.int c), some (.int (moreF M g c (M.2.2.2 1))), some (.int (nI (M.2.2.2 1)))] [] H _
    exact hk
  | succ j ih =>
    intro p hp
    refine g_run 2 8 [some (.ref m), some (.int g), some (.int c), some (.int (moreF M g c p)), some (.int (nI p))] [.ref m, .int (nI p)] H rfl ?_
    refine g_getf rfl rfl h0 rfl ?_
    refine g_icmp_ge rfl (fun c1 => absurd c1 (nI_ge (show p < (M.2.2.2 1) by omega) (by omega))) (fun _ => ?_)
    show eG _ 156 14 [some (.ref m), some (.int g), some (.int c), some (.int (moreF M g c p)), some (.int (nI p))] [] H _
    refine g_run 3 18 [some (.ref m), some (.int g), some (.int c), some (.int (moreF M g c p)), some (.int (nI p))] [.int (nI p), .int g, .int (moreF M g c p)] H rfl ?_
    refine g_sta rfl rfl rfl rfl rfl rfl rfl (t_has o _ _ _) rfl ?_
    show eG _ 156 21 [some (.ref m), some (.int g), some (.int c), some (.int (moreF M g c p)), some (.int (nI p))] [.int (bI (b_has g p)), .int (moreF M g c p)] H _
    refine g_ifb_eq rfl (fun c2 => ?_) (fun c2 => ?_)
    · show eG _ 156 33 [some (.ref m), some (.int g), some (.int c), some (.int (moreF M g c p)), some (.int (nI p))] [.int (moreF M g c p)] H _
      refine g_run 3 37 [some (.ref m), some (.int g), some (.int c), some (.int (moreF M g c p)), some (.int (nI p))] [.int (nI p), .int c, .int 0, .int (moreF M g c p)] H rfl ?_
      refine g_sta rfl rfl rfl rfl rfl rfl rfl (t_has o _ _ _) rfl ?_
      show eG _ 156 40 [some (.ref m), some (.int g), some (.int c), some (.int (moreF M g c p)), some (.int (nI p))] [.int (bI (b_has c p)), .int 0, .int (moreF M g c p)] H _
      refine g_ifb_eq rfl (fun c3 => ?_) (fun c3 => ?_)
      · show eG _ 156 52 [some (.ref m), some (.int g), some (.int c), some (.int (moreF M g c p)), some (.int (nI p))] [.int 0, .int (moreF M g c p)] H _
        refine g_run 6 5 [some (.ref m), some (.int g), some (.int c), some (.int ((moreF M g c p) + (0 - 0))), some (.int ((nI p) + 1))] [] H rfl ?_
        have e1 : nI p + 1 = nI (p + 1) := nI_1 p
        have e2 : (moreF M g c p) + (0 - 0) = moreF M g c (p + 1) := by (show _ = moreF M g c p + ((if bit g p then f_givenBy M p else 0) - (if bit c p then f_takenBy M p else 0)); first | rw [if_pos (has_bit c2), if_pos (has_bit c3)] | rw [if_pos (has_bit c2), if_neg (has_nbit c3)] | rw [if_neg (has_nbit c2), if_pos (has_bit c3)] | rw [if_neg (has_nbit c2), if_neg (has_nbit c3)])
        rw [e1, e2]
        exact ih (p + 1) (by omega)
      · show eG _ 156 43 [some (.ref m), some (.int g), some (.int c), some (.int (moreF M g c p)), some (.int (nI p))] [.int 0, .int (moreF M g c p)] H _
        refine g_run 2 46 [some (.ref m), some (.int g), some (.int c), some (.int (moreF M g c p)), some (.int (nI p))] [.int (nI p), .ref m, .int 0, .int (moreF M g c p)] H rfl ?_
        refine g_vir rfl rfl rfl h0 rfl rfl (t_takenBy o m M p H hM (by omega)) rfl ?_
        show eG _ 156 49 [some (.ref m), some (.int g), some (.int c), some (.int (moreF M g c p)), some (.int (nI p))] [.int (f_takenBy M p), .int 0, .int (moreF M g c p)] H _
        refine g_run 6 5 [some (.ref m), some (.int g), some (.int c), some (.int ((moreF M g c p) + (0 - (f_takenBy M p)))), some (.int ((nI p) + 1))] [] H rfl ?_
        have e1 : nI p + 1 = nI (p + 1) := nI_1 p
        have e2 : (moreF M g c p) + (0 - (f_takenBy M p)) = moreF M g c (p + 1) := by (show _ = moreF M g c p + ((if bit g p then f_givenBy M p else 0) - (if bit c p then f_takenBy M p else 0)); first | rw [if_pos (has_bit c2), if_pos (has_bit c3)] | rw [if_pos (has_bit c2), if_neg (has_nbit c3)] | rw [if_neg (has_nbit c2), if_pos (has_bit c3)] | rw [if_neg (has_nbit c2), if_neg (has_nbit c3)])
        rw [e1, e2]
        exact ih (p + 1) (by omega)
    · show eG _ 156 24 [some (.ref m), some (.int g), some (.int c), some (.int (moreF M g c p)), some (.int (nI p))] [.int (moreF M g c p)] H _
      refine g_run 2 27 [some (.ref m), some (.int g), some (.int c), some (.int (moreF M g c p)), some (.int (nI p))] [.int (nI p), .ref m, .int (moreF M g c p)] H rfl ?_
      refine g_vir rfl rfl rfl h0 rfl rfl (t_givenBy o m M p H hM (by omega)) rfl ?_
      show eG _ 156 30 [some (.ref m), some (.int g), some (.int c), some (.int (moreF M g c p)), some (.int (nI p))] [.int (f_givenBy M p), .int (moreF M g c p)] H _
      refine g_run 3 37 [some (.ref m), some (.int g), some (.int c), some (.int (moreF M g c p)), some (.int (nI p))] [.int (nI p), .int c, .int (f_givenBy M p), .int (moreF M g c p)] H rfl ?_
      refine g_sta rfl rfl rfl rfl rfl rfl rfl (t_has o _ _ _) rfl ?_
      show eG _ 156 40 [some (.ref m), some (.int g), some (.int c), some (.int (moreF M g c p)), some (.int (nI p))] [.int (bI (b_has c p)), .int (f_givenBy M p), .int (moreF M g c p)] H _
      refine g_ifb_eq rfl (fun c3 => ?_) (fun c3 => ?_)
      · show eG _ 156 52 [some (.ref m), some (.int g), some (.int c), some (.int (moreF M g c p)), some (.int (nI p))] [.int (f_givenBy M p), .int (moreF M g c p)] H _
        refine g_run 6 5 [some (.ref m), some (.int g), some (.int c), some (.int ((moreF M g c p) + ((f_givenBy M p) - 0))), some (.int ((nI p) + 1))] [] H rfl ?_
        have e1 : nI p + 1 = nI (p + 1) := nI_1 p
        have e2 : (moreF M g c p) + ((f_givenBy M p) - 0) = moreF M g c (p + 1) := by (show _ = moreF M g c p + ((if bit g p then f_givenBy M p else 0) - (if bit c p then f_takenBy M p else 0)); first | rw [if_pos (has_bit c2), if_pos (has_bit c3)] | rw [if_pos (has_bit c2), if_neg (has_nbit c3)] | rw [if_neg (has_nbit c2), if_pos (has_bit c3)] | rw [if_neg (has_nbit c2), if_neg (has_nbit c3)])
        rw [e1, e2]
        exact ih (p + 1) (by omega)
      · show eG _ 156 43 [some (.ref m), some (.int g), some (.int c), some (.int (moreF M g c p)), some (.int (nI p))] [.int (f_givenBy M p), .int (moreF M g c p)] H _
        refine g_run 2 46 [some (.ref m), some (.int g), some (.int c), some (.int (moreF M g c p)), some (.int (nI p))] [.int (nI p), .ref m, .int (f_givenBy M p), .int (moreF M g c p)] H rfl ?_
        refine g_vir rfl rfl rfl h0 rfl rfl (t_takenBy o m M p H hM (by omega)) rfl ?_
        show eG _ 156 49 [some (.ref m), some (.int g), some (.int c), some (.int (moreF M g c p)), some (.int (nI p))] [.int (f_takenBy M p), .int (f_givenBy M p), .int (moreF M g c p)] H _
        refine g_run 6 5 [some (.ref m), some (.int g), some (.int c), some (.int ((moreF M g c p) + ((f_givenBy M p) - (f_takenBy M p)))), some (.int ((nI p) + 1))] [] H rfl ?_
        have e1 : nI p + 1 = nI (p + 1) := nI_1 p
        have e2 : (moreF M g c p) + ((f_givenBy M p) - (f_takenBy M p)) = moreF M g c (p + 1) := by (show _ = moreF M g c p + ((if bit g p then f_givenBy M p else 0) - (if bit c p then f_takenBy M p else 0)); first | rw [if_pos (has_bit c2), if_pos (has_bit c3)] | rw [if_pos (has_bit c2), if_neg (has_nbit c3)] | rw [if_neg (has_nbit c2), if_pos (has_bit c3)] | rw [if_neg (has_nbit c2), if_neg (has_nbit c3)])
        rw [e1, e2]
        exact ih (p + 1) (by omega)
theorem t_m_moreBy (o : eO) (m : Nat) (M : Cm) (g c : Int32) (H : eH) (hM : mdAt H m M) (hn : M.2.2.2 1 ≤ 8) : eG o 156 0 (eEnt 156 [.ref m, .int g, .int c]) [] H (rv (some (.int (moreF M g c (M.2.2.2 1)))) H) := by
  refine g_run 4 5 [some (.ref m), some (.int g), some (.int c), some (.int 0), some (.int (nI 0))] [] H rfl ?_
  refine l_m_moreBy o m M g c H hM hn ?_ (M.2.2.2 1) 0 (by omega)
  refine g_run 1 63 [some (.ref m), some (.int g), some (.int c), some (.int (moreF M g c (M.2.2.2 1))), some (.int (nI (M.2.2.2 1)))] [.int (moreF M g c (M.2.2.2 1))] H rfl ?_
  exact g_reti rfl rfl rfl rfl
/-- nobody's shelters miss a set -/
def dryB (f : Nat → Int32) (a b : Int32) : Nat → Bool
  | 0 => true
  | p + 1 => dryB f a b p && !decide ((f p &&& a) &&& b = 0)
theorem dryB_false {f : Nat → Int32} {a b : Int32} {p n : Nat} (h : dryB f a b p = false) (hn : p ≤ n) : dryB f a b n = false := by
  obtain ⟨d, rfl⟩ := Nat.exists_eq_add_of_le hn
  clear hn
  induction d with
  | zero => exact h
  | succ d ih => show (dryB f a b (p + d) && _) = false; rw [ih]; rfl
theorem wdry_false {f : Nat → Int32} {a b : Int32} {p n : Nat} {w : Bool} (h : (w && dryB f a b p) = false) (hn : p ≤ n) : (w && dryB f a b n) = false := by
  cases w with
  | false => rfl
  | true => exact dryB_false (by simpa using h) hn
theorem l_m_mayElse (o : eO) (m : Nat) (M : Cm) (w : Bool) (a g c d : Int32) (H : eH) (hM : mdAt H m M) (hm : M.2.2.2 7 ≤ 4) : ∀ (j p : Nat), p + j = (M.2.2.2 7) → eG o 155 46 [some (.ref m), some (.int a), some (.int g), some (.int c), some (.int d), some (.int (bI (w && dryB (M.1 2) a d p))), some (.int (nI p))] [] H (rv (some (.int (bI (w && dryB (M.1 2) a d (M.2.2.2 7))))) H) := by
  obtain ⟨h0, h1, h2, h3, h4, h5, h6, h7, h8, h9, h10, h11, h12, h13, h14, h15, h16, h17, h18, h19, h20, h21, h22, h23, h24⟩ := id hM
  intro j
  induction j with
  | zero =>
    intro p hp
    have hp : (M.2.2.2 7) = p := by omega
    subst hp
    refine g_run 2 49 [some (.ref m), some (.int a), some (.int g), some (.int c), some (.int d), some (.int (bI (w && dryB (M.1 2) a d (M.2.2.2 7)))), some (.int (nI (M.2.2.2 7)))] [.ref m, .int (nI (M.2.2.2 7))] H rfl ?_
    refine g_getf rfl rfl h0 rfl ?_
    refine g_icmp_ge rfl (fun _ => ?_) (fun c1 => absurd (nI_le (Nat.le_refl _) (by omega)) c1)
    show eG _ 155 88 [some (.ref m), some (.int a), some (.int g), some (.int c), some (.int d), some (.int (bI (w && dryB (M.1 2) a d (M.2.2.2 7)))), some (.int (nI (M.2.2.2 7)))] [] H _
    refine g_run 1 90 [some (.ref m), some (.int a), some (.int g), some (.int c), some (.int d), some (.int (bI (w && dryB (M.1 2) a d (M.2.2.2 7)))), some (.int (nI (M.2.2.2 7)))] [.int (bI (w && dryB (M.1 2) a d (M.2.2.2 7)))] H rfl ?_
    exact g_reti rfl rfl (bI_fit _) rfl
  | succ j ih =>
    intro p hp
    refine g_run 2 49 [some (.ref m), some (.int a), some (.int g), some (.int c), some (.int d), some (.int (bI (w && dryB (M.1 2) a d p))), some (.int (nI p))] [.ref m, .int (nI p)] H rfl ?_
    refine g_getf rfl rfl h0 rfl ?_
    refine g_icmp_ge rfl (fun c1 => absurd c1 (nI_ge (show p < (M.2.2.2 7) by omega) (by omega))) (fun _ => ?_)
    show eG _ 155 55 [some (.ref m), some (.int a), some (.int g), some (.int c), some (.int d), some (.int (bI (w && dryB (M.1 2) a d p))), some (.int (nI p))] [] H _
    refine g_run 1 57 [some (.ref m), some (.int a), some (.int g), some (.int c), some (.int d), some (.int (bI (w && dryB (M.1 2) a d p))), some (.int (nI p))] [.int (bI (w && dryB (M.1 2) a d p))] H rfl ?_
    refine g_ifb_eq rfl (fun c2 => ?_) (fun c2 => ?_)
    · show eG _ 155 88 [some (.ref m), some (.int a), some (.int g), some (.int c), some (.int d), some (.int (bI (w && dryB (M.1 2) a d p))), some (.int (nI p))] [] H _
      refine g_run 1 90 [some (.ref m), some (.int a), some (.int g), some (.int c), some (.int d), some (.int (bI (w && dryB (M.1 2) a d p))), some (.int (nI p))] [.int (bI (w && dryB (M.1 2) a d p))] H rfl ?_
      exact g_reti rfl rfl (bI_fit _) (by rw [c2, wdry_false c2 (by omega)])
    · show eG _ 155 60 [some (.ref m), some (.int a), some (.int g), some (.int c), some (.int d), some (.int (bI (w && dryB (M.1 2) a d p))), some (.int (nI p))] [] H _
      refine g_run 1 61 [some (.ref m), some (.int a), some (.int g), some (.int c), some (.int d), some (.int (bI (w && dryB (M.1 2) a d p))), some (.int (nI p))] [.ref m] H rfl ?_
      refine g_getf rfl rfl h0 rfl ?_
      refine g_run 1 66 [some (.ref m), some (.int a), some (.int g), some (.int c), some (.int d), some (.int (bI (w && dryB (M.1 2) a d p))), some (.int (nI p))] [.int (nI p), .ref (m + 2)] H rfl ?_
      refine g_iald_a rfl h2 (by omega) (by decide) ?_
      refine g_run 4 72 [some (.ref m), some (.int a), some (.int g), some (.int c), some (.int d), some (.int (bI (w && dryB (M.1 2) a d p))), some (.int (nI p))] [.int ((((M.1 2) p) &&& a) &&& d)] H rfl ?_
      refine g_if_eq rfl (fun c3 => ?_) (fun c3 => ?_)
      · show eG _ 155 79 [some (.ref m), some (.int a), some (.int g), some (.int c), some (.int d), some (.int (bI (w && dryB (M.1 2) a d p))), some (.int (nI p))] [] H _
        refine g_run 4 46 [some (.ref m), some (.int a), some (.int g), some (.int c), some (.int d), some (.int 0), some (.int ((nI p) + 1))] [] H rfl ?_
        have e1 : nI p + 1 = nI (p + 1) := nI_1 p
        have e2 : (0 : Int32) = bI (w && dryB (M.1 2) a d (p + 1)) := by (show _ = bI (w && (dryB (M.1 2) a d p && _)); first | (rw [decide_eq_true c3, Bool.not_true, Bool.and_false, Bool.and_false]; rfl) | (rw [decide_eq_false c3, Bool.not_false, Bool.and_true, c2]; rfl))
        rw [e1, e2]
        exact ih (p + 1) (by omega)
      · show eG _ 155 75 [some (.ref m), some (.int a), some (.int g), some (.int c), some (.int d), some (.int (bI (w && dryB (M.1 2) a d p))), some (.int (nI p))] [] H _
        refine g_run 5 46 [some (.ref m), some (.int a), some (.int g), some (.int c), some (.int d), some (.int 1), some (.int ((nI p) + 1))] [] H rfl ?_
        have e1 : nI p + 1 = nI (p + 1) := nI_1 p
        have e2 : (1 : Int32) = bI (w && dryB (M.1 2) a d (p + 1)) := by (show _ = bI (w && (dryB (M.1 2) a d p && _)); first | (rw [decide_eq_true c3, Bool.not_true, Bool.and_false, Bool.and_false]; rfl) | (rw [decide_eq_false c3, Bool.not_false, Bool.and_true, c2]; rfl))
        rw [e1, e2]
        exact ih (p + 1) (by omega)
def mayE (M : Cm) (a g c : Int32) : Bool := (if M.2.2.1 5 < ysum (fun p => M.1 1 ((5 * p) + 1)) g (M.2.2.2 1) + ysum (fun p => M.1 1 ((5 * p) + 1)) c (M.2.2.2 1) then false else firmB (fun p => M.1 1 ((5 * p) + 4)) ((a &&& (g ^^^ (-1))) ||| c) (M.2.2.2 1)) && dryB (M.1 2) a ((a &&& (g ^^^ (-1))) ||| c) (M.2.2.2 7)
theorem t_m_mayElse (o : eO) (m : Nat) (M : Cm) (a g c : Int32) (H : eH) (hM : mdAt H m M) (hn : M.2.2.2 1 ≤ 8) (hm : M.2.2.2 7 ≤ 4) : eG o 155 0 (eEnt 155 [.ref m, .int a, .int g, .int c]) [] H (rv (some (.int (bI (mayE M a g c)))) H) := by
  obtain ⟨h0, h1, h2, h3, h4, h5, h6, h7, h8, h9, h10, h11, h12, h13, h14, h15, h16, h17, h18, h19, h20, h21, h22, h23, h24⟩ := id hM
  show eG o 155 0 [some (.ref m), some (.int a), some (.int g), some (.int c), none, none, none] [] H _
  refine g_run 10 11 [some (.ref m), some (.int a), some (.int g), some (.int c), some (.int ((a &&& (g ^^^ (-1))) ||| c)), none, none] [.int g, .ref m] H rfl ?_
  refine g_vir rfl rfl rfl h0 rfl rfl (t_m_yardsOf o m M _ H hM hn) rfl ?_
  show eG _ 155 14 [some (.ref m), some (.int a), some (.int g), some (.int c), some (.int ((a &&& (g ^^^ (-1))) ||| c)), none, none] [.int (ysum (fun p => M.1 1 ((5 * p) + 1)) g (M.2.2.2 1))] H _
  refine g_run 2 16 [some (.ref m), some (.int a), some (.int g), some (.int c), some (.int ((a &&& (g ^^^ (-1))) ||| c)), none, none] [.int c, .ref m, .int (ysum (fun p => M.1 1 ((5 * p) + 1)) g (M.2.2.2 1))] H rfl ?_
  refine g_vir rfl rfl rfl h0 rfl rfl (t_m_yardsOf o m M _ H hM hn) rfl ?_
  show eG _ 155 19 [some (.ref m), some (.int a), some (.int g), some (.int c), some (.int ((a &&& (g ^^^ (-1))) ||| c)), none, none] [.int (ysum (fun p => M.1 1 ((5 * p) + 1)) c (M.2.2.2 1)), .int (ysum (fun p => M.1 1 ((5 * p) + 1)) g (M.2.2.2 1))] H _
  refine g_run 2 21 [some (.ref m), some (.int a), some (.int g), some (.int c), some (.int ((a &&& (g ^^^ (-1))) ||| c)), none, none] [.ref m, .int ((ysum (fun p => M.1 1 ((5 * p) + 1)) g (M.2.2.2 1)) + (ysum (fun p => M.1 1 ((5 * p) + 1)) c (M.2.2.2 1)))] H rfl ?_
  refine g_getf rfl rfl h0 rfl ?_
  refine g_icmp_gt rfl (fun c1 => ?_) (fun c1 => ?_)
  · show eG _ 155 40 [some (.ref m), some (.int a), some (.int g), some (.int c), some (.int ((a &&& (g ^^^ (-1))) ||| c)), none, none] [] H _
    refine g_run 4 46 [some (.ref m), some (.int a), some (.int g), some (.int c), some (.int ((a &&& (g ^^^ (-1))) ||| c)), some (.int 0), some (.int 0)] [] H rfl ?_
    show eG _ 155 46 [some (.ref m), some (.int a), some (.int g), some (.int c), some (.int ((a &&& (g ^^^ (-1))) ||| c)), some (.int (bI (false && dryB (M.1 2) a ((a &&& (g ^^^ (-1))) ||| c) 0))), some (.int (nI 0))] [] H _
    have e := l_m_mayElse o m M false a g c ((a &&& (g ^^^ (-1))) ||| c) H hM hm (M.2.2.2 7) 0 (by omega)
    unfold mayE
    first | (rw [if_pos c1]; exact e) | (rw [if_neg c1, c2]; exact e)
  · show eG _ 155 27 [some (.ref m), some (.int a), some (.int g), some (.int c), some (.int ((a &&& (g ^^^ (-1))) ||| c)), none, none] [] H _
    refine g_run 2 30 [some (.ref m), some (.int a), some (.int g), some (.int c), some (.int ((a &&& (g ^^^ (-1))) ||| c)), none, none] [.int ((a &&& (g ^^^ (-1))) ||| c), .ref m] H rfl ?_
    refine g_vir rfl rfl rfl h0 rfl rfl (t_m_rests o m M _ H hM hn) rfl ?_
    show eG _ 155 33 [some (.ref m), some (.int a), some (.int g), some (.int c), some (.int ((a &&& (g ^^^ (-1))) ||| c)), none, none] [.int (bI (firmB (fun p => M.1 1 ((5 * p) + 4)) ((a &&& (g ^^^ (-1))) ||| c) (M.2.2.2 1)))] H _
    refine g_ifb_eq rfl (fun c2 => ?_) (fun c2 => ?_)
    · show eG _ 155 40 [some (.ref m), some (.int a), some (.int g), some (.int c), some (.int ((a &&& (g ^^^ (-1))) ||| c)), none, none] [] H _
      refine g_run 4 46 [some (.ref m), some (.int a), some (.int g), some (.int c), some (.int ((a &&& (g ^^^ (-1))) ||| c)), some (.int 0), some (.int 0)] [] H rfl ?_
      show eG _ 155 46 [some (.ref m), some (.int a), some (.int g), some (.int c), some (.int ((a &&& (g ^^^ (-1))) ||| c)), some (.int (bI (false && dryB (M.1 2) a ((a &&& (g ^^^ (-1))) ||| c) 0))), some (.int (nI 0))] [] H _
      have e := l_m_mayElse o m M false a g c ((a &&& (g ^^^ (-1))) ||| c) H hM hm (M.2.2.2 7) 0 (by omega)
      unfold mayE
      first | (rw [if_pos c1]; exact e) | (rw [if_neg c1, c2]; exact e)
    · show eG _ 155 36 [some (.ref m), some (.int a), some (.int g), some (.int c), some (.int ((a &&& (g ^^^ (-1))) ||| c)), none, none] [] H _
      refine g_run 5 46 [some (.ref m), some (.int a), some (.int g), some (.int c), some (.int ((a &&& (g ^^^ (-1))) ||| c)), some (.int 1), some (.int 0)] [] H rfl ?_
      show eG _ 155 46 [some (.ref m), some (.int a), some (.int g), some (.int c), some (.int ((a &&& (g ^^^ (-1))) ||| c)), some (.int (bI (true && dryB (M.1 2) a ((a &&& (g ^^^ (-1))) ||| c) 0))), some (.int (nI 0))] [] H _
      have e := l_m_mayElse o m M true a g c ((a &&& (g ^^^ (-1))) ||| c) H hM hm (M.2.2.2 7) 0 (by omega)
      unfold mayE
      first | (rw [if_pos c1]; exact e) | (rw [if_neg c1, c2]; exact e)
def b_m_isLawful (M : Cm) (f : Int32) (h : Int32) (g : Int32) (c : Int32) : Bool := (if (mayE M f g c) = true then (if (h + (moreF M g c (M.2.2.2 1))) < 0 then false else true) else false)
theorem t_m_isLawful (o : eO) (m : Nat) (M : Cm) (f : Int32) (h : Int32) (g : Int32) (c : Int32) (H : eH) (hM : mdAt H m M) (hn : M.2.2.2 1 ≤ 8) (hm : M.2.2.2 7 ≤ 4) : eG o 154 0 (eEnt 154 [.ref m, .int f, .int h, .int g, .int c]) [] H (rv (some (.int (bI (b_m_isLawful M f h g c)))) H) := by
  obtain ⟨h0, h1, h2, h3, h4, h5, h6, h7, h8, h9, h10, h11, h12, h13, h14, h15, h16, h17, h18, h19, h20, h21, h22, h23, h24⟩ := id hM
  show eG o 154 0 [some (.ref m), some (.int f), some (.int h), some (.int g), some (.int c)] [] H _
  refine g_run 4 5 [some (.ref m), some (.int f), some (.int h), some (.int g), some (.int c)] [.int c, .int g, .int f, .ref m] H rfl ?_
  refine g_vir rfl rfl rfl h0 rfl rfl (t_m_mayElse o m M _ _ _ H hM hn hm) rfl ?_
  show eG _ 154 8 [some (.ref m), some (.int f), some (.int h), some (.int g), some (.int c)] [.int (bI (mayE M f g c))] H _
  refine g_ifb_eq rfl (fun c1 => ?_) (fun c1 => ?_)
  · show eG _ 154 27 [some (.ref m), some (.int f), some (.int h), some (.int g), some (.int c)] [] H _
    refine g_run 1 28 [some (.ref m), some (.int f), some (.int h), some (.int g), some (.int c)] [.int 0] H rfl ?_
    exact g_reti rfl rfl rfl (by unfold b_m_isLawful; rw [if_neg (Bool.eq_false_iff.mp c1)]; rfl)
  · show eG _ 154 11 [some (.ref m), some (.int f), some (.int h), some (.int g), some (.int c)] [] H _
    refine g_run 4 16 [some (.ref m), some (.int f), some (.int h), some (.int g), some (.int c)] [.int c, .int g, .ref m, .int h] H rfl ?_
    refine g_vir rfl rfl rfl h0 rfl rfl (t_m_moreBy o m M _ _ H hM hn) rfl ?_
    show eG _ 154 19 [some (.ref m), some (.int f), some (.int h), some (.int g), some (.int c)] [.int (moreF M g c (M.2.2.2 1)), .int h] H _
    refine g_run 1 20 [some (.ref m), some (.int f), some (.int h), some (.int g), some (.int c)] [.int (h + (moreF M g c (M.2.2.2 1)))] H rfl ?_
    refine g_if_lt rfl (fun c2 => ?_) (fun c2 => ?_)
    · show eG _ 154 27 [some (.ref m), some (.int f), some (.int h), some (.int g), some (.int c)] [] H _
      refine g_run 1 28 [some (.ref m), some (.int f), some (.int h), some (.int g), some (.int c)] [.int 0] H rfl ?_
      exact g_reti rfl rfl rfl (by unfold b_m_isLawful; rw [if_pos c1, if_pos c2]; rfl)
    · show eG _ 154 23 [some (.ref m), some (.int f), some (.int h), some (.int g), some (.int c)] [] H _
      refine g_run 2 28 [some (.ref m), some (.int f), some (.int h), some (.int g), some (.int c)] [.int 1] H rfl ?_
      exact g_reti rfl rfl rfl (by unfold b_m_isLawful; rw [if_pos c1, if_neg c2]; rfl)
theorem t_m_doWeek (o : eO) (m : Nat) (M : Cm) (g c : Int32) (H : eH) (hM : mdAt H m M)  (hn : M.2.2.2 1 ≤ 8) : eG o 160 0 (eEnt 160 [.ref m, .int g, .int c]) [] H (fun z => z.1 = none ∧ mdAt z.2 m (cV (cV M 4 (f_most (M.2.2.1 4 + moreF M g c (M.2.2.2 1)))) 2 ((M.2.2.1 2 &&& (g ^^^ (-1))) ||| c)) ∧ off m (m + 25) H z.2) := by
  obtain ⟨h0, h1, h2, h3, h4, h5, h6, h7, h8, h9, h10, h11, h12, h13, h14, h15, h16, h17, h18, h19, h20, h21, h22, h23, h24⟩ := id hM
  show eG o 160 0 [some (.ref m), some (.int g), some (.int c)] [] H _
  refine g_run 2 2 [some (.ref m), some (.int g), some (.int c)] [.ref m, .ref m] H rfl ?_
  refine g_getf rfl rfl h0 rfl ?_
  refine g_run 3 8 [some (.ref m), some (.int g), some (.int c)] [.int c, .int g, .ref m, .int (M.2.2.1 4), .ref m] H rfl ?_
  refine g_vir rfl rfl rfl h0 rfl rfl (t_m_moreBy o m M _ _ H hM hn) rfl ?_
  show eG _ 160 11 [some (.ref m), some (.int g), some (.int c)] [.int (moreF M g c (M.2.2.2 1)), .int (M.2.2.1 4), .ref m] H _
  refine g_run 1 12 [some (.ref m), some (.int g), some (.int c)] [.int ((M.2.2.1 4) + (moreF M g c (M.2.2.2 1))), .ref m] H rfl ?_
  refine g_sta rfl rfl rfl rfl rfl rfl rfl (t_most o _ _) rfl ?_
  show eG _ 160 15 [some (.ref m), some (.int g), some (.int c)] [.int (f_most ((M.2.2.1 4) + (moreF M g c (M.2.2.2 1)))), .ref m] H _
  refine g_putf_a rfl rfl h0 rfl rfl rfl rfl rfl (fun H1 q1 w1 => ?_)
  show eG _ 160 18 [some (.ref m), some (.int g), some (.int c)] [] H1 _
  refine g_run 2 20 [some (.ref m), some (.int g), some (.int c)] [.ref m, .ref m] H1 rfl ?_
  refine g_getf rfl rfl q1 rfl ?_
  refine g_run 6 29 [some (.ref m), some (.int g), some (.int c)] [.int (((M.2.2.1 2) &&& (g ^^^ (-1))) ||| c), .ref m] H1 rfl ?_
  refine g_putf_a rfl rfl q1 rfl rfl rfl rfl rfl (fun H2 q2 w2 => ?_)
  show eG _ 160 32 [some (.ref m), some (.int g), some (.int c)] [] H2 _
  refine g_retv rfl rfl ⟨rfl, ?_, (off_trans (off_trans off_rfl (off_wide w1 (by omega) (by omega))) (off_wide w2 (by omega) (by omega)))⟩
  exact ⟨q2, (off_ar w2 (off_ar w1 h1 (by omega)) (by omega)), (off_ar w2 (off_ar w1 h2 (by omega)) (by omega)), (off_ar w2 (off_ar w1 h3 (by omega)) (by omega)), (off_ar w2 (off_ar w1 h4 (by omega)) (by omega)), (off_ar w2 (off_ar w1 h5 (by omega)) (by omega)), (off_ar w2 (off_ar w1 h6 (by omega)) (by omega)), (off_ar w2 (off_ar w1 h7 (by omega)) (by omega)), (off_ar w2 (off_ar w1 h8 (by omega)) (by omega)), (off_ar w2 (off_ar w1 h9 (by omega)) (by omega)), (off_ar w2 (off_ar w1 h10 (by omega)) (by omega)), (off_ar w2 (off_ar w1 h11 (by omega)) (by omega)), (off_ar w2 (off_ar w1 h12 (by omega)) (by omega)), (off_ar w2 (off_ar w1 h13 (by omega)) (by omega)), (off_ar w2 (off_ar w1 h14 (by omega)) (by omega)), (off_ar w2 (off_ar w1 h15 (by omega)) (by omega)), (off_ar w2 (off_ar w1 h16 (by omega)) (by omega)), (off_ar w2 (off_ar w1 h17 (by omega)) (by omega)), (off_ar w2 (off_ar w1 h18 (by omega)) (by omega)), (off_ar w2 (off_ar w1 h19 (by omega)) (by omega)), (off_ar w2 (off_ar w1 h20 (by omega)) (by omega)), (off_ar w2 (off_ar w1 h21 (by omega)) (by omega)), (off_ar w2 (off_ar w1 h22 (by omega)) (by omega)), (off_aj w2 (off_aj w1 h23 (by omega)) (by omega)), (off_aj w2 (off_aj w1 h24 (by omega)) (by omega))⟩
theorem t_m_add (o : eO) (m : Nat) (M : Cm) (a b c d e : Int32) (H : eH) (hM : mdAt H m M)  (hn : M.2.2.2 1 < 8) : eG o 132 0 (eEnt 132 [.ref m, .int a, .int b, .int c, .int d, .int e]) [] H (fun z => z.1 = none ∧ mdAt z.2 m (cN (cR M 1 (upd (upd (upd (upd (upd (M.1 1) (5 * (M.2.2.2 1)) a) ((5 * (M.2.2.2 1)) + 1) b) ((5 * (M.2.2.2 1)) + 2) c) ((5 * (M.2.2.2 1)) + 3) d) ((5 * (M.2.2.2 1)) + 4) e)) 1 (M.2.2.2 1 + 1)) ∧ off m (m + 25) H z.2) := by
  obtain ⟨h0, h1, h2, h3, h4, h5, h6, h7, h8, h9, h10, h11, h12, h13, h14, h15, h16, h17, h18, h19, h20, h21, h22, h23, h24⟩ := id hM
  show eG o 132 0 [some (.ref m), some (.int a), some (.int b), some (.int c), some (.int d), some (.int e), none] [] H _
  refine g_run 2 2 [some (.ref m), some (.int a), some (.int b), some (.int c), some (.int d), some (.int e), none] [.ref m, .int 5] H rfl ?_
  refine g_getf rfl rfl h0 rfl ?_
  refine g_run 1 6 [some (.ref m), some (.int a), some (.int b), some (.int c), some (.int d), some (.int e), none] [.int (nI 5 * nI (M.2.2.2 1))] H rfl ?_
  refine g_top (nI_mul 5 (M.2.2.2 1)) ?_
  refine g_run 2 9 [some (.ref m), some (.int a), some (.int b), some (.int c), some (.int d), some (.int e), some (.int (nI (5 * (M.2.2.2 1))))] [.ref m] H rfl ?_
  refine g_getf rfl rfl h0 rfl ?_
  refine g_run 2 15 [some (.ref m), some (.int a), some (.int b), some (.int c), some (.int d), some (.int e), some (.int (nI (5 * (M.2.2.2 1))))] [.int a, .int (nI (5 * (M.2.2.2 1))), .ref (m + 1)] H rfl ?_
  refine g_iast_a rfl h1 (by omega) (by decide) (fun H1 q1 w1 => ?_)
  show eG _ 132 16 [some (.ref m), some (.int a), some (.int b), some (.int c), some (.int d), some (.int e), some (.int (nI (5 * (M.2.2.2 1))))] [] H1 _
  refine g_run 1 17 [some (.ref m), some (.int a), some (.int b), some (.int c), some (.int d), some (.int e), some (.int (nI (5 * (M.2.2.2 1))))] [.ref m] H1 rfl ?_
  refine g_getf rfl rfl (off_ob w1 h0 (by omega)) rfl ?_
  refine g_run 3 24 [some (.ref m), some (.int a), some (.int b), some (.int c), some (.int d), some (.int e), some (.int (nI (5 * (M.2.2.2 1))))] [.int (nI (5 * (M.2.2.2 1)) + nI 1), .ref (m + 1)] H1 rfl ?_
  refine g_top (nI_add (5 * (M.2.2.2 1)) 1) ?_
  refine g_run 1 25 [some (.ref m), some (.int a), some (.int b), some (.int c), some (.int d), some (.int e), some (.int (nI (5 * (M.2.2.2 1))))] [.int b, .int (nI ((5 * (M.2.2.2 1)) + 1)), .ref (m + 1)] H1 rfl ?_
  refine g_iast_a rfl q1 (by omega) (by decide) (fun H2 q2 w2 => ?_)
  show eG _ 132 26 [some (.ref m), some (.int a), some (.int b), some (.int c), some (.int d), some (.int e), some (.int (nI (5 * (M.2.2.2 1))))] [] H2 _
  refine g_run 1 27 [some (.ref m), some (.int a), some (.int b), some (.int c), some (.int d), some (.int e), some (.int (nI (5 * (M.2.2.2 1))))] [.ref m] H2 rfl ?_
  refine g_getf rfl rfl (off_ob w2 (off_ob w1 h0 (by omega)) (by omega)) rfl ?_
  refine g_run 3 34 [some (.ref m), some (.int a), some (.int b), some (.int c), some (.int d), some (.int e), some (.int (nI (5 * (M.2.2.2 1))))] [.int (nI (5 * (M.2.2.2 1)) + nI 2), .ref (m + 1)] H2 rfl ?_
  refine g_top (nI_add (5 * (M.2.2.2 1)) 2) ?_
  refine g_run 1 35 [some (.ref m), some (.int a), some (.int b), some (.int c), some (.int d), some (.int e), some (.int (nI (5 * (M.2.2.2 1))))] [.int c, .int (nI ((5 * (M.2.2.2 1)) + 2)), .ref (m + 1)] H2 rfl ?_
  refine g_iast_a rfl q2 (by omega) (by decide) (fun H3 q3 w3 => ?_)
  show eG _ 132 36 [some (.ref m), some (.int a), some (.int b), some (.int c), some (.int d), some (.int e), some (.int (nI (5 * (M.2.2.2 1))))] [] H3 _
  refine g_run 1 37 [some (.ref m), some (.int a), some (.int b), some (.int c), some (.int d), some (.int e), some (.int (nI (5 * (M.2.2.2 1))))] [.ref m] H3 rfl ?_
  refine g_getf rfl rfl (off_ob w3 (off_ob w2 (off_ob w1 h0 (by omega)) (by omega)) (by omega)) rfl ?_
  refine g_run 3 44 [some (.ref m), some (.int a), some (.int b), some (.int c), some (.int d), some (.int e), some (.int (nI (5 * (M.2.2.2 1))))] [.int (nI (5 * (M.2.2.2 1)) + nI 3), .ref (m + 1)] H3 rfl ?_
  refine g_top (nI_add (5 * (M.2.2.2 1)) 3) ?_
  refine g_run 1 46 [some (.ref m), some (.int a), some (.int b), some (.int c), some (.int d), some (.int e), some (.int (nI (5 * (M.2.2.2 1))))] [.int d, .int (nI ((5 * (M.2.2.2 1)) + 3)), .ref (m + 1)] H3 rfl ?_
  refine g_iast_a rfl q3 (by omega) (by decide) (fun H4 q4 w4 => ?_)
  show eG _ 132 47 [some (.ref m), some (.int a), some (.int b), some (.int c), some (.int d), some (.int e), some (.int (nI (5 * (M.2.2.2 1))))] [] H4 _
  refine g_run 1 48 [some (.ref m), some (.int a), some (.int b), some (.int c), some (.int d), some (.int e), some (.int (nI (5 * (M.2.2.2 1))))] [.ref m] H4 rfl ?_
  refine g_getf rfl rfl (off_ob w4 (off_ob w3 (off_ob w2 (off_ob w1 h0 (by omega)) (by omega)) (by omega)) (by omega)) rfl ?_
  refine g_run 3 55 [some (.ref m), some (.int a), some (.int b), some (.int c), some (.int d), some (.int e), some (.int (nI (5 * (M.2.2.2 1))))] [.int (nI (5 * (M.2.2.2 1)) + nI 4), .ref (m + 1)] H4 rfl ?_
  refine g_top (nI_add (5 * (M.2.2.2 1)) 4) ?_
  refine g_run 1 57 [some (.ref m), some (.int a), some (.int b), some (.int c), some (.int d), some (.int e), some (.int (nI (5 * (M.2.2.2 1))))] [.int e, .int (nI ((5 * (M.2.2.2 1)) + 4)), .ref (m + 1)] H4 rfl ?_
  refine g_iast_a rfl q4 (by omega) (by decide) (fun H5 q5 w5 => ?_)
  show eG _ 132 58 [some (.ref m), some (.int a), some (.int b), some (.int c), some (.int d), some (.int e), some (.int (nI (5 * (M.2.2.2 1))))] [] H5 _
  refine g_run 2 60 [some (.ref m), some (.int a), some (.int b), some (.int c), some (.int d), some (.int e), some (.int (nI (5 * (M.2.2.2 1))))] [.ref m, .ref m] H5 rfl ?_
  refine g_getf rfl rfl (off_ob w5 (off_ob w4 (off_ob w3 (off_ob w2 (off_ob w1 h0 (by omega)) (by omega)) (by omega)) (by omega)) (by omega)) rfl ?_
  refine g_run 2 65 [some (.ref m), some (.int a), some (.int b), some (.int c), some (.int d), some (.int e), some (.int (nI (5 * (M.2.2.2 1))))] [.int (nI (M.2.2.2 1) + nI 1), .ref m] H5 rfl ?_
  refine g_top (nI_add (M.2.2.2 1) 1) ?_
  refine g_putf_a rfl rfl (off_ob w5 (off_ob w4 (off_ob w3 (off_ob w2 (off_ob w1 h0 (by omega)) (by omega)) (by omega)) (by omega)) (by omega)) rfl rfl rfl rfl rfl (fun H6 q6 w6 => ?_)
  show eG _ 132 68 [some (.ref m), some (.int a), some (.int b), some (.int c), some (.int d), some (.int e), some (.int (nI (5 * (M.2.2.2 1))))] [] H6 _
  refine g_retv rfl rfl ⟨rfl, ?_, (off_trans (off_trans (off_trans (off_trans (off_trans (off_trans off_rfl (off_wide w1 (by omega) (by omega))) (off_wide w2 (by omega) (by omega))) (off_wide w3 (by omega) (by omega))) (off_wide w4 (by omega) (by omega))) (off_wide w5 (by omega) (by omega))) (off_wide w6 (by omega) (by omega)))⟩
  exact ⟨q6, (off_ar w6 q5 (by omega)), (off_ar w6 (off_ar w5 (off_ar w4 (off_ar w3 (off_ar w2 (off_ar w1 h2 (by omega)) (by omega)) (by omega)) (by omega)) (by omega)) (by omega)), (off_ar w6 (off_ar w5 (off_ar w4 (off_ar w3 (off_ar w2 (off_ar w1 h3 (by omega)) (by omega)) (by omega)) (by omega)) (by omega)) (by omega)), (off_ar w6 (off_ar w5 (off_ar w4 (off_ar w3 (off_ar w2 (off_ar w1 h4 (by omega)) (by omega)) (by omega)) (by omega)) (by omega)) (by omega)), (off_ar w6 (off_ar w5 (off_ar w4 (off_ar w3 (off_ar w2 (off_ar w1 h5 (by omega)) (by omega)) (by omega)) (by omega)) (by omega)) (by omega)), (off_ar w6 (off_ar w5 (off_ar w4 (off_ar w3 (off_ar w2 (off_ar w1 h6 (by omega)) (by omega)) (by omega)) (by omega)) (by omega)) (by omega)), (off_ar w6 (off_ar w5 (off_ar w4 (off_ar w3 (off_ar w2 (off_ar w1 h7 (by omega)) (by omega)) (by omega)) (by omega)) (by omega)) (by omega)), (off_ar w6 (off_ar w5 (off_ar w4 (off_ar w3 (off_ar w2 (off_ar w1 h8 (by omega)) (by omega)) (by omega)) (by omega)) (by omega)) (by omega)), (off_ar w6 (off_ar w5 (off_ar w4 (off_ar w3 (off_ar w2 (off_ar w1 h9 (by omega)) (by omega)) (by omega)) (by omega)) (by omega)) (by omega)), (off_ar w6 (off_ar w5 (off_ar w4 (off_ar w3 (off_ar w2 (off_ar w1 h10 (by omega)) (by omega)) (by omega)) (by omega)) (by omega)) (by omega)), (off_ar w6 (off_ar w5 (off_ar w4 (off_ar w3 (off_ar w2 (off_ar w1 h11 (by omega)) (by omega)) (by omega)) (by omega)) (by omega)) (by omega)), (off_ar w6 (off_ar w5 (off_ar w4 (off_ar w3 (off_ar w2 (off_ar w1 h12 (by omega)) (by omega)) (by omega)) (by omega)) (by omega)) (by omega)), (off_ar w6 (off_ar w5 (off_ar w4 (off_ar w3 (off_ar w2 (off_ar w1 h13 (by omega)) (by omega)) (by omega)) (by omega)) (by omega)) (by omega)), (off_ar w6 (off_ar w5 (off_ar w4 (off_ar w3 (off_ar w2 (off_ar w1 h14 (by omega)) (by omega)) (by omega)) (by omega)) (by omega)) (by omega)), (off_ar w6 (off_ar w5 (off_ar w4 (off_ar w3 (off_ar w2 (off_ar w1 h15 (by omega)) (by omega)) (by omega)) (by omega)) (by omega)) (by omega)), (off_ar w6 (off_ar w5 (off_ar w4 (off_ar w3 (off_ar w2 (off_ar w1 h16 (by omega)) (by omega)) (by omega)) (by omega)) (by omega)) (by omega)), (off_ar w6 (off_ar w5 (off_ar w4 (off_ar w3 (off_ar w2 (off_ar w1 h17 (by omega)) (by omega)) (by omega)) (by omega)) (by omega)) (by omega)), (off_ar w6 (off_ar w5 (off_ar w4 (off_ar w3 (off_ar w2 (off_ar w1 h18 (by omega)) (by omega)) (by omega)) (by omega)) (by omega)) (by omega)), (off_ar w6 (off_ar w5 (off_ar w4 (off_ar w3 (off_ar w2 (off_ar w1 h19 (by omega)) (by omega)) (by omega)) (by omega)) (by omega)) (by omega)), (off_ar w6 (off_ar w5 (off_ar w4 (off_ar w3 (off_ar w2 (off_ar w1 h20 (by omega)) (by omega)) (by omega)) (by omega)) (by omega)) (by omega)), (off_ar w6 (off_ar w5 (off_ar w4 (off_ar w3 (off_ar w2 (off_ar w1 h21 (by omega)) (by omega)) (by omega)) (by omega)) (by omega)) (by omega)), (off_ar w6 (off_ar w5 (off_ar w4 (off_ar w3 (off_ar w2 (off_ar w1 h22 (by omega)) (by omega)) (by omega)) (by omega)) (by omega)) (by omega)), (off_aj w6 (off_aj w5 (off_aj w4 (off_aj w3 (off_aj w2 (off_aj w1 h23 (by omega)) (by omega)) (by omega)) (by omega)) (by omega)) (by omega)), (off_aj w6 (off_aj w5 (off_aj w4 (off_aj w3 (off_aj w2 (off_aj w1 h24 (by omega)) (by omega)) (by omega)) (by omega)) (by omega)) (by omega))⟩
