/-- arraycopy of longs, places and length numbers -/
theorem g_cpy_j {o : eO} {k pc : Nat} {L : eL} {st : List Value} {H : eH} {r : eP} {idx a b n0 n1 sp dp m : Nat} {f g : Nat → Int64} (h : eAt k pc = some (.invokestatic idx, 3)) (hac : eHas eAc (eOwn k) idx = true) (hA : arJ H a n0 f) (hB : arJ H b n1 g) (h1 : sp + m ≤ n0) (h2 : dp + m ≤ n1) (h0 : n0 ≤ 1000000) (h01 : n1 ≤ 1000000) (hw : Nat.ble (eWords st) 8 = true) (gg : ∀ H1, arJ H1 b n1 (fun j => if dp ≤ j ∧ j < dp + m then f (sp + (j - dp)) else g j) → off b (b + 1) H H1 → eG o k (pc + 3) L st H1 r) : eG o k pc L (.int (nI m) :: .int (nI dp) :: .ref b :: .int (nI sp) :: .ref a :: st) H r := by
  obtain ⟨f', e1, e2⟩ := hA
  obtain ⟨g', e3, e4⟩ := hB
  have c1 : (nI sp).toNatClampNeg = sp := nI_clamp (by omega)
  have c2 : (nI dp).toNatClampNeg = dp := nI_clamp (by omega)
  have c3 : (nI m).toNatClampNeg = m := nI_clamp (by omega)
  have p1 : ¬ nI sp < 0 := nI_pos (by omega)
  have p2 : ¬ nI dp < 0 := nI_pos (by omega)
  have p3 : ¬ nI m < 0 := nI_pos (by omega)
  refine g_step h ?_ (gg _ ⟨va_cpy f' g' sp dp m, eSet_at e3, fun q hq => ?_⟩ off_set)
  · show eCall k (eOwn k) (.invokestatic idx) pc L _ H = _
    simp only [eCall, hac, eCpy, e1, e3, c1, c2, c3, p1, p2, p3, Nat.ble_eq_true_of_le h1, Nat.ble_eq_true_of_le h2, hw, or_self, if_false]
  · show (if dp ≤ q ∧ q < dp + m then f' (sp + (q - dp)) else g' q) = (if dp ≤ q ∧ q < dp + m then f (sp + (q - dp)) else g q)
    by_cases hc : dp ≤ q ∧ q < dp + m
    · rw [if_pos hc, if_pos hc]
      exact e2 _ (by omega)
    · rw [if_neg hc, if_neg hc]
      exact e4 q hq
theorem t_sh_bring (o : eO) (u : Nat) (S : Cm) (s i t j n : Nat) (H : eH) (hS : shAt H u S)  (hs : s < 4) (ht : t < 4) (hi : i + n ≤ 24) (hj : j + n ≤ 24) : eG o 127 0 (eEnt 127 [.ref u, .int (nI s), .int (nI i), .int (nI t), .int (nI j), .int (nI n)]) [] H (fun z => z.1 = none ∧ shAt z.2 u (cJ S 1 (fun q => if (t * 24) + j ≤ q ∧ q < ((t * 24) + j) + n then S.2.1 1 (((s * 24) + i) + (q - ((t * 24) + j))) else S.2.1 1 q)) ∧ off u (u + 4) H z.2) := by
  obtain ⟨h0, h1, h2, h3⟩ := id hS
  show eG o 127 0 [some (.ref u), some (.int (nI s)), some (.int (nI i)), some (.int (nI t)), some (.int (nI j)), some (.int (nI n))] [] H _
  refine g_run 1 1 [some (.ref u), some (.int (nI s)), some (.int (nI i)), some (.int (nI t)), some (.int (nI j)), some (.int (nI n))] [.ref u] H rfl ?_
  refine g_getf rfl rfl h0 rfl ?_
  refine g_run 3 8 [some (.ref u), some (.int (nI s)), some (.int (nI i)), some (.int (nI t)), some (.int (nI j)), some (.int (nI n))] [.int (nI s * nI 24), .ref (u + 1)] H rfl ?_
  refine g_top (nI_mul s 24) ?_
  refine g_run 2 10 [some (.ref u), some (.int (nI s)), some (.int (nI i)), some (.int (nI t)), some (.int (nI j)), some (.int (nI n))] [.int (nI (s * 24) + nI i), .ref (u + 1)] H rfl ?_
  refine g_top (nI_add (s * 24) i) ?_
  refine g_run 1 11 [some (.ref u), some (.int (nI s)), some (.int (nI i)), some (.int (nI t)), some (.int (nI j)), some (.int (nI n))] [.ref u, .int (nI ((s * 24) + i)), .ref (u + 1)] H rfl ?_
  refine g_getf rfl rfl h0 rfl ?_
  refine g_run 3 18 [some (.ref u), some (.int (nI s)), some (.int (nI i)), some (.int (nI t)), some (.int (nI j)), some (.int (nI n))] [.int (nI t * nI 24), .ref (u + 1), .int (nI ((s * 24) + i)), .ref (u + 1)] H rfl ?_
  refine g_top (nI_mul t 24) ?_
  refine g_run 2 21 [some (.ref u), some (.int (nI s)), some (.int (nI i)), some (.int (nI t)), some (.int (nI j)), some (.int (nI n))] [.int (nI (t * 24) + nI j), .ref (u + 1), .int (nI ((s * 24) + i)), .ref (u + 1)] H rfl ?_
  refine g_top (nI_add (t * 24) j) ?_
  refine g_run 1 23 [some (.ref u), some (.int (nI s)), some (.int (nI i)), some (.int (nI t)), some (.int (nI j)), some (.int (nI n))] [.int (nI n), .int (nI ((t * 24) + j)), .ref (u + 1), .int (nI ((s * 24) + i)), .ref (u + 1)] H rfl ?_
  show eG _ 127 23 [some (.ref u), some (.int (nI s)), some (.int (nI i)), some (.int (nI t)), some (.int (nI j)), some (.int (nI n))] [.int (nI n), .int (nI ((t * 24) + j)), .ref (u + 1), .int (nI ((s * 24) + i)), .ref (u + 1)] H _
  refine g_cpy_j rfl rfl h1 h1 (by omega) (by omega) (by decide) (by decide) rfl (fun H1 q1 w1 => ?_)
  show eG _ 127 26 [some (.ref u), some (.int (nI s)), some (.int (nI i)), some (.int (nI t)), some (.int (nI j)), some (.int (nI n))] [] H1 _
  refine g_retv rfl rfl ⟨rfl, ?_, (off_trans off_rfl (off_wide w1 (by omega) (by omega)))⟩
  exact ⟨(off_ob w1 h0 (by omega)), q1, (off_ar w1 h2 (by omega)), (off_ar w1 h3 (by omega))⟩
