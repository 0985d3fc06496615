def fC_ship_1 : Nat → ZS → Int → Int → Int → Int → Option (Int × ZS)
  | 0, _, _, _, _, _ => none
  | n + 1, S, l1, l2, l3, l4 => gC l4 9 (if l4 < 9 then gX l3 9 (gC (zA S 37 l3) 0 (if (zA S 37 l3) < 0 then some (l3, S) else gX l3 9 (gX ((l3 * 8) + (zA S 37 l3)) 72 (gX ((l3 * 8) + (zA S 37 l3)) 72 (gX (zA S 37 l3) 8 (gX (((zA S 41 (zA S 37 l3)) * 8) + (zA S 37 l3)) 72 (gX (((zA S 41 (zA S 37 l3)) * 8) + (zA S 37 l3)) 72 (fC_ship_1 n (wA (wA S 42 ((l3 * 8) + (zA S 37 l3)) ((zA S 42 ((l3 * 8) + (zA S 37 l3))) - l2)) 42 (((zA S 41 (zA S 37 l3)) * 8) + (zA S 37 l3)) ((zA (wA S 42 ((l3 * 8) + (zA S 37 l3)) ((zA S 42 ((l3 * 8) + (zA S 37 l3))) - l2)) 42 (((zA S 41 (zA S 37 l3)) * 8) + (zA S 37 l3))) + l2)) l1 l2 (zA S 41 (zA S 37 l3)) (l4 + 1))))))))) else some (l3, S))
set_option maxRecDepth 100000 in
set_option maxHeartbeats 4000000 in
theorem sC_ship_1 (o : eO) : ∀ (n : Nat) (S : ZS) (l1 l2 l3 l4 : Int) {w : Int × ZS} {r : eP} (h : fC_ship_1 n S l1 l2 l3 l4 = some w) (hk : eG o 87 95 [some (.ref 33), some (.int (zI l1)), some (.int (zI l2)), some (.int (zI w.1)), none, none] [] (rd w.2) r), eG o 87 25 [some (.ref 33), some (.int (zI l1)), some (.int (zI l2)), some (.int (zI l3)), some (.int (zI l4)), none] [] (rd S) r := by
  intro n
  induction n with
  | zero => intro S l1 l2 l3 l4 w r h hk; unfold fC_ship_1 at h; cases h
  | succ n ih =>
    intro S l1 l2 l3 l4 w r h hk
    unfold fC_ship_1 at h
    refine g_run 2 29 [some (.ref 33), some (.int (zI l1)), some (.int (zI l2)), some (.int (zI l3)), some (.int (zI l4)), none] [.int (zI 9), .int (zI l4)] (rd S) rfl ?_
    refine s_icmp_ge rfl h (fun h => ?_) (fun h => ?_)
    · show eG _ 87 95 [some (.ref 33), some (.int (zI l1)), some (.int (zI l2)), some (.int (zI l3)), some (.int (zI l4)), none] [] (rd S) _
      refine g_fgt [false, false, false, false, true, true] ?_
      show eG _ 87 95 [some (.ref 33), some (.int (zI l1)), some (.int (zI l2)), some (.int (zI l3)), none, none] [] (rd S) _
      cases h
      exact hk
    · show eG _ 87 32 [some (.ref 33), some (.int (zI l1)), some (.int (zI l2)), some (.int (zI l3)), some (.int (zI l4)), none] [] (rd S) _
      refine g_run 1 33 [some (.ref 33), some (.int (zI l1)), some (.int (zI l2)), some (.int (zI l3)), some (.int (zI l4)), none] [.ref 33] (rd S) rfl ?_
      refine g_getf rfl rfl (rd_o33 _) rfl ?_
      show eG _ 87 36 [some (.ref 33), some (.int (zI l1)), some (.int (zI l2)), some (.int (zI l3)), some (.int (zI l4)), none] [.ref 37] (rd S) _
      refine g_run 1 37 [some (.ref 33), some (.int (zI l1)), some (.int (zI l2)), some (.int (zI l3)), some (.int (zI l4)), none] [.int (zI l3), .ref 37] (rd S) rfl ?_
      refine s_iald rfl (rd_a37 _) h (fun h => ?_)
      show eG _ 87 38 [some (.ref 33), some (.int (zI l1)), some (.int (zI l2)), some (.int (zI l3)), some (.int (zI l4)), none] [.int (zI (zA S 37 l3))] (rd S) _
      refine s_if_lt rfl h (fun h => ?_) (fun h => ?_)
      · show eG _ 87 95 [some (.ref 33), some (.int (zI l1)), some (.int (zI l2)), some (.int (zI l3)), some (.int (zI l4)), none] [] (rd S) _
        refine g_fgt [false, false, false, false, true, true] ?_
        show eG _ 87 95 [some (.ref 33), some (.int (zI l1)), some (.int (zI l2)), some (.int (zI l3)), none, none] [] (rd S) _
        cases h
        exact hk
      · show eG _ 87 41 [some (.ref 33), some (.int (zI l1)), some (.int (zI l2)), some (.int (zI l3)), some (.int (zI l4)), none] [] (rd S) _
        refine g_run 1 42 [some (.ref 33), some (.int (zI l1)), some (.int (zI l2)), some (.int (zI l3)), some (.int (zI l4)), none] [.ref 33] (rd S) rfl ?_
        refine g_getf rfl rfl (rd_o33 _) rfl ?_
        show eG _ 87 45 [some (.ref 33), some (.int (zI l1)), some (.int (zI l2)), some (.int (zI l3)), some (.int (zI l4)), none] [.ref 37] (rd S) _
        refine g_run 1 46 [some (.ref 33), some (.int (zI l1)), some (.int (zI l2)), some (.int (zI l3)), some (.int (zI l4)), none] [.int (zI l3), .ref 37] (rd S) rfl ?_
        refine s_iald rfl (rd_a37 _) h (fun h => ?_)
        show eG _ 87 47 [some (.ref 33), some (.int (zI l1)), some (.int (zI l2)), some (.int (zI l3)), some (.int (zI l4)), none] [.int (zI (zA S 37 l3))] (rd S) _
        refine g_run 2 50 [some (.ref 33), some (.int (zI l1)), some (.int (zI l2)), some (.int (zI l3)), some (.int (zI l4)), some (.int (zI (zA S 37 l3)))] [.ref 33] (rd S) rfl ?_
        refine g_getf rfl rfl (rd_o33 _) rfl ?_
        show eG _ 87 53 [some (.ref 33), some (.int (zI l1)), some (.int (zI l2)), some (.int (zI l3)), some (.int (zI l4)), some (.int (zI (zA S 37 l3)))] [.ref 42] (rd S) _
        refine g_run 2 56 [some (.ref 33), some (.int (zI l1)), some (.int (zI l2)), some (.int (zI l3)), some (.int (zI l4)), some (.int (zI (zA S 37 l3)))] [.int (zI 8), .int (zI l3), .ref 42] (rd S) rfl ?_
        refine s_imul rfl ?_
        refine g_run 1 59 [some (.ref 33), some (.int (zI l1)), some (.int (zI l2)), some (.int (zI l3)), some (.int (zI l4)), some (.int (zI (zA S 37 l3)))] [.int (zI (zA S 37 l3)), .int (zI (l3 * 8)), .ref 42] (rd S) rfl ?_
        refine s_iadd rfl ?_
        refine g_run 1 61 [some (.ref 33), some (.int (zI l1)), some (.int (zI l2)), some (.int (zI l3)), some (.int (zI l4)), some (.int (zI (zA S 37 l3)))] [.int (zI ((l3 * 8) + (zA S 37 l3))), .ref 42, .int (zI ((l3 * 8) + (zA S 37 l3))), .ref 42] (rd S) rfl ?_
        refine s_iald rfl (rd_a42 _) h (fun h => ?_)
        show eG _ 87 62 [some (.ref 33), some (.int (zI l1)), some (.int (zI l2)), some (.int (zI l3)), some (.int (zI l4)), some (.int (zI (zA S 37 l3)))] [.int (zI (zA S 42 ((l3 * 8) + (zA S 37 l3)))), .int (zI ((l3 * 8) + (zA S 37 l3))), .ref 42] (rd S) _
        refine g_run 1 63 [some (.ref 33), some (.int (zI l1)), some (.int (zI l2)), some (.int (zI l3)), some (.int (zI l4)), some (.int (zI (zA S 37 l3)))] [.int (zI l2), .int (zI (zA S 42 ((l3 * 8) + (zA S 37 l3)))), .int (zI ((l3 * 8) + (zA S 37 l3))), .ref 42] (rd S) rfl ?_
        refine s_isub rfl ?_
        refine s_iast rfl (rd_a42 _) (rw_a42 _ _) h (fun h => ?_)
        show eG _ 87 65 [some (.ref 33), some (.int (zI l1)), some (.int (zI l2)), some (.int (zI l3)), some (.int (zI l4)), some (.int (zI (zA S 37 l3)))] [] (rd (wA S 42 ((l3 * 8) + (zA S 37 l3)) ((zA S 42 ((l3 * 8) + (zA S 37 l3))) - l2))) _
        refine g_run 1 66 [some (.ref 33), some (.int (zI l1)), some (.int (zI l2)), some (.int (zI l3)), some (.int (zI l4)), some (.int (zI (zA S 37 l3)))] [.ref 33] (rd (wA S 42 ((l3 * 8) + (zA S 37 l3)) ((zA S 42 ((l3 * 8) + (zA S 37 l3))) - l2))) rfl ?_
        refine g_getf rfl rfl (rd_o33 _) rfl ?_
        show eG _ 87 69 [some (.ref 33), some (.int (zI l1)), some (.int (zI l2)), some (.int (zI l3)), some (.int (zI l4)), some (.int (zI (zA S 37 l3)))] [.ref 41] (rd (wA S 42 ((l3 * 8) + (zA S 37 l3)) ((zA S 42 ((l3 * 8) + (zA S 37 l3))) - l2))) _
        refine g_run 1 71 [some (.ref 33), some (.int (zI l1)), some (.int (zI l2)), some (.int (zI l3)), some (.int (zI l4)), some (.int (zI (zA S 37 l3)))] [.int (zI (zA S 37 l3)), .ref 41] (rd (wA S 42 ((l3 * 8) + (zA S 37 l3)) ((zA S 42 ((l3 * 8) + (zA S 37 l3))) - l2))) rfl ?_
        refine s_iald rfl (rd_a41 _) h (fun h => ?_)
        show eG _ 87 72 [some (.ref 33), some (.int (zI l1)), some (.int (zI l2)), some (.int (zI l3)), some (.int (zI l4)), some (.int (zI (zA S 37 l3)))] [.int (zI (zA S 41 (zA S 37 l3)))] (rd (wA S 42 ((l3 * 8) + (zA S 37 l3)) ((zA S 42 ((l3 * 8) + (zA S 37 l3))) - l2))) _
        refine g_run 2 74 [some (.ref 33), some (.int (zI l1)), some (.int (zI l2)), some (.int (zI (zA S 41 (zA S 37 l3)))), some (.int (zI l4)), some (.int (zI (zA S 37 l3)))] [.ref 33] (rd (wA S 42 ((l3 * 8) + (zA S 37 l3)) ((zA S 42 ((l3 * 8) + (zA S 37 l3))) - l2))) rfl ?_
        refine g_getf rfl rfl (rd_o33 _) rfl ?_
        show eG _ 87 77 [some (.ref 33), some (.int (zI l1)), some (.int (zI l2)), some (.int (zI (zA S 41 (zA S 37 l3)))), some (.int (zI l4)), some (.int (zI (zA S 37 l3)))] [.ref 42] (rd (wA S 42 ((l3 * 8) + (zA S 37 l3)) ((zA S 42 ((l3 * 8) + (zA S 37 l3))) - l2))) _
        refine g_run 2 80 [some (.ref 33), some (.int (zI l1)), some (.int (zI l2)), some (.int (zI (zA S 41 (zA S 37 l3)))), some (.int (zI l4)), some (.int (zI (zA S 37 l3)))] [.int (zI 8), .int (zI (zA S 41 (zA S 37 l3))), .ref 42] (rd (wA S 42 ((l3 * 8) + (zA S 37 l3)) ((zA S 42 ((l3 * 8) + (zA S 37 l3))) - l2))) rfl ?_
        refine s_imul rfl ?_
        refine g_run 1 83 [some (.ref 33), some (.int (zI l1)), some (.int (zI l2)), some (.int (zI (zA S 41 (zA S 37 l3)))), some (.int (zI l4)), some (.int (zI (zA S 37 l3)))] [.int (zI (zA S 37 l3)), .int (zI ((zA S 41 (zA S 37 l3)) * 8)), .ref 42] (rd (wA S 42 ((l3 * 8) + (zA S 37 l3)) ((zA S 42 ((l3 * 8) + (zA S 37 l3))) - l2))) rfl ?_
        refine s_iadd rfl ?_
        refine g_run 1 85 [some (.ref 33), some (.int (zI l1)), some (.int (zI l2)), some (.int (zI (zA S 41 (zA S 37 l3)))), some (.int (zI l4)), some (.int (zI (zA S 37 l3)))] [.int (zI (((zA S 41 (zA S 37 l3)) * 8) + (zA S 37 l3))), .ref 42, .int (zI (((zA S 41 (zA S 37 l3)) * 8) + (zA S 37 l3))), .ref 42] (rd (wA S 42 ((l3 * 8) + (zA S 37 l3)) ((zA S 42 ((l3 * 8) + (zA S 37 l3))) - l2))) rfl ?_
        refine s_iald rfl (rd_a42 _) h (fun h => ?_)
        show eG _ 87 86 [some (.ref 33), some (.int (zI l1)), some (.int (zI l2)), some (.int (zI (zA S 41 (zA S 37 l3)))), some (.int (zI l4)), some (.int (zI (zA S 37 l3)))] [.int (zI (zA (wA S 42 ((l3 * 8) + (zA S 37 l3)) ((zA S 42 ((l3 * 8) + (zA S 37 l3))) - l2)) 42 (((zA S 41 (zA S 37 l3)) * 8) + (zA S 37 l3)))), .int (zI (((zA S 41 (zA S 37 l3)) * 8) + (zA S 37 l3))), .ref 42] (rd (wA S 42 ((l3 * 8) + (zA S 37 l3)) ((zA S 42 ((l3 * 8) + (zA S 37 l3))) - l2))) _
        refine g_run 1 87 [some (.ref 33), some (.int (zI l1)), some (.int (zI l2)), some (.int (zI (zA S 41 (zA S 37 l3)))), some (.int (zI l4)), some (.int (zI (zA S 37 l3)))] [.int (zI l2), .int (zI (zA (wA S 42 ((l3 * 8) + (zA S 37 l3)) ((zA S 42 ((l3 * 8) + (zA S 37 l3))) - l2)) 42 (((zA S 41 (zA S 37 l3)) * 8) + (zA S 37 l3)))), .int (zI (((zA S 41 (zA S 37 l3)) * 8) + (zA S 37 l3))), .ref 42] (rd (wA S 42 ((l3 * 8) + (zA S 37 l3)) ((zA S 42 ((l3 * 8) + (zA S 37 l3))) - l2))) rfl ?_
        refine s_iadd rfl ?_
        refine s_iast rfl (rd_a42 _) (rw_a42 _ _) h (fun h => ?_)
        show eG _ 87 89 [some (.ref 33), some (.int (zI l1)), some (.int (zI l2)), some (.int (zI (zA S 41 (zA S 37 l3)))), some (.int (zI l4)), some (.int (zI (zA S 37 l3)))] [] (rd (wA (wA S 42 ((l3 * 8) + (zA S 37 l3)) ((zA S 42 ((l3 * 8) + (zA S 37 l3))) - l2)) 42 (((zA S 41 (zA S 37 l3)) * 8) + (zA S 37 l3)) ((zA (wA S 42 ((l3 * 8) + (zA S 37 l3)) ((zA S 42 ((l3 * 8) + (zA S 37 l3))) - l2)) 42 (((zA S 41 (zA S 37 l3)) * 8) + (zA S 37 l3))) + l2))) _
        refine s_iinc (L' := [some (.ref 33), some (.int (zI l1)), some (.int (zI l2)), some (.int (zI (zA S 41 (zA S 37 l3)))), some (.int (zI (l4 + 1))), some (.int (zI (zA S 37 l3)))]) rfl rfl rfl ?_
        refine g_run 1 25 [some (.ref 33), some (.int (zI l1)), some (.int (zI l2)), some (.int (zI (zA S 41 (zA S 37 l3)))), some (.int (zI (l4 + 1))), some (.int (zI (zA S 37 l3)))] [] (rd (wA (wA S 42 ((l3 * 8) + (zA S 37 l3)) ((zA S 42 ((l3 * 8) + (zA S 37 l3))) - l2)) 42 (((zA S 41 (zA S 37 l3)) * 8) + (zA S 37 l3)) ((zA (wA S 42 ((l3 * 8) + (zA S 37 l3)) ((zA S 42 ((l3 * 8) + (zA S 37 l3))) - l2)) 42 (((zA S 41 (zA S 37 l3)) * 8) + (zA S 37 l3))) + l2))) rfl ?_
        refine g_fgt [false, false, false, false, false, true] ?_
        show eG _ 87 25 [some (.ref 33), some (.int (zI l1)), some (.int (zI l2)), some (.int (zI (zA S 41 (zA S 37 l3)))), some (.int (zI (l4 + 1))), none] [] (rd (wA (wA S 42 ((l3 * 8) + (zA S 37 l3)) ((zA S 42 ((l3 * 8) + (zA S 37 l3))) - l2)) 42 (((zA S 41 (zA S 37 l3)) * 8) + (zA S 37 l3)) ((zA (wA S 42 ((l3 * 8) + (zA S 37 l3)) ((zA S 42 ((l3 * 8) + (zA S 37 l3))) - l2)) 42 (((zA S 41 (zA S 37 l3)) * 8) + (zA S 37 l3))) + l2))) _
        exact ih (wA (wA S 42 ((l3 * 8) + (zA S 37 l3)) ((zA S 42 ((l3 * 8) + (zA S 37 l3))) - l2)) 42 (((zA S 41 (zA S 37 l3)) * 8) + (zA S 37 l3)) ((zA (wA S 42 ((l3 * 8) + (zA S 37 l3)) ((zA S 42 ((l3 * 8) + (zA S 37 l3))) - l2)) 42 (((zA S 41 (zA S 37 l3)) * 8) + (zA S 37 l3))) + l2)) l1 l2 (zA S 41 (zA S 37 l3)) (l4 + 1) h hk
def fC_ship (n : Nat) (S : ZS) (l1 l2 : Int) : Option (ZS) := gX l1 8 (gX (((zA S 41 l1) * 8) + l1) 72 (gX (((zA S 41 l1) * 8) + l1) 72 ((fC_ship_1 n (wA S 42 (((zA S 41 l1) * 8) + l1) ((zA S 42 (((zA S 41 l1) * 8) + l1)) + l2)) l1 l2 (zA S 41 l1) 0).bind fun z1 => gX z1.1 9 (gX z1.1 9 (gX l1 8 (gX l1 8 (some (wF (wA (wA z1.2 35 z1.1 ((zA z1.2 35 z1.1) - l2)) 39 l1 ((zA z1.2 39 l1) - l2)) 33 11 ((zF z1.2 33 11) - l2)))))))))
set_option maxRecDepth 100000 in
set_option maxHeartbeats 4000000 in
theorem sC_ship (o : eO) (n : Nat) (S : ZS) (l1 l2 : Int) {w : ZS} (h : fC_ship n S l1 l2 = some w) : eG o 87 0 (eEnt 87 [.ref 33, .int (zI l1), .int (zI l2)]) [] (rd S) (rv (none) (rd w)) := by
  unfold fC_ship at h
  show eG o 87 0 [some (.ref 33), some (.int (zI l1)), some (.int (zI l2)), none, none, none] [] (rd S) _
  refine g_run 1 1 [some (.ref 33), some (.int (zI l1)), some (.int (zI l2)), none, none, none] [.ref 33] (rd S) rfl ?_
  refine g_getf rfl rfl (rd_o33 _) rfl ?_
  show eG _ 87 4 [some (.ref 33), some (.int (zI l1)), some (.int (zI l2)), none, none, none] [.ref 41] (rd S) _
  refine g_run 1 5 [some (.ref 33), some (.int (zI l1)), some (.int (zI l2)), none, none, none] [.int (zI l1), .ref 41] (rd S) rfl ?_
  refine s_iald rfl (rd_a41 _) h (fun h => ?_)
  show eG _ 87 6 [some (.ref 33), some (.int (zI l1)), some (.int (zI l2)), none, none, none] [.int (zI (zA S 41 l1))] (rd S) _
  refine g_run 2 8 [some (.ref 33), some (.int (zI l1)), some (.int (zI l2)), some (.int (zI (zA S 41 l1))), none, none] [.ref 33] (rd S) rfl ?_
  refine g_getf rfl rfl (rd_o33 _) rfl ?_
  show eG _ 87 11 [some (.ref 33), some (.int (zI l1)), some (.int (zI l2)), some (.int (zI (zA S 41 l1))), none, none] [.ref 42] (rd S) _
  refine g_run 2 14 [some (.ref 33), some (.int (zI l1)), some (.int (zI l2)), some (.int (zI (zA S 41 l1))), none, none] [.int (zI 8), .int (zI (zA S 41 l1)), .ref 42] (rd S) rfl ?_
  refine s_imul rfl ?_
  refine g_run 1 16 [some (.ref 33), some (.int (zI l1)), some (.int (zI l2)), some (.int (zI (zA S 41 l1))), none, none] [.int (zI l1), .int (zI ((zA S 41 l1) * 8)), .ref 42] (rd S) rfl ?_
  refine s_iadd rfl ?_
  refine g_run 1 18 [some (.ref 33), some (.int (zI l1)), some (.int (zI l2)), some (.int (zI (zA S 41 l1))), none, none] [.int (zI (((zA S 41 l1) * 8) + l1)), .ref 42, .int (zI (((zA S 41 l1) * 8) + l1)), .ref 42] (rd S) rfl ?_
  refine s_iald rfl (rd_a42 _) h (fun h => ?_)
  show eG _ 87 19 [some (.ref 33), some (.int (zI l1)), some (.int (zI l2)), some (.int (zI (zA S 41 l1))), none, none] [.int (zI (zA S 42 (((zA S 41 l1) * 8) + l1))), .int (zI (((zA S 41 l1) * 8) + l1)), .ref 42] (rd S) _
  refine g_run 1 20 [some (.ref 33), some (.int (zI l1)), some (.int (zI l2)), some (.int (zI (zA S 41 l1))), none, none] [.int (zI l2), .int (zI (zA S 42 (((zA S 41 l1) * 8) + l1))), .int (zI (((zA S 41 l1) * 8) + l1)), .ref 42] (rd S) rfl ?_
  refine s_iadd rfl ?_
  refine s_iast rfl (rd_a42 _) (rw_a42 _ _) h (fun h => ?_)
  show eG _ 87 22 [some (.ref 33), some (.int (zI l1)), some (.int (zI l2)), some (.int (zI (zA S 41 l1))), none, none] [] (rd (wA S 42 (((zA S 41 l1) * 8) + l1) ((zA S 42 (((zA S 41 l1) * 8) + l1)) + l2))) _
  refine g_run 2 25 [some (.ref 33), some (.int (zI l1)), some (.int (zI l2)), some (.int (zI (zA S 41 l1))), some (.int (zI 0)), none] [] (rd (wA S 42 (((zA S 41 l1) * 8) + l1) ((zA S 42 (((zA S 41 l1) * 8) + l1)) + l2))) rfl ?_
  obtain ⟨z1, h1, h⟩ := zB_inv h
  refine sC_ship_1 o n (wA S 42 (((zA S 41 l1) * 8) + l1) ((zA S 42 (((zA S 41 l1) * 8) + l1)) + l2)) l1 l2 (zA S 41 l1) 0 h1 ?_
  show eG _ 87 95 [some (.ref 33), some (.int (zI l1)), some (.int (zI l2)), some (.int (zI z1.1)), none, none] [] (rd z1.2) _
  refine g_run 1 96 [some (.ref 33), some (.int (zI l1)), some (.int (zI l2)), some (.int (zI z1.1)), none, none] [.ref 33] (rd z1.2) rfl ?_
  refine g_getf rfl rfl (rd_o33 _) rfl ?_
  show eG _ 87 99 [some (.ref 33), some (.int (zI l1)), some (.int (zI l2)), some (.int (zI z1.1)), none, none] [.ref 35] (rd z1.2) _
  refine g_run 2 101 [some (.ref 33), some (.int (zI l1)), some (.int (zI l2)), some (.int (zI z1.1)), none, none] [.int (zI z1.1), .ref 35, .int (zI z1.1), .ref 35] (rd z1.2) rfl ?_
  refine s_iald rfl (rd_a35 _) h (fun h => ?_)
  show eG _ 87 102 [some (.ref 33), some (.int (zI l1)), some (.int (zI l2)), some (.int (zI z1.1)), none, none] [.int (zI (zA z1.2 35 z1.1)), .int (zI z1.1), .ref 35] (rd z1.2) _
  refine g_run 1 103 [some (.ref 33), some (.int (zI l1)), some (.int (zI l2)), some (.int (zI z1.1)), none, none] [.int (zI l2), .int (zI (zA z1.2 35 z1.1)), .int (zI z1.1), .ref 35] (rd z1.2) rfl ?_
  refine s_isub rfl ?_
  refine s_iast rfl (rd_a35 _) (rw_a35 _ _) h (fun h => ?_)
  show eG _ 87 105 [some (.ref 33), some (.int (zI l1)), some (.int (zI l2)), some (.int (zI z1.1)), none, none] [] (rd (wA z1.2 35 z1.1 ((zA z1.2 35 z1.1) - l2))) _
  refine g_run 1 106 [some (.ref 33), some (.int (zI l1)), some (.int (zI l2)), some (.int (zI z1.1)), none, none] [.ref 33] (rd (wA z1.2 35 z1.1 ((zA z1.2 35 z1.1) - l2))) rfl ?_
  refine g_getf rfl rfl (rd_o33 _) rfl ?_
  show eG _ 87 109 [some (.ref 33), some (.int (zI l1)), some (.int (zI l2)), some (.int (zI z1.1)), none, none] [.ref 39] (rd (wA z1.2 35 z1.1 ((zA z1.2 35 z1.1) - l2))) _
  refine g_run 2 111 [some (.ref 33), some (.int (zI l1)), some (.int (zI l2)), some (.int (zI z1.1)), none, none] [.int (zI l1), .ref 39, .int (zI l1), .ref 39] (rd (wA z1.2 35 z1.1 ((zA z1.2 35 z1.1) - l2))) rfl ?_
  refine s_iald rfl (rd_a39 _) h (fun h => ?_)
  show eG _ 87 112 [some (.ref 33), some (.int (zI l1)), some (.int (zI l2)), some (.int (zI z1.1)), none, none] [.int (zI (zA z1.2 39 l1)), .int (zI l1), .ref 39] (rd (wA z1.2 35 z1.1 ((zA z1.2 35 z1.1) - l2))) _
  refine g_run 1 113 [some (.ref 33), some (.int (zI l1)), some (.int (zI l2)), some (.int (zI z1.1)), none, none] [.int (zI l2), .int (zI (zA z1.2 39 l1)), .int (zI l1), .ref 39] (rd (wA z1.2 35 z1.1 ((zA z1.2 35 z1.1) - l2))) rfl ?_
  refine s_isub rfl ?_
  refine s_iast rfl (rd_a39 _) (rw_a39 _ _) h (fun h => ?_)
  show eG _ 87 115 [some (.ref 33), some (.int (zI l1)), some (.int (zI l2)), some (.int (zI z1.1)), none, none] [] (rd (wA (wA z1.2 35 z1.1 ((zA z1.2 35 z1.1) - l2)) 39 l1 ((zA z1.2 39 l1) - l2))) _
  refine g_run 2 117 [some (.ref 33), some (.int (zI l1)), some (.int (zI l2)), some (.int (zI z1.1)), none, none] [.ref 33, .ref 33] (rd (wA (wA z1.2 35 z1.1 ((zA z1.2 35 z1.1) - l2)) 39 l1 ((zA z1.2 39 l1) - l2))) rfl ?_
  refine g_getf rfl rfl (rd_o33 _) rfl ?_
  show eG _ 87 120 [some (.ref 33), some (.int (zI l1)), some (.int (zI l2)), some (.int (zI z1.1)), none, none] [.int (zI (zF z1.2 33 11)), .ref 33] (rd (wA (wA z1.2 35 z1.1 ((zA z1.2 35 z1.1) - l2)) 39 l1 ((zA z1.2 39 l1) - l2))) _
  refine g_run 1 121 [some (.ref 33), some (.int (zI l1)), some (.int (zI l2)), some (.int (zI z1.1)), none, none] [.int (zI l2), .int (zI (zF z1.2 33 11)), .ref 33] (rd (wA (wA z1.2 35 z1.1 ((zA z1.2 35 z1.1) - l2)) 39 l1 ((zA z1.2 39 l1) - l2))) rfl ?_
  refine s_isub rfl ?_
  refine s_putf rfl rfl (rd_o33 _) rfl rfl rfl rfl rfl (rw_o33_11 _ _) ?_
  show eG _ 87 125 [some (.ref 33), some (.int (zI l1)), some (.int (zI l2)), some (.int (zI z1.1)), none, none] [] (rd (wF (wA (wA z1.2 35 z1.1 ((zA z1.2 35 z1.1) - l2)) 39 l1 ((zA z1.2 39 l1) - l2)) 33 11 ((zF z1.2 33 11) - l2))) _
  cases h
  exact g_retv rfl rfl rfl
def fC_bring_1 : Nat → ZS → Int → Int → Int → Int → Option (Int × Int)
  | 0, _, _, _, _, _ => none
  | n + 1, S, l1, l2, l3, l4 => gC l4 9 (if l4 < 9 then gX l3 9 (gC (zA S 37 l3) 0 (if (zA S 37 l3) < 0 then some (l2, l3) else gX l3 9 (gX ((l3 * 8) + (zA S 37 l3)) 72 (gC l2 (zA S 42 ((l3 * 8) + (zA S 37 l3))) (gX (zA S 37 l3) 8 (fC_bring_1 n S l1 (min l2 (zA S 42 ((l3 * 8) + (zA S 37 l3)))) (zA S 41 (zA S 37 l3)) (l4 + 1))))))) else some (l2, l3))
set_option maxRecDepth 100000 in
set_option maxHeartbeats 4000000 in
theorem sC_bring_1 (o : eO) : ∀ (n : Nat) (S : ZS) (l1 l2 l3 l4 : Int) {w : Int × Int} {r : eP} (h : fC_bring_1 n S l1 l2 l3 l4 = some w) (hk : eG o 86 72 [some (.ref 33), some (.int (zI l1)), some (.int (zI w.1)), some (.int (zI w.2)), none, none] [] (rd S) r), eG o 86 17 [some (.ref 33), some (.int (zI l1)), some (.int (zI l2)), some (.int (zI l3)), some (.int (zI l4)), none] [] (rd S) r := by
  intro n
  induction n with
  | zero => intro S l1 l2 l3 l4 w r h hk; unfold fC_bring_1 at h; cases h
  | succ n ih =>
    intro S l1 l2 l3 l4 w r h hk
    unfold fC_bring_1 at h
    refine g_run 2 21 [some (.ref 33), some (.int (zI l1)), some (.int (zI l2)), some (.int (zI l3)), some (.int (zI l4)), none] [.int (zI 9), .int (zI l4)] (rd S) rfl ?_
    refine s_icmp_ge rfl h (fun h => ?_) (fun h => ?_)
    · show eG _ 86 72 [some (.ref 33), some (.int (zI l1)), some (.int (zI l2)), some (.int (zI l3)), some (.int (zI l4)), none] [] (rd S) _
      refine g_fgt [false, false, false, false, true, true] ?_
      show eG _ 86 72 [some (.ref 33), some (.int (zI l1)), some (.int (zI l2)), some (.int (zI l3)), none, none] [] (rd S) _
      cases h
      exact hk
    · show eG _ 86 24 [some (.ref 33), some (.int (zI l1)), some (.int (zI l2)), some (.int (zI l3)), some (.int (zI l4)), none] [] (rd S) _
      refine g_run 1 25 [some (.ref 33), some (.int (zI l1)), some (.int (zI l2)), some (.int (zI l3)), some (.int (zI l4)), none] [.ref 33] (rd S) rfl ?_
      refine g_getf rfl rfl (rd_o33 _) rfl ?_
      show eG _ 86 28 [some (.ref 33), some (.int (zI l1)), some (.int (zI l2)), some (.int (zI l3)), some (.int (zI l4)), none] [.ref 37] (rd S) _
      refine g_run 1 29 [some (.ref 33), some (.int (zI l1)), some (.int (zI l2)), some (.int (zI l3)), some (.int (zI l4)), none] [.int (zI l3), .ref 37] (rd S) rfl ?_
      refine s_iald rfl (rd_a37 _) h (fun h => ?_)
      show eG _ 86 30 [some (.ref 33), some (.int (zI l1)), some (.int (zI l2)), some (.int (zI l3)), some (.int (zI l4)), none] [.int (zI (zA S 37 l3))] (rd S) _
      refine s_if_lt rfl h (fun h => ?_) (fun h => ?_)
      · show eG _ 86 72 [some (.ref 33), some (.int (zI l1)), some (.int (zI l2)), some (.int (zI l3)), some (.int (zI l4)), none] [] (rd S) _
        refine g_fgt [false, false, false, false, true, true] ?_
        show eG _ 86 72 [some (.ref 33), some (.int (zI l1)), some (.int (zI l2)), some (.int (zI l3)), none, none] [] (rd S) _
        cases h
        exact hk
      · show eG _ 86 33 [some (.ref 33), some (.int (zI l1)), some (.int (zI l2)), some (.int (zI l3)), some (.int (zI l4)), none] [] (rd S) _
        refine g_run 1 34 [some (.ref 33), some (.int (zI l1)), some (.int (zI l2)), some (.int (zI l3)), some (.int (zI l4)), none] [.ref 33] (rd S) rfl ?_
        refine g_getf rfl rfl (rd_o33 _) rfl ?_
        show eG _ 86 37 [some (.ref 33), some (.int (zI l1)), some (.int (zI l2)), some (.int (zI l3)), some (.int (zI l4)), none] [.ref 37] (rd S) _
        refine g_run 1 38 [some (.ref 33), some (.int (zI l1)), some (.int (zI l2)), some (.int (zI l3)), some (.int (zI l4)), none] [.int (zI l3), .ref 37] (rd S) rfl ?_
        refine s_iald rfl (rd_a37 _) h (fun h => ?_)
        show eG _ 86 39 [some (.ref 33), some (.int (zI l1)), some (.int (zI l2)), some (.int (zI l3)), some (.int (zI l4)), none] [.int (zI (zA S 37 l3))] (rd S) _
        refine g_run 3 43 [some (.ref 33), some (.int (zI l1)), some (.int (zI l2)), some (.int (zI l3)), some (.int (zI l4)), some (.int (zI (zA S 37 l3)))] [.ref 33, .int (zI l2)] (rd S) rfl ?_
        refine g_getf rfl rfl (rd_o33 _) rfl ?_
        show eG _ 86 46 [some (.ref 33), some (.int (zI l1)), some (.int (zI l2)), some (.int (zI l3)), some (.int (zI l4)), some (.int (zI (zA S 37 l3)))] [.ref 42, .int (zI l2)] (rd S) _
        refine g_run 2 49 [some (.ref 33), some (.int (zI l1)), some (.int (zI l2)), some (.int (zI l3)), some (.int (zI l4)), some (.int (zI (zA S 37 l3)))] [.int (zI 8), .int (zI l3), .ref 42, .int (zI l2)] (rd S) rfl ?_
        refine s_imul rfl ?_
        refine g_run 1 52 [some (.ref 33), some (.int (zI l1)), some (.int (zI l2)), some (.int (zI l3)), some (.int (zI l4)), some (.int (zI (zA S 37 l3)))] [.int (zI (zA S 37 l3)), .int (zI (l3 * 8)), .ref 42, .int (zI l2)] (rd S) rfl ?_
        refine s_iadd rfl ?_
        refine s_iald rfl (rd_a42 _) h (fun h => ?_)
        show eG _ 86 54 [some (.ref 33), some (.int (zI l1)), some (.int (zI l2)), some (.int (zI l3)), some (.int (zI l4)), some (.int (zI (zA S 37 l3)))] [.int (zI (zA S 42 ((l3 * 8) + (zA S 37 l3)))), .int (zI l2)] (rd S) _
        refine s_min rfl rfl rfl rfl h (fun h => ?_)
        refine g_run 2 59 [some (.ref 33), some (.int (zI l1)), some (.int (zI (min l2 (zA S 42 ((l3 * 8) + (zA S 37 l3)))))), some (.int (zI l3)), some (.int (zI l4)), some (.int (zI (zA S 37 l3)))] [.ref 33] (rd S) rfl ?_
        refine g_getf rfl rfl (rd_o33 _) rfl ?_
        show eG _ 86 62 [some (.ref 33), some (.int (zI l1)), some (.int (zI (min l2 (zA S 42 ((l3 * 8) + (zA S 37 l3)))))), some (.int (zI l3)), some (.int (zI l4)), some (.int (zI (zA S 37 l3)))] [.ref 41] (rd S) _
        refine g_run 1 64 [some (.ref 33), some (.int (zI l1)), some (.int (zI (min l2 (zA S 42 ((l3 * 8) + (zA S 37 l3)))))), some (.int (zI l3)), some (.int (zI l4)), some (.int (zI (zA S 37 l3)))] [.int (zI (zA S 37 l3)), .ref 41] (rd S) rfl ?_
        refine s_iald rfl (rd_a41 _) h (fun h => ?_)
        show eG _ 86 65 [some (.ref 33), some (.int (zI l1)), some (.int (zI (min l2 (zA S 42 ((l3 * 8) + (zA S 37 l3)))))), some (.int (zI l3)), some (.int (zI l4)), some (.int (zI (zA S 37 l3)))] [.int (zI (zA S 41 (zA S 37 l3)))] (rd S) _
        refine g_run 1 66 [some (.ref 33), some (.int (zI l1)), some (.int (zI (min l2 (zA S 42 ((l3 * 8) + (zA S 37 l3)))))), some (.int (zI (zA S 41 (zA S 37 l3)))), some (.int (zI l4)), some (.int (zI (zA S 37 l3)))] [] (rd S) rfl ?_
        refine s_iinc (L' := [some (.ref 33), some (.int (zI l1)), some (.int (zI (min l2 (zA S 42 ((l3 * 8) + (zA S 37 l3)))))), some (.int (zI (zA S 41 (zA S 37 l3)))), some (.int (zI (l4 + 1))), some (.int (zI (zA S 37 l3)))]) rfl rfl rfl ?_
        refine g_run 1 17 [some (.ref 33), some (.int (zI l1)), some (.int (zI (min l2 (zA S 42 ((l3 * 8) + (zA S 37 l3)))))), some (.int (zI (zA S 41 (zA S 37 l3)))), some (.int (zI (l4 + 1))), some (.int (zI (zA S 37 l3)))] [] (rd S) rfl ?_
        refine g_fgt [false, false, false, false, false, true] ?_
        show eG _ 86 17 [some (.ref 33), some (.int (zI l1)), some (.int (zI (min l2 (zA S 42 ((l3 * 8) + (zA S 37 l3)))))), some (.int (zI (zA S 41 (zA S 37 l3)))), some (.int (zI (l4 + 1))), none] [] (rd S) _
        exact ih S l1 (min l2 (zA S 42 ((l3 * 8) + (zA S 37 l3)))) (zA S 41 (zA S 37 l3)) (l4 + 1) h hk
def fC_bring (n : Nat) (S : ZS) (l1 : Int) : Option (Int × ZS) := gX l1 8 (gX l1 8 ((fC_bring_1 n S l1 (zA S 39 l1) (zA S 41 l1) 0).bind fun z1 => gX z1.2 9 (gC z1.1 (zA S 35 z1.2) ((fC_ship n S l1 (min z1.1 (zA S 35 z1.2))).bind fun z2 => some (min z1.1 (zA S 35 z1.2), z2)))))
set_option maxRecDepth 100000 in
set_option maxHeartbeats 4000000 in
theorem sC_bring (o : eO) (n : Nat) (S : ZS) (l1 : Int) {w : Int × ZS} (h : fC_bring n S l1 = some w) : eG o 86 0 (eEnt 86 [.ref 33, .int (zI l1)]) [] (rd S) (rv (some (.int (zI w.1))) (rd w.2)) := by
  unfold fC_bring at h
  show eG o 86 0 [some (.ref 33), some (.int (zI l1)), none, none, none, none] [] (rd S) _
  refine g_run 1 1 [some (.ref 33), some (.int (zI l1)), none, none, none, none] [.ref 33] (rd S) rfl ?_
  refine g_getf rfl rfl (rd_o33 _) rfl ?_
  show eG _ 86 4 [some (.ref 33), some (.int (zI l1)), none, none, none, none] [.ref 39] (rd S) _
  refine g_run 1 5 [some (.ref 33), some (.int (zI l1)), none, none, none, none] [.int (zI l1), .ref 39] (rd S) rfl ?_
  refine s_iald rfl (rd_a39 _) h (fun h => ?_)
  show eG _ 86 6 [some (.ref 33), some (.int (zI l1)), none, none, none, none] [.int (zI (zA S 39 l1))] (rd S) _
  refine g_run 2 8 [some (.ref 33), some (.int (zI l1)), some (.int (zI (zA S 39 l1))), none, none, none] [.ref 33] (rd S) rfl ?_
  refine g_getf rfl rfl (rd_o33 _) rfl ?_
  show eG _ 86 11 [some (.ref 33), some (.int (zI l1)), some (.int (zI (zA S 39 l1))), none, none, none] [.ref 41] (rd S) _
  refine g_run 1 12 [some (.ref 33), some (.int (zI l1)), some (.int (zI (zA S 39 l1))), none, none, none] [.int (zI l1), .ref 41] (rd S) rfl ?_
  refine s_iald rfl (rd_a41 _) h (fun h => ?_)
  show eG _ 86 13 [some (.ref 33), some (.int (zI l1)), some (.int (zI (zA S 39 l1))), none, none, none] [.int (zI (zA S 41 l1))] (rd S) _
  refine g_run 3 17 [some (.ref 33), some (.int (zI l1)), some (.int (zI (zA S 39 l1))), some (.int (zI (zA S 41 l1))), some (.int (zI 0)), none] [] (rd S) rfl ?_
  obtain ⟨z1, h1, h⟩ := zB_inv h
  refine sC_bring_1 o n S l1 (zA S 39 l1) (zA S 41 l1) 0 h1 ?_
  show eG _ 86 72 [some (.ref 33), some (.int (zI l1)), some (.int (zI z1.1)), some (.int (zI z1.2)), none, none] [] (rd S) _
  refine g_run 2 74 [some (.ref 33), some (.int (zI l1)), some (.int (zI z1.1)), some (.int (zI z1.2)), none, none] [.ref 33, .int (zI z1.1)] (rd S) rfl ?_
  refine g_getf rfl rfl (rd_o33 _) rfl ?_
  show eG _ 86 77 [some (.ref 33), some (.int (zI l1)), some (.int (zI z1.1)), some (.int (zI z1.2)), none, none] [.ref 35, .int (zI z1.1)] (rd S) _
  refine g_run 1 78 [some (.ref 33), some (.int (zI l1)), some (.int (zI z1.1)), some (.int (zI z1.2)), none, none] [.int (zI z1.2), .ref 35, .int (zI z1.1)] (rd S) rfl ?_
  refine s_iald rfl (rd_a35 _) h (fun h => ?_)
  show eG _ 86 79 [some (.ref 33), some (.int (zI l1)), some (.int (zI z1.1)), some (.int (zI z1.2)), none, none] [.int (zI (zA S 35 z1.2)), .int (zI z1.1)] (rd S) _
  refine s_min rfl rfl rfl rfl h (fun h => ?_)
  refine g_run 4 86 [some (.ref 33), some (.int (zI l1)), some (.int (zI (min z1.1 (zA S 35 z1.2)))), some (.int (zI z1.2)), none, none] [.int (zI (min z1.1 (zA S 35 z1.2))), .int (zI l1), .ref 33] (rd S) rfl ?_
  refine s_vir (fun _ => none) (fun z => rd z) rfl rfl rfl (rd_o33 _) rfl rfl (fun z hz => sC_ship o n S l1 (min z1.1 (zA S 35 z1.2)) hz) rfl h (fun z2 h => ?_)
  show eG _ 86 89 [some (.ref 33), some (.int (zI l1)), some (.int (zI (min z1.1 (zA S 35 z1.2)))), some (.int (zI z1.2)), none, none] [] (rd z2) _
  refine g_run 1 90 [some (.ref 33), some (.int (zI l1)), some (.int (zI (min z1.1 (zA S 35 z1.2)))), some (.int (zI z1.2)), none, none] [.int (zI (min z1.1 (zA S 35 z1.2)))] (rd z2) rfl ?_
  cases h
  exact s_ret rfl rfl rfl
def fC_leastCarried_1 : Nat → ZS → Int → Int → Int → Option ((Int × ZS) ⊕ (Int × ZS))
  | 0, _, _, _, _ => none
  | n + 1, S, l1, l2, l3 => gC l3 l2 (if l3 < l2 then gC (zF S 33 11) 0 (if 0 < (zF S 33 11) then (fC_findWays n S).bind fun z1 => (fC_nearestSite n z1).bind fun z2 => gC z2 0 (if z2 < 0 then some (.inl (l1, z1)) else gX z2 8 ((fC_bring n z1 z2).bind fun z3 => fC_leastCarried_1 n z3.2 (l1 + ((zA z1 40 z2) * z3.1)) l2 (l3 + 1))) else some (.inr (l1, S))) else some (.inr (l1, S)))
set_option maxRecDepth 100000 in
set_option maxHeartbeats 4000000 in
theorem sC_leastCarried_1 (o : eO) : ∀ (n : Nat) (S : ZS) (l1 l2 l3 : Int) {w : (Int × ZS) ⊕ (Int × ZS)} {r : eP} (h : fC_leastCarried_1 n S l1 l2 l3 = some w) (hr : ∀ v, w = .inl v → r (some (.int (zI v.1)), rd v.2)) (hk : ∀ x, w = .inr x → eG o 80 64 [none, some (.int (zI x.1)), none, none, none, none] [] (rd x.2) r), eG o 80 8 [some (.ref 33), some (.int (zI l1)), some (.int (zI l2)), some (.int (zI l3)), none, none] [] (rd S) r := by
  intro n
  induction n with
  | zero => intro S l1 l2 l3 w r h hr hk; unfold fC_leastCarried_1 at h; cases h
  | succ n ih =>
    intro S l1 l2 l3 w r h hr hk
    unfold fC_leastCarried_1 at h
    refine g_run 2 10 [some (.ref 33), some (.int (zI l1)), some (.int (zI l2)), some (.int (zI l3)), none, none] [.int (zI l2), .int (zI l3)] (rd S) rfl ?_
    refine s_icmp_ge rfl h (fun h => ?_) (fun h => ?_)
    · show eG _ 80 64 [some (.ref 33), some (.int (zI l1)), some (.int (zI l2)), some (.int (zI l3)), none, none] [] (rd S) _
      refine g_fgt [true, false, true, true, true, true] ?_
      show eG _ 80 64 [none, some (.int (zI l1)), none, none, none, none] [] (rd S) _
      cases h
      exact hk _ rfl
    · show eG _ 80 13 [some (.ref 33), some (.int (zI l1)), some (.int (zI l2)), some (.int (zI l3)), none, none] [] (rd S) _
      refine g_run 1 14 [some (.ref 33), some (.int (zI l1)), some (.int (zI l2)), some (.int (zI l3)), none, none] [.ref 33] (rd S) rfl ?_
      refine g_getf rfl rfl (rd_o33 _) rfl ?_
      show eG _ 80 17 [some (.ref 33), some (.int (zI l1)), some (.int (zI l2)), some (.int (zI l3)), none, none] [.int (zI (zF S 33 11))] (rd S) _
      refine s_if_le rfl h (fun h => ?_) (fun h => ?_)
      · show eG _ 80 64 [some (.ref 33), some (.int (zI l1)), some (.int (zI l2)), some (.int (zI l3)), none, none] [] (rd S) _
        refine g_fgt [true, false, true, true, true, true] ?_
        show eG _ 80 64 [none, some (.int (zI l1)), none, none, none, none] [] (rd S) _
        cases h
        exact hk _ rfl
      · show eG _ 80 20 [some (.ref 33), some (.int (zI l1)), some (.int (zI l2)), some (.int (zI l3)), none, none] [] (rd S) _
        refine g_run 1 21 [some (.ref 33), some (.int (zI l1)), some (.int (zI l2)), some (.int (zI l3)), none, none] [.ref 33] (rd S) rfl ?_
        refine s_vir (fun _ => none) (fun z => rd z) rfl rfl rfl (rd_o33 _) rfl rfl (fun z hz => sC_findWays o n S hz) rfl h (fun z1 h => ?_)
        show eG _ 80 24 [some (.ref 33), some (.int (zI l1)), some (.int (zI l2)), some (.int (zI l3)), none, none] [] (rd z1) _
        refine g_run 1 25 [some (.ref 33), some (.int (zI l1)), some (.int (zI l2)), some (.int (zI l3)), none, none] [.ref 33] (rd z1) rfl ?_
        refine s_vir (fun z => some (.int (zI z))) (fun _ => rd z1) rfl rfl rfl (rd_o33 _) rfl rfl (fun z hz => sC_nearestSite o n z1 hz) rfl h (fun z2 h => ?_)
        show eG _ 80 28 [some (.ref 33), some (.int (zI l1)), some (.int (zI l2)), some (.int (zI l3)), none, none] [.int (zI z2)] (rd z1) _
        refine g_run 2 32 [some (.ref 33), some (.int (zI l1)), some (.int (zI l2)), some (.int (zI l3)), some (.int (zI z2)), none] [.int (zI z2)] (rd z1) rfl ?_
        refine s_if_ge rfl h (fun h => ?_) (fun h => ?_)
        · show eG _ 80 37 [some (.ref 33), some (.int (zI l1)), some (.int (zI l2)), some (.int (zI l3)), some (.int (zI z2)), none] [] (rd z1) _
          refine g_run 1 38 [some (.ref 33), some (.int (zI l1)), some (.int (zI l2)), some (.int (zI l3)), some (.int (zI z2)), none] [.ref 33] (rd z1) rfl ?_
          refine g_getf rfl rfl (rd_o33 _) rfl ?_
          show eG _ 80 41 [some (.ref 33), some (.int (zI l1)), some (.int (zI l2)), some (.int (zI l3)), some (.int (zI z2)), none] [.ref 40] (rd z1) _
          refine g_run 1 43 [some (.ref 33), some (.int (zI l1)), some (.int (zI l2)), some (.int (zI l3)), some (.int (zI z2)), none] [.int (zI z2), .ref 40] (rd z1) rfl ?_
          refine s_iald rfl (rd_a40 _) h (fun h => ?_)
          show eG _ 80 44 [some (.ref 33), some (.int (zI l1)), some (.int (zI l2)), some (.int (zI l3)), some (.int (zI z2)), none] [.int (zI (zA z1 40 z2))] (rd z1) _
          refine g_run 5 52 [some (.ref 33), some (.int (zI l1)), some (.int (zI l2)), some (.int (zI l3)), some (.int (zI z2)), some (.int (zI (zA z1 40 z2)))] [.int (zI z2), .ref 33, .int (zI (zA z1 40 z2)), .int (zI l1)] (rd z1) rfl ?_
          refine s_vir (fun z => some (.int (zI z.1))) (fun z => rd z.2) rfl rfl rfl (rd_o33 _) rfl rfl (fun z hz => sC_bring o n z1 z2 hz) rfl h (fun z3 h => ?_)
          show eG _ 80 55 [some (.ref 33), some (.int (zI l1)), some (.int (zI l2)), some (.int (zI l3)), some (.int (zI z2)), some (.int (zI (zA z1 40 z2)))] [.int (zI z3.1), .int (zI (zA z1 40 z2)), .int (zI l1)] (rd z3.2) _
          refine s_imul rfl ?_
          refine s_iadd rfl ?_
          refine g_run 1 58 [some (.ref 33), some (.int (zI (l1 + ((zA z1 40 z2) * z3.1)))), some (.int (zI l2)), some (.int (zI l3)), some (.int (zI z2)), some (.int (zI (zA z1 40 z2)))] [] (rd z3.2) rfl ?_
          refine s_iinc (L' := [some (.ref 33), some (.int (zI (l1 + ((zA z1 40 z2) * z3.1)))), some (.int (zI l2)), some (.int (zI (l3 + 1))), some (.int (zI z2)), some (.int (zI (zA z1 40 z2)))]) rfl rfl rfl ?_
          refine g_run 1 8 [some (.ref 33), some (.int (zI (l1 + ((zA z1 40 z2) * z3.1)))), some (.int (zI l2)), some (.int (zI (l3 + 1))), some (.int (zI z2)), some (.int (zI (zA z1 40 z2)))] [] (rd z3.2) rfl ?_
          refine g_fgt [false, false, false, false, true, true] ?_
          show eG _ 80 8 [some (.ref 33), some (.int (zI (l1 + ((zA z1 40 z2) * z3.1)))), some (.int (zI l2)), some (.int (zI (l3 + 1))), none, none] [] (rd z3.2) _
          exact ih z3.2 (l1 + ((zA z1 40 z2) * z3.1)) l2 (l3 + 1) h hr hk
        · show eG _ 80 35 [some (.ref 33), some (.int (zI l1)), some (.int (zI l2)), some (.int (zI l3)), some (.int (zI z2)), none] [] (rd z1) _
          refine g_run 1 36 [some (.ref 33), some (.int (zI l1)), some (.int (zI l2)), some (.int (zI l3)), some (.int (zI z2)), none] [.int (zI l1)] (rd z1) rfl ?_
          cases h
          exact s_ret rfl rfl (hr _ rfl)
def fC_leastCarried (n : Nat) (S : ZS) : Option (Int × ZS) := zR (fC_leastCarried_1 n S 0 792 0) fun z1 => some (z1.1, z1.2)
set_option maxRecDepth 100000 in
set_option maxHeartbeats 4000000 in
theorem sC_leastCarried (o : eO) (n : Nat) (S : ZS) {w : Int × ZS} (h : fC_leastCarried n S = some w) : eG o 80 0 (eEnt 80 [.ref 33]) [] (rd S) (rv (some (.int (zI w.1))) (rd w.2)) := by
  unfold fC_leastCarried at h
  show eG o 80 0 [some (.ref 33), none, none, none, none, none] [] (rd S) _
  refine g_run 6 8 [some (.ref 33), some (.int (zI 0)), some (.int (zI 792)), some (.int (zI 0)), none, none] [] (rd S) rfl ?_
  rcases zR_inv h with h1 | ⟨z1, h1, h⟩
  · exact sC_leastCarried_1 o n S 0 792 0 h1 (fun v e => by cases e; rfl) (fun x e => by cases e)
  refine sC_leastCarried_1 o n S 0 792 0 h1 (fun v e => by cases e) (fun x e => ?_)
  cases e
  show eG _ 80 64 [none, some (.int (zI z1.1)), none, none, none, none] [] (rd z1.2) _
  refine g_run 1 65 [none, some (.int (zI z1.1)), none, none, none, none] [.int (zI z1.1)] (rd z1.2) rfl ?_
  cases h
  exact s_ret rfl rfl rfl
def fD_carry (n : Nat) (S : ZS) (l1 l2 : Int) : Option (Int × ZS) := gC l1 0 (gC l2 0 ((fT_isWeek n S 1 l1 l2).bind fun z1 => gC z1 0 (if z1 = 0 then some (-1, S) else (fC_load n S l1 l2).bind fun z2 => (fC_isEnough n z2).bind fun z3 => gC z3 0 (if z3 = 0 then some (-4, z2) else (fC_leastCarried n z2).bind fun z4 => some (z4.1, z4.2)))))
set_option maxRecDepth 100000 in
set_option maxHeartbeats 4000000 in
theorem sD_carry (o : eO) (n : Nat) (S : ZS) (l1 l2 : Int) {w : Int × ZS} (h : fD_carry n S l1 l2 = some w) : eG o 74 0 (eEnt 74 [.ref 0, .int (zI l1), .int (zI l2)]) [] (rd S) (rv (some (.int (zI w.1))) (rd w.2)) := by
  unfold fD_carry at h
  show eG o 74 0 [some (.ref 0), some (.int (zI l1)), some (.int (zI l2))] [] (rd S) _
  refine g_run 1 1 [some (.ref 0), some (.int (zI l1)), some (.int (zI l2))] [.ref 0] (rd S) rfl ?_
  refine g_getf rfl rfl (rd_o0 _) rfl ?_
  show eG _ 74 4 [some (.ref 0), some (.int (zI l1)), some (.int (zI l2))] [.ref 1] (rd S) _
  refine g_run 1 5 [some (.ref 0), some (.int (zI l1)), some (.int (zI l2))] [.int (zI l1), .ref 1] (rd S) rfl ?_
  refine s_i2l rfl h (fun h => ?_)
  refine g_run 1 7 [some (.ref 0), some (.int (zI l1)), some (.int (zI l2))] [.int (zI l2), .long (zL l1), .ref 1] (rd S) rfl ?_
  refine s_i2l rfl h (fun h => ?_)
  refine s_vir (fun z => some (.int (zI z))) (fun _ => rd S) rfl rfl rfl (rd_o1 _) rfl rfl (fun z hz => sT_isWeek o n S 1 (Or.inl rfl) l1 l2 hz) rfl h (fun z1 h => ?_)
  show eG _ 74 11 [some (.ref 0), some (.int (zI l1)), some (.int (zI l2))] [.int (zI z1)] (rd S) _
  refine s_if_ne rfl h (fun h => ?_) (fun h => ?_)
  · show eG _ 74 16 [some (.ref 0), some (.int (zI l1)), some (.int (zI l2))] [] (rd S) _
    refine g_run 1 17 [some (.ref 0), some (.int (zI l1)), some (.int (zI l2))] [.ref 0] (rd S) rfl ?_
    refine g_getf rfl rfl (rd_o0 _) rfl ?_
    show eG _ 74 20 [some (.ref 0), some (.int (zI l1)), some (.int (zI l2))] [.ref 33] (rd S) _
    refine g_run 1 21 [some (.ref 0), some (.int (zI l1)), some (.int (zI l2))] [.ref 0, .ref 33] (rd S) rfl ?_
    refine g_getf rfl rfl (rd_o0 _) rfl ?_
    show eG _ 74 24 [some (.ref 0), some (.int (zI l1)), some (.int (zI l2))] [.ref 1, .ref 33] (rd S) _
    refine g_run 2 26 [some (.ref 0), some (.int (zI l1)), some (.int (zI l2))] [.int (zI l2), .int (zI l1), .ref 1, .ref 33] (rd S) rfl ?_
    refine s_vir (fun _ => none) (fun z => rd z) rfl rfl rfl (rd_o33 _) rfl rfl (fun z hz => sC_load o n S l1 l2 hz) rfl h (fun z2 h => ?_)
    show eG _ 74 29 [some (.ref 0), some (.int (zI l1)), some (.int (zI l2))] [] (rd z2) _
    refine g_run 1 30 [some (.ref 0), some (.int (zI l1)), some (.int (zI l2))] [.ref 0] (rd z2) rfl ?_
    refine g_getf rfl rfl (rd_o0 _) rfl ?_
    show eG _ 74 33 [some (.ref 0), some (.int (zI l1)), some (.int (zI l2))] [.ref 33] (rd z2) _
    refine s_vir (fun z => some (.int (zI z))) (fun _ => rd z2) rfl rfl rfl (rd_o33 _) rfl rfl (fun z hz => sC_isEnough o n z2 hz) rfl h (fun z3 h => ?_)
    show eG _ 74 36 [some (.ref 0), some (.int (zI l1)), some (.int (zI l2))] [.int (zI z3)] (rd z2) _
    refine s_if_eq rfl h (fun h => ?_) (fun h => ?_)
    · show eG _ 74 49 [some (.ref 0), some (.int (zI l1)), some (.int (zI l2))] [] (rd z2) _
      refine g_run 1 51 [some (.ref 0), some (.int (zI l1)), some (.int (zI l2))] [.int (zI (-4))] (rd z2) rfl ?_
      cases h
      exact s_ret rfl rfl rfl
    · show eG _ 74 39 [some (.ref 0), some (.int (zI l1)), some (.int (zI l2))] [] (rd z2) _
      refine g_run 1 40 [some (.ref 0), some (.int (zI l1)), some (.int (zI l2))] [.ref 0] (rd z2) rfl ?_
      refine g_getf rfl rfl (rd_o0 _) rfl ?_
      show eG _ 74 43 [some (.ref 0), some (.int (zI l1)), some (.int (zI l2))] [.ref 33] (rd z2) _
      refine s_vir (fun z => some (.int (zI z.1))) (fun z => rd z.2) rfl rfl rfl (rd_o33 _) rfl rfl (fun z hz => sC_leastCarried o n z2 hz) rfl h (fun z4 h => ?_)
      show eG _ 74 46 [some (.ref 0), some (.int (zI l1)), some (.int (zI l2))] [.int (zI z4.1)] (rd z4.2) _
      refine g_run 1 51 [some (.ref 0), some (.int (zI l1)), some (.int (zI l2))] [.int (zI z4.1)] (rd z4.2) rfl ?_
      cases h
      exact s_ret rfl rfl rfl
  · show eG _ 74 14 [some (.ref 0), some (.int (zI l1)), some (.int (zI l2))] [] (rd S) _
    refine g_run 1 15 [some (.ref 0), some (.int (zI l1)), some (.int (zI l2))] [.int (zI (-1))] (rd S) rfl ?_
    cases h
    exact s_ret rfl rfl rfl
def fB_isBuilder (n : Nat) (S : ZS) (l0 : Int) : Option (Int) := gC l0 0 (if l0 < 0 then gB 0 (some 0) else gC l0 3 (if 3 < l0 then gB 0 (some 0) else gB 1 (some 1)))
set_option maxRecDepth 100000 in
set_option maxHeartbeats 4000000 in
theorem sB_isBuilder (o : eO) (n : Nat) (S : ZS) (l0 : Int) {w : Int} (h : fB_isBuilder n S l0 = some w) : eG o 89 0 (eEnt 89 [.int (zI l0)]) [] (rd S) (rv (some (.int (zI w))) (rd S)) := by
  unfold fB_isBuilder at h
  show eG o 89 0 [some (.int (zI l0))] [] (rd S) _
  refine g_run 1 1 [some (.int (zI l0))] [.int (zI l0)] (rd S) rfl ?_
  refine s_if_lt rfl h (fun h => ?_) (fun h => ?_)
  · show eG _ 89 13 [some (.int (zI l0))] [] (rd S) _
    refine g_run 1 14 [some (.int (zI l0))] [.int (zI 0)] (rd S) rfl ?_
    exact s_retB rfl rfl h (fun h => by cases h; exact rfl)
  · show eG _ 89 4 [some (.int (zI l0))] [] (rd S) _
    refine g_run 2 6 [some (.int (zI l0))] [.int (zI 3), .int (zI l0)] (rd S) rfl ?_
    refine s_icmp_gt rfl h (fun h => ?_) (fun h => ?_)
    · show eG _ 89 13 [some (.int (zI l0))] [] (rd S) _
      refine g_run 1 14 [some (.int (zI l0))] [.int (zI 0)] (rd S) rfl ?_
      exact s_retB rfl rfl h (fun h => by cases h; exact rfl)
    · show eG _ 89 9 [some (.int (zI l0))] [] (rd S) _
      refine g_run 2 14 [some (.int (zI l0))] [.int (zI 1)] (rd S) rfl ?_
      exact s_retB rfl rfl h (fun h => by cases h; exact rfl)
def fB_sortByYards_2 : Nat → ZS → Int → Int → Int → Option (Int × ZS)
  | 0, _, _, _, _ => none
  | n + 1, S, l2, l3, l4 => gC l4 0 (if 0 < l4 then gX (l4 - 1) 8 (gX (zA S 44 (l4 - 1)) 8 (gX l3 8 (gC (zA S 3 (zA S 44 (l4 - 1))) (zA S 3 l3) (if (zA S 3 l3) < (zA S 3 (zA S 44 (l4 - 1))) then gX (l4 - 1) 8 (gX l4 8 (fB_sortByYards_2 n (wA S 44 l4 (zA S 44 (l4 - 1))) l2 l3 (l4 + (-1)))) else some (l4, S))))) else some (l4, S))
set_option maxRecDepth 100000 in
set_option maxHeartbeats 4000000 in
theorem sB_sortByYards_2 (o : eO) : ∀ (n : Nat) (S : ZS) (l2 l3 l4 : Int) {w : Int × ZS} {r : eP} (h : fB_sortByYards_2 n S l2 l3 l4 = some w) (hk : eG o 91 70 [some (.ref 43), some (.ref 1), some (.int (zI l2)), some (.int (zI l3)), some (.int (zI w.1))] [] (rd w.2) r), eG o 91 20 [some (.ref 43), some (.ref 1), some (.int (zI l2)), some (.int (zI l3)), some (.int (zI l4))] [] (rd S) r := by
  intro n
  induction n with
  | zero => intro S l2 l3 l4 w r h hk; unfold fB_sortByYards_2 at h; cases h
  | succ n ih =>
    intro S l2 l3 l4 w r h hk
    unfold fB_sortByYards_2 at h
    refine g_run 1 22 [some (.ref 43), some (.ref 1), some (.int (zI l2)), some (.int (zI l3)), some (.int (zI l4))] [.int (zI l4)] (rd S) rfl ?_
    refine s_if_le rfl h (fun h => ?_) (fun h => ?_)
    · show eG _ 91 70 [some (.ref 43), some (.ref 1), some (.int (zI l2)), some (.int (zI l3)), some (.int (zI l4))] [] (rd S) _
      cases h
      exact hk
    · show eG _ 91 25 [some (.ref 43), some (.ref 1), some (.int (zI l2)), some (.int (zI l3)), some (.int (zI l4))] [] (rd S) _
      refine g_run 1 26 [some (.ref 43), some (.ref 1), some (.int (zI l2)), some (.int (zI l3)), some (.int (zI l4))] [.ref 1] (rd S) rfl ?_
      refine g_getf rfl rfl (rd_o1 _) rfl ?_
      show eG _ 91 29 [some (.ref 43), some (.ref 1), some (.int (zI l2)), some (.int (zI l3)), some (.int (zI l4))] [.ref 3] (rd S) _
      refine g_run 1 30 [some (.ref 43), some (.ref 1), some (.int (zI l2)), some (.int (zI l3)), some (.int (zI l4))] [.ref 43, .ref 3] (rd S) rfl ?_
      refine g_getf rfl rfl (rd_o43 _) rfl ?_
      show eG _ 91 33 [some (.ref 43), some (.ref 1), some (.int (zI l2)), some (.int (zI l3)), some (.int (zI l4))] [.ref 44, .ref 3] (rd S) _
      refine g_run 2 36 [some (.ref 43), some (.ref 1), some (.int (zI l2)), some (.int (zI l3)), some (.int (zI l4))] [.int (zI 1), .int (zI l4), .ref 44, .ref 3] (rd S) rfl ?_
      refine s_isub rfl ?_
      refine s_iald rfl (rd_a44 _) h (fun h => ?_)
      show eG _ 91 38 [some (.ref 43), some (.ref 1), some (.int (zI l2)), some (.int (zI l3)), some (.int (zI l4))] [.int (zI (zA S 44 (l4 - 1))), .ref 3] (rd S) _
      refine s_iald rfl (rd_a3 _) h (fun h => ?_)
      show eG _ 91 39 [some (.ref 43), some (.ref 1), some (.int (zI l2)), some (.int (zI l3)), some (.int (zI l4))] [.int (zI (zA S 3 (zA S 44 (l4 - 1))))] (rd S) _
      refine g_run 1 40 [some (.ref 43), some (.ref 1), some (.int (zI l2)), some (.int (zI l3)), some (.int (zI l4))] [.ref 1, .int (zI (zA S 3 (zA S 44 (l4 - 1))))] (rd S) rfl ?_
      refine g_getf rfl rfl (rd_o1 _) rfl ?_
      show eG _ 91 43 [some (.ref 43), some (.ref 1), some (.int (zI l2)), some (.int (zI l3)), some (.int (zI l4))] [.ref 3, .int (zI (zA S 3 (zA S 44 (l4 - 1))))] (rd S) _
      refine g_run 1 44 [some (.ref 43), some (.ref 1), some (.int (zI l2)), some (.int (zI l3)), some (.int (zI l4))] [.int (zI l3), .ref 3, .int (zI (zA S 3 (zA S 44 (l4 - 1))))] (rd S) rfl ?_
      refine s_iald rfl (rd_a3 _) h (fun h => ?_)
      show eG _ 91 45 [some (.ref 43), some (.ref 1), some (.int (zI l2)), some (.int (zI l3)), some (.int (zI l4))] [.int (zI (zA S 3 l3)), .int (zI (zA S 3 (zA S 44 (l4 - 1))))] (rd S) _
      refine s_icmp_le rfl h (fun h => ?_) (fun h => ?_)
      · show eG _ 91 70 [some (.ref 43), some (.ref 1), some (.int (zI l2)), some (.int (zI l3)), some (.int (zI l4))] [] (rd S) _
        cases h
        exact hk
      · show eG _ 91 48 [some (.ref 43), some (.ref 1), some (.int (zI l2)), some (.int (zI l3)), some (.int (zI l4))] [] (rd S) _
        refine g_run 1 49 [some (.ref 43), some (.ref 1), some (.int (zI l2)), some (.int (zI l3)), some (.int (zI l4))] [.ref 43] (rd S) rfl ?_
        refine g_getf rfl rfl (rd_o43 _) rfl ?_
        show eG _ 91 52 [some (.ref 43), some (.ref 1), some (.int (zI l2)), some (.int (zI l3)), some (.int (zI l4))] [.ref 44] (rd S) _
        refine g_run 2 55 [some (.ref 43), some (.ref 1), some (.int (zI l2)), some (.int (zI l3)), some (.int (zI l4))] [.ref 43, .int (zI l4), .ref 44] (rd S) rfl ?_
        refine g_getf rfl rfl (rd_o43 _) rfl ?_
        show eG _ 91 58 [some (.ref 43), some (.ref 1), some (.int (zI l2)), some (.int (zI l3)), some (.int (zI l4))] [.ref 44, .int (zI l4), .ref 44] (rd S) _
        refine g_run 2 61 [some (.ref 43), some (.ref 1), some (.int (zI l2)), some (.int (zI l3)), some (.int (zI l4))] [.int (zI 1), .int (zI l4), .ref 44, .int (zI l4), .ref 44] (rd S) rfl ?_
        refine s_isub rfl ?_
        refine s_iald rfl (rd_a44 _) h (fun h => ?_)
        show eG _ 91 63 [some (.ref 43), some (.ref 1), some (.int (zI l2)), some (.int (zI l3)), some (.int (zI l4))] [.int (zI (zA S 44 (l4 - 1))), .int (zI l4), .ref 44] (rd S) _
        refine s_iast rfl (rd_a44 _) (rw_a44 _ _) h (fun h => ?_)
        show eG _ 91 64 [some (.ref 43), some (.ref 1), some (.int (zI l2)), some (.int (zI l3)), some (.int (zI l4))] [] (rd (wA S 44 l4 (zA S 44 (l4 - 1)))) _
        refine s_iinc (L' := [some (.ref 43), some (.ref 1), some (.int (zI l2)), some (.int (zI l3)), some (.int (zI (l4 + (-1))))]) rfl rfl rfl ?_
        refine g_run 1 20 [some (.ref 43), some (.ref 1), some (.int (zI l2)), some (.int (zI l3)), some (.int (zI (l4 + (-1))))] [] (rd (wA S 44 l4 (zA S 44 (l4 - 1)))) rfl ?_
        exact ih (wA S 44 l4 (zA S 44 (l4 - 1))) l2 l3 (l4 + (-1)) h hk
def fB_sortByYards_1 : Nat → ZS → Int → Option (ZS)
  | 0, _, _ => none
  | n + 1, S, l2 => gC l2 (zF S 1 6) (if l2 < (zF S 1 6) then gX l2 8 ((fB_sortByYards_2 n S l2 (zA S 44 l2) l2).bind fun z1 => gX z1.1 8 (fB_sortByYards_1 n (wA z1.2 44 z1.1 (zA S 44 l2)) (l2 + 1))) else some S)
set_option maxRecDepth 100000 in
set_option maxHeartbeats 4000000 in
theorem sB_sortByYards_1 (o : eO) : ∀ (n : Nat) (S : ZS) (l2 : Int) {w : ZS} {r : eP} (h : fB_sortByYards_1 n S l2 = some w) (hk : eG o 91 84 [none, none, none, none, none] [] (rd w) r), eG o 91 2 [some (.ref 43), some (.ref 1), some (.int (zI l2)), none, none] [] (rd S) r := by
  intro n
  induction n with
  | zero => intro S l2 w r h hk; unfold fB_sortByYards_1 at h; cases h
  | succ n ih =>
    intro S l2 w r h hk
    unfold fB_sortByYards_1 at h
    refine g_run 2 4 [some (.ref 43), some (.ref 1), some (.int (zI l2)), none, none] [.ref 1, .int (zI l2)] (rd S) rfl ?_
    refine g_getf rfl rfl (rd_o1 _) rfl ?_
    show eG _ 91 7 [some (.ref 43), some (.ref 1), some (.int (zI l2)), none, none] [.int (zI (zF S 1 6)), .int (zI l2)] (rd S) _
    refine s_icmp_ge rfl h (fun h => ?_) (fun h => ?_)
    · show eG _ 91 84 [some (.ref 43), some (.ref 1), some (.int (zI l2)), none, none] [] (rd S) _
      refine g_fgt [true, true, true, true, true] ?_
      show eG _ 91 84 [none, none, none, none, none] [] (rd S) _
      cases h
      exact hk
    · show eG _ 91 10 [some (.ref 43), some (.ref 1), some (.int (zI l2)), none, none] [] (rd S) _
      refine g_run 1 11 [some (.ref 43), some (.ref 1), some (.int (zI l2)), none, none] [.ref 43] (rd S) rfl ?_
      refine g_getf rfl rfl (rd_o43 _) rfl ?_
      show eG _ 91 14 [some (.ref 43), some (.ref 1), some (.int (zI l2)), none, none] [.ref 44] (rd S) _
      refine g_run 1 15 [some (.ref 43), some (.ref 1), some (.int (zI l2)), none, none] [.int (zI l2), .ref 44] (rd S) rfl ?_
      refine s_iald rfl (rd_a44 _) h (fun h => ?_)
      show eG _ 91 16 [some (.ref 43), some (.ref 1), some (.int (zI l2)), none, none] [.int (zI (zA S 44 l2))] (rd S) _
      refine g_run 3 20 [some (.ref 43), some (.ref 1), some (.int (zI l2)), some (.int (zI (zA S 44 l2))), some (.int (zI l2))] [] (rd S) rfl ?_
      obtain ⟨z1, h1, h⟩ := zB_inv h
      refine sB_sortByYards_2 o n S l2 (zA S 44 l2) l2 h1 ?_
      show eG _ 91 70 [some (.ref 43), some (.ref 1), some (.int (zI l2)), some (.int (zI (zA S 44 l2))), some (.int (zI z1.1))] [] (rd z1.2) _
      refine g_run 1 71 [some (.ref 43), some (.ref 1), some (.int (zI l2)), some (.int (zI (zA S 44 l2))), some (.int (zI z1.1))] [.ref 43] (rd z1.2) rfl ?_
      refine g_getf rfl rfl (rd_o43 _) rfl ?_
      show eG _ 91 74 [some (.ref 43), some (.ref 1), some (.int (zI l2)), some (.int (zI (zA S 44 l2))), some (.int (zI z1.1))] [.ref 44] (rd z1.2) _
      refine g_run 2 77 [some (.ref 43), some (.ref 1), some (.int (zI l2)), some (.int (zI (zA S 44 l2))), some (.int (zI z1.1))] [.int (zI (zA S 44 l2)), .int (zI z1.1), .ref 44] (rd z1.2) rfl ?_
      refine s_iast rfl (rd_a44 _) (rw_a44 _ _) h (fun h => ?_)
      show eG _ 91 78 [some (.ref 43), some (.ref 1), some (.int (zI l2)), some (.int (zI (zA S 44 l2))), some (.int (zI z1.1))] [] (rd (wA z1.2 44 z1.1 (zA S 44 l2))) _
      refine s_iinc (L' := [some (.ref 43), some (.ref 1), some (.int (zI (l2 + 1))), some (.int (zI (zA S 44 l2))), some (.int (zI z1.1))]) rfl rfl rfl ?_
      refine g_run 1 2 [some (.ref 43), some (.ref 1), some (.int (zI (l2 + 1))), some (.int (zI (zA S 44 l2))), some (.int (zI z1.1))] [] (rd (wA z1.2 44 z1.1 (zA S 44 l2))) rfl ?_
      refine g_fgt [false, false, false, true, true] ?_
      show eG _ 91 2 [some (.ref 43), some (.ref 1), some (.int (zI (l2 + 1))), none, none] [] (rd (wA z1.2 44 z1.1 (zA S 44 l2))) _
      exact ih (wA z1.2 44 z1.1 (zA S 44 l2)) (l2 + 1) h hk
def fB_sortByYards (n : Nat) (S : ZS) : Option (ZS) := (fB_sortByYards_1 n S 1).bind fun z1 => some z1
set_option maxRecDepth 100000 in
set_option maxHeartbeats 4000000 in
theorem sB_sortByYards (o : eO) (n : Nat) (S : ZS) {w : ZS} (h : fB_sortByYards n S = some w) : eG o 91 0 (eEnt 91 [.ref 43, .ref 1]) [] (rd S) (rv (none) (rd w)) := by
  unfold fB_sortByYards at h
  show eG o 91 0 [some (.ref 43), some (.ref 1), none, none, none] [] (rd S) _
  refine g_run 2 2 [some (.ref 43), some (.ref 1), some (.int (zI 1)), none, none] [] (rd S) rfl ?_
  obtain ⟨z1, h1, h⟩ := zB_inv h
  refine sB_sortByYards_1 o n S 1 h1 ?_
  show eG _ 91 84 [none, none, none, none, none] [] (rd z1) _
  cases h
  exact g_retv rfl rfl rfl
def fB_turnAround_1 : Nat → ZS → Int → Int → Option (ZS)
  | 0, _, _, _ => none
  | n + 1, S, l1, l2 => gV l1 2 (gC l2 (l1.tdiv 2) (if l2 < (l1.tdiv 2) then gX l2 8 (gX ((l1 - 1) - l2) 8 (gX l2 8 (gX ((l1 - 1) - l2) 8 (fB_turnAround_1 n (wA (wA S 44 l2 (zA S 44 ((l1 - 1) - l2))) 44 ((l1 - 1) - l2) (zA S 44 l2)) l1 (l2 + 1))))) else some S))
set_option maxRecDepth 100000 in
set_option maxHeartbeats 4000000 in
theorem sB_turnAround_1 (o : eO) : ∀ (n : Nat) (S : ZS) (l1 l2 : Int) {w : ZS} {r : eP} (h : fB_turnAround_1 n S l1 l2 = some w) (hk : eG o 92 49 [none, none, none, none] [] (rd w) r), eG o 92 2 [some (.ref 43), some (.int (zI l1)), some (.int (zI l2)), none] [] (rd S) r := by
  intro n
  induction n with
  | zero => intro S l1 l2 w r h hk; unfold fB_turnAround_1 at h; cases h
  | succ n ih =>
    intro S l1 l2 w r h hk
    unfold fB_turnAround_1 at h
    refine g_run 3 5 [some (.ref 43), some (.int (zI l1)), some (.int (zI l2)), none] [.int (zI 2), .int (zI l1), .int (zI l2)] (rd S) rfl ?_
    refine s_idiv rfl h (fun h => ?_)
    refine s_icmp_ge rfl h (fun h => ?_) (fun h => ?_)
    · show eG _ 92 49 [some (.ref 43), some (.int (zI l1)), some (.int (zI l2)), none] [] (rd S) _
      refine g_fgt [true, true, true, true] ?_
      show eG _ 92 49 [none, none, none, none] [] (rd S) _
      cases h
      exact hk
    · show eG _ 92 9 [some (.ref 43), some (.int (zI l1)), some (.int (zI l2)), none] [] (rd S) _
      refine g_run 1 10 [some (.ref 43), some (.int (zI l1)), some (.int (zI l2)), none] [.ref 43] (rd S) rfl ?_
      refine g_getf rfl rfl (rd_o43 _) rfl ?_
      show eG _ 92 13 [some (.ref 43), some (.int (zI l1)), some (.int (zI l2)), none] [.ref 44] (rd S) _
      refine g_run 1 14 [some (.ref 43), some (.int (zI l1)), some (.int (zI l2)), none] [.int (zI l2), .ref 44] (rd S) rfl ?_
      refine s_iald rfl (rd_a44 _) h (fun h => ?_)
      show eG _ 92 15 [some (.ref 43), some (.int (zI l1)), some (.int (zI l2)), none] [.int (zI (zA S 44 l2))] (rd S) _
      refine g_run 2 17 [some (.ref 43), some (.int (zI l1)), some (.int (zI l2)), some (.int (zI (zA S 44 l2)))] [.ref 43] (rd S) rfl ?_
      refine g_getf rfl rfl (rd_o43 _) rfl ?_
      show eG _ 92 20 [some (.ref 43), some (.int (zI l1)), some (.int (zI l2)), some (.int (zI (zA S 44 l2)))] [.ref 44] (rd S) _
      refine g_run 2 22 [some (.ref 43), some (.int (zI l1)), some (.int (zI l2)), some (.int (zI (zA S 44 l2)))] [.ref 43, .int (zI l2), .ref 44] (rd S) rfl ?_
      refine g_getf rfl rfl (rd_o43 _) rfl ?_
      show eG _ 92 25 [some (.ref 43), some (.int (zI l1)), some (.int (zI l2)), some (.int (zI (zA S 44 l2)))] [.ref 44, .int (zI l2), .ref 44] (rd S) _
      refine g_run 2 27 [some (.ref 43), some (.int (zI l1)), some (.int (zI l2)), some (.int (zI (zA S 44 l2)))] [.int (zI 1), .int (zI l1), .ref 44, .int (zI l2), .ref 44] (rd S) rfl ?_
      refine s_isub rfl ?_
      refine g_run 1 29 [some (.ref 43), some (.int (zI l1)), some (.int (zI l2)), some (.int (zI (zA S 44 l2)))] [.int (zI l2), .int (zI (l1 - 1)), .ref 44, .int (zI l2), .ref 44] (rd S) rfl ?_
      refine s_isub rfl ?_
      refine s_iald rfl (rd_a44 _) h (fun h => ?_)
      show eG _ 92 31 [some (.ref 43), some (.int (zI l1)), some (.int (zI l2)), some (.int (zI (zA S 44 l2)))] [.int (zI (zA S 44 ((l1 - 1) - l2))), .int (zI l2), .ref 44] (rd S) _
      refine s_iast rfl (rd_a44 _) (rw_a44 _ _) h (fun h => ?_)
      show eG _ 92 32 [some (.ref 43), some (.int (zI l1)), some (.int (zI l2)), some (.int (zI (zA S 44 l2)))] [] (rd (wA S 44 l2 (zA S 44 ((l1 - 1) - l2)))) _
      refine g_run 1 33 [some (.ref 43), some (.int (zI l1)), some (.int (zI l2)), some (.int (zI (zA S 44 l2)))] [.ref 43] (rd (wA S 44 l2 (zA S 44 ((l1 - 1) - l2)))) rfl ?_
      refine g_getf rfl rfl (rd_o43 _) rfl ?_
      show eG _ 92 36 [some (.ref 43), some (.int (zI l1)), some (.int (zI l2)), some (.int (zI (zA S 44 l2)))] [.ref 44] (rd (wA S 44 l2 (zA S 44 ((l1 - 1) - l2)))) _
      refine g_run 2 38 [some (.ref 43), some (.int (zI l1)), some (.int (zI l2)), some (.int (zI (zA S 44 l2)))] [.int (zI 1), .int (zI l1), .ref 44] (rd (wA S 44 l2 (zA S 44 ((l1 - 1) - l2)))) rfl ?_
      refine s_isub rfl ?_
      refine g_run 1 40 [some (.ref 43), some (.int (zI l1)), some (.int (zI l2)), some (.int (zI (zA S 44 l2)))] [.int (zI l2), .int (zI (l1 - 1)), .ref 44] (rd (wA S 44 l2 (zA S 44 ((l1 - 1) - l2)))) rfl ?_
      refine s_isub rfl ?_
      refine g_run 1 42 [some (.ref 43), some (.int (zI l1)), some (.int (zI l2)), some (.int (zI (zA S 44 l2)))] [.int (zI (zA S 44 l2)), .int (zI ((l1 - 1) - l2)), .ref 44] (rd (wA S 44 l2 (zA S 44 ((l1 - 1) - l2)))) rfl ?_
      refine s_iast rfl (rd_a44 _) (rw_a44 _ _) h (fun h => ?_)
      show eG _ 92 43 [some (.ref 43), some (.int (zI l1)), some (.int (zI l2)), some (.int (zI (zA S 44 l2)))] [] (rd (wA (wA S 44 l2 (zA S 44 ((l1 - 1) - l2))) 44 ((l1 - 1) - l2) (zA S 44 l2))) _
      refine s_iinc (L' := [some (.ref 43), some (.int (zI l1)), some (.int (zI (l2 + 1))), some (.int (zI (zA S 44 l2)))]) rfl rfl rfl ?_
      refine g_run 1 2 [some (.ref 43), some (.int (zI l1)), some (.int (zI (l2 + 1))), some (.int (zI (zA S 44 l2)))] [] (rd (wA (wA S 44 l2 (zA S 44 ((l1 - 1) - l2))) 44 ((l1 - 1) - l2) (zA S 44 l2))) rfl ?_
      refine g_fgt [false, false, false, true] ?_
      show eG _ 92 2 [some (.ref 43), some (.int (zI l1)), some (.int (zI (l2 + 1))), none] [] (rd (wA (wA S 44 l2 (zA S 44 ((l1 - 1) - l2))) 44 ((l1 - 1) - l2) (zA S 44 l2))) _
      exact ih (wA (wA S 44 l2 (zA S 44 ((l1 - 1) - l2))) 44 ((l1 - 1) - l2) (zA S 44 l2)) l1 (l2 + 1) h hk
def fB_turnAround (n : Nat) (S : ZS) (l1 : Int) : Option (ZS) := (fB_turnAround_1 n S l1 0).bind fun z1 => some z1
set_option maxRecDepth 100000 in
set_option maxHeartbeats 4000000 in
theorem sB_turnAround (o : eO) (n : Nat) (S : ZS) (l1 : Int) {w : ZS} (h : fB_turnAround n S l1 = some w) : eG o 92 0 (eEnt 92 [.ref 43, .int (zI l1)]) [] (rd S) (rv (none) (rd w)) := by
  unfold fB_turnAround at h
  show eG o 92 0 [some (.ref 43), some (.int (zI l1)), none, none] [] (rd S) _
  refine g_run 2 2 [some (.ref 43), some (.int (zI l1)), some (.int (zI 0)), none] [] (rd S) rfl ?_
  obtain ⟨z1, h1, h⟩ := zB_inv h
  refine sB_turnAround_1 o n S l1 0 h1 ?_
  show eG _ 92 49 [none, none, none, none] [] (rd z1) _
  cases h
  exact g_retv rfl rfl rfl
def fB_lineUp_1 : Nat → ZS → Int → Int → Option (ZS)
  | 0, _, _, _ => none
  | n + 1, S, l2, l3 => gC l3 (zF S 1 6) (if l3 < (zF S 1 6) then gX l3 8 (fB_lineUp_1 n (wA S 44 l3 l3) l2 (l3 + 1)) else some S)
set_option maxRecDepth 100000 in
set_option maxHeartbeats 4000000 in
theorem sB_lineUp_1 (o : eO) : ∀ (n : Nat) (S : ZS) (l2 l3 : Int) {w : ZS} {r : eP} (h : fB_lineUp_1 n S l2 l3 = some w) (hk : eG o 90 23 [some (.ref 43), some (.ref 1), some (.int (zI l2)), none] [] (rd w) r), eG o 90 2 [some (.ref 43), some (.ref 1), some (.int (zI l2)), some (.int (zI l3))] [] (rd S) r := by
  intro n
  induction n with
  | zero => intro S l2 l3 w r h hk; unfold fB_lineUp_1 at h; cases h
  | succ n ih =>
    intro S l2 l3 w r h hk
    unfold fB_lineUp_1 at h
    refine g_run 2 4 [some (.ref 43), some (.ref 1), some (.int (zI l2)), some (.int (zI l3))] [.ref 1, .int (zI l3)] (rd S) rfl ?_
    refine g_getf rfl rfl (rd_o1 _) rfl ?_
    show eG _ 90 7 [some (.ref 43), some (.ref 1), some (.int (zI l2)), some (.int (zI l3))] [.int (zI (zF S 1 6)), .int (zI l3)] (rd S) _
    refine s_icmp_ge rfl h (fun h => ?_) (fun h => ?_)
    · show eG _ 90 23 [some (.ref 43), some (.ref 1), some (.int (zI l2)), some (.int (zI l3))] [] (rd S) _
      refine g_fgt [false, false, false, true] ?_
      show eG _ 90 23 [some (.ref 43), some (.ref 1), some (.int (zI l2)), none] [] (rd S) _
      cases h
      exact hk
    · show eG _ 90 10 [some (.ref 43), some (.ref 1), some (.int (zI l2)), some (.int (zI l3))] [] (rd S) _
      refine g_run 1 11 [some (.ref 43), some (.ref 1), some (.int (zI l2)), some (.int (zI l3))] [.ref 43] (rd S) rfl ?_
      refine g_getf rfl rfl (rd_o43 _) rfl ?_
      show eG _ 90 14 [some (.ref 43), some (.ref 1), some (.int (zI l2)), some (.int (zI l3))] [.ref 44] (rd S) _
      refine g_run 2 16 [some (.ref 43), some (.ref 1), some (.int (zI l2)), some (.int (zI l3))] [.int (zI l3), .int (zI l3), .ref 44] (rd S) rfl ?_
      refine s_iast rfl (rd_a44 _) (rw_a44 _ _) h (fun h => ?_)
      show eG _ 90 17 [some (.ref 43), some (.ref 1), some (.int (zI l2)), some (.int (zI l3))] [] (rd (wA S 44 l3 l3)) _
      refine s_iinc (L' := [some (.ref 43), some (.ref 1), some (.int (zI l2)), some (.int (zI (l3 + 1)))]) rfl rfl rfl ?_
      refine g_run 1 2 [some (.ref 43), some (.ref 1), some (.int (zI l2)), some (.int (zI (l3 + 1)))] [] (rd (wA S 44 l3 l3)) rfl ?_
      exact ih (wA S 44 l3 l3) l2 (l3 + 1) h hk
def fB_lineUp (n : Nat) (S : ZS) (l2 : Int) : Option (ZS) := (fB_lineUp_1 n S l2 0).bind fun z1 => (gC l2 1 (if 1 < l2 then some z1 else (fB_sortByYards n z1).bind fun z5 => some z5)).bind fun z2 => gC l2 1 (if l2 = 1 then (fB_turnAround n z2 (zF z2 1 6)).bind fun z3 => some z3 else gC l2 3 (if l2 = 3 then (fB_turnAround n z2 (zF z2 1 6)).bind fun z4 => some z4 else some z2))
set_option maxRecDepth 100000 in
set_option maxHeartbeats 4000000 in
theorem sB_lineUp (o : eO) (n : Nat) (S : ZS) (l2 : Int) {w : ZS} (h : fB_lineUp n S l2 = some w) : eG o 90 0 (eEnt 90 [.ref 43, .ref 1, .int (zI l2)]) [] (rd S) (rv (none) (rd w)) := by
  unfold fB_lineUp at h
  show eG o 90 0 [some (.ref 43), some (.ref 1), some (.int (zI l2)), none] [] (rd S) _
  refine g_run 2 2 [some (.ref 43), some (.ref 1), some (.int (zI l2)), some (.int (zI 0))] [] (rd S) rfl ?_
  obtain ⟨z1, h1, h⟩ := zB_inv h
  refine sB_lineUp_1 o n S l2 0 h1 ?_
  show eG _ 90 23 [some (.ref 43), some (.ref 1), some (.int (zI l2)), none] [] (rd z1) _
  refine g_run 2 25 [some (.ref 43), some (.ref 1), some (.int (zI l2)), none] [.int (zI 1), .int (zI l2)] (rd z1) rfl ?_
  refine s_join (α := ZS) (fun z => eG o 90 33 [some (.ref 43), some (.ref 1), some (.int (zI l2)), none] [] (rd z) (rv (none) (rd w))) h (fun z2 h => ?_) (fun z2 h j => ?_)
  · show eG _ 90 33 [some (.ref 43), some (.ref 1), some (.int (zI l2)), none] [] (rd z2) _
    refine g_run 2 35 [some (.ref 43), some (.ref 1), some (.int (zI l2)), none] [.int (zI 1), .int (zI l2)] (rd z2) rfl ?_
    refine s_icmp_eq rfl h (fun h => ?_) (fun h => ?_)
    · show eG _ 90 43 [some (.ref 43), some (.ref 1), some (.int (zI l2)), none] [] (rd z2) _
      refine g_run 2 45 [some (.ref 43), some (.ref 1), some (.int (zI l2)), none] [.ref 1, .ref 43] (rd z2) rfl ?_
      refine g_getf rfl rfl (rd_o1 _) rfl ?_
      show eG _ 90 48 [some (.ref 43), some (.ref 1), some (.int (zI l2)), none] [.int (zI (zF z2 1 6)), .ref 43] (rd z2) _
      refine s_vir (fun _ => none) (fun z => rd z) rfl rfl rfl (rd_o43 _) rfl rfl (fun z hz => sB_turnAround o n z2 (zF z2 1 6) hz) rfl h (fun z3 h => ?_)
      show eG _ 90 51 [some (.ref 43), some (.ref 1), some (.int (zI l2)), none] [] (rd z3) _
      cases h
      exact g_retv rfl rfl rfl
    · show eG _ 90 38 [some (.ref 43), some (.ref 1), some (.int (zI l2)), none] [] (rd z2) _
      refine g_run 2 40 [some (.ref 43), some (.ref 1), some (.int (zI l2)), none] [.int (zI 3), .int (zI l2)] (rd z2) rfl ?_
      refine s_icmp_ne rfl h (fun h => ?_) (fun h => ?_)
      · show eG _ 90 51 [some (.ref 43), some (.ref 1), some (.int (zI l2)), none] [] (rd z2) _
        cases h
        exact g_retv rfl rfl rfl
      · show eG _ 90 43 [some (.ref 43), some (.ref 1), some (.int (zI l2)), none] [] (rd z2) _
        refine g_run 2 45 [some (.ref 43), some (.ref 1), some (.int (zI l2)), none] [.ref 1, .ref 43] (rd z2) rfl ?_
        refine g_getf rfl rfl (rd_o1 _) rfl ?_
        show eG _ 90 48 [some (.ref 43), some (.ref 1), some (.int (zI l2)), none] [.int (zI (zF z2 1 6)), .ref 43] (rd z2) _
        refine s_vir (fun _ => none) (fun z => rd z) rfl rfl rfl (rd_o43 _) rfl rfl (fun z hz => sB_turnAround o n z2 (zF z2 1 6) hz) rfl h (fun z4 h => ?_)
        show eG _ 90 51 [some (.ref 43), some (.ref 1), some (.int (zI l2)), none] [] (rd z4) _
        cases h
        exact g_retv rfl rfl rfl
  · skip
    refine s_icmp_gt rfl h (fun h => ?_) (fun h => ?_)
    · show eG _ 90 33 [some (.ref 43), some (.ref 1), some (.int (zI l2)), none] [] (rd z1) _
      cases h
      exact j
    · show eG _ 90 28 [some (.ref 43), some (.ref 1), some (.int (zI l2)), none] [] (rd z1) _
      refine g_run 2 30 [some (.ref 43), some (.ref 1), some (.int (zI l2)), none] [.ref 1, .ref 43] (rd z1) rfl ?_
      refine s_vir (fun _ => none) (fun z => rd z) rfl rfl rfl (rd_o43 _) rfl rfl (fun z hz => sB_sortByYards o n z1 hz) rfl h (fun z5 h => ?_)
      show eG _ 90 33 [some (.ref 43), some (.ref 1), some (.int (zI l2)), none] [] (rd z5) _
      cases h
      exact j
def fB_doesTwo_2 : Nat → ZS → Int → Int → Int → Int → Int → Option ((Int × ZS) ⊕ (Unit))
  | 0, _, _, _, _, _, _ => none
  | n + 1, S, l2, l3, l4, l5, l6 => gC l6 (zF S 1 6) (if l6 < (zF S 1 6) then gX l6 8 (gC (zand l2 l5) 0 (if (zand l2 l5) = 0 then fB_doesTwo_2 n S l2 l3 l4 l5 (l6 + 1) else gC (zand l3 (zshl 1 (zA S 44 l6))) 0 (if (zand l3 (zshl 1 (zA S 44 l6))) = 0 then fB_doesTwo_2 n S l2 l3 l4 l5 (l6 + 1) else (fT_isLawful n S 1 l5 (zshl 1 (zA S 44 l6))).bind fun z1 => gC z1 0 (if z1 = 0 then fB_doesTwo_2 n S l2 l3 l4 l5 (l6 + 1) else (fT_pass_1 n S l5 (zshl 1 (zA S 44 l6))).bind fun z2 => gB 1 (some (.inl (1, z2))))))) else some (.inr ()))
set_option maxRecDepth 100000 in
set_option maxHeartbeats 4000000 in
theorem sB_doesTwo_2 (o : eO) : ∀ (n : Nat) (S : ZS) (l2 l3 l4 l5 l6 : Int) {w : (Int × ZS) ⊕ (Unit)} {r : eP} (h : fB_doesTwo_2 n S l2 l3 l4 l5 l6 = some w) (hr : ∀ v, w = .inl v → r (some (.int (zI v.1)), rd v.2)) (hk : ∀ x, w = .inr x → eG o 94 87 [some (.ref 43), some (.ref 1), some (.int (zI l2)), some (.int (zI l3)), some (.int (zI l4)), none, none, none] [] (rd S) r), eG o 94 26 [some (.ref 43), some (.ref 1), some (.int (zI l2)), some (.int (zI l3)), some (.int (zI l4)), some (.int (zI l5)), some (.int (zI l6)), none] [] (rd S) r := by
  intro n
  induction n with
  | zero => intro S l2 l3 l4 l5 l6 w r h hr hk; unfold fB_doesTwo_2 at h; cases h
  | succ n ih =>
    intro S l2 l3 l4 l5 l6 w r h hr hk
    unfold fB_doesTwo_2 at h
    refine g_run 2 29 [some (.ref 43), some (.ref 1), some (.int (zI l2)), some (.int (zI l3)), some (.int (zI l4)), some (.int (zI l5)), some (.int (zI l6)), none] [.ref 1, .int (zI l6)] (rd S) rfl ?_
    refine g_getf rfl rfl (rd_o1 _) rfl ?_
    show eG _ 94 32 [some (.ref 43), some (.ref 1), some (.int (zI l2)), some (.int (zI l3)), some (.int (zI l4)), some (.int (zI l5)), some (.int (zI l6)), none] [.int (zI (zF S 1 6)), .int (zI l6)] (rd S) _
    refine s_icmp_ge rfl h (fun h => ?_) (fun h => ?_)
    · show eG _ 94 87 [some (.ref 43), some (.ref 1), some (.int (zI l2)), some (.int (zI l3)), some (.int (zI l4)), some (.int (zI l5)), some (.int (zI l6)), none] [] (rd S) _
      refine g_fgt [false, false, false, false, false, true, true, true] ?_
      show eG _ 94 87 [some (.ref 43), some (.ref 1), some (.int (zI l2)), some (.int (zI l3)), some (.int (zI l4)), none, none, none] [] (rd S) _
      cases h
      exact hk _ rfl
    · show eG _ 94 35 [some (.ref 43), some (.ref 1), some (.int (zI l2)), some (.int (zI l3)), some (.int (zI l4)), some (.int (zI l5)), some (.int (zI l6)), none] [] (rd S) _
      refine g_run 2 37 [some (.ref 43), some (.ref 1), some (.int (zI l2)), some (.int (zI l3)), some (.int (zI l4)), some (.int (zI l5)), some (.int (zI l6)), none] [.ref 43, .int (zI 1)] (rd S) rfl ?_
      refine g_getf rfl rfl (rd_o43 _) rfl ?_
      show eG _ 94 40 [some (.ref 43), some (.ref 1), some (.int (zI l2)), some (.int (zI l3)), some (.int (zI l4)), some (.int (zI l5)), some (.int (zI l6)), none] [.ref 44, .int (zI 1)] (rd S) _
      refine g_run 1 42 [some (.ref 43), some (.ref 1), some (.int (zI l2)), some (.int (zI l3)), some (.int (zI l4)), some (.int (zI l5)), some (.int (zI l6)), none] [.int (zI l6), .ref 44, .int (zI 1)] (rd S) rfl ?_
      refine s_iald rfl (rd_a44 _) h (fun h => ?_)
      show eG _ 94 43 [some (.ref 43), some (.ref 1), some (.int (zI l2)), some (.int (zI l3)), some (.int (zI l4)), some (.int (zI l5)), some (.int (zI l6)), none] [.int (zI (zA S 44 l6)), .int (zI 1)] (rd S) _
      refine s_ishl rfl ?_
      refine g_run 3 49 [some (.ref 43), some (.ref 1), some (.int (zI l2)), some (.int (zI l3)), some (.int (zI l4)), some (.int (zI l5)), some (.int (zI l6)), some (.int (zI (zshl 1 (zA S 44 l6))))] [.int (zI l5), .int (zI l2)] (rd S) rfl ?_
      refine s_iand rfl ?_
      refine s_if_eq rfl h (fun h => ?_) (fun h => ?_)
      · show eG _ 94 81 [some (.ref 43), some (.ref 1), some (.int (zI l2)), some (.int (zI l3)), some (.int (zI l4)), some (.int (zI l5)), some (.int (zI l6)), some (.int (zI (zshl 1 (zA S 44 l6))))] [] (rd S) _
        refine s_iinc (L' := [some (.ref 43), some (.ref 1), some (.int (zI l2)), some (.int (zI l3)), some (.int (zI l4)), some (.int (zI l5)), some (.int (zI (l6 + 1))), some (.int (zI (zshl 1 (zA S 44 l6))))]) rfl rfl rfl ?_
        refine g_run 1 26 [some (.ref 43), some (.ref 1), some (.int (zI l2)), some (.int (zI l3)), some (.int (zI l4)), some (.int (zI l5)), some (.int (zI (l6 + 1))), some (.int (zI (zshl 1 (zA S 44 l6))))] [] (rd S) rfl ?_
        refine g_fgt [false, false, false, false, false, false, false, true] ?_
        show eG _ 94 26 [some (.ref 43), some (.ref 1), some (.int (zI l2)), some (.int (zI l3)), some (.int (zI l4)), some (.int (zI l5)), some (.int (zI (l6 + 1))), none] [] (rd S) _
        exact ih S l2 l3 l4 l5 (l6 + 1) h hr hk
      · show eG _ 94 53 [some (.ref 43), some (.ref 1), some (.int (zI l2)), some (.int (zI l3)), some (.int (zI l4)), some (.int (zI l5)), some (.int (zI l6)), some (.int (zI (zshl 1 (zA S 44 l6))))] [] (rd S) _
        refine g_run 2 56 [some (.ref 43), some (.ref 1), some (.int (zI l2)), some (.int (zI l3)), some (.int (zI l4)), some (.int (zI l5)), some (.int (zI l6)), some (.int (zI (zshl 1 (zA S 44 l6))))] [.int (zI (zshl 1 (zA S 44 l6))), .int (zI l3)] (rd S) rfl ?_
        refine s_iand rfl ?_
        refine s_if_eq rfl h (fun h => ?_) (fun h => ?_)
        · show eG _ 94 81 [some (.ref 43), some (.ref 1), some (.int (zI l2)), some (.int (zI l3)), some (.int (zI l4)), some (.int (zI l5)), some (.int (zI l6)), some (.int (zI (zshl 1 (zA S 44 l6))))] [] (rd S) _
          refine s_iinc (L' := [some (.ref 43), some (.ref 1), some (.int (zI l2)), some (.int (zI l3)), some (.int (zI l4)), some (.int (zI l5)), some (.int (zI (l6 + 1))), some (.int (zI (zshl 1 (zA S 44 l6))))]) rfl rfl rfl ?_
          refine g_run 1 26 [some (.ref 43), some (.ref 1), some (.int (zI l2)), some (.int (zI l3)), some (.int (zI l4)), some (.int (zI l5)), some (.int (zI (l6 + 1))), some (.int (zI (zshl 1 (zA S 44 l6))))] [] (rd S) rfl ?_
          refine g_fgt [false, false, false, false, false, false, false, true] ?_
          show eG _ 94 26 [some (.ref 43), some (.ref 1), some (.int (zI l2)), some (.int (zI l3)), some (.int (zI l4)), some (.int (zI l5)), some (.int (zI (l6 + 1))), none] [] (rd S) _
          exact ih S l2 l3 l4 l5 (l6 + 1) h hr hk
        · show eG _ 94 60 [some (.ref 43), some (.ref 1), some (.int (zI l2)), some (.int (zI l3)), some (.int (zI l4)), some (.int (zI l5)), some (.int (zI l6)), some (.int (zI (zshl 1 (zA S 44 l6))))] [] (rd S) _
          refine g_run 3 65 [some (.ref 43), some (.ref 1), some (.int (zI l2)), some (.int (zI l3)), some (.int (zI l4)), some (.int (zI l5)), some (.int (zI l6)), some (.int (zI (zshl 1 (zA S 44 l6))))] [.int (zI (zshl 1 (zA S 44 l6))), .int (zI l5), .ref 1] (rd S) rfl ?_
          refine s_vir (fun z => some (.int (zI z))) (fun _ => rd S) rfl rfl rfl (rd_o1 _) rfl rfl (fun z hz => sT_isLawful o n S 1 (Or.inl rfl) l5 (zshl 1 (zA S 44 l6)) hz) rfl h (fun z1 h => ?_)
          show eG _ 94 68 [some (.ref 43), some (.ref 1), some (.int (zI l2)), some (.int (zI l3)), some (.int (zI l4)), some (.int (zI l5)), some (.int (zI l6)), some (.int (zI (zshl 1 (zA S 44 l6))))] [.int (zI z1)] (rd S) _
          refine s_if_eq rfl h (fun h => ?_) (fun h => ?_)
          · show eG _ 94 81 [some (.ref 43), some (.ref 1), some (.int (zI l2)), some (.int (zI l3)), some (.int (zI l4)), some (.int (zI l5)), some (.int (zI l6)), some (.int (zI (zshl 1 (zA S 44 l6))))] [] (rd S) _
            refine s_iinc (L' := [some (.ref 43), some (.ref 1), some (.int (zI l2)), some (.int (zI l3)), some (.int (zI l4)), some (.int (zI l5)), some (.int (zI (l6 + 1))), some (.int (zI (zshl 1 (zA S 44 l6))))]) rfl rfl rfl ?_
            refine g_run 1 26 [some (.ref 43), some (.ref 1), some (.int (zI l2)), some (.int (zI l3)), some (.int (zI l4)), some (.int (zI l5)), some (.int (zI (l6 + 1))), some (.int (zI (zshl 1 (zA S 44 l6))))] [] (rd S) rfl ?_
            refine g_fgt [false, false, false, false, false, false, false, true] ?_
            show eG _ 94 26 [some (.ref 43), some (.ref 1), some (.int (zI l2)), some (.int (zI l3)), some (.int (zI l4)), some (.int (zI l5)), some (.int (zI (l6 + 1))), none] [] (rd S) _
            exact ih S l2 l3 l4 l5 (l6 + 1) h hr hk
          · show eG _ 94 71 [some (.ref 43), some (.ref 1), some (.int (zI l2)), some (.int (zI l3)), some (.int (zI l4)), some (.int (zI l5)), some (.int (zI l6)), some (.int (zI (zshl 1 (zA S 44 l6))))] [] (rd S) _
            refine g_run 3 76 [some (.ref 43), some (.ref 1), some (.int (zI l2)), some (.int (zI l3)), some (.int (zI l4)), some (.int (zI l5)), some (.int (zI l6)), some (.int (zI (zshl 1 (zA S 44 l6))))] [.int (zI (zshl 1 (zA S 44 l6))), .int (zI l5), .ref 1] (rd S) rfl ?_
            refine s_vir (fun _ => none) (fun z => rd z) rfl rfl rfl (rd_o1 _) rfl rfl (fun z hz => sT_pass_1 o n S l5 (zshl 1 (zA S 44 l6)) hz) rfl h (fun z2 h => ?_)
            show eG _ 94 79 [some (.ref 43), some (.ref 1), some (.int (zI l2)), some (.int (zI l3)), some (.int (zI l4)), some (.int (zI l5)), some (.int (zI l6)), some (.int (zI (zshl 1 (zA S 44 l6))))] [] (rd z2) _
            refine g_run 1 80 [some (.ref 43), some (.ref 1), some (.int (zI l2)), some (.int (zI l3)), some (.int (zI l4)), some (.int (zI l5)), some (.int (zI l6)), some (.int (zI (zshl 1 (zA S 44 l6))))] [.int (zI 1)] (rd z2) rfl ?_
            exact s_retB rfl rfl h (fun h => by cases h; exact hr _ rfl)
def fB_doesTwo_1 : Nat → ZS → Int → Int → Int → Option ((Int × ZS) ⊕ (Unit))
  | 0, _, _, _, _ => none
  | n + 1, S, l2, l3, l4 => gC l4 (zF S 1 6) (if l4 < (zF S 1 6) then gX l4 8 (zRR (fB_doesTwo_2 n S l2 l3 l4 (zshl 1 (zA S 44 l4)) 0) fun z1 => fB_doesTwo_1 n S l2 l3 (l4 + 1)) else some (.inr ()))
set_option maxRecDepth 100000 in
set_option maxHeartbeats 4000000 in
theorem sB_doesTwo_1 (o : eO) : ∀ (n : Nat) (S : ZS) (l2 l3 l4 : Int) {w : (Int × ZS) ⊕ (Unit)} {r : eP} (h : fB_doesTwo_1 n S l2 l3 l4 = some w) (hr : ∀ v, w = .inl v → r (some (.int (zI v.1)), rd v.2)) (hk : ∀ x, w = .inr x → eG o 94 93 [none, none, none, none, none, none, none, none] [] (rd S) r), eG o 94 3 [some (.ref 43), some (.ref 1), some (.int (zI l2)), some (.int (zI l3)), some (.int (zI l4)), none, none, none] [] (rd S) r := by
  intro n
  induction n with
  | zero => intro S l2 l3 l4 w r h hr hk; unfold fB_doesTwo_1 at h; cases h
  | succ n ih =>
    intro S l2 l3 l4 w r h hr hk
    unfold fB_doesTwo_1 at h
    refine g_run 2 6 [some (.ref 43), some (.ref 1), some (.int (zI l2)), some (.int (zI l3)), some (.int (zI l4)), none, none, none] [.ref 1, .int (zI l4)] (rd S) rfl ?_
    refine g_getf rfl rfl (rd_o1 _) rfl ?_
    show eG _ 94 9 [some (.ref 43), some (.ref 1), some (.int (zI l2)), some (.int (zI l3)), some (.int (zI l4)), none, none, none] [.int (zI (zF S 1 6)), .int (zI l4)] (rd S) _
    refine s_icmp_ge rfl h (fun h => ?_) (fun h => ?_)
    · show eG _ 94 93 [some (.ref 43), some (.ref 1), some (.int (zI l2)), some (.int (zI l3)), some (.int (zI l4)), none, none, none] [] (rd S) _
      refine g_fgt [true, true, true, true, true, true, true, true] ?_
      show eG _ 94 93 [none, none, none, none, none, none, none, none] [] (rd S) _
      cases h
      exact hk _ rfl
    · show eG _ 94 12 [some (.ref 43), some (.ref 1), some (.int (zI l2)), some (.int (zI l3)), some (.int (zI l4)), none, none, none] [] (rd S) _
      refine g_run 2 14 [some (.ref 43), some (.ref 1), some (.int (zI l2)), some (.int (zI l3)), some (.int (zI l4)), none, none, none] [.ref 43, .int (zI 1)] (rd S) rfl ?_
      refine g_getf rfl rfl (rd_o43 _) rfl ?_
      show eG _ 94 17 [some (.ref 43), some (.ref 1), some (.int (zI l2)), some (.int (zI l3)), some (.int (zI l4)), none, none, none] [.ref 44, .int (zI 1)] (rd S) _
      refine g_run 1 19 [some (.ref 43), some (.ref 1), some (.int (zI l2)), some (.int (zI l3)), some (.int (zI l4)), none, none, none] [.int (zI l4), .ref 44, .int (zI 1)] (rd S) rfl ?_
      refine s_iald rfl (rd_a44 _) h (fun h => ?_)
      show eG _ 94 20 [some (.ref 43), some (.ref 1), some (.int (zI l2)), some (.int (zI l3)), some (.int (zI l4)), none, none, none] [.int (zI (zA S 44 l4)), .int (zI 1)] (rd S) _
      refine s_ishl rfl ?_
      refine g_run 3 26 [some (.ref 43), some (.ref 1), some (.int (zI l2)), some (.int (zI l3)), some (.int (zI l4)), some (.int (zI (zshl 1 (zA S 44 l4)))), some (.int (zI 0)), none] [] (rd S) rfl ?_
      rcases zRR_inv h with ⟨v, h1, e⟩ | ⟨z1, h1, h⟩
      · exact sB_doesTwo_2 o n S l2 l3 l4 (zshl 1 (zA S 44 l4)) 0 h1 (fun v' e' => by cases e'; exact hr _ e) (fun x e' => by cases e')
      refine sB_doesTwo_2 o n S l2 l3 l4 (zshl 1 (zA S 44 l4)) 0 h1 (fun v e => by cases e) (fun x e => ?_)
      cases e
      show eG _ 94 87 [some (.ref 43), some (.ref 1), some (.int (zI l2)), some (.int (zI l3)), some (.int (zI l4)), none, none, none] [] (rd S) _
      refine s_iinc (L' := [some (.ref 43), some (.ref 1), some (.int (zI l2)), some (.int (zI l3)), some (.int (zI (l4 + 1))), none, none, none]) rfl rfl rfl ?_
      refine g_run 1 3 [some (.ref 43), some (.ref 1), some (.int (zI l2)), some (.int (zI l3)), some (.int (zI (l4 + 1))), none, none, none] [] (rd S) rfl ?_
      exact ih S l2 l3 (l4 + 1) h hr hk
def fB_doesTwo (n : Nat) (S : ZS) (l2 l3 : Int) : Option (Int × ZS) := zR (fB_doesTwo_1 n S l2 l3 0) fun z1 => gB 0 (some (0, S))
set_option maxRecDepth 100000 in
set_option maxHeartbeats 4000000 in
theorem sB_doesTwo (o : eO) (n : Nat) (S : ZS) (l2 l3 : Int) {w : Int × ZS} (h : fB_doesTwo n S l2 l3 = some w) : eG o 94 0 (eEnt 94 [.ref 43, .ref 1, .int (zI l2), .int (zI l3)]) [] (rd S) (rv (some (.int (zI w.1))) (rd w.2)) := by
  unfold fB_doesTwo at h
  show eG o 94 0 [some (.ref 43), some (.ref 1), some (.int (zI l2)), some (.int (zI l3)), none, none, none, none] [] (rd S) _
  refine g_run 2 3 [some (.ref 43), some (.ref 1), some (.int (zI l2)), some (.int (zI l3)), some (.int (zI 0)), none, none, none] [] (rd S) rfl ?_
  rcases zR_inv h with h1 | ⟨z1, h1, h⟩
  · exact sB_doesTwo_1 o n S l2 l3 0 h1 (fun v e => by cases e; rfl) (fun x e => by cases e)
  refine sB_doesTwo_1 o n S l2 l3 0 h1 (fun v e => by cases e) (fun x e => ?_)
  cases e
  show eG _ 94 93 [none, none, none, none, none, none, none, none] [] (rd S) _
  refine g_run 1 94 [none, none, none, none, none, none, none, none] [.int (zI 0)] (rd S) rfl ?_
  exact s_retB rfl rfl h (fun h => by cases h; exact rfl)
def fB_doesOne_1 : Nat → ZS → Int → Int → Int → Option ((Int × ZS) ⊕ (Unit))
  | 0, _, _, _, _ => none
  | n + 1, S, l2, l3, l4 => gC l4 (zF S 1 6) (if l4 < (zF S 1 6) then gX l4 8 ((gC l3 0 (if l3 = 0 then some 0 else some (zshl 1 (zA S 44 l4)))).bind fun z1 => gC (zand l2 (zshl 1 (zA S 44 l4))) 0 (if (zand l2 (zshl 1 (zA S 44 l4))) = 0 then fB_doesOne_1 n S l2 l3 (l4 + 1) else (fT_isLawful n S 1 z1 (zand (zshl 1 (zA S 44 l4)) (zxor z1 (-1)))).bind fun z2 => gC z2 0 (if z2 = 0 then fB_doesOne_1 n S l2 l3 (l4 + 1) else (fT_pass_1 n S z1 (zand (zshl 1 (zA S 44 l4)) (zxor z1 (-1)))).bind fun z3 => gB 1 (some (.inl (1, z3)))))) else some (.inr ()))
set_option maxRecDepth 100000 in
set_option maxHeartbeats 4000000 in
theorem sB_doesOne_1 (o : eO) : ∀ (n : Nat) (S : ZS) (l2 l3 l4 : Int) {w : (Int × ZS) ⊕ (Unit)} {r : eP} (h : fB_doesOne_1 n S l2 l3 l4 = some w) (hr : ∀ v, w = .inl v → r (some (.int (zI v.1)), rd v.2)) (hk : ∀ x, w = .inr x → eG o 95 78 [none, none, none, none, none, none, none, none] [] (rd S) r), eG o 95 3 [some (.ref 43), some (.ref 1), some (.int (zI l2)), some (.int (zI l3)), some (.int (zI l4)), none, none, none] [] (rd S) r := by
  intro n
  induction n with
  | zero => intro S l2 l3 l4 w r h hr hk; unfold fB_doesOne_1 at h; cases h
  | succ n ih =>
    intro S l2 l3 l4 w r h hr hk
    unfold fB_doesOne_1 at h
    refine g_run 2 6 [some (.ref 43), some (.ref 1), some (.int (zI l2)), some (.int (zI l3)), some (.int (zI l4)), none, none, none] [.ref 1, .int (zI l4)] (rd S) rfl ?_
    refine g_getf rfl rfl (rd_o1 _) rfl ?_
    show eG _ 95 9 [some (.ref 43), some (.ref 1), some (.int (zI l2)), some (.int (zI l3)), some (.int (zI l4)), none, none, none] [.int (zI (zF S 1 6)), .int (zI l4)] (rd S) _
    refine s_icmp_ge rfl h (fun h => ?_) (fun h => ?_)
    · show eG _ 95 78 [some (.ref 43), some (.ref 1), some (.int (zI l2)), some (.int (zI l3)), some (.int (zI l4)), none, none, none] [] (rd S) _
      refine g_fgt [true, true, true, true, true, true, true, true] ?_
      show eG _ 95 78 [none, none, none, none, none, none, none, none] [] (rd S) _
      cases h
      exact hk _ rfl
    · show eG _ 95 12 [some (.ref 43), some (.ref 1), some (.int (zI l2)), some (.int (zI l3)), some (.int (zI l4)), none, none, none] [] (rd S) _
      refine g_run 2 14 [some (.ref 43), some (.ref 1), some (.int (zI l2)), some (.int (zI l3)), some (.int (zI l4)), none, none, none] [.ref 43, .int (zI 1)] (rd S) rfl ?_
      refine g_getf rfl rfl (rd_o43 _) rfl ?_
      show eG _ 95 17 [some (.ref 43), some (.ref 1), some (.int (zI l2)), some (.int (zI l3)), some (.int (zI l4)), none, none, none] [.ref 44, .int (zI 1)] (rd S) _
      refine g_run 1 19 [some (.ref 43), some (.ref 1), some (.int (zI l2)), some (.int (zI l3)), some (.int (zI l4)), none, none, none] [.int (zI l4), .ref 44, .int (zI 1)] (rd S) rfl ?_
      refine s_iald rfl (rd_a44 _) h (fun h => ?_)
      show eG _ 95 20 [some (.ref 43), some (.ref 1), some (.int (zI l2)), some (.int (zI l3)), some (.int (zI l4)), none, none, none] [.int (zI (zA S 44 l4)), .int (zI 1)] (rd S) _
      refine s_ishl rfl ?_
      refine g_run 2 24 [some (.ref 43), some (.ref 1), some (.int (zI l2)), some (.int (zI l3)), some (.int (zI l4)), some (.int (zI (zshl 1 (zA S 44 l4)))), none, none] [.int (zI l3)] (rd S) rfl ?_
      refine s_join (α := Int) (fun z => eG o 95 33 [some (.ref 43), some (.ref 1), some (.int (zI l2)), some (.int (zI l3)), some (.int (zI l4)), some (.int (zI (zshl 1 (zA S 44 l4)))), none, none] [.int (zI z)] (rd S) r) h (fun z1 h => ?_) (fun z1 h j => ?_)
      · show eG _ 95 33 [some (.ref 43), some (.ref 1), some (.int (zI l2)), some (.int (zI l3)), some (.int (zI l4)), some (.int (zI (zshl 1 (zA S 44 l4)))), none, none] [.int (zI z1)] (rd S) _
        refine g_run 4 40 [some (.ref 43), some (.ref 1), some (.int (zI l2)), some (.int (zI l3)), some (.int (zI l4)), some (.int (zI (zshl 1 (zA S 44 l4)))), some (.int (zI z1)), none] [.int (zI (-1)), .int (zI z1), .int (zI (zshl 1 (zA S 44 l4)))] (rd S) rfl ?_
        refine s_ixor rfl ?_
        refine s_iand rfl ?_
        refine g_run 3 47 [some (.ref 43), some (.ref 1), some (.int (zI l2)), some (.int (zI l3)), some (.int (zI l4)), some (.int (zI (zshl 1 (zA S 44 l4)))), some (.int (zI z1)), some (.int (zI (zand (zshl 1 (zA S 44 l4)) (zxor z1 (-1)))))] [.int (zI (zshl 1 (zA S 44 l4))), .int (zI l2)] (rd S) rfl ?_
        refine s_iand rfl ?_
        refine s_if_eq rfl h (fun h => ?_) (fun h => ?_)
        · show eG _ 95 72 [some (.ref 43), some (.ref 1), some (.int (zI l2)), some (.int (zI l3)), some (.int (zI l4)), some (.int (zI (zshl 1 (zA S 44 l4)))), some (.int (zI z1)), some (.int (zI (zand (zshl 1 (zA S 44 l4)) (zxor z1 (-1)))))] [] (rd S) _
          refine s_iinc (L' := [some (.ref 43), some (.ref 1), some (.int (zI l2)), some (.int (zI l3)), some (.int (zI (l4 + 1))), some (.int (zI (zshl 1 (zA S 44 l4)))), some (.int (zI z1)), some (.int (zI (zand (zshl 1 (zA S 44 l4)) (zxor z1 (-1)))))]) rfl rfl rfl ?_
          refine g_run 1 3 [some (.ref 43), some (.ref 1), some (.int (zI l2)), some (.int (zI l3)), some (.int (zI (l4 + 1))), some (.int (zI (zshl 1 (zA S 44 l4)))), some (.int (zI z1)), some (.int (zI (zand (zshl 1 (zA S 44 l4)) (zxor z1 (-1)))))] [] (rd S) rfl ?_
          refine g_fgt [false, false, false, false, false, true, true, true] ?_
          show eG _ 95 3 [some (.ref 43), some (.ref 1), some (.int (zI l2)), some (.int (zI l3)), some (.int (zI (l4 + 1))), none, none, none] [] (rd S) _
          exact ih S l2 l3 (l4 + 1) h hr hk
        · show eG _ 95 51 [some (.ref 43), some (.ref 1), some (.int (zI l2)), some (.int (zI l3)), some (.int (zI l4)), some (.int (zI (zshl 1 (zA S 44 l4)))), some (.int (zI z1)), some (.int (zI (zand (zshl 1 (zA S 44 l4)) (zxor z1 (-1)))))] [] (rd S) _
          refine g_run 3 56 [some (.ref 43), some (.ref 1), some (.int (zI l2)), some (.int (zI l3)), some (.int (zI l4)), some (.int (zI (zshl 1 (zA S 44 l4)))), some (.int (zI z1)), some (.int (zI (zand (zshl 1 (zA S 44 l4)) (zxor z1 (-1)))))] [.int (zI (zand (zshl 1 (zA S 44 l4)) (zxor z1 (-1)))), .int (zI z1), .ref 1] (rd S) rfl ?_
          refine s_vir (fun z => some (.int (zI z))) (fun _ => rd S) rfl rfl rfl (rd_o1 _) rfl rfl (fun z hz => sT_isLawful o n S 1 (Or.inl rfl) z1 (zand (zshl 1 (zA S 44 l4)) (zxor z1 (-1))) hz) rfl h (fun z2 h => ?_)
          show eG _ 95 59 [some (.ref 43), some (.ref 1), some (.int (zI l2)), some (.int (zI l3)), some (.int (zI l4)), some (.int (zI (zshl 1 (zA S 44 l4)))), some (.int (zI z1)), some (.int (zI (zand (zshl 1 (zA S 44 l4)) (zxor z1 (-1)))))] [.int (zI z2)] (rd S) _
          refine s_if_eq rfl h (fun h => ?_) (fun h => ?_)
          · show eG _ 95 72 [some (.ref 43), some (.ref 1), some (.int (zI l2)), some (.int (zI l3)), some (.int (zI l4)), some (.int (zI (zshl 1 (zA S 44 l4)))), some (.int (zI z1)), some (.int (zI (zand (zshl 1 (zA S 44 l4)) (zxor z1 (-1)))))] [] (rd S) _
            refine s_iinc (L' := [some (.ref 43), some (.ref 1), some (.int (zI l2)), some (.int (zI l3)), some (.int (zI (l4 + 1))), some (.int (zI (zshl 1 (zA S 44 l4)))), some (.int (zI z1)), some (.int (zI (zand (zshl 1 (zA S 44 l4)) (zxor z1 (-1)))))]) rfl rfl rfl ?_
            refine g_run 1 3 [some (.ref 43), some (.ref 1), some (.int (zI l2)), some (.int (zI l3)), some (.int (zI (l4 + 1))), some (.int (zI (zshl 1 (zA S 44 l4)))), some (.int (zI z1)), some (.int (zI (zand (zshl 1 (zA S 44 l4)) (zxor z1 (-1)))))] [] (rd S) rfl ?_
            refine g_fgt [false, false, false, false, false, true, true, true] ?_
            show eG _ 95 3 [some (.ref 43), some (.ref 1), some (.int (zI l2)), some (.int (zI l3)), some (.int (zI (l4 + 1))), none, none, none] [] (rd S) _
            exact ih S l2 l3 (l4 + 1) h hr hk
          · show eG _ 95 62 [some (.ref 43), some (.ref 1), some (.int (zI l2)), some (.int (zI l3)), some (.int (zI l4)), some (.int (zI (zshl 1 (zA S 44 l4)))), some (.int (zI z1)), some (.int (zI (zand (zshl 1 (zA S 44 l4)) (zxor z1 (-1)))))] [] (rd S) _
            refine g_run 3 67 [some (.ref 43), some (.ref 1), some (.int (zI l2)), some (.int (zI l3)), some (.int (zI l4)), some (.int (zI (zshl 1 (zA S 44 l4)))), some (.int (zI z1)), some (.int (zI (zand (zshl 1 (zA S 44 l4)) (zxor z1 (-1)))))] [.int (zI (zand (zshl 1 (zA S 44 l4)) (zxor z1 (-1)))), .int (zI z1), .ref 1] (rd S) rfl ?_
            refine s_vir (fun _ => none) (fun z => rd z) rfl rfl rfl (rd_o1 _) rfl rfl (fun z hz => sT_pass_1 o n S z1 (zand (zshl 1 (zA S 44 l4)) (zxor z1 (-1))) hz) rfl h (fun z3 h => ?_)
            show eG _ 95 70 [some (.ref 43), some (.ref 1), some (.int (zI l2)), some (.int (zI l3)), some (.int (zI l4)), some (.int (zI (zshl 1 (zA S 44 l4)))), some (.int (zI z1)), some (.int (zI (zand (zshl 1 (zA S 44 l4)) (zxor z1 (-1)))))] [] (rd z3) _
            refine g_run 1 71 [some (.ref 43), some (.ref 1), some (.int (zI l2)), some (.int (zI l3)), some (.int (zI l4)), some (.int (zI (zshl 1 (zA S 44 l4)))), some (.int (zI z1)), some (.int (zI (zand (zshl 1 (zA S 44 l4)) (zxor z1 (-1)))))] [.int (zI 1)] (rd z3) rfl ?_
            exact s_retB rfl rfl h (fun h => by cases h; exact hr _ rfl)
      · skip
        refine s_if_eq rfl h (fun h => ?_) (fun h => ?_)
        · show eG _ 95 32 [some (.ref 43), some (.ref 1), some (.int (zI l2)), some (.int (zI l3)), some (.int (zI l4)), some (.int (zI (zshl 1 (zA S 44 l4)))), none, none] [] (rd S) _
          refine g_run 1 33 [some (.ref 43), some (.ref 1), some (.int (zI l2)), some (.int (zI l3)), some (.int (zI l4)), some (.int (zI (zshl 1 (zA S 44 l4)))), none, none] [.int (zI 0)] (rd S) rfl ?_
          cases h
          exact j
        · show eG _ 95 27 [some (.ref 43), some (.ref 1), some (.int (zI l2)), some (.int (zI l3)), some (.int (zI l4)), some (.int (zI (zshl 1 (zA S 44 l4)))), none, none] [] (rd S) _
          refine g_run 2 33 [some (.ref 43), some (.ref 1), some (.int (zI l2)), some (.int (zI l3)), some (.int (zI l4)), some (.int (zI (zshl 1 (zA S 44 l4)))), none, none] [.int (zI (zshl 1 (zA S 44 l4)))] (rd S) rfl ?_
          cases h
          exact j
def fB_doesOne (n : Nat) (S : ZS) (l2 l3 : Int) : Option (Int × ZS) := zR (fB_doesOne_1 n S l2 l3 0) fun z1 => gB 0 (some (0, S))
set_option maxRecDepth 100000 in
set_option maxHeartbeats 4000000 in
theorem sB_doesOne (o : eO) (n : Nat) (S : ZS) (l2 l3 : Int) {w : Int × ZS} (h : fB_doesOne n S l2 l3 = some w) : eG o 95 0 (eEnt 95 [.ref 43, .ref 1, .int (zI l2), .int (zI l3)]) [] (rd S) (rv (some (.int (zI w.1))) (rd w.2)) := by
  unfold fB_doesOne at h
  show eG o 95 0 [some (.ref 43), some (.ref 1), some (.int (zI l2)), some (.int (zI l3)), none, none, none, none] [] (rd S) _
  refine g_run 2 3 [some (.ref 43), some (.ref 1), some (.int (zI l2)), some (.int (zI l3)), some (.int (zI 0)), none, none, none] [] (rd S) rfl ?_
  rcases zR_inv h with h1 | ⟨z1, h1, h⟩
  · exact sB_doesOne_1 o n S l2 l3 0 h1 (fun v e => by cases e; rfl) (fun x e => by cases e)
  refine sB_doesOne_1 o n S l2 l3 0 h1 (fun v e => by cases e) (fun x e => ?_)
  cases e
  show eG _ 95 78 [none, none, none, none, none, none, none, none] [] (rd S) _
  refine g_run 1 79 [none, none, none, none, none, none, none, none] [.int (zI 0)] (rd S) rfl ?_
  exact s_retB rfl rfl h (fun h => by cases h; exact rfl)
