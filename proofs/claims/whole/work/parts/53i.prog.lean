def fH_bring (n : Nat) (S : ZS) (l1 l2 l3 l4 l5 : Int) : Option (ZS) := gY ((l1 * 24) + l2) ((l3 * 24) + l4) l5 96 96 (some (wR S 46 (zc (S.1 46) (S.1 46) ((l1 * 24) + l2) ((l3 * 24) + l4) l5)))
set_option maxRecDepth 100000 in
set_option maxHeartbeats 4000000 in
theorem sH_bring (o : eO) (n : Nat) (S : ZS) (l1 l2 l3 l4 l5 : Int) {w : ZS} (h : fH_bring n S l1 l2 l3 l4 l5 = some w) : eG o 127 0 (eEnt 127 [.ref 45, .int (zI l1), .int (zI l2), .int (zI l3), .int (zI l4), .int (zI l5)]) [] (rd S) (rv (none) (rd w)) := by
  unfold fH_bring at h
  show eG o 127 0 [some (.ref 45), some (.int (zI l1)), some (.int (zI l2)), some (.int (zI l3)), some (.int (zI l4)), some (.int (zI l5))] [] (rd S) _
  refine g_run 1 1 [some (.ref 45), some (.int (zI l1)), some (.int (zI l2)), some (.int (zI l3)), some (.int (zI l4)), some (.int (zI l5))] [.ref 45] (rd S) rfl ?_
  refine g_getf rfl rfl (rd_o45 _) rfl ?_
  show eG _ 127 4 [some (.ref 45), some (.int (zI l1)), some (.int (zI l2)), some (.int (zI l3)), some (.int (zI l4)), some (.int (zI l5))] [.ref 46] (rd S) _
  refine g_run 2 7 [some (.ref 45), some (.int (zI l1)), some (.int (zI l2)), some (.int (zI l3)), some (.int (zI l4)), some (.int (zI l5))] [.int (zI 24), .int (zI l1), .ref 46] (rd S) rfl ?_
  refine s_imul rfl ?_
  refine g_run 1 9 [some (.ref 45), some (.int (zI l1)), some (.int (zI l2)), some (.int (zI l3)), some (.int (zI l4)), some (.int (zI l5))] [.int (zI l2), .int (zI (l1 * 24)), .ref 46] (rd S) rfl ?_
  refine s_iadd rfl ?_
  refine g_run 1 11 [some (.ref 45), some (.int (zI l1)), some (.int (zI l2)), some (.int (zI l3)), some (.int (zI l4)), some (.int (zI l5))] [.ref 45, .int (zI ((l1 * 24) + l2)), .ref 46] (rd S) rfl ?_
  refine g_getf rfl rfl (rd_o45 _) rfl ?_
  show eG _ 127 14 [some (.ref 45), some (.int (zI l1)), some (.int (zI l2)), some (.int (zI l3)), some (.int (zI l4)), some (.int (zI l5))] [.ref 46, .int (zI ((l1 * 24) + l2)), .ref 46] (rd S) _
  refine g_run 2 17 [some (.ref 45), some (.int (zI l1)), some (.int (zI l2)), some (.int (zI l3)), some (.int (zI l4)), some (.int (zI l5))] [.int (zI 24), .int (zI l3), .ref 46, .int (zI ((l1 * 24) + l2)), .ref 46] (rd S) rfl ?_
  refine s_imul rfl ?_
  refine g_run 1 20 [some (.ref 45), some (.int (zI l1)), some (.int (zI l2)), some (.int (zI l3)), some (.int (zI l4)), some (.int (zI l5))] [.int (zI l4), .int (zI (l3 * 24)), .ref 46, .int (zI ((l1 * 24) + l2)), .ref 46] (rd S) rfl ?_
  refine s_iadd rfl ?_
  refine g_run 1 23 [some (.ref 45), some (.int (zI l1)), some (.int (zI l2)), some (.int (zI l3)), some (.int (zI l4)), some (.int (zI l5))] [.int (zI l5), .int (zI ((l3 * 24) + l4)), .ref 46, .int (zI ((l1 * 24) + l2)), .ref 46] (rd S) rfl ?_
  refine s_cpyL rfl rfl (rd_a46 _) (rd_a46 _) rfl (rw_a46 _ _) h (fun h => ?_)
  show eG _ 127 26 [some (.ref 45), some (.int (zI l1)), some (.int (zI l2)), some (.int (zI l3)), some (.int (zI l4)), some (.int (zI l5))] [] (rd (wR S 46 (zc (S.1 46) (S.1 46) ((l1 * 24) + l2) ((l3 * 24) + l4) l5))) _
  cases h
  exact g_retv rfl rfl rfl
def fD_copy (n : Nat) (S : ZS) (l1 l2 l3 l4 l5 : Int) : Option (Int × ZS) := (fH_isSheet n S l1).bind fun z1 => gC z1 0 (if z1 = 0 then some (-1, S) else (fH_isSheet n S l3).bind fun z2 => gC z2 0 (if z2 = 0 then some (-1, S) else (fH_isNothing n S l1).bind fun z3 => gC z3 0 (if z3 = 0 then (fH_isNothing n S l3).bind fun z4 => gC z4 0 (if z4 = 0 then (fH_areAlike n S l1 l3).bind fun z5 => gC z5 0 (if z5 = 0 then some (-12, S) else (fH_holds n S l1 l2 l5).bind fun z6 => gC z6 0 (if z6 = 0 then some (-13, S) else (fH_holds n S l3 l4 l5).bind fun z7 => gC z7 0 (if z7 = 0 then some (-13, S) else (fH_bring n S l1 l2 l3 l4 l5).bind fun z8 => some (l5, z8)))) else some (-11, S)) else some (-11, S))))
set_option maxRecDepth 100000 in
set_option maxHeartbeats 4000000 in
theorem sD_copy (o : eO) (n : Nat) (S : ZS) (l1 l2 l3 l4 l5 : Int) {w : Int × ZS} (h : fD_copy n S l1 l2 l3 l4 l5 = some w) : eG o 125 0 (eEnt 125 [.ref 0, .int (zI l1), .int (zI l2), .int (zI l3), .int (zI l4), .int (zI l5)]) [] (rd S) (rv (some (.int (zI w.1))) (rd w.2)) := by
  unfold fD_copy at h
  show eG o 125 0 [some (.ref 0), some (.int (zI l1)), some (.int (zI l2)), some (.int (zI l3)), some (.int (zI l4)), some (.int (zI l5))] [] (rd S) _
  refine g_run 1 1 [some (.ref 0), some (.int (zI l1)), some (.int (zI l2)), some (.int (zI l3)), some (.int (zI l4)), some (.int (zI l5))] [.int (zI l1)] (rd S) rfl ?_
  refine s_sta (fun z => some (.int (zI z))) (fun _ => rd S) rfl rfl rfl rfl rfl rfl rfl (fun z hz => sH_isSheet o n S l1 hz) rfl h (fun z1 h => ?_)
  show eG _ 125 4 [some (.ref 0), some (.int (zI l1)), some (.int (zI l2)), some (.int (zI l3)), some (.int (zI l4)), some (.int (zI l5))] [.int (zI z1)] (rd S) _
  refine s_if_eq rfl h (fun h => ?_) (fun h => ?_)
  · show eG _ 125 14 [some (.ref 0), some (.int (zI l1)), some (.int (zI l2)), some (.int (zI l3)), some (.int (zI l4)), some (.int (zI l5))] [] (rd S) _
    refine g_run 1 15 [some (.ref 0), some (.int (zI l1)), some (.int (zI l2)), some (.int (zI l3)), some (.int (zI l4)), some (.int (zI l5))] [.int (zI (-1))] (rd S) rfl ?_
    cases h
    exact s_ret rfl rfl rfl
  · show eG _ 125 7 [some (.ref 0), some (.int (zI l1)), some (.int (zI l2)), some (.int (zI l3)), some (.int (zI l4)), some (.int (zI l5))] [] (rd S) _
    refine g_run 1 8 [some (.ref 0), some (.int (zI l1)), some (.int (zI l2)), some (.int (zI l3)), some (.int (zI l4)), some (.int (zI l5))] [.int (zI l3)] (rd S) rfl ?_
    refine s_sta (fun z => some (.int (zI z))) (fun _ => rd S) rfl rfl rfl rfl rfl rfl rfl (fun z hz => sH_isSheet o n S l3 hz) rfl h (fun z2 h => ?_)
    show eG _ 125 11 [some (.ref 0), some (.int (zI l1)), some (.int (zI l2)), some (.int (zI l3)), some (.int (zI l4)), some (.int (zI l5))] [.int (zI z2)] (rd S) _
    refine s_if_ne rfl h (fun h => ?_) (fun h => ?_)
    · show eG _ 125 16 [some (.ref 0), some (.int (zI l1)), some (.int (zI l2)), some (.int (zI l3)), some (.int (zI l4)), some (.int (zI l5))] [] (rd S) _
      refine g_run 1 17 [some (.ref 0), some (.int (zI l1)), some (.int (zI l2)), some (.int (zI l3)), some (.int (zI l4)), some (.int (zI l5))] [.ref 0] (rd S) rfl ?_
      refine g_getf rfl rfl (rd_o0 _) rfl ?_
      show eG _ 125 20 [some (.ref 0), some (.int (zI l1)), some (.int (zI l2)), some (.int (zI l3)), some (.int (zI l4)), some (.int (zI l5))] [.ref 45] (rd S) _
      refine g_run 1 21 [some (.ref 0), some (.int (zI l1)), some (.int (zI l2)), some (.int (zI l3)), some (.int (zI l4)), some (.int (zI l5))] [.int (zI l1), .ref 45] (rd S) rfl ?_
      refine s_vir (fun z => some (.int (zI z))) (fun _ => rd S) rfl rfl rfl (rd_o45 _) rfl rfl (fun z hz => sH_isNothing o n S l1 hz) rfl h (fun z3 h => ?_)
      show eG _ 125 24 [some (.ref 0), some (.int (zI l1)), some (.int (zI l2)), some (.int (zI l3)), some (.int (zI l4)), some (.int (zI l5))] [.int (zI z3)] (rd S) _
      refine s_if_ne rfl h (fun h => ?_) (fun h => ?_)
      · show eG _ 125 38 [some (.ref 0), some (.int (zI l1)), some (.int (zI l2)), some (.int (zI l3)), some (.int (zI l4)), some (.int (zI l5))] [] (rd S) _
        refine g_run 1 40 [some (.ref 0), some (.int (zI l1)), some (.int (zI l2)), some (.int (zI l3)), some (.int (zI l4)), some (.int (zI l5))] [.int (zI (-11))] (rd S) rfl ?_
        cases h
        exact s_ret rfl rfl rfl
      · show eG _ 125 27 [some (.ref 0), some (.int (zI l1)), some (.int (zI l2)), some (.int (zI l3)), some (.int (zI l4)), some (.int (zI l5))] [] (rd S) _
        refine g_run 1 28 [some (.ref 0), some (.int (zI l1)), some (.int (zI l2)), some (.int (zI l3)), some (.int (zI l4)), some (.int (zI l5))] [.ref 0] (rd S) rfl ?_
        refine g_getf rfl rfl (rd_o0 _) rfl ?_
        show eG _ 125 31 [some (.ref 0), some (.int (zI l1)), some (.int (zI l2)), some (.int (zI l3)), some (.int (zI l4)), some (.int (zI l5))] [.ref 45] (rd S) _
        refine g_run 1 32 [some (.ref 0), some (.int (zI l1)), some (.int (zI l2)), some (.int (zI l3)), some (.int (zI l4)), some (.int (zI l5))] [.int (zI l3), .ref 45] (rd S) rfl ?_
        refine s_vir (fun z => some (.int (zI z))) (fun _ => rd S) rfl rfl rfl (rd_o45 _) rfl rfl (fun z hz => sH_isNothing o n S l3 hz) rfl h (fun z4 h => ?_)
        show eG _ 125 35 [some (.ref 0), some (.int (zI l1)), some (.int (zI l2)), some (.int (zI l3)), some (.int (zI l4)), some (.int (zI l5))] [.int (zI z4)] (rd S) _
        refine s_if_eq rfl h (fun h => ?_) (fun h => ?_)
        · show eG _ 125 41 [some (.ref 0), some (.int (zI l1)), some (.int (zI l2)), some (.int (zI l3)), some (.int (zI l4)), some (.int (zI l5))] [] (rd S) _
          refine g_run 1 42 [some (.ref 0), some (.int (zI l1)), some (.int (zI l2)), some (.int (zI l3)), some (.int (zI l4)), some (.int (zI l5))] [.ref 0] (rd S) rfl ?_
          refine g_getf rfl rfl (rd_o0 _) rfl ?_
          show eG _ 125 45 [some (.ref 0), some (.int (zI l1)), some (.int (zI l2)), some (.int (zI l3)), some (.int (zI l4)), some (.int (zI l5))] [.ref 45] (rd S) _
          refine g_run 2 47 [some (.ref 0), some (.int (zI l1)), some (.int (zI l2)), some (.int (zI l3)), some (.int (zI l4)), some (.int (zI l5))] [.int (zI l3), .int (zI l1), .ref 45] (rd S) rfl ?_
          refine s_vir (fun z => some (.int (zI z))) (fun _ => rd S) rfl rfl rfl (rd_o45 _) rfl rfl (fun z hz => sH_areAlike o n S l1 l3 hz) rfl h (fun z5 h => ?_)
          show eG _ 125 50 [some (.ref 0), some (.int (zI l1)), some (.int (zI l2)), some (.int (zI l3)), some (.int (zI l4)), some (.int (zI l5))] [.int (zI z5)] (rd S) _
          refine s_if_ne rfl h (fun h => ?_) (fun h => ?_)
          · show eG _ 125 56 [some (.ref 0), some (.int (zI l1)), some (.int (zI l2)), some (.int (zI l3)), some (.int (zI l4)), some (.int (zI l5))] [] (rd S) _
            refine g_run 1 57 [some (.ref 0), some (.int (zI l1)), some (.int (zI l2)), some (.int (zI l3)), some (.int (zI l4)), some (.int (zI l5))] [.ref 0] (rd S) rfl ?_
            refine g_getf rfl rfl (rd_o0 _) rfl ?_
            show eG _ 125 60 [some (.ref 0), some (.int (zI l1)), some (.int (zI l2)), some (.int (zI l3)), some (.int (zI l4)), some (.int (zI l5))] [.ref 45] (rd S) _
            refine g_run 3 64 [some (.ref 0), some (.int (zI l1)), some (.int (zI l2)), some (.int (zI l3)), some (.int (zI l4)), some (.int (zI l5))] [.int (zI l5), .int (zI l2), .int (zI l1), .ref 45] (rd S) rfl ?_
            refine s_vir (fun z => some (.int (zI z))) (fun _ => rd S) rfl rfl rfl (rd_o45 _) rfl rfl (fun z hz => sH_holds o n S l1 l2 l5 hz) rfl h (fun z6 h => ?_)
            show eG _ 125 67 [some (.ref 0), some (.int (zI l1)), some (.int (zI l2)), some (.int (zI l3)), some (.int (zI l4)), some (.int (zI l5))] [.int (zI z6)] (rd S) _
            refine s_if_eq rfl h (fun h => ?_) (fun h => ?_)
            · show eG _ 125 85 [some (.ref 0), some (.int (zI l1)), some (.int (zI l2)), some (.int (zI l3)), some (.int (zI l4)), some (.int (zI l5))] [] (rd S) _
              refine g_run 1 87 [some (.ref 0), some (.int (zI l1)), some (.int (zI l2)), some (.int (zI l3)), some (.int (zI l4)), some (.int (zI l5))] [.int (zI (-13))] (rd S) rfl ?_
              cases h
              exact s_ret rfl rfl rfl
            · show eG _ 125 70 [some (.ref 0), some (.int (zI l1)), some (.int (zI l2)), some (.int (zI l3)), some (.int (zI l4)), some (.int (zI l5))] [] (rd S) _
              refine g_run 1 71 [some (.ref 0), some (.int (zI l1)), some (.int (zI l2)), some (.int (zI l3)), some (.int (zI l4)), some (.int (zI l5))] [.ref 0] (rd S) rfl ?_
              refine g_getf rfl rfl (rd_o0 _) rfl ?_
              show eG _ 125 74 [some (.ref 0), some (.int (zI l1)), some (.int (zI l2)), some (.int (zI l3)), some (.int (zI l4)), some (.int (zI l5))] [.ref 45] (rd S) _
              refine g_run 3 79 [some (.ref 0), some (.int (zI l1)), some (.int (zI l2)), some (.int (zI l3)), some (.int (zI l4)), some (.int (zI l5))] [.int (zI l5), .int (zI l4), .int (zI l3), .ref 45] (rd S) rfl ?_
              refine s_vir (fun z => some (.int (zI z))) (fun _ => rd S) rfl rfl rfl (rd_o45 _) rfl rfl (fun z hz => sH_holds o n S l3 l4 l5 hz) rfl h (fun z7 h => ?_)
              show eG _ 125 82 [some (.ref 0), some (.int (zI l1)), some (.int (zI l2)), some (.int (zI l3)), some (.int (zI l4)), some (.int (zI l5))] [.int (zI z7)] (rd S) _
              refine s_if_ne rfl h (fun h => ?_) (fun h => ?_)
              · show eG _ 125 88 [some (.ref 0), some (.int (zI l1)), some (.int (zI l2)), some (.int (zI l3)), some (.int (zI l4)), some (.int (zI l5))] [] (rd S) _
                refine g_run 1 89 [some (.ref 0), some (.int (zI l1)), some (.int (zI l2)), some (.int (zI l3)), some (.int (zI l4)), some (.int (zI l5))] [.ref 0] (rd S) rfl ?_
                refine g_getf rfl rfl (rd_o0 _) rfl ?_
                show eG _ 125 92 [some (.ref 0), some (.int (zI l1)), some (.int (zI l2)), some (.int (zI l3)), some (.int (zI l4)), some (.int (zI l5))] [.ref 45] (rd S) _
                refine g_run 5 99 [some (.ref 0), some (.int (zI l1)), some (.int (zI l2)), some (.int (zI l3)), some (.int (zI l4)), some (.int (zI l5))] [.int (zI l5), .int (zI l4), .int (zI l3), .int (zI l2), .int (zI l1), .ref 45] (rd S) rfl ?_
                refine s_vir (fun _ => none) (fun z => rd z) rfl rfl rfl (rd_o45 _) rfl rfl (fun z hz => sH_bring o n S l1 l2 l3 l4 l5 hz) rfl h (fun z8 h => ?_)
                show eG _ 125 102 [some (.ref 0), some (.int (zI l1)), some (.int (zI l2)), some (.int (zI l3)), some (.int (zI l4)), some (.int (zI l5))] [] (rd z8) _
                refine g_run 1 104 [some (.ref 0), some (.int (zI l1)), some (.int (zI l2)), some (.int (zI l3)), some (.int (zI l4)), some (.int (zI l5))] [.int (zI l5)] (rd z8) rfl ?_
                cases h
                exact s_ret rfl rfl rfl
              · show eG _ 125 85 [some (.ref 0), some (.int (zI l1)), some (.int (zI l2)), some (.int (zI l3)), some (.int (zI l4)), some (.int (zI l5))] [] (rd S) _
                refine g_run 1 87 [some (.ref 0), some (.int (zI l1)), some (.int (zI l2)), some (.int (zI l3)), some (.int (zI l4)), some (.int (zI l5))] [.int (zI (-13))] (rd S) rfl ?_
                cases h
                exact s_ret rfl rfl rfl
          · show eG _ 125 53 [some (.ref 0), some (.int (zI l1)), some (.int (zI l2)), some (.int (zI l3)), some (.int (zI l4)), some (.int (zI l5))] [] (rd S) _
            refine g_run 1 55 [some (.ref 0), some (.int (zI l1)), some (.int (zI l2)), some (.int (zI l3)), some (.int (zI l4)), some (.int (zI l5))] [.int (zI (-12))] (rd S) rfl ?_
            cases h
            exact s_ret rfl rfl rfl
        · show eG _ 125 38 [some (.ref 0), some (.int (zI l1)), some (.int (zI l2)), some (.int (zI l3)), some (.int (zI l4)), some (.int (zI l5))] [] (rd S) _
          refine g_run 1 40 [some (.ref 0), some (.int (zI l1)), some (.int (zI l2)), some (.int (zI l3)), some (.int (zI l4)), some (.int (zI l5))] [.int (zI (-11))] (rd S) rfl ?_
          cases h
          exact s_ret rfl rfl rfl
    · show eG _ 125 14 [some (.ref 0), some (.int (zI l1)), some (.int (zI l2)), some (.int (zI l3)), some (.int (zI l4)), some (.int (zI l5))] [] (rd S) _
      refine g_run 1 15 [some (.ref 0), some (.int (zI l1)), some (.int (zI l2)), some (.int (zI l3)), some (.int (zI l4)), some (.int (zI l5))] [.int (zI (-1))] (rd S) rfl ?_
      cases h
      exact s_ret rfl rfl rfl
def fM_in (n : Nat) (S : ZS) (l0 l2 l4 : Int) : Option (Int) := gL l0 l2 (gC (zcmp l0 l2) 0 (if (zcmp l0 l2) < 0 then gB 0 (some 0) else gL l0 l4 (gC (zcmp l0 l4) 0 (if 0 < (zcmp l0 l4) then gB 0 (some 0) else gB 1 (some 1)))))
set_option maxRecDepth 100000 in
set_option maxHeartbeats 4000000 in
theorem sM_in (o : eO) (n : Nat) (S : ZS) (l0 l2 l4 : Int) {w : Int} (h : fM_in n S l0 l2 l4 = some w) : eG o 130 0 (eEnt 130 [.long (zL l0), .long (zL l2), .long (zL l4)]) [] (rd S) (rv (some (.int (zI w))) (rd S)) := by
  unfold fM_in at h
  show eG o 130 0 [some (.long (zL l0)), none, some (.long (zL l2)), none, some (.long (zL l4)), none] [] (rd S) _
  refine g_run 2 2 [some (.long (zL l0)), none, some (.long (zL l2)), none, some (.long (zL l4)), none] [.long (zL l2), .long (zL l0)] (rd S) rfl ?_
  refine s_lcmp rfl h (fun h => ?_)
  refine s_if_lt rfl h (fun h => ?_) (fun h => ?_)
  · show eG _ 130 17 [some (.long (zL l0)), none, some (.long (zL l2)), none, some (.long (zL l4)), none] [] (rd S) _
    refine g_run 1 18 [some (.long (zL l0)), none, some (.long (zL l2)), none, some (.long (zL l4)), none] [.int (zI 0)] (rd S) rfl ?_
    exact s_retB rfl rfl h (fun h => by cases h; exact rfl)
  · show eG _ 130 6 [some (.long (zL l0)), none, some (.long (zL l2)), none, some (.long (zL l4)), none] [] (rd S) _
    refine g_run 2 9 [some (.long (zL l0)), none, some (.long (zL l2)), none, some (.long (zL l4)), none] [.long (zL l4), .long (zL l0)] (rd S) rfl ?_
    refine s_lcmp rfl h (fun h => ?_)
    refine s_if_gt rfl h (fun h => ?_) (fun h => ?_)
    · show eG _ 130 17 [some (.long (zL l0)), none, some (.long (zL l2)), none, some (.long (zL l4)), none] [] (rd S) _
      refine g_run 1 18 [some (.long (zL l0)), none, some (.long (zL l2)), none, some (.long (zL l4)), none] [.int (zI 0)] (rd S) rfl ?_
      exact s_retB rfl rfl h (fun h => by cases h; exact rfl)
    · show eG _ 130 13 [some (.long (zL l0)), none, some (.long (zL l2)), none, some (.long (zL l4)), none] [] (rd S) _
      refine g_run 2 18 [some (.long (zL l0)), none, some (.long (zL l2)), none, some (.long (zL l4)), none] [.int (zI 1)] (rd S) rfl ?_
      exact s_retB rfl rfl h (fun h => by cases h; exact rfl)
def fM_isSet (n : Nat) (S : ZS) (l1 : Int) : Option (Int) := gC ((zshl 1 (zF S 49 1)) - 1) 0 ((fM_in n S l1 0 ((zshl 1 (zF S 49 1)) - 1)).bind fun z1 => gB z1 (some z1))
set_option maxRecDepth 100000 in
set_option maxHeartbeats 4000000 in
theorem sM_isSet (o : eO) (n : Nat) (S : ZS) (l1 : Int) {w : Int} (h : fM_isSet n S l1 = some w) : eG o 131 0 (eEnt 131 [.ref 49, .long (zL l1)]) [] (rd S) (rv (some (.int (zI w))) (rd S)) := by
  unfold fM_isSet at h
  show eG o 131 0 [some (.ref 49), some (.long (zL l1)), none] [] (rd S) _
  refine g_run 4 4 [some (.ref 49), some (.long (zL l1)), none] [.ref 49, .int (zI 1), .long (zL 0), .long (zL l1)] (rd S) rfl ?_
  refine g_getf rfl rfl (rd_o49 _) rfl ?_
  show eG _ 131 7 [some (.ref 49), some (.long (zL l1)), none] [.int (zI (zF S 49 1)), .int (zI 1), .long (zL 0), .long (zL l1)] (rd S) _
  refine s_ishl rfl ?_
  refine g_run 1 9 [some (.ref 49), some (.long (zL l1)), none] [.int (zI 1), .int (zI (zshl 1 (zF S 49 1))), .long (zL 0), .long (zL l1)] (rd S) rfl ?_
  refine s_isub rfl ?_
  refine s_i2l rfl h (fun h => ?_)
  refine s_sta (fun z => some (.int (zI z))) (fun _ => rd S) rfl rfl rfl rfl rfl rfl rfl (fun z hz => sM_in o n S l1 0 ((zshl 1 (zF S 49 1)) - 1) hz) rfl h (fun z1 h => ?_)
  show eG _ 131 14 [some (.ref 49), some (.long (zL l1)), none] [.int (zI z1)] (rd S) _
  exact s_retB rfl rfl h (fun h => by cases h; exact rfl)
def fM_add (n : Nat) (S : ZS) (l1 l2 l3 l4 l5 : Int) : Option (ZS) := gX (5 * (zF S 49 1)) 40 (gX ((5 * (zF S 49 1)) + 1) 40 (gX ((5 * (zF S 49 1)) + 2) 40 (gX ((5 * (zF S 49 1)) + 3) 40 (gX ((5 * (zF S 49 1)) + 4) 40 (some (wF (wA (wA (wA (wA (wA S 50 (5 * (zF S 49 1)) l1) 50 ((5 * (zF S 49 1)) + 1) l2) 50 ((5 * (zF S 49 1)) + 2) l3) 50 ((5 * (zF S 49 1)) + 3) l4) 50 ((5 * (zF S 49 1)) + 4) l5) 49 1 ((zF S 49 1) + 1)))))))
set_option maxRecDepth 100000 in
set_option maxHeartbeats 4000000 in
theorem sM_add (o : eO) (n : Nat) (S : ZS) (l1 l2 l3 l4 l5 : Int) {w : ZS} (h : fM_add n S l1 l2 l3 l4 l5 = some w) : eG o 132 0 (eEnt 132 [.ref 49, .int (zI l1), .int (zI l2), .int (zI l3), .int (zI l4), .int (zI l5)]) [] (rd S) (rv (none) (rd w)) := by
  unfold fM_add at h
  show eG o 132 0 [some (.ref 49), some (.int (zI l1)), some (.int (zI l2)), some (.int (zI l3)), some (.int (zI l4)), some (.int (zI l5)), none] [] (rd S) _
  refine g_run 2 2 [some (.ref 49), some (.int (zI l1)), some (.int (zI l2)), some (.int (zI l3)), some (.int (zI l4)), some (.int (zI l5)), none] [.ref 49, .int (zI 5)] (rd S) rfl ?_
  refine g_getf rfl rfl (rd_o49 _) rfl ?_
  show eG _ 132 5 [some (.ref 49), some (.int (zI l1)), some (.int (zI l2)), some (.int (zI l3)), some (.int (zI l4)), some (.int (zI l5)), none] [.int (zI (zF S 49 1)), .int (zI 5)] (rd S) _
  refine s_imul rfl ?_
  refine g_run 2 9 [some (.ref 49), some (.int (zI l1)), some (.int (zI l2)), some (.int (zI l3)), some (.int (zI l4)), some (.int (zI l5)), some (.int (zI (5 * (zF S 49 1))))] [.ref 49] (rd S) rfl ?_
  refine g_getf rfl rfl (rd_o49 _) rfl ?_
  show eG _ 132 12 [some (.ref 49), some (.int (zI l1)), some (.int (zI l2)), some (.int (zI l3)), some (.int (zI l4)), some (.int (zI l5)), some (.int (zI (5 * (zF S 49 1))))] [.ref 50] (rd S) _
  refine g_run 2 15 [some (.ref 49), some (.int (zI l1)), some (.int (zI l2)), some (.int (zI l3)), some (.int (zI l4)), some (.int (zI l5)), some (.int (zI (5 * (zF S 49 1))))] [.int (zI l1), .int (zI (5 * (zF S 49 1))), .ref 50] (rd S) rfl ?_
  refine s_iast rfl (rd_a50 _) (rw_a50 _ _) h (fun h => ?_)
  show eG _ 132 16 [some (.ref 49), some (.int (zI l1)), some (.int (zI l2)), some (.int (zI l3)), some (.int (zI l4)), some (.int (zI l5)), some (.int (zI (5 * (zF S 49 1))))] [] (rd (wA S 50 (5 * (zF S 49 1)) l1)) _
  refine g_run 1 17 [some (.ref 49), some (.int (zI l1)), some (.int (zI l2)), some (.int (zI l3)), some (.int (zI l4)), some (.int (zI l5)), some (.int (zI (5 * (zF S 49 1))))] [.ref 49] (rd (wA S 50 (5 * (zF S 49 1)) l1)) rfl ?_
  refine g_getf rfl rfl (rd_o49 _) rfl ?_
  show eG _ 132 20 [some (.ref 49), some (.int (zI l1)), some (.int (zI l2)), some (.int (zI l3)), some (.int (zI l4)), some (.int (zI l5)), some (.int (zI (5 * (zF S 49 1))))] [.ref 50] (rd (wA S 50 (5 * (zF S 49 1)) l1)) _
  refine g_run 2 23 [some (.ref 49), some (.int (zI l1)), some (.int (zI l2)), some (.int (zI l3)), some (.int (zI l4)), some (.int (zI l5)), some (.int (zI (5 * (zF S 49 1))))] [.int (zI 1), .int (zI (5 * (zF S 49 1))), .ref 50] (rd (wA S 50 (5 * (zF S 49 1)) l1)) rfl ?_
  refine s_iadd rfl ?_
  refine g_run 1 25 [some (.ref 49), some (.int (zI l1)), some (.int (zI l2)), some (.int (zI l3)), some (.int (zI l4)), some (.int (zI l5)), some (.int (zI (5 * (zF S 49 1))))] [.int (zI l2), .int (zI ((5 * (zF S 49 1)) + 1)), .ref 50] (rd (wA S 50 (5 * (zF S 49 1)) l1)) rfl ?_
  refine s_iast rfl (rd_a50 _) (rw_a50 _ _) h (fun h => ?_)
  show eG _ 132 26 [some (.ref 49), some (.int (zI l1)), some (.int (zI l2)), some (.int (zI l3)), some (.int (zI l4)), some (.int (zI l5)), some (.int (zI (5 * (zF S 49 1))))] [] (rd (wA (wA S 50 (5 * (zF S 49 1)) l1) 50 ((5 * (zF S 49 1)) + 1) l2)) _
  refine g_run 1 27 [some (.ref 49), some (.int (zI l1)), some (.int (zI l2)), some (.int (zI l3)), some (.int (zI l4)), some (.int (zI l5)), some (.int (zI (5 * (zF S 49 1))))] [.ref 49] (rd (wA (wA S 50 (5 * (zF S 49 1)) l1) 50 ((5 * (zF S 49 1)) + 1) l2)) rfl ?_
  refine g_getf rfl rfl (rd_o49 _) rfl ?_
  show eG _ 132 30 [some (.ref 49), some (.int (zI l1)), some (.int (zI l2)), some (.int (zI l3)), some (.int (zI l4)), some (.int (zI l5)), some (.int (zI (5 * (zF S 49 1))))] [.ref 50] (rd (wA (wA S 50 (5 * (zF S 49 1)) l1) 50 ((5 * (zF S 49 1)) + 1) l2)) _
  refine g_run 2 33 [some (.ref 49), some (.int (zI l1)), some (.int (zI l2)), some (.int (zI l3)), some (.int (zI l4)), some (.int (zI l5)), some (.int (zI (5 * (zF S 49 1))))] [.int (zI 2), .int (zI (5 * (zF S 49 1))), .ref 50] (rd (wA (wA S 50 (5 * (zF S 49 1)) l1) 50 ((5 * (zF S 49 1)) + 1) l2)) rfl ?_
  refine s_iadd rfl ?_
  refine g_run 1 35 [some (.ref 49), some (.int (zI l1)), some (.int (zI l2)), some (.int (zI l3)), some (.int (zI l4)), some (.int (zI l5)), some (.int (zI (5 * (zF S 49 1))))] [.int (zI l3), .int (zI ((5 * (zF S 49 1)) + 2)), .ref 50] (rd (wA (wA S 50 (5 * (zF S 49 1)) l1) 50 ((5 * (zF S 49 1)) + 1) l2)) rfl ?_
  refine s_iast rfl (rd_a50 _) (rw_a50 _ _) h (fun h => ?_)
  show eG _ 132 36 [some (.ref 49), some (.int (zI l1)), some (.int (zI l2)), some (.int (zI l3)), some (.int (zI l4)), some (.int (zI l5)), some (.int (zI (5 * (zF S 49 1))))] [] (rd (wA (wA (wA S 50 (5 * (zF S 49 1)) l1) 50 ((5 * (zF S 49 1)) + 1) l2) 50 ((5 * (zF S 49 1)) + 2) l3)) _
  refine g_run 1 37 [some (.ref 49), some (.int (zI l1)), some (.int (zI l2)), some (.int (zI l3)), some (.int (zI l4)), some (.int (zI l5)), some (.int (zI (5 * (zF S 49 1))))] [.ref 49] (rd (wA (wA (wA S 50 (5 * (zF S 49 1)) l1) 50 ((5 * (zF S 49 1)) + 1) l2) 50 ((5 * (zF S 49 1)) + 2) l3)) rfl ?_
  refine g_getf rfl rfl (rd_o49 _) rfl ?_
  show eG _ 132 40 [some (.ref 49), some (.int (zI l1)), some (.int (zI l2)), some (.int (zI l3)), some (.int (zI l4)), some (.int (zI l5)), some (.int (zI (5 * (zF S 49 1))))] [.ref 50] (rd (wA (wA (wA S 50 (5 * (zF S 49 1)) l1) 50 ((5 * (zF S 49 1)) + 1) l2) 50 ((5 * (zF S 49 1)) + 2) l3)) _
  refine g_run 2 43 [some (.ref 49), some (.int (zI l1)), some (.int (zI l2)), some (.int (zI l3)), some (.int (zI l4)), some (.int (zI l5)), some (.int (zI (5 * (zF S 49 1))))] [.int (zI 3), .int (zI (5 * (zF S 49 1))), .ref 50] (rd (wA (wA (wA S 50 (5 * (zF S 49 1)) l1) 50 ((5 * (zF S 49 1)) + 1) l2) 50 ((5 * (zF S 49 1)) + 2) l3)) rfl ?_
  refine s_iadd rfl ?_
  refine g_run 1 46 [some (.ref 49), some (.int (zI l1)), some (.int (zI l2)), some (.int (zI l3)), some (.int (zI l4)), some (.int (zI l5)), some (.int (zI (5 * (zF S 49 1))))] [.int (zI l4), .int (zI ((5 * (zF S 49 1)) + 3)), .ref 50] (rd (wA (wA (wA S 50 (5 * (zF S 49 1)) l1) 50 ((5 * (zF S 49 1)) + 1) l2) 50 ((5 * (zF S 49 1)) + 2) l3)) rfl ?_
  refine s_iast rfl (rd_a50 _) (rw_a50 _ _) h (fun h => ?_)
  show eG _ 132 47 [some (.ref 49), some (.int (zI l1)), some (.int (zI l2)), some (.int (zI l3)), some (.int (zI l4)), some (.int (zI l5)), some (.int (zI (5 * (zF S 49 1))))] [] (rd (wA (wA (wA (wA S 50 (5 * (zF S 49 1)) l1) 50 ((5 * (zF S 49 1)) + 1) l2) 50 ((5 * (zF S 49 1)) + 2) l3) 50 ((5 * (zF S 49 1)) + 3) l4)) _
  refine g_run 1 48 [some (.ref 49), some (.int (zI l1)), some (.int (zI l2)), some (.int (zI l3)), some (.int (zI l4)), some (.int (zI l5)), some (.int (zI (5 * (zF S 49 1))))] [.ref 49] (rd (wA (wA (wA (wA S 50 (5 * (zF S 49 1)) l1) 50 ((5 * (zF S 49 1)) + 1) l2) 50 ((5 * (zF S 49 1)) + 2) l3) 50 ((5 * (zF S 49 1)) + 3) l4)) rfl ?_
  refine g_getf rfl rfl (rd_o49 _) rfl ?_
  show eG _ 132 51 [some (.ref 49), some (.int (zI l1)), some (.int (zI l2)), some (.int (zI l3)), some (.int (zI l4)), some (.int (zI l5)), some (.int (zI (5 * (zF S 49 1))))] [.ref 50] (rd (wA (wA (wA (wA S 50 (5 * (zF S 49 1)) l1) 50 ((5 * (zF S 49 1)) + 1) l2) 50 ((5 * (zF S 49 1)) + 2) l3) 50 ((5 * (zF S 49 1)) + 3) l4)) _
  refine g_run 2 54 [some (.ref 49), some (.int (zI l1)), some (.int (zI l2)), some (.int (zI l3)), some (.int (zI l4)), some (.int (zI l5)), some (.int (zI (5 * (zF S 49 1))))] [.int (zI 4), .int (zI (5 * (zF S 49 1))), .ref 50] (rd (wA (wA (wA (wA S 50 (5 * (zF S 49 1)) l1) 50 ((5 * (zF S 49 1)) + 1) l2) 50 ((5 * (zF S 49 1)) + 2) l3) 50 ((5 * (zF S 49 1)) + 3) l4)) rfl ?_
  refine s_iadd rfl ?_
  refine g_run 1 57 [some (.ref 49), some (.int (zI l1)), some (.int (zI l2)), some (.int (zI l3)), some (.int (zI l4)), some (.int (zI l5)), some (.int (zI (5 * (zF S 49 1))))] [.int (zI l5), .int (zI ((5 * (zF S 49 1)) + 4)), .ref 50] (rd (wA (wA (wA (wA S 50 (5 * (zF S 49 1)) l1) 50 ((5 * (zF S 49 1)) + 1) l2) 50 ((5 * (zF S 49 1)) + 2) l3) 50 ((5 * (zF S 49 1)) + 3) l4)) rfl ?_
  refine s_iast rfl (rd_a50 _) (rw_a50 _ _) h (fun h => ?_)
  show eG _ 132 58 [some (.ref 49), some (.int (zI l1)), some (.int (zI l2)), some (.int (zI l3)), some (.int (zI l4)), some (.int (zI l5)), some (.int (zI (5 * (zF S 49 1))))] [] (rd (wA (wA (wA (wA (wA S 50 (5 * (zF S 49 1)) l1) 50 ((5 * (zF S 49 1)) + 1) l2) 50 ((5 * (zF S 49 1)) + 2) l3) 50 ((5 * (zF S 49 1)) + 3) l4) 50 ((5 * (zF S 49 1)) + 4) l5)) _
  refine g_run 2 60 [some (.ref 49), some (.int (zI l1)), some (.int (zI l2)), some (.int (zI l3)), some (.int (zI l4)), some (.int (zI l5)), some (.int (zI (5 * (zF S 49 1))))] [.ref 49, .ref 49] (rd (wA (wA (wA (wA (wA S 50 (5 * (zF S 49 1)) l1) 50 ((5 * (zF S 49 1)) + 1) l2) 50 ((5 * (zF S 49 1)) + 2) l3) 50 ((5 * (zF S 49 1)) + 3) l4) 50 ((5 * (zF S 49 1)) + 4) l5)) rfl ?_
  refine g_getf rfl rfl (rd_o49 _) rfl ?_
  show eG _ 132 63 [some (.ref 49), some (.int (zI l1)), some (.int (zI l2)), some (.int (zI l3)), some (.int (zI l4)), some (.int (zI l5)), some (.int (zI (5 * (zF S 49 1))))] [.int (zI (zF S 49 1)), .ref 49] (rd (wA (wA (wA (wA (wA S 50 (5 * (zF S 49 1)) l1) 50 ((5 * (zF S 49 1)) + 1) l2) 50 ((5 * (zF S 49 1)) + 2) l3) 50 ((5 * (zF S 49 1)) + 3) l4) 50 ((5 * (zF S 49 1)) + 4) l5)) _
  refine g_run 1 64 [some (.ref 49), some (.int (zI l1)), some (.int (zI l2)), some (.int (zI l3)), some (.int (zI l4)), some (.int (zI l5)), some (.int (zI (5 * (zF S 49 1))))] [.int (zI 1), .int (zI (zF S 49 1)), .ref 49] (rd (wA (wA (wA (wA (wA S 50 (5 * (zF S 49 1)) l1) 50 ((5 * (zF S 49 1)) + 1) l2) 50 ((5 * (zF S 49 1)) + 2) l3) 50 ((5 * (zF S 49 1)) + 3) l4) 50 ((5 * (zF S 49 1)) + 4) l5)) rfl ?_
  refine s_iadd rfl ?_
  refine s_putf rfl rfl (rd_o49 _) rfl rfl rfl rfl rfl (rw_o49_1 _ _) ?_
  show eG _ 132 68 [some (.ref 49), some (.int (zI l1)), some (.int (zI l2)), some (.int (zI l3)), some (.int (zI l4)), some (.int (zI l5)), some (.int (zI (5 * (zF S 49 1))))] [] (rd (wF (wA (wA (wA (wA (wA S 50 (5 * (zF S 49 1)) l1) 50 ((5 * (zF S 49 1)) + 1) l2) 50 ((5 * (zF S 49 1)) + 2) l3) 50 ((5 * (zF S 49 1)) + 3) l4) 50 ((5 * (zF S 49 1)) + 4) l5) 49 1 ((zF S 49 1) + 1))) _
  cases h
  exact g_retv rfl rfl rfl
def fM_part (n : Nat) (S : ZS) (l1 l2 l3 l4 l5 : Int) : Option (Int × ZS) := gC l1 0 ((fM_in n S l1 0 3).bind fun z1 => gC z1 0 (if z1 = 0 then some (-1, S) else gC l2 0 ((fM_in n S l2 1 99).bind fun z2 => gC z2 0 (if z2 = 0 then some (-1, S) else gC l3 0 ((fM_in n S l3 0 99).bind fun z3 => gC z3 0 (if z3 = 0 then some (-1, S) else gC l4 0 ((fM_in n S l4 0 3).bind fun z4 => gC z4 0 (if z4 = 0 then some (-1, S) else gC l5 0 ((fM_isSet n S l5).bind fun z5 => gC z5 0 (if z5 = 0 then some (-1, S) else gC (zF S 49 1) 8 (if (zF S 49 1) = 8 then some (-3, S) else (fM_add n S l1 l2 l3 l4 l5).bind fun z6 => some ((zF z6 49 1) - 1, z6))))))))))))
set_option maxRecDepth 100000 in
set_option maxHeartbeats 4000000 in
theorem sM_part (o : eO) (n : Nat) (S : ZS) (l1 l2 l3 l4 l5 : Int) {w : Int × ZS} (h : fM_part n S l1 l2 l3 l4 l5 = some w) : eG o 129 0 (eEnt 129 [.ref 49, .int (zI l1), .int (zI l2), .int (zI l3), .int (zI l4), .int (zI l5)]) [] (rd S) (rv (some (.int (zI w.1))) (rd w.2)) := by
  unfold fM_part at h
  show eG o 129 0 [some (.ref 49), some (.int (zI l1)), some (.int (zI l2)), some (.int (zI l3)), some (.int (zI l4)), some (.int (zI l5))] [] (rd S) _
  refine g_run 1 1 [some (.ref 49), some (.int (zI l1)), some (.int (zI l2)), some (.int (zI l3)), some (.int (zI l4)), some (.int (zI l5))] [.int (zI l1)] (rd S) rfl ?_
  refine s_i2l rfl h (fun h => ?_)
  refine g_run 2 6 [some (.ref 49), some (.int (zI l1)), some (.int (zI l2)), some (.int (zI l3)), some (.int (zI l4)), some (.int (zI l5))] [.long (zL 3), .long (zL 0), .long (zL l1)] (rd S) rfl ?_
  refine s_sta (fun z => some (.int (zI z))) (fun _ => rd S) rfl rfl rfl rfl rfl rfl rfl (fun z hz => sM_in o n S l1 0 3 hz) rfl h (fun z1 h => ?_)
  show eG _ 129 9 [some (.ref 49), some (.int (zI l1)), some (.int (zI l2)), some (.int (zI l3)), some (.int (zI l4)), some (.int (zI l5))] [.int (zI z1)] (rd S) _
  refine s_if_eq rfl h (fun h => ?_) (fun h => ?_)
  · show eG _ 129 59 [some (.ref 49), some (.int (zI l1)), some (.int (zI l2)), some (.int (zI l3)), some (.int (zI l4)), some (.int (zI l5))] [] (rd S) _
    refine g_run 1 60 [some (.ref 49), some (.int (zI l1)), some (.int (zI l2)), some (.int (zI l3)), some (.int (zI l4)), some (.int (zI l5))] [.int (zI (-1))] (rd S) rfl ?_
    cases h
    exact s_ret rfl rfl rfl
  · show eG _ 129 12 [some (.ref 49), some (.int (zI l1)), some (.int (zI l2)), some (.int (zI l3)), some (.int (zI l4)), some (.int (zI l5))] [] (rd S) _
    refine g_run 1 13 [some (.ref 49), some (.int (zI l1)), some (.int (zI l2)), some (.int (zI l3)), some (.int (zI l4)), some (.int (zI l5))] [.int (zI l2)] (rd S) rfl ?_
    refine s_i2l rfl h (fun h => ?_)
    refine g_run 2 18 [some (.ref 49), some (.int (zI l1)), some (.int (zI l2)), some (.int (zI l3)), some (.int (zI l4)), some (.int (zI l5))] [.long (zL 99), .long (zL 1), .long (zL l2)] (rd S) rfl ?_
    refine s_sta (fun z => some (.int (zI z))) (fun _ => rd S) rfl rfl rfl rfl rfl rfl rfl (fun z hz => sM_in o n S l2 1 99 hz) rfl h (fun z2 h => ?_)
    show eG _ 129 21 [some (.ref 49), some (.int (zI l1)), some (.int (zI l2)), some (.int (zI l3)), some (.int (zI l4)), some (.int (zI l5))] [.int (zI z2)] (rd S) _
    refine s_if_eq rfl h (fun h => ?_) (fun h => ?_)
    · show eG _ 129 59 [some (.ref 49), some (.int (zI l1)), some (.int (zI l2)), some (.int (zI l3)), some (.int (zI l4)), some (.int (zI l5))] [] (rd S) _
      refine g_run 1 60 [some (.ref 49), some (.int (zI l1)), some (.int (zI l2)), some (.int (zI l3)), some (.int (zI l4)), some (.int (zI l5))] [.int (zI (-1))] (rd S) rfl ?_
      cases h
      exact s_ret rfl rfl rfl
    · show eG _ 129 24 [some (.ref 49), some (.int (zI l1)), some (.int (zI l2)), some (.int (zI l3)), some (.int (zI l4)), some (.int (zI l5))] [] (rd S) _
      refine g_run 1 25 [some (.ref 49), some (.int (zI l1)), some (.int (zI l2)), some (.int (zI l3)), some (.int (zI l4)), some (.int (zI l5))] [.int (zI l3)] (rd S) rfl ?_
      refine s_i2l rfl h (fun h => ?_)
      refine g_run 2 30 [some (.ref 49), some (.int (zI l1)), some (.int (zI l2)), some (.int (zI l3)), some (.int (zI l4)), some (.int (zI l5))] [.long (zL 99), .long (zL 0), .long (zL l3)] (rd S) rfl ?_
      refine s_sta (fun z => some (.int (zI z))) (fun _ => rd S) rfl rfl rfl rfl rfl rfl rfl (fun z hz => sM_in o n S l3 0 99 hz) rfl h (fun z3 h => ?_)
      show eG _ 129 33 [some (.ref 49), some (.int (zI l1)), some (.int (zI l2)), some (.int (zI l3)), some (.int (zI l4)), some (.int (zI l5))] [.int (zI z3)] (rd S) _
      refine s_if_eq rfl h (fun h => ?_) (fun h => ?_)
      · show eG _ 129 59 [some (.ref 49), some (.int (zI l1)), some (.int (zI l2)), some (.int (zI l3)), some (.int (zI l4)), some (.int (zI l5))] [] (rd S) _
        refine g_run 1 60 [some (.ref 49), some (.int (zI l1)), some (.int (zI l2)), some (.int (zI l3)), some (.int (zI l4)), some (.int (zI l5))] [.int (zI (-1))] (rd S) rfl ?_
        cases h
        exact s_ret rfl rfl rfl
      · show eG _ 129 36 [some (.ref 49), some (.int (zI l1)), some (.int (zI l2)), some (.int (zI l3)), some (.int (zI l4)), some (.int (zI l5))] [] (rd S) _
        refine g_run 1 38 [some (.ref 49), some (.int (zI l1)), some (.int (zI l2)), some (.int (zI l3)), some (.int (zI l4)), some (.int (zI l5))] [.int (zI l4)] (rd S) rfl ?_
        refine s_i2l rfl h (fun h => ?_)
        refine g_run 2 43 [some (.ref 49), some (.int (zI l1)), some (.int (zI l2)), some (.int (zI l3)), some (.int (zI l4)), some (.int (zI l5))] [.long (zL 3), .long (zL 0), .long (zL l4)] (rd S) rfl ?_
        refine s_sta (fun z => some (.int (zI z))) (fun _ => rd S) rfl rfl rfl rfl rfl rfl rfl (fun z hz => sM_in o n S l4 0 3 hz) rfl h (fun z4 h => ?_)
        show eG _ 129 46 [some (.ref 49), some (.int (zI l1)), some (.int (zI l2)), some (.int (zI l3)), some (.int (zI l4)), some (.int (zI l5))] [.int (zI z4)] (rd S) _
        refine s_if_eq rfl h (fun h => ?_) (fun h => ?_)
        · show eG _ 129 59 [some (.ref 49), some (.int (zI l1)), some (.int (zI l2)), some (.int (zI l3)), some (.int (zI l4)), some (.int (zI l5))] [] (rd S) _
          refine g_run 1 60 [some (.ref 49), some (.int (zI l1)), some (.int (zI l2)), some (.int (zI l3)), some (.int (zI l4)), some (.int (zI l5))] [.int (zI (-1))] (rd S) rfl ?_
          cases h
          exact s_ret rfl rfl rfl
        · show eG _ 129 49 [some (.ref 49), some (.int (zI l1)), some (.int (zI l2)), some (.int (zI l3)), some (.int (zI l4)), some (.int (zI l5))] [] (rd S) _
          refine g_run 2 52 [some (.ref 49), some (.int (zI l1)), some (.int (zI l2)), some (.int (zI l3)), some (.int (zI l4)), some (.int (zI l5))] [.int (zI l5), .ref 49] (rd S) rfl ?_
          refine s_i2l rfl h (fun h => ?_)
          refine s_vir (fun z => some (.int (zI z))) (fun _ => rd S) rfl rfl rfl (rd_o49 _) rfl rfl (fun z hz => sM_isSet o n S l5 hz) rfl h (fun z5 h => ?_)
          show eG _ 129 56 [some (.ref 49), some (.int (zI l1)), some (.int (zI l2)), some (.int (zI l3)), some (.int (zI l4)), some (.int (zI l5))] [.int (zI z5)] (rd S) _
          refine s_if_ne rfl h (fun h => ?_) (fun h => ?_)
          · show eG _ 129 61 [some (.ref 49), some (.int (zI l1)), some (.int (zI l2)), some (.int (zI l3)), some (.int (zI l4)), some (.int (zI l5))] [] (rd S) _
            refine g_run 1 62 [some (.ref 49), some (.int (zI l1)), some (.int (zI l2)), some (.int (zI l3)), some (.int (zI l4)), some (.int (zI l5))] [.ref 49] (rd S) rfl ?_
            refine g_getf rfl rfl (rd_o49 _) rfl ?_
            show eG _ 129 65 [some (.ref 49), some (.int (zI l1)), some (.int (zI l2)), some (.int (zI l3)), some (.int (zI l4)), some (.int (zI l5))] [.int (zI (zF S 49 1))] (rd S) _
            refine g_run 1 67 [some (.ref 49), some (.int (zI l1)), some (.int (zI l2)), some (.int (zI l3)), some (.int (zI l4)), some (.int (zI l5))] [.int (zI 8), .int (zI (zF S 49 1))] (rd S) rfl ?_
            refine s_icmp_ne rfl h (fun h => ?_) (fun h => ?_)
            · show eG _ 129 73 [some (.ref 49), some (.int (zI l1)), some (.int (zI l2)), some (.int (zI l3)), some (.int (zI l4)), some (.int (zI l5))] [] (rd S) _
              refine g_run 6 81 [some (.ref 49), some (.int (zI l1)), some (.int (zI l2)), some (.int (zI l3)), some (.int (zI l4)), some (.int (zI l5))] [.int (zI l5), .int (zI l4), .int (zI l3), .int (zI l2), .int (zI l1), .ref 49] (rd S) rfl ?_
              refine s_vir (fun _ => none) (fun z => rd z) rfl rfl rfl (rd_o49 _) rfl rfl (fun z hz => sM_add o n S l1 l2 l3 l4 l5 hz) rfl h (fun z6 h => ?_)
              show eG _ 129 84 [some (.ref 49), some (.int (zI l1)), some (.int (zI l2)), some (.int (zI l3)), some (.int (zI l4)), some (.int (zI l5))] [] (rd z6) _
              refine g_run 1 85 [some (.ref 49), some (.int (zI l1)), some (.int (zI l2)), some (.int (zI l3)), some (.int (zI l4)), some (.int (zI l5))] [.ref 49] (rd z6) rfl ?_
              refine g_getf rfl rfl (rd_o49 _) rfl ?_
              show eG _ 129 88 [some (.ref 49), some (.int (zI l1)), some (.int (zI l2)), some (.int (zI l3)), some (.int (zI l4)), some (.int (zI l5))] [.int (zI (zF z6 49 1))] (rd z6) _
              refine g_run 1 89 [some (.ref 49), some (.int (zI l1)), some (.int (zI l2)), some (.int (zI l3)), some (.int (zI l4)), some (.int (zI l5))] [.int (zI 1), .int (zI (zF z6 49 1))] (rd z6) rfl ?_
              refine s_isub rfl ?_
              cases h
              exact s_ret rfl rfl rfl
            · show eG _ 129 70 [some (.ref 49), some (.int (zI l1)), some (.int (zI l2)), some (.int (zI l3)), some (.int (zI l4)), some (.int (zI l5))] [] (rd S) _
              refine g_run 1 72 [some (.ref 49), some (.int (zI l1)), some (.int (zI l2)), some (.int (zI l3)), some (.int (zI l4)), some (.int (zI l5))] [.int (zI (-3))] (rd S) rfl ?_
              cases h
              exact s_ret rfl rfl rfl
          · show eG _ 129 59 [some (.ref 49), some (.int (zI l1)), some (.int (zI l2)), some (.int (zI l3)), some (.int (zI l4)), some (.int (zI l5))] [] (rd S) _
            refine g_run 1 60 [some (.ref 49), some (.int (zI l1)), some (.int (zI l2)), some (.int (zI l3)), some (.int (zI l4)), some (.int (zI l5))] [.int (zI (-1))] (rd S) rfl ?_
            cases h
            exact s_ret rfl rfl rfl
def fM_told (n : Nat) (S : ZS) (l1 l2 : Int) : Option (Int) := gC l1 0 (gC ((zF S 49 1) - 1) 0 ((fM_in n S l1 0 ((zF S 49 1) - 1)).bind fun z1 => gC z1 0 (if z1 = 0 then some (-1) else gC l2 0 ((fM_in n S l2 0 5).bind fun z2 => gC z2 0 (if z2 = 0 then some (-1) else gC l2 5 (if l2 < 5 then gX ((5 * l1) + l2) 40 (some (zA S 50 ((5 * l1) + l2))) else some (zand (zshr (zF S 49 2) l1) 1)))))))
set_option maxRecDepth 100000 in
set_option maxHeartbeats 4000000 in
theorem sM_told (o : eO) (n : Nat) (S : ZS) (l1 l2 : Int) {w : Int} (h : fM_told n S l1 l2 = some w) : eG o 133 0 (eEnt 133 [.ref 49, .int (zI l1), .int (zI l2)]) [] (rd S) (rv (some (.int (zI w))) (rd S)) := by
  unfold fM_told at h
  show eG o 133 0 [some (.ref 49), some (.int (zI l1)), some (.int (zI l2))] [] (rd S) _
  refine g_run 1 1 [some (.ref 49), some (.int (zI l1)), some (.int (zI l2))] [.int (zI l1)] (rd S) rfl ?_
  refine s_i2l rfl h (fun h => ?_)
  refine g_run 2 4 [some (.ref 49), some (.int (zI l1)), some (.int (zI l2))] [.ref 49, .long (zL 0), .long (zL l1)] (rd S) rfl ?_
  refine g_getf rfl rfl (rd_o49 _) rfl ?_
  show eG _ 133 7 [some (.ref 49), some (.int (zI l1)), some (.int (zI l2))] [.int (zI (zF S 49 1)), .long (zL 0), .long (zL l1)] (rd S) _
  refine g_run 1 8 [some (.ref 49), some (.int (zI l1)), some (.int (zI l2))] [.int (zI 1), .int (zI (zF S 49 1)), .long (zL 0), .long (zL l1)] (rd S) rfl ?_
  refine s_isub rfl ?_
  refine s_i2l rfl h (fun h => ?_)
  refine s_sta (fun z => some (.int (zI z))) (fun _ => rd S) rfl rfl rfl rfl rfl rfl rfl (fun z hz => sM_in o n S l1 0 ((zF S 49 1) - 1) hz) rfl h (fun z1 h => ?_)
  show eG _ 133 13 [some (.ref 49), some (.int (zI l1)), some (.int (zI l2))] [.int (zI z1)] (rd S) _
  refine s_if_eq rfl h (fun h => ?_) (fun h => ?_)
  · show eG _ 133 28 [some (.ref 49), some (.int (zI l1)), some (.int (zI l2))] [] (rd S) _
    refine g_run 1 29 [some (.ref 49), some (.int (zI l1)), some (.int (zI l2))] [.int (zI (-1))] (rd S) rfl ?_
    cases h
    exact s_ret rfl rfl rfl
  · show eG _ 133 16 [some (.ref 49), some (.int (zI l1)), some (.int (zI l2))] [] (rd S) _
    refine g_run 1 17 [some (.ref 49), some (.int (zI l1)), some (.int (zI l2))] [.int (zI l2)] (rd S) rfl ?_
    refine s_i2l rfl h (fun h => ?_)
    refine g_run 2 22 [some (.ref 49), some (.int (zI l1)), some (.int (zI l2))] [.long (zL 5), .long (zL 0), .long (zL l2)] (rd S) rfl ?_
    refine s_sta (fun z => some (.int (zI z))) (fun _ => rd S) rfl rfl rfl rfl rfl rfl rfl (fun z hz => sM_in o n S l2 0 5 hz) rfl h (fun z2 h => ?_)
    show eG _ 133 25 [some (.ref 49), some (.int (zI l1)), some (.int (zI l2))] [.int (zI z2)] (rd S) _
    refine s_if_ne rfl h (fun h => ?_) (fun h => ?_)
    · show eG _ 133 30 [some (.ref 49), some (.int (zI l1)), some (.int (zI l2))] [] (rd S) _
      refine g_run 2 32 [some (.ref 49), some (.int (zI l1)), some (.int (zI l2))] [.int (zI 5), .int (zI l2)] (rd S) rfl ?_
      refine s_icmp_ge rfl h (fun h => ?_) (fun h => ?_)
      · show eG _ 133 48 [some (.ref 49), some (.int (zI l1)), some (.int (zI l2))] [] (rd S) _
        refine g_run 1 49 [some (.ref 49), some (.int (zI l1)), some (.int (zI l2))] [.ref 49] (rd S) rfl ?_
        refine g_getf rfl rfl (rd_o49 _) rfl ?_
        show eG _ 133 52 [some (.ref 49), some (.int (zI l1)), some (.int (zI l2))] [.int (zI (zF S 49 2))] (rd S) _
        refine g_run 1 53 [some (.ref 49), some (.int (zI l1)), some (.int (zI l2))] [.int (zI l1), .int (zI (zF S 49 2))] (rd S) rfl ?_
        refine s_ishr rfl ?_
        refine g_run 1 55 [some (.ref 49), some (.int (zI l1)), some (.int (zI l2))] [.int (zI 1), .int (zI (zshr (zF S 49 2) l1))] (rd S) rfl ?_
        refine s_iand rfl ?_
        cases h
        exact s_ret rfl rfl rfl
      · show eG _ 133 35 [some (.ref 49), some (.int (zI l1)), some (.int (zI l2))] [] (rd S) _
        refine g_run 1 36 [some (.ref 49), some (.int (zI l1)), some (.int (zI l2))] [.ref 49] (rd S) rfl ?_
        refine g_getf rfl rfl (rd_o49 _) rfl ?_
        show eG _ 133 39 [some (.ref 49), some (.int (zI l1)), some (.int (zI l2))] [.ref 50] (rd S) _
        refine g_run 2 41 [some (.ref 49), some (.int (zI l1)), some (.int (zI l2))] [.int (zI l1), .int (zI 5), .ref 50] (rd S) rfl ?_
        refine s_imul rfl ?_
        refine g_run 1 43 [some (.ref 49), some (.int (zI l1)), some (.int (zI l2))] [.int (zI l2), .int (zI (5 * l1)), .ref 50] (rd S) rfl ?_
        refine s_iadd rfl ?_
        refine s_iald rfl (rd_a50 _) h (fun h => ?_)
        show eG _ 133 45 [some (.ref 49), some (.int (zI l1)), some (.int (zI l2))] [.int (zI (zA S 50 ((5 * l1) + l2)))] (rd S) _
        refine g_run 1 56 [some (.ref 49), some (.int (zI l1)), some (.int (zI l2))] [.int (zI (zA S 50 ((5 * l1) + l2)))] (rd S) rfl ?_
        cases h
        exact s_ret rfl rfl rfl
    · show eG _ 133 28 [some (.ref 49), some (.int (zI l1)), some (.int (zI l2))] [] (rd S) _
      refine g_run 1 29 [some (.ref 49), some (.int (zI l1)), some (.int (zI l2))] [.int (zI (-1))] (rd S) rfl ?_
      cases h
      exact s_ret rfl rfl rfl
def fM_has (n : Nat) (S : ZS) (l0 l1 : Int) : Option (Int) := gC (zand (zshr l0 l1) 1) 1 (if (zand (zshr l0 l1) 1) = 1 then gB 1 (some 1) else gB 0 (some 0))
set_option maxRecDepth 100000 in
set_option maxHeartbeats 4000000 in
theorem sM_has (o : eO) (n : Nat) (S : ZS) (l0 l1 : Int) {w : Int} (h : fM_has n S l0 l1 = some w) : eG o 136 0 (eEnt 136 [.int (zI l0), .int (zI l1)]) [] (rd S) (rv (some (.int (zI w))) (rd S)) := by
  unfold fM_has at h
  show eG o 136 0 [some (.int (zI l0)), some (.int (zI l1))] [] (rd S) _
  refine g_run 2 2 [some (.int (zI l0)), some (.int (zI l1))] [.int (zI l1), .int (zI l0)] (rd S) rfl ?_
  refine s_ishr rfl ?_
  refine g_run 1 4 [some (.int (zI l0)), some (.int (zI l1))] [.int (zI 1), .int (zI (zshr l0 l1))] (rd S) rfl ?_
  refine s_iand rfl ?_
  refine g_run 1 6 [some (.int (zI l0)), some (.int (zI l1))] [.int (zI 1), .int (zI (zand (zshr l0 l1) 1))] (rd S) rfl ?_
  refine s_icmp_ne rfl h (fun h => ?_) (fun h => ?_)
  · show eG _ 136 13 [some (.int (zI l0)), some (.int (zI l1))] [] (rd S) _
    refine g_run 1 14 [some (.int (zI l0)), some (.int (zI l1))] [.int (zI 0)] (rd S) rfl ?_
    exact s_retB rfl rfl h (fun h => by cases h; exact rfl)
  · show eG _ 136 9 [some (.int (zI l0)), some (.int (zI l1))] [] (rd S) _
    refine g_run 2 14 [some (.int (zI l0)), some (.int (zI l1))] [.int (zI 1)] (rd S) rfl ?_
    exact s_retB rfl rfl h (fun h => by cases h; exact rfl)
def fM_rests_1 : Nat → ZS → Int → Int → Int → Option (Int)
  | 0, _, _, _, _ => none
  | n + 1, S, l1, l2, l3 => gC l3 (zF S 49 1) (if l3 < (zF S 49 1) then gC l2 0 (if l2 = 0 then fM_rests_1 n S l1 0 (l3 + 1) else (fM_has n S l1 l3).bind fun z1 => gC z1 0 (if z1 = 0 then fM_rests_1 n S l1 1 (l3 + 1) else gX ((5 * l3) + 4) 40 (gC (zand (zA S 50 ((5 * l3) + 4)) (zxor l1 (-1))) 0 (if (zand (zA S 50 ((5 * l3) + 4)) (zxor l1 (-1))) = 0 then fM_rests_1 n S l1 1 (l3 + 1) else fM_rests_1 n S l1 0 (l3 + 1))))) else some l2)
set_option maxRecDepth 100000 in
set_option maxHeartbeats 4000000 in
theorem sM_rests_1 (o : eO) : ∀ (n : Nat) (S : ZS) (l1 l2 l3 : Int) {w : Int} {r : eP} (h : fM_rests_1 n S l1 l2 l3 = some w) (hk : eG o 135 53 [none, none, some (.int (zI w)), none] [] (rd S) r), eG o 135 4 [some (.ref 49), some (.int (zI l1)), some (.int (zI l2)), some (.int (zI l3))] [] (rd S) r := by
  intro n
  induction n with
  | zero => intro S l1 l2 l3 w r h hk; unfold fM_rests_1 at h; cases h
  | succ n ih =>
    intro S l1 l2 l3 w r h hk
    unfold fM_rests_1 at h
    refine g_run 2 6 [some (.ref 49), some (.int (zI l1)), some (.int (zI l2)), some (.int (zI l3))] [.ref 49, .int (zI l3)] (rd S) rfl ?_
    refine g_getf rfl rfl (rd_o49 _) rfl ?_
    show eG _ 135 9 [some (.ref 49), some (.int (zI l1)), some (.int (zI l2)), some (.int (zI l3))] [.int (zI (zF S 49 1)), .int (zI l3)] (rd S) _
    refine s_icmp_ge rfl h (fun h => ?_) (fun h => ?_)
    · show eG _ 135 53 [some (.ref 49), some (.int (zI l1)), some (.int (zI l2)), some (.int (zI l3))] [] (rd S) _
      refine g_fgt [true, true, false, true] ?_
      show eG _ 135 53 [none, none, some (.int (zI l2)), none] [] (rd S) _
      cases h
      exact hk
    · show eG _ 135 12 [some (.ref 49), some (.int (zI l1)), some (.int (zI l2)), some (.int (zI l3))] [] (rd S) _
      refine g_run 1 13 [some (.ref 49), some (.int (zI l1)), some (.int (zI l2)), some (.int (zI l3))] [.int (zI l2)] (rd S) rfl ?_
      refine s_if_eq rfl h (fun h => ?_) (fun h => ?_)
      · show eG _ 135 45 [some (.ref 49), some (.int (zI l1)), some (.int (zI l2)), some (.int (zI l3))] [] (rd S) _
        refine g_run 2 47 [some (.ref 49), some (.int (zI l1)), some (.int (zI 0)), some (.int (zI l3))] [] (rd S) rfl ?_
        refine s_iinc (L' := [some (.ref 49), some (.int (zI l1)), some (.int (zI 0)), some (.int (zI (l3 + 1)))]) rfl rfl rfl ?_
        refine g_run 1 4 [some (.ref 49), some (.int (zI l1)), some (.int (zI 0)), some (.int (zI (l3 + 1)))] [] (rd S) rfl ?_
        exact ih S l1 0 (l3 + 1) h hk
      · show eG _ 135 16 [some (.ref 49), some (.int (zI l1)), some (.int (zI l2)), some (.int (zI l3))] [] (rd S) _
        refine g_run 2 18 [some (.ref 49), some (.int (zI l1)), some (.int (zI l2)), some (.int (zI l3))] [.int (zI l3), .int (zI l1)] (rd S) rfl ?_
        refine s_sta (fun z => some (.int (zI z))) (fun _ => rd S) rfl rfl rfl rfl rfl rfl rfl (fun z hz => sM_has o n S l1 l3 hz) rfl h (fun z1 h => ?_)
        show eG _ 135 21 [some (.ref 49), some (.int (zI l1)), some (.int (zI l2)), some (.int (zI l3))] [.int (zI z1)] (rd S) _
        refine s_if_eq rfl h (fun h => ?_) (fun h => ?_)
        · show eG _ 135 41 [some (.ref 49), some (.int (zI l1)), some (.int (zI l2)), some (.int (zI l3))] [] (rd S) _
          refine g_run 3 47 [some (.ref 49), some (.int (zI l1)), some (.int (zI 1)), some (.int (zI l3))] [] (rd S) rfl ?_
          refine s_iinc (L' := [some (.ref 49), some (.int (zI l1)), some (.int (zI 1)), some (.int (zI (l3 + 1)))]) rfl rfl rfl ?_
          refine g_run 1 4 [some (.ref 49), some (.int (zI l1)), some (.int (zI 1)), some (.int (zI (l3 + 1)))] [] (rd S) rfl ?_
          exact ih S l1 1 (l3 + 1) h hk
        · show eG _ 135 24 [some (.ref 49), some (.int (zI l1)), some (.int (zI l2)), some (.int (zI l3))] [] (rd S) _
          refine g_run 1 25 [some (.ref 49), some (.int (zI l1)), some (.int (zI l2)), some (.int (zI l3))] [.ref 49] (rd S) rfl ?_
          refine g_getf rfl rfl (rd_o49 _) rfl ?_
          show eG _ 135 28 [some (.ref 49), some (.int (zI l1)), some (.int (zI l2)), some (.int (zI l3))] [.ref 50] (rd S) _
          refine g_run 2 30 [some (.ref 49), some (.int (zI l1)), some (.int (zI l2)), some (.int (zI l3))] [.int (zI l3), .int (zI 5), .ref 50] (rd S) rfl ?_
          refine s_imul rfl ?_
          refine g_run 1 32 [some (.ref 49), some (.int (zI l1)), some (.int (zI l2)), some (.int (zI l3))] [.int (zI 4), .int (zI (5 * l3)), .ref 50] (rd S) rfl ?_
          refine s_iadd rfl ?_
          refine s_iald rfl (rd_a50 _) h (fun h => ?_)
          show eG _ 135 34 [some (.ref 49), some (.int (zI l1)), some (.int (zI l2)), some (.int (zI l3))] [.int (zI (zA S 50 ((5 * l3) + 4)))] (rd S) _
          refine g_run 2 36 [some (.ref 49), some (.int (zI l1)), some (.int (zI l2)), some (.int (zI l3))] [.int (zI (-1)), .int (zI l1), .int (zI (zA S 50 ((5 * l3) + 4)))] (rd S) rfl ?_
          refine s_ixor rfl ?_
          refine s_iand rfl ?_
          refine s_if_ne rfl h (fun h => ?_) (fun h => ?_)
          · show eG _ 135 45 [some (.ref 49), some (.int (zI l1)), some (.int (zI l2)), some (.int (zI l3))] [] (rd S) _
            refine g_run 2 47 [some (.ref 49), some (.int (zI l1)), some (.int (zI 0)), some (.int (zI l3))] [] (rd S) rfl ?_
            refine s_iinc (L' := [some (.ref 49), some (.int (zI l1)), some (.int (zI 0)), some (.int (zI (l3 + 1)))]) rfl rfl rfl ?_
            refine g_run 1 4 [some (.ref 49), some (.int (zI l1)), some (.int (zI 0)), some (.int (zI (l3 + 1)))] [] (rd S) rfl ?_
            exact ih S l1 0 (l3 + 1) h hk
          · show eG _ 135 41 [some (.ref 49), some (.int (zI l1)), some (.int (zI l2)), some (.int (zI l3))] [] (rd S) _
            refine g_run 3 47 [some (.ref 49), some (.int (zI l1)), some (.int (zI 1)), some (.int (zI l3))] [] (rd S) rfl ?_
            refine s_iinc (L' := [some (.ref 49), some (.int (zI l1)), some (.int (zI 1)), some (.int (zI (l3 + 1)))]) rfl rfl rfl ?_
            refine g_run 1 4 [some (.ref 49), some (.int (zI l1)), some (.int (zI 1)), some (.int (zI (l3 + 1)))] [] (rd S) rfl ?_
            exact ih S l1 1 (l3 + 1) h hk
def fM_rests (n : Nat) (S : ZS) (l1 : Int) : Option (Int) := (fM_rests_1 n S l1 1 0).bind fun z1 => gB z1 (some z1)
set_option maxRecDepth 100000 in
set_option maxHeartbeats 4000000 in
theorem sM_rests (o : eO) (n : Nat) (S : ZS) (l1 : Int) {w : Int} (h : fM_rests n S l1 = some w) : eG o 135 0 (eEnt 135 [.ref 49, .int (zI l1)]) [] (rd S) (rv (some (.int (zI w))) (rd S)) := by
  unfold fM_rests at h
  show eG o 135 0 [some (.ref 49), some (.int (zI l1)), none, none] [] (rd S) _
  refine g_run 4 4 [some (.ref 49), some (.int (zI l1)), some (.int (zI 1)), some (.int (zI 0))] [] (rd S) rfl ?_
  obtain ⟨z1, h1, h⟩ := zB_inv h
  refine sM_rests_1 o n S l1 1 0 h1 ?_
  show eG _ 135 53 [none, none, some (.int (zI z1)), none] [] (rd S) _
  refine g_run 1 54 [none, none, some (.int (zI z1)), none] [.int (zI z1)] (rd S) rfl ?_
  exact s_retB rfl rfl h (fun h => by cases h; exact rfl)
def fM_stand (n : Nat) (S : ZS) (l1 : Int) : Option (Int × ZS) := gC l1 0 ((fM_isSet n S l1).bind fun z1 => gC z1 0 (if z1 = 0 then some (-1, S) else (fM_rests n S l1).bind fun z2 => gC z2 0 (if z2 = 0 then some (-2, S) else some (zF S 49 2, wF S 49 2 l1))))
set_option maxRecDepth 100000 in
set_option maxHeartbeats 4000000 in
theorem sM_stand (o : eO) (n : Nat) (S : ZS) (l1 : Int) {w : Int × ZS} (h : fM_stand n S l1 = some w) : eG o 134 0 (eEnt 134 [.ref 49, .int (zI l1)]) [] (rd S) (rv (some (.int (zI w.1))) (rd w.2)) := by
  unfold fM_stand at h
  show eG o 134 0 [some (.ref 49), some (.int (zI l1)), none] [] (rd S) _
  refine g_run 2 2 [some (.ref 49), some (.int (zI l1)), none] [.int (zI l1), .ref 49] (rd S) rfl ?_
  refine s_i2l rfl h (fun h => ?_)
  refine s_vir (fun z => some (.int (zI z))) (fun _ => rd S) rfl rfl rfl (rd_o49 _) rfl rfl (fun z hz => sM_isSet o n S l1 hz) rfl h (fun z1 h => ?_)
  show eG _ 134 6 [some (.ref 49), some (.int (zI l1)), none] [.int (zI z1)] (rd S) _
  refine s_if_ne rfl h (fun h => ?_) (fun h => ?_)
  · show eG _ 134 11 [some (.ref 49), some (.int (zI l1)), none] [] (rd S) _
    refine g_run 2 13 [some (.ref 49), some (.int (zI l1)), none] [.int (zI l1), .ref 49] (rd S) rfl ?_
    refine s_vir (fun z => some (.int (zI z))) (fun _ => rd S) rfl rfl rfl (rd_o49 _) rfl rfl (fun z hz => sM_rests o n S l1 hz) rfl h (fun z2 h => ?_)
    show eG _ 134 16 [some (.ref 49), some (.int (zI l1)), none] [.int (zI z2)] (rd S) _
    refine s_if_ne rfl h (fun h => ?_) (fun h => ?_)
    · show eG _ 134 22 [some (.ref 49), some (.int (zI l1)), none] [] (rd S) _
      refine g_run 1 23 [some (.ref 49), some (.int (zI l1)), none] [.ref 49] (rd S) rfl ?_
      refine g_getf rfl rfl (rd_o49 _) rfl ?_
      show eG _ 134 26 [some (.ref 49), some (.int (zI l1)), none] [.int (zI (zF S 49 2))] (rd S) _
      refine g_run 3 29 [some (.ref 49), some (.int (zI l1)), some (.int (zI (zF S 49 2)))] [.int (zI l1), .ref 49] (rd S) rfl ?_
      refine s_putf rfl rfl (rd_o49 _) rfl rfl rfl rfl rfl (rw_o49_2 _ _) ?_
      show eG _ 134 32 [some (.ref 49), some (.int (zI l1)), some (.int (zI (zF S 49 2)))] [] (rd (wF S 49 2 l1)) _
      refine g_run 1 33 [some (.ref 49), some (.int (zI l1)), some (.int (zI (zF S 49 2)))] [.int (zI (zF S 49 2))] (rd (wF S 49 2 l1)) rfl ?_
      cases h
      exact s_ret rfl rfl rfl
    · show eG _ 134 19 [some (.ref 49), some (.int (zI l1)), none] [] (rd S) _
      refine g_run 1 21 [some (.ref 49), some (.int (zI l1)), none] [.int (zI (-2))] (rd S) rfl ?_
      cases h
      exact s_ret rfl rfl rfl
  · show eG _ 134 9 [some (.ref 49), some (.int (zI l1)), none] [] (rd S) _
    refine g_run 1 10 [some (.ref 49), some (.int (zI l1)), none] [.int (zI (-1))] (rd S) rfl ?_
    cases h
    exact s_ret rfl rfl rfl
def fM_person (n : Nat) (S : ZS) (l1 : Int) : Option (Int × ZS) := gC l1 0 ((fM_isSet n S l1).bind fun z1 => gC z1 0 (if z1 = 0 then some (-1, S) else gC l1 0 (if l1 = 0 then some (-1, S) else gC (zF S 49 7) 4 (if (zF S 49 7) = 4 then some (-3, S) else gX (zF S 49 7) 4 (some (((zF S 49 7) + 1) - 1, wF (wA S 51 (zF S 49 7) l1) 49 7 ((zF S 49 7) + 1)))))))
set_option maxRecDepth 100000 in
set_option maxHeartbeats 4000000 in
theorem sM_person (o : eO) (n : Nat) (S : ZS) (l1 : Int) {w : Int × ZS} (h : fM_person n S l1 = some w) : eG o 137 0 (eEnt 137 [.ref 49, .int (zI l1)]) [] (rd S) (rv (some (.int (zI w.1))) (rd w.2)) := by
  unfold fM_person at h
  show eG o 137 0 [some (.ref 49), some (.int (zI l1))] [] (rd S) _
  refine g_run 2 2 [some (.ref 49), some (.int (zI l1))] [.int (zI l1), .ref 49] (rd S) rfl ?_
  refine s_i2l rfl h (fun h => ?_)
  refine s_vir (fun z => some (.int (zI z))) (fun _ => rd S) rfl rfl rfl (rd_o49 _) rfl rfl (fun z hz => sM_isSet o n S l1 hz) rfl h (fun z1 h => ?_)
  show eG _ 137 6 [some (.ref 49), some (.int (zI l1))] [.int (zI z1)] (rd S) _
  refine s_if_eq rfl h (fun h => ?_) (fun h => ?_)
  · show eG _ 137 13 [some (.ref 49), some (.int (zI l1))] [] (rd S) _
    refine g_run 1 14 [some (.ref 49), some (.int (zI l1))] [.int (zI (-1))] (rd S) rfl ?_
    cases h
    exact s_ret rfl rfl rfl
  · show eG _ 137 9 [some (.ref 49), some (.int (zI l1))] [] (rd S) _
    refine g_run 1 10 [some (.ref 49), some (.int (zI l1))] [.int (zI l1)] (rd S) rfl ?_
    refine s_if_ne rfl h (fun h => ?_) (fun h => ?_)
    · show eG _ 137 15 [some (.ref 49), some (.int (zI l1))] [] (rd S) _
      refine g_run 1 16 [some (.ref 49), some (.int (zI l1))] [.ref 49] (rd S) rfl ?_
      refine g_getf rfl rfl (rd_o49 _) rfl ?_
      show eG _ 137 19 [some (.ref 49), some (.int (zI l1))] [.int (zI (zF S 49 7))] (rd S) _
      refine g_run 1 20 [some (.ref 49), some (.int (zI l1))] [.int (zI 4), .int (zI (zF S 49 7))] (rd S) rfl ?_
      refine s_icmp_ne rfl h (fun h => ?_) (fun h => ?_)
      · show eG _ 137 26 [some (.ref 49), some (.int (zI l1))] [] (rd S) _
        refine g_run 1 27 [some (.ref 49), some (.int (zI l1))] [.ref 49] (rd S) rfl ?_
        refine g_getf rfl rfl (rd_o49 _) rfl ?_
        show eG _ 137 30 [some (.ref 49), some (.int (zI l1))] [.ref 51] (rd S) _
        refine g_run 1 31 [some (.ref 49), some (.int (zI l1))] [.ref 49, .ref 51] (rd S) rfl ?_
        refine g_getf rfl rfl (rd_o49 _) rfl ?_
        show eG _ 137 34 [some (.ref 49), some (.int (zI l1))] [.int (zI (zF S 49 7)), .ref 51] (rd S) _
        refine g_run 1 35 [some (.ref 49), some (.int (zI l1))] [.int (zI l1), .int (zI (zF S 49 7)), .ref 51] (rd S) rfl ?_
        refine s_iast rfl (rd_a51 _) (rw_a51 _ _) h (fun h => ?_)
        show eG _ 137 36 [some (.ref 49), some (.int (zI l1))] [] (rd (wA S 51 (zF S 49 7) l1)) _
        refine g_run 2 38 [some (.ref 49), some (.int (zI l1))] [.ref 49, .ref 49] (rd (wA S 51 (zF S 49 7) l1)) rfl ?_
        refine g_getf rfl rfl (rd_o49 _) rfl ?_
        show eG _ 137 41 [some (.ref 49), some (.int (zI l1))] [.int (zI (zF S 49 7)), .ref 49] (rd (wA S 51 (zF S 49 7) l1)) _
        refine g_run 1 42 [some (.ref 49), some (.int (zI l1))] [.int (zI 1), .int (zI (zF S 49 7)), .ref 49] (rd (wA S 51 (zF S 49 7) l1)) rfl ?_
        refine s_iadd rfl ?_
        refine s_putf rfl rfl (rd_o49 _) rfl rfl rfl rfl rfl (rw_o49_7 _ _) ?_
        show eG _ 137 46 [some (.ref 49), some (.int (zI l1))] [] (rd (wF (wA S 51 (zF S 49 7) l1) 49 7 ((zF S 49 7) + 1))) _
        refine g_run 1 47 [some (.ref 49), some (.int (zI l1))] [.ref 49] (rd (wF (wA S 51 (zF S 49 7) l1) 49 7 ((zF S 49 7) + 1))) rfl ?_
        refine g_getf rfl rfl (rd_o49 _) rfl ?_
        show eG _ 137 50 [some (.ref 49), some (.int (zI l1))] [.int (zI ((zF S 49 7) + 1))] (rd (wF (wA S 51 (zF S 49 7) l1) 49 7 ((zF S 49 7) + 1))) _
        refine g_run 1 51 [some (.ref 49), some (.int (zI l1))] [.int (zI 1), .int (zI ((zF S 49 7) + 1))] (rd (wF (wA S 51 (zF S 49 7) l1) 49 7 ((zF S 49 7) + 1))) rfl ?_
        refine s_isub rfl ?_
        cases h
        exact s_ret rfl rfl rfl
      · show eG _ 137 23 [some (.ref 49), some (.int (zI l1))] [] (rd S) _
        refine g_run 1 25 [some (.ref 49), some (.int (zI l1))] [.int (zI (-3))] (rd S) rfl ?_
        cases h
        exact s_ret rfl rfl rfl
    · show eG _ 137 13 [some (.ref 49), some (.int (zI l1))] [] (rd S) _
      refine g_run 1 14 [some (.ref 49), some (.int (zI l1))] [.int (zI (-1))] (rd S) rfl ?_
      cases h
      exact s_ret rfl rfl rfl
def fM_set (n : Nat) (S : ZS) (l1 l2 : Int) : Option (Int × ZS) := gC l1 0 ((fM_in n S l1 0 1).bind fun z1 => gC z1 0 (if z1 = 0 then some (-1, S) else gC l2 0 (gC l1 0 ((fM_in n S l2 l1 999).bind fun z2 => gC z2 0 (if z2 = 0 then some (-1, S) else (gC l1 0 (if l1 = 0 then some (zF S 49 4) else some (zF S 49 5))).bind fun z3 => (gC l1 0 (if l1 = 0 then some l2 else some (zF S 49 4))).bind fun z4 => gC l1 1 (if l1 = 1 then some (z3, wF (wF S 49 4 z4) 49 5 l2) else some (z3, wF (wF S 49 4 z4) 49 5 (zF S 49 5))))))))
set_option maxRecDepth 100000 in
set_option maxHeartbeats 4000000 in
theorem sM_set (o : eO) (n : Nat) (S : ZS) (l1 l2 : Int) {w : Int × ZS} (h : fM_set n S l1 l2 = some w) : eG o 138 0 (eEnt 138 [.ref 49, .int (zI l1), .int (zI l2)]) [] (rd S) (rv (some (.int (zI w.1))) (rd w.2)) := by
  unfold fM_set at h
  show eG o 138 0 [some (.ref 49), some (.int (zI l1)), some (.int (zI l2)), none] [] (rd S) _
  refine g_run 1 1 [some (.ref 49), some (.int (zI l1)), some (.int (zI l2)), none] [.int (zI l1)] (rd S) rfl ?_
  refine s_i2l rfl h (fun h => ?_)
  refine g_run 2 4 [some (.ref 49), some (.int (zI l1)), some (.int (zI l2)), none] [.long (zL 1), .long (zL 0), .long (zL l1)] (rd S) rfl ?_
  refine s_sta (fun z => some (.int (zI z))) (fun _ => rd S) rfl rfl rfl rfl rfl rfl rfl (fun z hz => sM_in o n S l1 0 1 hz) rfl h (fun z1 h => ?_)
  show eG _ 138 7 [some (.ref 49), some (.int (zI l1)), some (.int (zI l2)), none] [.int (zI z1)] (rd S) _
  refine s_if_eq rfl h (fun h => ?_) (fun h => ?_)
  · show eG _ 138 23 [some (.ref 49), some (.int (zI l1)), some (.int (zI l2)), none] [] (rd S) _
    refine g_run 1 24 [some (.ref 49), some (.int (zI l1)), some (.int (zI l2)), none] [.int (zI (-1))] (rd S) rfl ?_
    cases h
    exact s_ret rfl rfl rfl
  · show eG _ 138 10 [some (.ref 49), some (.int (zI l1)), some (.int (zI l2)), none] [] (rd S) _
    refine g_run 1 11 [some (.ref 49), some (.int (zI l1)), some (.int (zI l2)), none] [.int (zI l2)] (rd S) rfl ?_
    refine s_i2l rfl h (fun h => ?_)
    refine g_run 1 13 [some (.ref 49), some (.int (zI l1)), some (.int (zI l2)), none] [.int (zI l1), .long (zL l2)] (rd S) rfl ?_
    refine s_i2l rfl h (fun h => ?_)
    refine g_run 1 17 [some (.ref 49), some (.int (zI l1)), some (.int (zI l2)), none] [.long (zL 999), .long (zL l1), .long (zL l2)] (rd S) rfl ?_
    refine s_sta (fun z => some (.int (zI z))) (fun _ => rd S) rfl rfl rfl rfl rfl rfl rfl (fun z hz => sM_in o n S l2 l1 999 hz) rfl h (fun z2 h => ?_)
    show eG _ 138 20 [some (.ref 49), some (.int (zI l1)), some (.int (zI l2)), none] [.int (zI z2)] (rd S) _
    refine s_if_ne rfl h (fun h => ?_) (fun h => ?_)
    · show eG _ 138 25 [some (.ref 49), some (.int (zI l1)), some (.int (zI l2)), none] [] (rd S) _
      refine g_run 1 26 [some (.ref 49), some (.int (zI l1)), some (.int (zI l2)), none] [.int (zI l1)] (rd S) rfl ?_
      refine s_join (α := Int) (fun z => eG o 138 40 [some (.ref 49), some (.int (zI l1)), some (.int (zI l2)), none] [.int (zI z)] (rd S) (rv (some (.int (zI w.1))) (rd w.2))) h (fun z3 h => ?_) (fun z3 h j => ?_)
      · show eG _ 138 40 [some (.ref 49), some (.int (zI l1)), some (.int (zI l2)), none] [.int (zI z3)] (rd S) _
        refine g_run 3 43 [some (.ref 49), some (.int (zI l1)), some (.int (zI l2)), some (.int (zI z3))] [.int (zI l1), .ref 49] (rd S) rfl ?_
        refine s_join (α := Int) (fun z => eG o 138 54 [some (.ref 49), some (.int (zI l1)), some (.int (zI l2)), some (.int (zI z3))] [.int (zI z), .ref 49] (rd S) (rv (some (.int (zI w.1))) (rd w.2))) h (fun z4 h => ?_) (fun z4 h j => ?_)
        · show eG _ 138 54 [some (.ref 49), some (.int (zI l1)), some (.int (zI l2)), some (.int (zI z3))] [.int (zI z4), .ref 49] (rd S) _
          refine s_putf rfl rfl (rd_o49 _) rfl rfl rfl rfl rfl (rw_o49_4 _ _) ?_
          show eG _ 138 57 [some (.ref 49), some (.int (zI l1)), some (.int (zI l2)), some (.int (zI z3))] [] (rd (wF S 49 4 z4)) _
          refine g_run 3 60 [some (.ref 49), some (.int (zI l1)), some (.int (zI l2)), some (.int (zI z3))] [.int (zI 1), .int (zI l1), .ref 49] (rd (wF S 49 4 z4)) rfl ?_
          refine s_icmp_ne rfl h (fun h => ?_) (fun h => ?_)
          · show eG _ 138 67 [some (.ref 49), some (.int (zI l1)), some (.int (zI l2)), some (.int (zI z3))] [.ref 49] (rd (wF S 49 4 z4)) _
            refine g_run 1 68 [some (.ref 49), some (.int (zI l1)), some (.int (zI l2)), some (.int (zI z3))] [.ref 49, .ref 49] (rd (wF S 49 4 z4)) rfl ?_
            refine g_getf rfl rfl (rd_o49 _) rfl ?_
            show eG _ 138 71 [some (.ref 49), some (.int (zI l1)), some (.int (zI l2)), some (.int (zI z3))] [.int (zI (zF S 49 5)), .ref 49] (rd (wF S 49 4 z4)) _
            refine s_putf rfl rfl (rd_o49 _) rfl rfl rfl rfl rfl (rw_o49_5 _ _) ?_
            show eG _ 138 74 [some (.ref 49), some (.int (zI l1)), some (.int (zI l2)), some (.int (zI z3))] [] (rd (wF (wF S 49 4 z4) 49 5 (zF S 49 5))) _
            refine g_run 1 75 [some (.ref 49), some (.int (zI l1)), some (.int (zI l2)), some (.int (zI z3))] [.int (zI z3)] (rd (wF (wF S 49 4 z4) 49 5 (zF S 49 5))) rfl ?_
            cases h
            exact s_ret rfl rfl rfl
          · show eG _ 138 63 [some (.ref 49), some (.int (zI l1)), some (.int (zI l2)), some (.int (zI z3))] [.ref 49] (rd (wF S 49 4 z4)) _
            refine g_run 2 71 [some (.ref 49), some (.int (zI l1)), some (.int (zI l2)), some (.int (zI z3))] [.int (zI l2), .ref 49] (rd (wF S 49 4 z4)) rfl ?_
            refine s_putf rfl rfl (rd_o49 _) rfl rfl rfl rfl rfl (rw_o49_5 _ _) ?_
            show eG _ 138 74 [some (.ref 49), some (.int (zI l1)), some (.int (zI l2)), some (.int (zI z3))] [] (rd (wF (wF S 49 4 z4) 49 5 l2)) _
            refine g_run 1 75 [some (.ref 49), some (.int (zI l1)), some (.int (zI l2)), some (.int (zI z3))] [.int (zI z3)] (rd (wF (wF S 49 4 z4) 49 5 l2)) rfl ?_
            cases h
            exact s_ret rfl rfl rfl
        · skip
          refine s_if_ne rfl h (fun h => ?_) (fun h => ?_)
          · show eG _ 138 50 [some (.ref 49), some (.int (zI l1)), some (.int (zI l2)), some (.int (zI z3))] [.ref 49] (rd S) _
            refine g_run 1 51 [some (.ref 49), some (.int (zI l1)), some (.int (zI l2)), some (.int (zI z3))] [.ref 49, .ref 49] (rd S) rfl ?_
            refine g_getf rfl rfl (rd_o49 _) rfl ?_
            show eG _ 138 54 [some (.ref 49), some (.int (zI l1)), some (.int (zI l2)), some (.int (zI z3))] [.int (zI (zF S 49 4)), .ref 49] (rd S) _
            cases h
            exact j
          · show eG _ 138 46 [some (.ref 49), some (.int (zI l1)), some (.int (zI l2)), some (.int (zI z3))] [.ref 49] (rd S) _
            refine g_run 2 54 [some (.ref 49), some (.int (zI l1)), some (.int (zI l2)), some (.int (zI z3))] [.int (zI l2), .ref 49] (rd S) rfl ?_
            cases h
            exact j
      · skip
        refine s_if_ne rfl h (fun h => ?_) (fun h => ?_)
        · show eG _ 138 36 [some (.ref 49), some (.int (zI l1)), some (.int (zI l2)), none] [] (rd S) _
          refine g_run 1 37 [some (.ref 49), some (.int (zI l1)), some (.int (zI l2)), none] [.ref 49] (rd S) rfl ?_
          refine g_getf rfl rfl (rd_o49 _) rfl ?_
          show eG _ 138 40 [some (.ref 49), some (.int (zI l1)), some (.int (zI l2)), none] [.int (zI (zF S 49 5))] (rd S) _
          cases h
          exact j
        · show eG _ 138 29 [some (.ref 49), some (.int (zI l1)), some (.int (zI l2)), none] [] (rd S) _
          refine g_run 1 30 [some (.ref 49), some (.int (zI l1)), some (.int (zI l2)), none] [.ref 49] (rd S) rfl ?_
          refine g_getf rfl rfl (rd_o49 _) rfl ?_
          show eG _ 138 33 [some (.ref 49), some (.int (zI l1)), some (.int (zI l2)), none] [.int (zI (zF S 49 4))] (rd S) _
          refine g_run 1 40 [some (.ref 49), some (.int (zI l1)), some (.int (zI l2)), none] [.int (zI (zF S 49 4))] (rd S) rfl ?_
          cases h
          exact j
    · show eG _ 138 23 [some (.ref 49), some (.int (zI l1)), some (.int (zI l2)), none] [] (rd S) _
      refine g_run 1 24 [some (.ref 49), some (.int (zI l1)), some (.int (zI l2)), none] [.int (zI (-1))] (rd S) rfl ?_
      cases h
      exact s_ret rfl rfl rfl
def fM_want (n : Nat) (S : ZS) (l1 : Int) : Option (Int × ZS) := gC l1 0 ((fM_isSet n S l1).bind fun z1 => gC z1 0 (if z1 = 0 then some (-1, S) else some (zF S 49 3, wF S 49 3 l1)))
set_option maxRecDepth 100000 in
set_option maxHeartbeats 4000000 in
theorem sM_want (o : eO) (n : Nat) (S : ZS) (l1 : Int) {w : Int × ZS} (h : fM_want n S l1 = some w) : eG o 139 0 (eEnt 139 [.ref 49, .int (zI l1)]) [] (rd S) (rv (some (.int (zI w.1))) (rd w.2)) := by
  unfold fM_want at h
  show eG o 139 0 [some (.ref 49), some (.int (zI l1)), none] [] (rd S) _
  refine g_run 2 2 [some (.ref 49), some (.int (zI l1)), none] [.int (zI l1), .ref 49] (rd S) rfl ?_
  refine s_i2l rfl h (fun h => ?_)
  refine s_vir (fun z => some (.int (zI z))) (fun _ => rd S) rfl rfl rfl (rd_o49 _) rfl rfl (fun z hz => sM_isSet o n S l1 hz) rfl h (fun z1 h => ?_)
  show eG _ 139 6 [some (.ref 49), some (.int (zI l1)), none] [.int (zI z1)] (rd S) _
  refine s_if_ne rfl h (fun h => ?_) (fun h => ?_)
  · show eG _ 139 11 [some (.ref 49), some (.int (zI l1)), none] [] (rd S) _
    refine g_run 1 12 [some (.ref 49), some (.int (zI l1)), none] [.ref 49] (rd S) rfl ?_
    refine g_getf rfl rfl (rd_o49 _) rfl ?_
    show eG _ 139 15 [some (.ref 49), some (.int (zI l1)), none] [.int (zI (zF S 49 3))] (rd S) _
    refine g_run 3 18 [some (.ref 49), some (.int (zI l1)), some (.int (zI (zF S 49 3)))] [.int (zI l1), .ref 49] (rd S) rfl ?_
    refine s_putf rfl rfl (rd_o49 _) rfl rfl rfl rfl rfl (rw_o49_3 _ _) ?_
    show eG _ 139 21 [some (.ref 49), some (.int (zI l1)), some (.int (zI (zF S 49 3)))] [] (rd (wF S 49 3 l1)) _
    refine g_run 1 22 [some (.ref 49), some (.int (zI l1)), some (.int (zI (zF S 49 3)))] [.int (zI (zF S 49 3))] (rd (wF S 49 3 l1)) rfl ?_
    cases h
    exact s_ret rfl rfl rfl
  · show eG _ 139 9 [some (.ref 49), some (.int (zI l1)), none] [] (rd S) _
    refine g_run 1 10 [some (.ref 49), some (.int (zI l1)), none] [.int (zI (-1))] (rd S) rfl ?_
    cases h
    exact s_ret rfl rfl rfl
def fM_type_1 : Nat → ZS → Int → Int → Int → Option ((Int × ZS) ⊕ (Unit))
  | 0, _, _, _, _ => none
  | n + 1, S, l1, l3, l4 => gC l4 0 (if l4 < 0 then some (.inr ()) else (fM_in n S (zlan (zlshr l1 (8 * l4)) 255) 32 126).bind fun z1 => gC z1 0 (if z1 = 0 then some (.inl (-1, S)) else fM_type_1 n S l1 l3 (l4 + (-1))))
set_option maxRecDepth 100000 in
set_option maxHeartbeats 4000000 in
theorem sM_type_1 (o : eO) : ∀ (n : Nat) (S : ZS) (l1 l3 l4 : Int) {w : (Int × ZS) ⊕ (Unit)} {r : eP} (h : fM_type_1 n S l1 l3 l4 = some w) (hr : ∀ v, w = .inl v → r (some (.int (zI v.1)), rd v.2)) (hk : ∀ x, w = .inr x → eG o 143 55 [some (.ref 49), some (.long (zL l1)), none, some (.int (zI l3)), none] [] (rd S) r), eG o 143 19 [some (.ref 49), some (.long (zL l1)), none, some (.int (zI l3)), some (.int (zI l4))] [] (rd S) r := by
  intro n
  induction n with
  | zero => intro S l1 l3 l4 w r h hr hk; unfold fM_type_1 at h; cases h
  | succ n ih =>
    intro S l1 l3 l4 w r h hr hk
    unfold fM_type_1 at h
    refine g_run 1 21 [some (.ref 49), some (.long (zL l1)), none, some (.int (zI l3)), some (.int (zI l4))] [.int (zI l4)] (rd S) rfl ?_
    refine s_if_lt rfl h (fun h => ?_) (fun h => ?_)
    · show eG _ 143 55 [some (.ref 49), some (.long (zL l1)), none, some (.int (zI l3)), some (.int (zI l4))] [] (rd S) _
      refine g_fgt [false, false, true, false, true] ?_
      show eG _ 143 55 [some (.ref 49), some (.long (zL l1)), none, some (.int (zI l3)), none] [] (rd S) _
      cases h
      exact hk _ rfl
    · show eG _ 143 24 [some (.ref 49), some (.long (zL l1)), none, some (.int (zI l3)), some (.int (zI l4))] [] (rd S) _
      refine g_run 3 29 [some (.ref 49), some (.long (zL l1)), none, some (.int (zI l3)), some (.int (zI l4))] [.int (zI l4), .int (zI 8), .long (zL l1)] (rd S) rfl ?_
      refine s_imul rfl ?_
      refine s_lshr rfl ?_
      refine g_run 1 34 [some (.ref 49), some (.long (zL l1)), none, some (.int (zI l3)), some (.int (zI l4))] [.long (zL 255), .long (zL (zlshr l1 (8 * l4)))] (rd S) rfl ?_
      refine s_land rfl ?_
      refine g_run 2 41 [some (.ref 49), some (.long (zL l1)), none, some (.int (zI l3)), some (.int (zI l4))] [.long (zL 126), .long (zL 32), .long (zL (zlan (zlshr l1 (8 * l4)) 255))] (rd S) rfl ?_
      refine s_sta (fun z => some (.int (zI z))) (fun _ => rd S) rfl rfl rfl rfl rfl rfl rfl (fun z hz => sM_in o n S (zlan (zlshr l1 (8 * l4)) 255) 32 126 hz) rfl h (fun z1 h => ?_)
      show eG _ 143 44 [some (.ref 49), some (.long (zL l1)), none, some (.int (zI l3)), some (.int (zI l4))] [.int (zI z1)] (rd S) _
      refine s_if_ne rfl h (fun h => ?_) (fun h => ?_)
      · show eG _ 143 49 [some (.ref 49), some (.long (zL l1)), none, some (.int (zI l3)), some (.int (zI l4))] [] (rd S) _
        refine s_iinc (L' := [some (.ref 49), some (.long (zL l1)), none, some (.int (zI l3)), some (.int (zI (l4 + (-1))))]) rfl rfl rfl ?_
        refine g_run 1 19 [some (.ref 49), some (.long (zL l1)), none, some (.int (zI l3)), some (.int (zI (l4 + (-1))))] [] (rd S) rfl ?_
        exact ih S l1 l3 (l4 + (-1)) h hr hk
      · show eG _ 143 47 [some (.ref 49), some (.long (zL l1)), none, some (.int (zI l3)), some (.int (zI l4))] [] (rd S) _
        refine g_run 1 48 [some (.ref 49), some (.long (zL l1)), none, some (.int (zI l3)), some (.int (zI l4))] [.int (zI (-1))] (rd S) rfl ?_
        cases h
        exact s_ret rfl rfl (hr _ rfl)
def fM_type_2 : Nat → ZS → Int → Int → Option (ZS)
  | 0, _, _, _ => none
  | n + 1, S, l1, l4 => gC l4 0 (if l4 < 0 then some S else gX (zF S 49 9) 160 (fM_type_2 n (wF (wA S 52 (zF S 49 9) (zl2i (zlan (zlshr l1 (8 * l4)) 255))) 49 9 ((zF S 49 9) + 1)) l1 (l4 + (-1))))
set_option maxRecDepth 100000 in
set_option maxHeartbeats 4000000 in
theorem sM_type_2 (o : eO) : ∀ (n : Nat) (S : ZS) (l1 l4 : Int) {w : ZS} {r : eP} (h : fM_type_2 n S l1 l4 = some w) (hk : eG o 143 117 [some (.ref 49), none, none, none, none] [] (rd w) r), eG o 143 75 [some (.ref 49), some (.long (zL l1)), none, none, some (.int (zI l4))] [] (rd S) r := by
  intro n
  induction n with
  | zero => intro S l1 l4 w r h hk; unfold fM_type_2 at h; cases h
  | succ n ih =>
    intro S l1 l4 w r h hk
    unfold fM_type_2 at h
    refine g_run 1 77 [some (.ref 49), some (.long (zL l1)), none, none, some (.int (zI l4))] [.int (zI l4)] (rd S) rfl ?_
    refine s_if_lt rfl h (fun h => ?_) (fun h => ?_)
    · show eG _ 143 117 [some (.ref 49), some (.long (zL l1)), none, none, some (.int (zI l4))] [] (rd S) _
      refine g_fgt [false, true, true, true, true] ?_
      show eG _ 143 117 [some (.ref 49), none, none, none, none] [] (rd S) _
      cases h
      exact hk
    · show eG _ 143 80 [some (.ref 49), some (.long (zL l1)), none, none, some (.int (zI l4))] [] (rd S) _
      refine g_run 1 81 [some (.ref 49), some (.long (zL l1)), none, none, some (.int (zI l4))] [.ref 49] (rd S) rfl ?_
      refine g_getf rfl rfl (rd_o49 _) rfl ?_
      show eG _ 143 84 [some (.ref 49), some (.long (zL l1)), none, none, some (.int (zI l4))] [.ref 52] (rd S) _
      refine g_run 1 85 [some (.ref 49), some (.long (zL l1)), none, none, some (.int (zI l4))] [.ref 49, .ref 52] (rd S) rfl ?_
      refine g_getf rfl rfl (rd_o49 _) rfl ?_
      show eG _ 143 88 [some (.ref 49), some (.long (zL l1)), none, none, some (.int (zI l4))] [.int (zI (zF S 49 9)), .ref 52] (rd S) _
      refine g_run 3 93 [some (.ref 49), some (.long (zL l1)), none, none, some (.int (zI l4))] [.int (zI l4), .int (zI 8), .long (zL l1), .int (zI (zF S 49 9)), .ref 52] (rd S) rfl ?_
      refine s_imul rfl ?_
      refine s_lshr rfl ?_
      refine g_run 1 98 [some (.ref 49), some (.long (zL l1)), none, none, some (.int (zI l4))] [.long (zL 255), .long (zL (zlshr l1 (8 * l4))), .int (zI (zF S 49 9)), .ref 52] (rd S) rfl ?_
      refine s_land rfl ?_
      refine s_l2i rfl ?_
      refine s_iast rfl (rd_a52 _) (rw_a52 _ _) h (fun h => ?_)
      show eG _ 143 101 [some (.ref 49), some (.long (zL l1)), none, none, some (.int (zI l4))] [] (rd (wA S 52 (zF S 49 9) (zl2i (zlan (zlshr l1 (8 * l4)) 255)))) _
      refine g_run 2 103 [some (.ref 49), some (.long (zL l1)), none, none, some (.int (zI l4))] [.ref 49, .ref 49] (rd (wA S 52 (zF S 49 9) (zl2i (zlan (zlshr l1 (8 * l4)) 255)))) rfl ?_
      refine g_getf rfl rfl (rd_o49 _) rfl ?_
      show eG _ 143 106 [some (.ref 49), some (.long (zL l1)), none, none, some (.int (zI l4))] [.int (zI (zF S 49 9)), .ref 49] (rd (wA S 52 (zF S 49 9) (zl2i (zlan (zlshr l1 (8 * l4)) 255)))) _
      refine g_run 1 107 [some (.ref 49), some (.long (zL l1)), none, none, some (.int (zI l4))] [.int (zI 1), .int (zI (zF S 49 9)), .ref 49] (rd (wA S 52 (zF S 49 9) (zl2i (zlan (zlshr l1 (8 * l4)) 255)))) rfl ?_
      refine s_iadd rfl ?_
      refine s_putf rfl rfl (rd_o49 _) rfl rfl rfl rfl rfl (rw_o49_9 _ _) ?_
      show eG _ 143 111 [some (.ref 49), some (.long (zL l1)), none, none, some (.int (zI l4))] [] (rd (wF (wA S 52 (zF S 49 9) (zl2i (zlan (zlshr l1 (8 * l4)) 255))) 49 9 ((zF S 49 9) + 1))) _
      refine s_iinc (L' := [some (.ref 49), some (.long (zL l1)), none, none, some (.int (zI (l4 + (-1))))]) rfl rfl rfl ?_
      refine g_run 1 75 [some (.ref 49), some (.long (zL l1)), none, none, some (.int (zI (l4 + (-1))))] [] (rd (wF (wA S 52 (zF S 49 9) (zl2i (zlan (zlshr l1 (8 * l4)) 255))) 49 9 ((zF S 49 9) + 1))) rfl ?_
      exact ih (wF (wA S 52 (zF S 49 9) (zl2i (zlan (zlshr l1 (8 * l4)) 255))) 49 9 ((zF S 49 9) + 1)) l1 (l4 + (-1)) h hk
def fM_type (n : Nat) (S : ZS) (l1 l3 : Int) : Option (Int × ZS) := gC l3 0 ((fM_in n S l3 1 8).bind fun z1 => gC z1 0 (if z1 = 0 then some (-1, S) else zR (fM_type_1 n S l1 l3 (l3 - 1)) fun z2 => gC ((zF S 49 9) + l3) 160 (if 160 < ((zF S 49 9) + l3) then some (-3, S) else (fM_type_2 n S l1 (l3 - 1)).bind fun z3 => some (zF z3 49 9, z3))))
set_option maxRecDepth 100000 in
set_option maxHeartbeats 4000000 in
theorem sM_type (o : eO) (n : Nat) (S : ZS) (l1 l3 : Int) {w : Int × ZS} (h : fM_type n S l1 l3 = some w) : eG o 143 0 (eEnt 143 [.ref 49, .long (zL l1), .int (zI l3)]) [] (rd S) (rv (some (.int (zI w.1))) (rd w.2)) := by
  unfold fM_type at h
  show eG o 143 0 [some (.ref 49), some (.long (zL l1)), none, some (.int (zI l3)), none] [] (rd S) _
  refine g_run 1 1 [some (.ref 49), some (.long (zL l1)), none, some (.int (zI l3)), none] [.int (zI l3)] (rd S) rfl ?_
  refine s_i2l rfl h (fun h => ?_)
  refine g_run 2 6 [some (.ref 49), some (.long (zL l1)), none, some (.int (zI l3)), none] [.long (zL 8), .long (zL 1), .long (zL l3)] (rd S) rfl ?_
  refine s_sta (fun z => some (.int (zI z))) (fun _ => rd S) rfl rfl rfl rfl rfl rfl rfl (fun z hz => sM_in o n S l3 1 8 hz) rfl h (fun z1 h => ?_)
  show eG _ 143 9 [some (.ref 49), some (.long (zL l1)), none, some (.int (zI l3)), none] [.int (zI z1)] (rd S) _
  refine s_if_ne rfl h (fun h => ?_) (fun h => ?_)
  · show eG _ 143 14 [some (.ref 49), some (.long (zL l1)), none, some (.int (zI l3)), none] [] (rd S) _
    refine g_run 2 16 [some (.ref 49), some (.long (zL l1)), none, some (.int (zI l3)), none] [.int (zI 1), .int (zI l3)] (rd S) rfl ?_
    refine s_isub rfl ?_
    refine g_run 1 19 [some (.ref 49), some (.long (zL l1)), none, some (.int (zI l3)), some (.int (zI (l3 - 1)))] [] (rd S) rfl ?_
    rcases zR_inv h with h1 | ⟨z2, h1, h⟩
    · exact sM_type_1 o n S l1 l3 (l3 - 1) h1 (fun v e => by cases e; rfl) (fun x e => by cases e)
    refine sM_type_1 o n S l1 l3 (l3 - 1) h1 (fun v e => by cases e) (fun x e => ?_)
    cases e
    show eG _ 143 55 [some (.ref 49), some (.long (zL l1)), none, some (.int (zI l3)), none] [] (rd S) _
    refine g_run 1 56 [some (.ref 49), some (.long (zL l1)), none, some (.int (zI l3)), none] [.ref 49] (rd S) rfl ?_
    refine g_getf rfl rfl (rd_o49 _) rfl ?_
    show eG _ 143 59 [some (.ref 49), some (.long (zL l1)), none, some (.int (zI l3)), none] [.int (zI (zF S 49 9))] (rd S) _
    refine g_run 1 60 [some (.ref 49), some (.long (zL l1)), none, some (.int (zI l3)), none] [.int (zI l3), .int (zI (zF S 49 9))] (rd S) rfl ?_
    refine s_iadd rfl ?_
    refine g_run 1 64 [some (.ref 49), some (.long (zL l1)), none, some (.int (zI l3)), none] [.int (zI 160), .int (zI ((zF S 49 9) + l3))] (rd S) rfl ?_
    refine s_icmp_le rfl h (fun h => ?_) (fun h => ?_)
    · show eG _ 143 70 [some (.ref 49), some (.long (zL l1)), none, some (.int (zI l3)), none] [] (rd S) _
      refine g_run 2 72 [some (.ref 49), some (.long (zL l1)), none, some (.int (zI l3)), none] [.int (zI 1), .int (zI l3)] (rd S) rfl ?_
      refine s_isub rfl ?_
      refine g_run 1 75 [some (.ref 49), some (.long (zL l1)), none, some (.int (zI l3)), some (.int (zI (l3 - 1)))] [] (rd S) rfl ?_
      refine g_fgt [false, false, true, true, false] ?_
      show eG _ 143 75 [some (.ref 49), some (.long (zL l1)), none, none, some (.int (zI (l3 - 1)))] [] (rd S) _
      obtain ⟨z3, h1, h⟩ := zB_inv h
      refine sM_type_2 o n S l1 (l3 - 1) h1 ?_
      show eG _ 143 117 [some (.ref 49), none, none, none, none] [] (rd z3) _
      refine g_run 1 118 [some (.ref 49), none, none, none, none] [.ref 49] (rd z3) rfl ?_
      refine g_getf rfl rfl (rd_o49 _) rfl ?_
      show eG _ 143 121 [some (.ref 49), none, none, none, none] [.int (zI (zF z3 49 9))] (rd z3) _
      cases h
      exact s_ret rfl rfl rfl
    · show eG _ 143 67 [some (.ref 49), some (.long (zL l1)), none, some (.int (zI l3)), none] [] (rd S) _
      refine g_run 1 69 [some (.ref 49), some (.long (zL l1)), none, some (.int (zI l3)), none] [.int (zI (-3))] (rd S) rfl ?_
      cases h
      exact s_ret rfl rfl rfl
  · show eG _ 143 12 [some (.ref 49), some (.long (zL l1)), none, some (.int (zI l3)), none] [] (rd S) _
    refine g_run 1 13 [some (.ref 49), some (.long (zL l1)), none, some (.int (zI l3)), none] [.int (zI (-1))] (rd S) rfl ?_
    cases h
    exact s_ret rfl rfl rfl
def fM_nextByte_1 : Nat → ZS → Option (ZS)
  | 0, _ => none
  | n + 1, S => gC (zF S 49 10) (zF S 49 9) (if (zF S 49 10) < (zF S 49 9) then gX (zF S 49 10) 160 (gC (zA S 52 (zF S 49 10)) 32 (if (zA S 52 (zF S 49 10)) = 32 then fM_nextByte_1 n (wF S 49 10 ((zF S 49 10) + 1)) else some S)) else some S)
set_option maxRecDepth 100000 in
set_option maxHeartbeats 4000000 in
theorem sM_nextByte_1 (o : eO) : ∀ (n : Nat) (S : ZS) {w : ZS} {r : eP} (h : fM_nextByte_1 n S = some w) (hk : eG o 147 38 [some (.ref 49)] [] (rd w) r), eG o 147 0 [some (.ref 49)] [] (rd S) r := by
  intro n
  induction n with
  | zero => intro S  w r h hk; unfold fM_nextByte_1 at h; cases h
  | succ n ih =>
    intro S  w r h hk
    unfold fM_nextByte_1 at h
    refine g_run 1 1 [some (.ref 49)] [.ref 49] (rd S) rfl ?_
    refine g_getf rfl rfl (rd_o49 _) rfl ?_
    show eG _ 147 4 [some (.ref 49)] [.int (zI (zF S 49 10))] (rd S) _
    refine g_run 1 5 [some (.ref 49)] [.ref 49, .int (zI (zF S 49 10))] (rd S) rfl ?_
    refine g_getf rfl rfl (rd_o49 _) rfl ?_
    show eG _ 147 8 [some (.ref 49)] [.int (zI (zF S 49 9)), .int (zI (zF S 49 10))] (rd S) _
    refine s_icmp_ge rfl h (fun h => ?_) (fun h => ?_)
    · show eG _ 147 38 [some (.ref 49)] [] (rd S) _
      cases h
      exact hk
    · show eG _ 147 11 [some (.ref 49)] [] (rd S) _
      refine g_run 1 12 [some (.ref 49)] [.ref 49] (rd S) rfl ?_
      refine g_getf rfl rfl (rd_o49 _) rfl ?_
      show eG _ 147 15 [some (.ref 49)] [.ref 52] (rd S) _
      refine g_run 1 16 [some (.ref 49)] [.ref 49, .ref 52] (rd S) rfl ?_
      refine g_getf rfl rfl (rd_o49 _) rfl ?_
      show eG _ 147 19 [some (.ref 49)] [.int (zI (zF S 49 10)), .ref 52] (rd S) _
      refine s_iald rfl (rd_a52 _) h (fun h => ?_)
      show eG _ 147 20 [some (.ref 49)] [.int (zI (zA S 52 (zF S 49 10)))] (rd S) _
      refine g_run 1 22 [some (.ref 49)] [.int (zI 32), .int (zI (zA S 52 (zF S 49 10)))] (rd S) rfl ?_
      refine s_icmp_ne rfl h (fun h => ?_) (fun h => ?_)
      · show eG _ 147 38 [some (.ref 49)] [] (rd S) _
        cases h
        exact hk
      · show eG _ 147 25 [some (.ref 49)] [] (rd S) _
        refine g_run 2 27 [some (.ref 49)] [.ref 49, .ref 49] (rd S) rfl ?_
        refine g_getf rfl rfl (rd_o49 _) rfl ?_
        show eG _ 147 30 [some (.ref 49)] [.int (zI (zF S 49 10)), .ref 49] (rd S) _
        refine g_run 1 31 [some (.ref 49)] [.int (zI 1), .int (zI (zF S 49 10)), .ref 49] (rd S) rfl ?_
        refine s_iadd rfl ?_
        refine s_putf rfl rfl (rd_o49 _) rfl rfl rfl rfl rfl (rw_o49_10 _ _) ?_
        show eG _ 147 35 [some (.ref 49)] [] (rd (wF S 49 10 ((zF S 49 10) + 1))) _
        refine g_run 1 0 [some (.ref 49)] [] (rd (wF S 49 10 ((zF S 49 10) + 1))) rfl ?_
        exact ih (wF S 49 10 ((zF S 49 10) + 1)) h hk
def fM_nextByte (n : Nat) (S : ZS) : Option (Int × ZS) := (fM_nextByte_1 n S).bind fun z1 => gC (zF z1 49 10) (zF z1 49 9) (if (zF z1 49 10) < (zF z1 49 9) then gX (zF z1 49 10) 160 (some (zA z1 52 (zF z1 49 10), z1)) else some (-1, z1))
set_option maxRecDepth 100000 in
set_option maxHeartbeats 4000000 in
theorem sM_nextByte (o : eO) (n : Nat) (S : ZS) {w : Int × ZS} (h : fM_nextByte n S = some w) : eG o 147 0 (eEnt 147 [.ref 49]) [] (rd S) (rv (some (.int (zI w.1))) (rd w.2)) := by
  unfold fM_nextByte at h
  show eG o 147 0 [some (.ref 49)] [] (rd S) _
  obtain ⟨z1, h1, h⟩ := zB_inv h
  refine sM_nextByte_1 o n S h1 ?_
  show eG _ 147 38 [some (.ref 49)] [] (rd z1) _
  refine g_run 1 39 [some (.ref 49)] [.ref 49] (rd z1) rfl ?_
  refine g_getf rfl rfl (rd_o49 _) rfl ?_
  show eG _ 147 42 [some (.ref 49)] [.int (zI (zF z1 49 10))] (rd z1) _
  refine g_run 1 43 [some (.ref 49)] [.ref 49, .int (zI (zF z1 49 10))] (rd z1) rfl ?_
  refine g_getf rfl rfl (rd_o49 _) rfl ?_
  show eG _ 147 46 [some (.ref 49)] [.int (zI (zF z1 49 9)), .int (zI (zF z1 49 10))] (rd z1) _
  refine s_icmp_ge rfl h (fun h => ?_) (fun h => ?_)
  · show eG _ 147 61 [some (.ref 49)] [] (rd z1) _
    refine g_run 1 62 [some (.ref 49)] [.int (zI (-1))] (rd z1) rfl ?_
    cases h
    exact s_ret rfl rfl rfl
  · show eG _ 147 49 [some (.ref 49)] [] (rd z1) _
    refine g_run 1 50 [some (.ref 49)] [.ref 49] (rd z1) rfl ?_
    refine g_getf rfl rfl (rd_o49 _) rfl ?_
    show eG _ 147 53 [some (.ref 49)] [.ref 52] (rd z1) _
    refine g_run 1 54 [some (.ref 49)] [.ref 49, .ref 52] (rd z1) rfl ?_
    refine g_getf rfl rfl (rd_o49 _) rfl ?_
    show eG _ 147 57 [some (.ref 49)] [.int (zI (zF z1 49 10)), .ref 52] (rd z1) _
    refine s_iald rfl (rd_a52 _) h (fun h => ?_)
    show eG _ 147 58 [some (.ref 49)] [.int (zI (zA z1 52 (zF z1 49 10)))] (rd z1) _
    refine g_run 1 62 [some (.ref 49)] [.int (zI (zA z1 52 (zF z1 49 10)))] (rd z1) rfl ?_
    cases h
    exact s_ret rfl rfl rfl
def fM_readSet_1 : Nat → ZS → Int → Int → Option ((Int × ZS) ⊕ (Int × ZS))
  | 0, _, _, _ => none
  | n + 1, S, l1, l2 => (fM_nextByte n S).bind fun z1 => gC z1.1 0 ((fM_in n z1.2 z1.1 48 57).bind fun z2 => gC z2 0 (if z2 = 0 then gC l2 0 (if l2 = 0 then (fM_nextByte n z1.2).bind fun z6 => gC (z6.1 - 48) 0 (gC (l1 - 1) 0 ((fM_in n z6.2 (z6.1 - 48) 0 (l1 - 1)).bind fun z7 => gC z7 0 (if z7 = 0 then some (.inl (-1, z6.2)) else (fM_has n z6.2 l2 (z6.1 - 48)).bind fun z8 => gC z8 0 (if z8 = 0 then fM_readSet_1 n (wF z6.2 49 10 ((zF z6.2 49 10) + 1)) l1 (zor l2 (zshl 1 (z6.1 - 48))) else some (.inl (-1, z6.2)))))) else some (.inr (l2, z1.2))) else (fM_nextByte n z1.2).bind fun z3 => gC (z3.1 - 48) 0 (gC (l1 - 1) 0 ((fM_in n z3.2 (z3.1 - 48) 0 (l1 - 1)).bind fun z4 => gC z4 0 (if z4 = 0 then some (.inl (-1, z3.2)) else (fM_has n z3.2 l2 (z3.1 - 48)).bind fun z5 => gC z5 0 (if z5 = 0 then fM_readSet_1 n (wF z3.2 49 10 ((zF z3.2 49 10) + 1)) l1 (zor l2 (zshl 1 (z3.1 - 48))) else some (.inl (-1, z3.2))))))))
set_option maxRecDepth 100000 in
set_option maxHeartbeats 4000000 in
theorem sM_readSet_1 (o : eO) : ∀ (n : Nat) (S : ZS) (l1 l2 : Int) {w : (Int × ZS) ⊕ (Int × ZS)} {r : eP} (h : fM_readSet_1 n S l1 l2 = some w) (hr : ∀ v, w = .inl v → r (some (.int (zI v.1)), rd v.2)) (hk : ∀ x, w = .inr x → eG o 150 73 [none, none, some (.int (zI x.1)), none] [] (rd x.2) r), eG o 150 2 [some (.ref 49), some (.int (zI l1)), some (.int (zI l2)), none] [] (rd S) r := by
  intro n
  induction n with
  | zero => intro S l1 l2 w r h hr hk; unfold fM_readSet_1 at h; cases h
  | succ n ih =>
    intro S l1 l2 w r h hr hk
    unfold fM_readSet_1 at h
    refine g_run 1 3 [some (.ref 49), some (.int (zI l1)), some (.int (zI l2)), none] [.ref 49] (rd S) rfl ?_
    refine s_vir (fun z => some (.int (zI z.1))) (fun z => rd z.2) rfl rfl rfl (rd_o49 _) rfl rfl (fun z hz => sM_nextByte o n S hz) rfl h (fun z1 h => ?_)
    show eG _ 150 6 [some (.ref 49), some (.int (zI l1)), some (.int (zI l2)), none] [.int (zI z1.1)] (rd z1.2) _
    refine s_i2l rfl h (fun h => ?_)
    refine g_run 2 13 [some (.ref 49), some (.int (zI l1)), some (.int (zI l2)), none] [.long (zL 57), .long (zL 48), .long (zL z1.1)] (rd z1.2) rfl ?_
    refine s_sta (fun z => some (.int (zI z))) (fun _ => rd z1.2) rfl rfl rfl rfl rfl rfl rfl (fun z hz => sM_in o n z1.2 z1.1 48 57 hz) rfl h (fun z2 h => ?_)
    show eG _ 150 16 [some (.ref 49), some (.int (zI l1)), some (.int (zI l2)), none] [.int (zI z2)] (rd z1.2) _
    refine s_if_ne rfl h (fun h => ?_) (fun h => ?_)
    · show eG _ 150 23 [some (.ref 49), some (.int (zI l1)), some (.int (zI l2)), none] [] (rd z1.2) _
      refine g_run 1 24 [some (.ref 49), some (.int (zI l1)), some (.int (zI l2)), none] [.ref 49] (rd z1.2) rfl ?_
      refine s_vir (fun z => some (.int (zI z.1))) (fun z => rd z.2) rfl rfl rfl (rd_o49 _) rfl rfl (fun z hz => sM_nextByte o n z1.2 hz) rfl h (fun z3 h => ?_)
      show eG _ 150 27 [some (.ref 49), some (.int (zI l1)), some (.int (zI l2)), none] [.int (zI z3.1)] (rd z3.2) _
      refine g_run 1 29 [some (.ref 49), some (.int (zI l1)), some (.int (zI l2)), none] [.int (zI 48), .int (zI z3.1)] (rd z3.2) rfl ?_
      refine s_isub rfl ?_
      refine g_run 2 32 [some (.ref 49), some (.int (zI l1)), some (.int (zI l2)), some (.int (zI (z3.1 - 48)))] [.int (zI (z3.1 - 48))] (rd z3.2) rfl ?_
      refine s_i2l rfl h (fun h => ?_)
      refine g_run 3 36 [some (.ref 49), some (.int (zI l1)), some (.int (zI l2)), some (.int (zI (z3.1 - 48)))] [.int (zI 1), .int (zI l1), .long (zL 0), .long (zL (z3.1 - 48))] (rd z3.2) rfl ?_
      refine s_isub rfl ?_
      refine s_i2l rfl h (fun h => ?_)
      refine s_sta (fun z => some (.int (zI z))) (fun _ => rd z3.2) rfl rfl rfl rfl rfl rfl rfl (fun z hz => sM_in o n z3.2 (z3.1 - 48) 0 (l1 - 1) hz) rfl h (fun z4 h => ?_)
      show eG _ 150 41 [some (.ref 49), some (.int (zI l1)), some (.int (zI l2)), some (.int (zI (z3.1 - 48)))] [.int (zI z4)] (rd z3.2) _
      refine s_if_eq rfl h (fun h => ?_) (fun h => ?_)
      · show eG _ 150 52 [some (.ref 49), some (.int (zI l1)), some (.int (zI l2)), some (.int (zI (z3.1 - 48)))] [] (rd z3.2) _
        refine g_run 1 53 [some (.ref 49), some (.int (zI l1)), some (.int (zI l2)), some (.int (zI (z3.1 - 48)))] [.int (zI (-1))] (rd z3.2) rfl ?_
        cases h
        exact s_ret rfl rfl (hr _ rfl)
      · show eG _ 150 44 [some (.ref 49), some (.int (zI l1)), some (.int (zI l2)), some (.int (zI (z3.1 - 48)))] [] (rd z3.2) _
        refine g_run 2 46 [some (.ref 49), some (.int (zI l1)), some (.int (zI l2)), some (.int (zI (z3.1 - 48)))] [.int (zI (z3.1 - 48)), .int (zI l2)] (rd z3.2) rfl ?_
        refine s_sta (fun z => some (.int (zI z))) (fun _ => rd z3.2) rfl rfl rfl rfl rfl rfl rfl (fun z hz => sM_has o n z3.2 l2 (z3.1 - 48) hz) rfl h (fun z5 h => ?_)
        show eG _ 150 49 [some (.ref 49), some (.int (zI l1)), some (.int (zI l2)), some (.int (zI (z3.1 - 48)))] [.int (zI z5)] (rd z3.2) _
        refine s_if_eq rfl h (fun h => ?_) (fun h => ?_)
        · show eG _ 150 54 [some (.ref 49), some (.int (zI l1)), some (.int (zI l2)), some (.int (zI (z3.1 - 48)))] [] (rd z3.2) _
          refine g_run 3 57 [some (.ref 49), some (.int (zI l1)), some (.int (zI l2)), some (.int (zI (z3.1 - 48)))] [.int (zI (z3.1 - 48)), .int (zI 1), .int (zI l2)] (rd z3.2) rfl ?_
          refine s_ishl rfl ?_
          refine s_ior rfl ?_
          refine g_run 3 62 [some (.ref 49), some (.int (zI l1)), some (.int (zI (zor l2 (zshl 1 (z3.1 - 48))))), some (.int (zI (z3.1 - 48)))] [.ref 49, .ref 49] (rd z3.2) rfl ?_
          refine g_getf rfl rfl (rd_o49 _) rfl ?_
          show eG _ 150 65 [some (.ref 49), some (.int (zI l1)), some (.int (zI (zor l2 (zshl 1 (z3.1 - 48))))), some (.int (zI (z3.1 - 48)))] [.int (zI (zF z3.2 49 10)), .ref 49] (rd z3.2) _
          refine g_run 1 66 [some (.ref 49), some (.int (zI l1)), some (.int (zI (zor l2 (zshl 1 (z3.1 - 48))))), some (.int (zI (z3.1 - 48)))] [.int (zI 1), .int (zI (zF z3.2 49 10)), .ref 49] (rd z3.2) rfl ?_
          refine s_iadd rfl ?_
          refine s_putf rfl rfl (rd_o49 _) rfl rfl rfl rfl rfl (rw_o49_10 _ _) ?_
          show eG _ 150 70 [some (.ref 49), some (.int (zI l1)), some (.int (zI (zor l2 (zshl 1 (z3.1 - 48))))), some (.int (zI (z3.1 - 48)))] [] (rd (wF z3.2 49 10 ((zF z3.2 49 10) + 1))) _
          refine g_run 1 2 [some (.ref 49), some (.int (zI l1)), some (.int (zI (zor l2 (zshl 1 (z3.1 - 48))))), some (.int (zI (z3.1 - 48)))] [] (rd (wF z3.2 49 10 ((zF z3.2 49 10) + 1))) rfl ?_
          refine g_fgt [false, false, false, true] ?_
          show eG _ 150 2 [some (.ref 49), some (.int (zI l1)), some (.int (zI (zor l2 (zshl 1 (z3.1 - 48))))), none] [] (rd (wF z3.2 49 10 ((zF z3.2 49 10) + 1))) _
          exact ih (wF z3.2 49 10 ((zF z3.2 49 10) + 1)) l1 (zor l2 (zshl 1 (z3.1 - 48))) h hr hk
        · show eG _ 150 52 [some (.ref 49), some (.int (zI l1)), some (.int (zI l2)), some (.int (zI (z3.1 - 48)))] [] (rd z3.2) _
          refine g_run 1 53 [some (.ref 49), some (.int (zI l1)), some (.int (zI l2)), some (.int (zI (z3.1 - 48)))] [.int (zI (-1))] (rd z3.2) rfl ?_
          cases h
          exact s_ret rfl rfl (hr _ rfl)
    · show eG _ 150 19 [some (.ref 49), some (.int (zI l1)), some (.int (zI l2)), none] [] (rd z1.2) _
      refine g_run 1 20 [some (.ref 49), some (.int (zI l1)), some (.int (zI l2)), none] [.int (zI l2)] (rd z1.2) rfl ?_
      refine s_if_ne rfl h (fun h => ?_) (fun h => ?_)
      · show eG _ 150 73 [some (.ref 49), some (.int (zI l1)), some (.int (zI l2)), none] [] (rd z1.2) _
        refine g_fgt [true, true, false, true] ?_
        show eG _ 150 73 [none, none, some (.int (zI l2)), none] [] (rd z1.2) _
        cases h
        exact hk _ rfl
      · show eG _ 150 23 [some (.ref 49), some (.int (zI l1)), some (.int (zI l2)), none] [] (rd z1.2) _
        refine g_run 1 24 [some (.ref 49), some (.int (zI l1)), some (.int (zI l2)), none] [.ref 49] (rd z1.2) rfl ?_
        refine s_vir (fun z => some (.int (zI z.1))) (fun z => rd z.2) rfl rfl rfl (rd_o49 _) rfl rfl (fun z hz => sM_nextByte o n z1.2 hz) rfl h (fun z6 h => ?_)
        show eG _ 150 27 [some (.ref 49), some (.int (zI l1)), some (.int (zI l2)), none] [.int (zI z6.1)] (rd z6.2) _
        refine g_run 1 29 [some (.ref 49), some (.int (zI l1)), some (.int (zI l2)), none] [.int (zI 48), .int (zI z6.1)] (rd z6.2) rfl ?_
        refine s_isub rfl ?_
        refine g_run 2 32 [some (.ref 49), some (.int (zI l1)), some (.int (zI l2)), some (.int (zI (z6.1 - 48)))] [.int (zI (z6.1 - 48))] (rd z6.2) rfl ?_
        refine s_i2l rfl h (fun h => ?_)
        refine g_run 3 36 [some (.ref 49), some (.int (zI l1)), some (.int (zI l2)), some (.int (zI (z6.1 - 48)))] [.int (zI 1), .int (zI l1), .long (zL 0), .long (zL (z6.1 - 48))] (rd z6.2) rfl ?_
        refine s_isub rfl ?_
        refine s_i2l rfl h (fun h => ?_)
        refine s_sta (fun z => some (.int (zI z))) (fun _ => rd z6.2) rfl rfl rfl rfl rfl rfl rfl (fun z hz => sM_in o n z6.2 (z6.1 - 48) 0 (l1 - 1) hz) rfl h (fun z7 h => ?_)
        show eG _ 150 41 [some (.ref 49), some (.int (zI l1)), some (.int (zI l2)), some (.int (zI (z6.1 - 48)))] [.int (zI z7)] (rd z6.2) _
        refine s_if_eq rfl h (fun h => ?_) (fun h => ?_)
        · show eG _ 150 52 [some (.ref 49), some (.int (zI l1)), some (.int (zI l2)), some (.int (zI (z6.1 - 48)))] [] (rd z6.2) _
          refine g_run 1 53 [some (.ref 49), some (.int (zI l1)), some (.int (zI l2)), some (.int (zI (z6.1 - 48)))] [.int (zI (-1))] (rd z6.2) rfl ?_
          cases h
          exact s_ret rfl rfl (hr _ rfl)
        · show eG _ 150 44 [some (.ref 49), some (.int (zI l1)), some (.int (zI l2)), some (.int (zI (z6.1 - 48)))] [] (rd z6.2) _
          refine g_run 2 46 [some (.ref 49), some (.int (zI l1)), some (.int (zI l2)), some (.int (zI (z6.1 - 48)))] [.int (zI (z6.1 - 48)), .int (zI l2)] (rd z6.2) rfl ?_
          refine s_sta (fun z => some (.int (zI z))) (fun _ => rd z6.2) rfl rfl rfl rfl rfl rfl rfl (fun z hz => sM_has o n z6.2 l2 (z6.1 - 48) hz) rfl h (fun z8 h => ?_)
          show eG _ 150 49 [some (.ref 49), some (.int (zI l1)), some (.int (zI l2)), some (.int (zI (z6.1 - 48)))] [.int (zI z8)] (rd z6.2) _
          refine s_if_eq rfl h (fun h => ?_) (fun h => ?_)
          · show eG _ 150 54 [some (.ref 49), some (.int (zI l1)), some (.int (zI l2)), some (.int (zI (z6.1 - 48)))] [] (rd z6.2) _
            refine g_run 3 57 [some (.ref 49), some (.int (zI l1)), some (.int (zI l2)), some (.int (zI (z6.1 - 48)))] [.int (zI (z6.1 - 48)), .int (zI 1), .int (zI l2)] (rd z6.2) rfl ?_
            refine s_ishl rfl ?_
            refine s_ior rfl ?_
            refine g_run 3 62 [some (.ref 49), some (.int (zI l1)), some (.int (zI (zor l2 (zshl 1 (z6.1 - 48))))), some (.int (zI (z6.1 - 48)))] [.ref 49, .ref 49] (rd z6.2) rfl ?_
            refine g_getf rfl rfl (rd_o49 _) rfl ?_
            show eG _ 150 65 [some (.ref 49), some (.int (zI l1)), some (.int (zI (zor l2 (zshl 1 (z6.1 - 48))))), some (.int (zI (z6.1 - 48)))] [.int (zI (zF z6.2 49 10)), .ref 49] (rd z6.2) _
            refine g_run 1 66 [some (.ref 49), some (.int (zI l1)), some (.int (zI (zor l2 (zshl 1 (z6.1 - 48))))), some (.int (zI (z6.1 - 48)))] [.int (zI 1), .int (zI (zF z6.2 49 10)), .ref 49] (rd z6.2) rfl ?_
            refine s_iadd rfl ?_
            refine s_putf rfl rfl (rd_o49 _) rfl rfl rfl rfl rfl (rw_o49_10 _ _) ?_
            show eG _ 150 70 [some (.ref 49), some (.int (zI l1)), some (.int (zI (zor l2 (zshl 1 (z6.1 - 48))))), some (.int (zI (z6.1 - 48)))] [] (rd (wF z6.2 49 10 ((zF z6.2 49 10) + 1))) _
            refine g_run 1 2 [some (.ref 49), some (.int (zI l1)), some (.int (zI (zor l2 (zshl 1 (z6.1 - 48))))), some (.int (zI (z6.1 - 48)))] [] (rd (wF z6.2 49 10 ((zF z6.2 49 10) + 1))) rfl ?_
            refine g_fgt [false, false, false, true] ?_
            show eG _ 150 2 [some (.ref 49), some (.int (zI l1)), some (.int (zI (zor l2 (zshl 1 (z6.1 - 48))))), none] [] (rd (wF z6.2 49 10 ((zF z6.2 49 10) + 1))) _
            exact ih (wF z6.2 49 10 ((zF z6.2 49 10) + 1)) l1 (zor l2 (zshl 1 (z6.1 - 48))) h hr hk
          · show eG _ 150 52 [some (.ref 49), some (.int (zI l1)), some (.int (zI l2)), some (.int (zI (z6.1 - 48)))] [] (rd z6.2) _
            refine g_run 1 53 [some (.ref 49), some (.int (zI l1)), some (.int (zI l2)), some (.int (zI (z6.1 - 48)))] [.int (zI (-1))] (rd z6.2) rfl ?_
            cases h
            exact s_ret rfl rfl (hr _ rfl)
def fM_readSet (n : Nat) (S : ZS) (l1 : Int) : Option (Int × ZS) := zR (fM_readSet_1 n S l1 0) fun z1 => some (z1.1, z1.2)
set_option maxRecDepth 100000 in
set_option maxHeartbeats 4000000 in
theorem sM_readSet (o : eO) (n : Nat) (S : ZS) (l1 : Int) {w : Int × ZS} (h : fM_readSet n S l1 = some w) : eG o 150 0 (eEnt 150 [.ref 49, .int (zI l1)]) [] (rd S) (rv (some (.int (zI w.1))) (rd w.2)) := by
  unfold fM_readSet at h
  show eG o 150 0 [some (.ref 49), some (.int (zI l1)), none, none] [] (rd S) _
  refine g_run 2 2 [some (.ref 49), some (.int (zI l1)), some (.int (zI 0)), none] [] (rd S) rfl ?_
  rcases zR_inv h with h1 | ⟨z1, h1, h⟩
  · exact sM_readSet_1 o n S l1 0 h1 (fun v e => by cases e; rfl) (fun x e => by cases e)
  refine sM_readSet_1 o n S l1 0 h1 (fun v e => by cases e) (fun x e => ?_)
  cases e
  show eG _ 150 73 [none, none, some (.int (zI z1.1)), none] [] (rd z1.2) _
  refine g_run 1 74 [none, none, some (.int (zI z1.1)), none] [.int (zI z1.1)] (rd z1.2) rfl ?_
  cases h
  exact s_ret rfl rfl rfl
