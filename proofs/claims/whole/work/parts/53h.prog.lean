def fD_restore (n : Nat) (S : ZS) : Option (Int × ZS) := gC (zF S 0 8) 0 (if (zF S 0 8) = 0 then some (-4, S) else (fT_takeOver_1_8 n S).bind fun z1 => (fW_forget n z1).bind fun z2 => some (1, z2))
set_option maxRecDepth 100000 in
set_option maxHeartbeats 4000000 in
theorem sD_restore (o : eO) (n : Nat) (S : ZS) {w : Int × ZS} (h : fD_restore n S = some w) : eG o 105 0 (eEnt 105 [.ref 0]) [] (rd S) (rv (some (.int (zI w.1))) (rd w.2)) := by
  unfold fD_restore at h
  show eG o 105 0 [some (.ref 0)] [] (rd S) _
  refine g_run 1 1 [some (.ref 0)] [.ref 0] (rd S) rfl ?_
  refine g_getf rfl rfl (rd_o0 _) rfl ?_
  show eG _ 105 4 [some (.ref 0)] [.int (zI (zF S 0 8))] (rd S) _
  refine s_if_ne rfl h (fun h => ?_) (fun h => ?_)
  · show eG _ 105 10 [some (.ref 0)] [] (rd S) _
    refine g_run 1 11 [some (.ref 0)] [.ref 0] (rd S) rfl ?_
    refine g_getf rfl rfl (rd_o0 _) rfl ?_
    show eG _ 105 14 [some (.ref 0)] [.ref 1] (rd S) _
    refine g_run 1 15 [some (.ref 0)] [.ref 0, .ref 1] (rd S) rfl ?_
    refine g_getf rfl rfl (rd_o0 _) rfl ?_
    show eG _ 105 18 [some (.ref 0)] [.ref 8, .ref 1] (rd S) _
    refine s_vir (fun _ => none) (fun z => rd z) rfl rfl rfl (rd_o1 _) rfl rfl (fun z hz => sT_takeOver_1_8 o n S hz) rfl h (fun z1 h => ?_)
    show eG _ 105 21 [some (.ref 0)] [] (rd z1) _
    refine g_run 1 22 [some (.ref 0)] [.ref 0] (rd z1) rfl ?_
    refine g_getf rfl rfl (rd_o0 _) rfl ?_
    show eG _ 105 25 [some (.ref 0)] [.ref 24] (rd z1) _
    refine s_vir (fun _ => none) (fun z => rd z) rfl rfl rfl (rd_o24 _) rfl rfl (fun z hz => sW_forget o n z1 hz) rfl h (fun z2 h => ?_)
    show eG _ 105 28 [some (.ref 0)] [] (rd z2) _
    refine g_run 1 29 [some (.ref 0)] [.int (zI 1)] (rd z2) rfl ?_
    cases h
    exact s_ret rfl rfl rfl
  · show eG _ 105 7 [some (.ref 0)] [] (rd S) _
    refine g_run 1 9 [some (.ref 0)] [.int (zI (-4))] (rd S) rfl ?_
    cases h
    exact s_ret rfl rfl rfl
def fH_isSheet (n : Nat) (S : ZS) (l0 : Int) : Option (Int) := gC l0 0 (if l0 < 0 then gB 0 (some 0) else gC l0 4 (if l0 < 4 then gB 1 (some 1) else gB 0 (some 0)))
set_option maxRecDepth 100000 in
set_option maxHeartbeats 4000000 in
theorem sH_isSheet (o : eO) (n : Nat) (S : ZS) (l0 : Int) {w : Int} (h : fH_isSheet n S l0 = some w) : eG o 110 0 (eEnt 110 [.int (zI l0)]) [] (rd S) (rv (some (.int (zI w))) (rd S)) := by
  unfold fH_isSheet at h
  show eG o 110 0 [some (.int (zI l0))] [] (rd S) _
  refine g_run 1 1 [some (.int (zI l0))] [.int (zI l0)] (rd S) rfl ?_
  refine s_if_lt rfl h (fun h => ?_) (fun h => ?_)
  · show eG _ 110 13 [some (.int (zI l0))] [] (rd S) _
    refine g_run 1 14 [some (.int (zI l0))] [.int (zI 0)] (rd S) rfl ?_
    exact s_retB rfl rfl h (fun h => by cases h; exact rfl)
  · show eG _ 110 4 [some (.int (zI l0))] [] (rd S) _
    refine g_run 2 6 [some (.int (zI l0))] [.int (zI 4), .int (zI l0)] (rd S) rfl ?_
    refine s_icmp_ge rfl h (fun h => ?_) (fun h => ?_)
    · show eG _ 110 13 [some (.int (zI l0))] [] (rd S) _
      refine g_run 1 14 [some (.int (zI l0))] [.int (zI 0)] (rd S) rfl ?_
      exact s_retB rfl rfl h (fun h => by cases h; exact rfl)
    · show eG _ 110 9 [some (.int (zI l0))] [] (rd S) _
      refine g_run 2 14 [some (.int (zI l0))] [.int (zI 1)] (rd S) rfl ?_
      exact s_retB rfl rfl h (fun h => by cases h; exact rfl)
def fH_isNamed (n : Nat) (S : ZS) (l0 l1 : Int) : Option (Int) := (fH_isSheet n S l0).bind fun z1 => gC z1 0 (if z1 = 0 then gB 0 (some 0) else gC l1 0 (if l1 < 0 then gB 0 (some 0) else gC l1 2 (if 2 < l1 then gB 0 (some 0) else gB 1 (some 1))))
set_option maxRecDepth 100000 in
set_option maxHeartbeats 4000000 in
theorem sH_isNamed (o : eO) (n : Nat) (S : ZS) (l0 l1 : Int) {w : Int} (h : fH_isNamed n S l0 l1 = some w) : eG o 109 0 (eEnt 109 [.int (zI l0), .int (zI l1)]) [] (rd S) (rv (some (.int (zI w))) (rd S)) := by
  unfold fH_isNamed at h
  show eG o 109 0 [some (.int (zI l0)), some (.int (zI l1))] [] (rd S) _
  refine g_run 1 1 [some (.int (zI l0)), some (.int (zI l1))] [.int (zI l0)] (rd S) rfl ?_
  refine s_sta (fun z => some (.int (zI z))) (fun _ => rd S) rfl rfl rfl rfl rfl rfl rfl (fun z hz => sH_isSheet o n S l0 hz) rfl h (fun z1 h => ?_)
  show eG _ 109 4 [some (.int (zI l0)), some (.int (zI l1))] [.int (zI z1)] (rd S) _
  refine s_if_eq rfl h (fun h => ?_) (fun h => ?_)
  · show eG _ 109 20 [some (.int (zI l0)), some (.int (zI l1))] [] (rd S) _
    refine g_run 1 21 [some (.int (zI l0)), some (.int (zI l1))] [.int (zI 0)] (rd S) rfl ?_
    exact s_retB rfl rfl h (fun h => by cases h; exact rfl)
  · show eG _ 109 7 [some (.int (zI l0)), some (.int (zI l1))] [] (rd S) _
    refine g_run 1 8 [some (.int (zI l0)), some (.int (zI l1))] [.int (zI l1)] (rd S) rfl ?_
    refine s_if_lt rfl h (fun h => ?_) (fun h => ?_)
    · show eG _ 109 20 [some (.int (zI l0)), some (.int (zI l1))] [] (rd S) _
      refine g_run 1 21 [some (.int (zI l0)), some (.int (zI l1))] [.int (zI 0)] (rd S) rfl ?_
      exact s_retB rfl rfl h (fun h => by cases h; exact rfl)
    · show eG _ 109 11 [some (.int (zI l0)), some (.int (zI l1))] [] (rd S) _
      refine g_run 2 13 [some (.int (zI l0)), some (.int (zI l1))] [.int (zI 2), .int (zI l1)] (rd S) rfl ?_
      refine s_icmp_gt rfl h (fun h => ?_) (fun h => ?_)
      · show eG _ 109 20 [some (.int (zI l0)), some (.int (zI l1))] [] (rd S) _
        refine g_run 1 21 [some (.int (zI l0)), some (.int (zI l1))] [.int (zI 0)] (rd S) rfl ?_
        exact s_retB rfl rfl h (fun h => by cases h; exact rfl)
      · show eG _ 109 16 [some (.int (zI l0)), some (.int (zI l1))] [] (rd S) _
        refine g_run 2 21 [some (.int (zI l0)), some (.int (zI l1))] [.int (zI 1)] (rd S) rfl ?_
        exact s_retB rfl rfl h (fun h => by cases h; exact rfl)
def fH_isNothing (n : Nat) (S : ZS) (l1 : Int) : Option (Int) := gX l1 4 (gC (zA S 48 l1) 0 (if (zA S 48 l1) < 0 then gB 1 (some 1) else gB 0 (some 0)))
set_option maxRecDepth 100000 in
set_option maxHeartbeats 4000000 in
theorem sH_isNothing (o : eO) (n : Nat) (S : ZS) (l1 : Int) {w : Int} (h : fH_isNothing n S l1 = some w) : eG o 111 0 (eEnt 111 [.ref 45, .int (zI l1)]) [] (rd S) (rv (some (.int (zI w))) (rd S)) := by
  unfold fH_isNothing at h
  show eG o 111 0 [some (.ref 45), some (.int (zI l1))] [] (rd S) _
  refine g_run 1 1 [some (.ref 45), some (.int (zI l1))] [.ref 45] (rd S) rfl ?_
  refine g_getf rfl rfl (rd_o45 _) rfl ?_
  show eG _ 111 4 [some (.ref 45), some (.int (zI l1))] [.ref 48] (rd S) _
  refine g_run 1 5 [some (.ref 45), some (.int (zI l1))] [.int (zI l1), .ref 48] (rd S) rfl ?_
  refine s_iald rfl (rd_a48 _) h (fun h => ?_)
  show eG _ 111 6 [some (.ref 45), some (.int (zI l1))] [.int (zI (zA S 48 l1))] (rd S) _
  refine s_if_ge rfl h (fun h => ?_) (fun h => ?_)
  · show eG _ 111 13 [some (.ref 45), some (.int (zI l1))] [] (rd S) _
    refine g_run 1 14 [some (.ref 45), some (.int (zI l1))] [.int (zI 0)] (rd S) rfl ?_
    exact s_retB rfl rfl h (fun h => by cases h; exact rfl)
  · show eG _ 111 9 [some (.ref 45), some (.int (zI l1))] [] (rd S) _
    refine g_run 2 14 [some (.ref 45), some (.int (zI l1))] [.int (zI 1)] (rd S) rfl ?_
    exact s_retB rfl rfl h (fun h => by cases h; exact rfl)
def fH_holds (n : Nat) (S : ZS) (l1 l2 l3 : Int) : Option (Int) := (gC l2 0 (if l2 < 0 then some 0 else gC l3 0 (if l3 < 0 then some 0 else gX l1 4 (gC l3 (zA S 48 l1) (if (zA S 48 l1) < l3 then some 0 else gX l1 4 (gC l2 ((zA S 48 l1) - l3) (if ((zA S 48 l1) - l3) < l2 then some 0 else some 1))))))).bind fun z1 => gB z1 (some z1)
set_option maxRecDepth 100000 in
set_option maxHeartbeats 4000000 in
theorem sH_holds (o : eO) (n : Nat) (S : ZS) (l1 l2 l3 : Int) {w : Int} (h : fH_holds n S l1 l2 l3 = some w) : eG o 112 0 (eEnt 112 [.ref 45, .int (zI l1), .int (zI l2), .int (zI l3)]) [] (rd S) (rv (some (.int (zI w))) (rd S)) := by
  unfold fH_holds at h
  show eG o 112 0 [some (.ref 45), some (.int (zI l1)), some (.int (zI l2)), some (.int (zI l3))] [] (rd S) _
  refine g_run 1 1 [some (.ref 45), some (.int (zI l1)), some (.int (zI l2)), some (.int (zI l3))] [.int (zI l2)] (rd S) rfl ?_
  refine s_join (α := Int) (fun z => eG o 112 35 [none, none, none, none] [.int (zI z)] (rd S) (rv (some (.int (zI w))) (rd S))) h (fun z1 h => ?_) (fun z1 h j => ?_)
  · show eG _ 112 35 [none, none, none, none] [.int (zI z1)] (rd S) _
    exact s_retB rfl rfl h (fun h => by cases h; exact rfl)
  · skip
    refine s_if_lt rfl h (fun h => ?_) (fun h => ?_)
    · show eG _ 112 34 [some (.ref 45), some (.int (zI l1)), some (.int (zI l2)), some (.int (zI l3))] [] (rd S) _
      refine g_run 1 35 [some (.ref 45), some (.int (zI l1)), some (.int (zI l2)), some (.int (zI l3))] [.int (zI 0)] (rd S) rfl ?_
      refine g_fgt [true, true, true, true] ?_
      show eG _ 112 35 [none, none, none, none] [.int (zI 0)] (rd S) _
      cases h
      exact j
    · show eG _ 112 4 [some (.ref 45), some (.int (zI l1)), some (.int (zI l2)), some (.int (zI l3))] [] (rd S) _
      refine g_run 1 5 [some (.ref 45), some (.int (zI l1)), some (.int (zI l2)), some (.int (zI l3))] [.int (zI l3)] (rd S) rfl ?_
      refine s_if_lt rfl h (fun h => ?_) (fun h => ?_)
      · show eG _ 112 34 [some (.ref 45), some (.int (zI l1)), some (.int (zI l2)), some (.int (zI l3))] [] (rd S) _
        refine g_run 1 35 [some (.ref 45), some (.int (zI l1)), some (.int (zI l2)), some (.int (zI l3))] [.int (zI 0)] (rd S) rfl ?_
        refine g_fgt [true, true, true, true] ?_
        show eG _ 112 35 [none, none, none, none] [.int (zI 0)] (rd S) _
        cases h
        exact j
      · show eG _ 112 8 [some (.ref 45), some (.int (zI l1)), some (.int (zI l2)), some (.int (zI l3))] [] (rd S) _
        refine g_run 2 10 [some (.ref 45), some (.int (zI l1)), some (.int (zI l2)), some (.int (zI l3))] [.ref 45, .int (zI l3)] (rd S) rfl ?_
        refine g_getf rfl rfl (rd_o45 _) rfl ?_
        show eG _ 112 13 [some (.ref 45), some (.int (zI l1)), some (.int (zI l2)), some (.int (zI l3))] [.ref 48, .int (zI l3)] (rd S) _
        refine g_run 1 14 [some (.ref 45), some (.int (zI l1)), some (.int (zI l2)), some (.int (zI l3))] [.int (zI l1), .ref 48, .int (zI l3)] (rd S) rfl ?_
        refine s_iald rfl (rd_a48 _) h (fun h => ?_)
        show eG _ 112 15 [some (.ref 45), some (.int (zI l1)), some (.int (zI l2)), some (.int (zI l3))] [.int (zI (zA S 48 l1)), .int (zI l3)] (rd S) _
        refine s_icmp_gt rfl h (fun h => ?_) (fun h => ?_)
        · show eG _ 112 34 [some (.ref 45), some (.int (zI l1)), some (.int (zI l2)), some (.int (zI l3))] [] (rd S) _
          refine g_run 1 35 [some (.ref 45), some (.int (zI l1)), some (.int (zI l2)), some (.int (zI l3))] [.int (zI 0)] (rd S) rfl ?_
          refine g_fgt [true, true, true, true] ?_
          show eG _ 112 35 [none, none, none, none] [.int (zI 0)] (rd S) _
          cases h
          exact j
        · show eG _ 112 18 [some (.ref 45), some (.int (zI l1)), some (.int (zI l2)), some (.int (zI l3))] [] (rd S) _
          refine g_run 2 20 [some (.ref 45), some (.int (zI l1)), some (.int (zI l2)), some (.int (zI l3))] [.ref 45, .int (zI l2)] (rd S) rfl ?_
          refine g_getf rfl rfl (rd_o45 _) rfl ?_
          show eG _ 112 23 [some (.ref 45), some (.int (zI l1)), some (.int (zI l2)), some (.int (zI l3))] [.ref 48, .int (zI l2)] (rd S) _
          refine g_run 1 24 [some (.ref 45), some (.int (zI l1)), some (.int (zI l2)), some (.int (zI l3))] [.int (zI l1), .ref 48, .int (zI l2)] (rd S) rfl ?_
          refine s_iald rfl (rd_a48 _) h (fun h => ?_)
          show eG _ 112 25 [some (.ref 45), some (.int (zI l1)), some (.int (zI l2)), some (.int (zI l3))] [.int (zI (zA S 48 l1)), .int (zI l2)] (rd S) _
          refine g_run 1 26 [some (.ref 45), some (.int (zI l1)), some (.int (zI l2)), some (.int (zI l3))] [.int (zI l3), .int (zI (zA S 48 l1)), .int (zI l2)] (rd S) rfl ?_
          refine s_isub rfl ?_
          refine s_icmp_gt rfl h (fun h => ?_) (fun h => ?_)
          · show eG _ 112 34 [some (.ref 45), some (.int (zI l1)), some (.int (zI l2)), some (.int (zI l3))] [] (rd S) _
            refine g_run 1 35 [some (.ref 45), some (.int (zI l1)), some (.int (zI l2)), some (.int (zI l3))] [.int (zI 0)] (rd S) rfl ?_
            refine g_fgt [true, true, true, true] ?_
            show eG _ 112 35 [none, none, none, none] [.int (zI 0)] (rd S) _
            cases h
            exact j
          · show eG _ 112 30 [some (.ref 45), some (.int (zI l1)), some (.int (zI l2)), some (.int (zI l3))] [] (rd S) _
            refine g_run 2 35 [some (.ref 45), some (.int (zI l1)), some (.int (zI l2)), some (.int (zI l3))] [.int (zI 1)] (rd S) rfl ?_
            refine g_fgt [true, true, true, true] ?_
            show eG _ 112 35 [none, none, none, none] [.int (zI 1)] (rd S) _
            cases h
            exact j
def fH_refusal (n : Nat) (S : ZS) (l1 l2 l3 l4 : Int) : Option (Int) := (fH_isNamed n S l1 l2).bind fun z1 => gC z1 0 (if z1 = 0 then some (-1) else (fH_isNothing n S l1).bind fun z2 => gC z2 0 (if z2 = 0 then gX l1 4 (gC (zA S 47 l1) l2 (if (zA S 47 l1) = l2 then (fH_holds n S l1 l3 l4).bind fun z3 => gC z3 0 (if z3 = 0 then some (-13) else some 0) else some (-12))) else some (-11)))
set_option maxRecDepth 100000 in
set_option maxHeartbeats 4000000 in
theorem sH_refusal (o : eO) (n : Nat) (S : ZS) (l1 l2 l3 l4 : Int) {w : Int} (h : fH_refusal n S l1 l2 l3 l4 = some w) : eG o 108 0 (eEnt 108 [.ref 45, .int (zI l1), .int (zI l2), .int (zI l3), .int (zI l4)]) [] (rd S) (rv (some (.int (zI w))) (rd S)) := by
  unfold fH_refusal at h
  show eG o 108 0 [some (.ref 45), some (.int (zI l1)), some (.int (zI l2)), some (.int (zI l3)), some (.int (zI l4))] [] (rd S) _
  refine g_run 2 2 [some (.ref 45), some (.int (zI l1)), some (.int (zI l2)), some (.int (zI l3)), some (.int (zI l4))] [.int (zI l2), .int (zI l1)] (rd S) rfl ?_
  refine s_sta (fun z => some (.int (zI z))) (fun _ => rd S) rfl rfl rfl rfl rfl rfl rfl (fun z hz => sH_isNamed o n S l1 l2 hz) rfl h (fun z1 h => ?_)
  show eG _ 108 5 [some (.ref 45), some (.int (zI l1)), some (.int (zI l2)), some (.int (zI l3)), some (.int (zI l4))] [.int (zI z1)] (rd S) _
  refine s_if_ne rfl h (fun h => ?_) (fun h => ?_)
  · show eG _ 108 10 [some (.ref 45), some (.int (zI l1)), some (.int (zI l2)), some (.int (zI l3)), some (.int (zI l4))] [] (rd S) _
    refine g_run 2 12 [some (.ref 45), some (.int (zI l1)), some (.int (zI l2)), some (.int (zI l3)), some (.int (zI l4))] [.int (zI l1), .ref 45] (rd S) rfl ?_
    refine s_vir (fun z => some (.int (zI z))) (fun _ => rd S) rfl rfl rfl (rd_o45 _) rfl rfl (fun z hz => sH_isNothing o n S l1 hz) rfl h (fun z2 h => ?_)
    show eG _ 108 15 [some (.ref 45), some (.int (zI l1)), some (.int (zI l2)), some (.int (zI l3)), some (.int (zI l4))] [.int (zI z2)] (rd S) _
    refine s_if_eq rfl h (fun h => ?_) (fun h => ?_)
    · show eG _ 108 21 [some (.ref 45), some (.int (zI l1)), some (.int (zI l2)), some (.int (zI l3)), some (.int (zI l4))] [] (rd S) _
      refine g_run 1 22 [some (.ref 45), some (.int (zI l1)), some (.int (zI l2)), some (.int (zI l3)), some (.int (zI l4))] [.ref 45] (rd S) rfl ?_
      refine g_getf rfl rfl (rd_o45 _) rfl ?_
      show eG _ 108 25 [some (.ref 45), some (.int (zI l1)), some (.int (zI l2)), some (.int (zI l3)), some (.int (zI l4))] [.ref 47] (rd S) _
      refine g_run 1 26 [some (.ref 45), some (.int (zI l1)), some (.int (zI l2)), some (.int (zI l3)), some (.int (zI l4))] [.int (zI l1), .ref 47] (rd S) rfl ?_
      refine s_iald rfl (rd_a47 _) h (fun h => ?_)
      show eG _ 108 27 [some (.ref 45), some (.int (zI l1)), some (.int (zI l2)), some (.int (zI l3)), some (.int (zI l4))] [.int (zI (zA S 47 l1))] (rd S) _
      refine g_run 1 28 [some (.ref 45), some (.int (zI l1)), some (.int (zI l2)), some (.int (zI l3)), some (.int (zI l4))] [.int (zI l2), .int (zI (zA S 47 l1))] (rd S) rfl ?_
      refine s_icmp_eq rfl h (fun h => ?_) (fun h => ?_)
      · show eG _ 108 34 [some (.ref 45), some (.int (zI l1)), some (.int (zI l2)), some (.int (zI l3)), some (.int (zI l4))] [] (rd S) _
        refine g_run 4 39 [some (.ref 45), some (.int (zI l1)), some (.int (zI l2)), some (.int (zI l3)), some (.int (zI l4))] [.int (zI l4), .int (zI l3), .int (zI l1), .ref 45] (rd S) rfl ?_
        refine s_vir (fun z => some (.int (zI z))) (fun _ => rd S) rfl rfl rfl (rd_o45 _) rfl rfl (fun z hz => sH_holds o n S l1 l3 l4 hz) rfl h (fun z3 h => ?_)
        show eG _ 108 42 [some (.ref 45), some (.int (zI l1)), some (.int (zI l2)), some (.int (zI l3)), some (.int (zI l4))] [.int (zI z3)] (rd S) _
        refine s_if_eq rfl h (fun h => ?_) (fun h => ?_)
        · show eG _ 108 49 [some (.ref 45), some (.int (zI l1)), some (.int (zI l2)), some (.int (zI l3)), some (.int (zI l4))] [] (rd S) _
          refine g_run 1 51 [some (.ref 45), some (.int (zI l1)), some (.int (zI l2)), some (.int (zI l3)), some (.int (zI l4))] [.int (zI (-13))] (rd S) rfl ?_
          cases h
          exact s_ret rfl rfl rfl
        · show eG _ 108 45 [some (.ref 45), some (.int (zI l1)), some (.int (zI l2)), some (.int (zI l3)), some (.int (zI l4))] [] (rd S) _
          refine g_run 2 51 [some (.ref 45), some (.int (zI l1)), some (.int (zI l2)), some (.int (zI l3)), some (.int (zI l4))] [.int (zI 0)] (rd S) rfl ?_
          cases h
          exact s_ret rfl rfl rfl
      · show eG _ 108 31 [some (.ref 45), some (.int (zI l1)), some (.int (zI l2)), some (.int (zI l3)), some (.int (zI l4))] [] (rd S) _
        refine g_run 1 33 [some (.ref 45), some (.int (zI l1)), some (.int (zI l2)), some (.int (zI l3)), some (.int (zI l4))] [.int (zI (-12))] (rd S) rfl ?_
        cases h
        exact s_ret rfl rfl rfl
    · show eG _ 108 18 [some (.ref 45), some (.int (zI l1)), some (.int (zI l2)), some (.int (zI l3)), some (.int (zI l4))] [] (rd S) _
      refine g_run 1 20 [some (.ref 45), some (.int (zI l1)), some (.int (zI l2)), some (.int (zI l3)), some (.int (zI l4))] [.int (zI (-11))] (rd S) rfl ?_
      cases h
      exact s_ret rfl rfl rfl
  · show eG _ 108 8 [some (.ref 45), some (.int (zI l1)), some (.int (zI l2)), some (.int (zI l3)), some (.int (zI l4))] [] (rd S) _
    refine g_run 1 9 [some (.ref 45), some (.int (zI l1)), some (.int (zI l2)), some (.int (zI l3)), some (.int (zI l4))] [.int (zI (-1))] (rd S) rfl ?_
    cases h
    exact s_ret rfl rfl rfl
def fD_refusalOfBook (n : Nat) (S : ZS) (l1 l2 l3 l4 : Int) : Option (Int) := gC l4 1 (if l4 < 1 then some (-1) else gC l4 8 (if 8 < l4 then some (-1) else (fH_refusal n S l1 l2 l3 (2 * l4)).bind fun z1 => some z1))
set_option maxRecDepth 100000 in
set_option maxHeartbeats 4000000 in
theorem sD_refusalOfBook (o : eO) (n : Nat) (S : ZS) (l1 l2 l3 l4 : Int) {w : Int} (h : fD_refusalOfBook n S l1 l2 l3 l4 = some w) : eG o 107 0 (eEnt 107 [.ref 0, .int (zI l1), .int (zI l2), .int (zI l3), .int (zI l4)]) [] (rd S) (rv (some (.int (zI w))) (rd S)) := by
  unfold fD_refusalOfBook at h
  show eG o 107 0 [some (.ref 0), some (.int (zI l1)), some (.int (zI l2)), some (.int (zI l3)), some (.int (zI l4))] [] (rd S) _
  refine g_run 2 3 [some (.ref 0), some (.int (zI l1)), some (.int (zI l2)), some (.int (zI l3)), some (.int (zI l4))] [.int (zI 1), .int (zI l4)] (rd S) rfl ?_
  refine s_icmp_lt rfl h (fun h => ?_) (fun h => ?_)
  · show eG _ 107 13 [some (.ref 0), some (.int (zI l1)), some (.int (zI l2)), some (.int (zI l3)), some (.int (zI l4))] [] (rd S) _
    refine g_run 1 14 [some (.ref 0), some (.int (zI l1)), some (.int (zI l2)), some (.int (zI l3)), some (.int (zI l4))] [.int (zI (-1))] (rd S) rfl ?_
    cases h
    exact s_ret rfl rfl rfl
  · show eG _ 107 6 [some (.ref 0), some (.int (zI l1)), some (.int (zI l2)), some (.int (zI l3)), some (.int (zI l4))] [] (rd S) _
    refine g_run 2 10 [some (.ref 0), some (.int (zI l1)), some (.int (zI l2)), some (.int (zI l3)), some (.int (zI l4))] [.int (zI 8), .int (zI l4)] (rd S) rfl ?_
    refine s_icmp_le rfl h (fun h => ?_) (fun h => ?_)
    · show eG _ 107 15 [some (.ref 0), some (.int (zI l1)), some (.int (zI l2)), some (.int (zI l3)), some (.int (zI l4))] [] (rd S) _
      refine g_run 1 16 [some (.ref 0), some (.int (zI l1)), some (.int (zI l2)), some (.int (zI l3)), some (.int (zI l4))] [.ref 0] (rd S) rfl ?_
      refine g_getf rfl rfl (rd_o0 _) rfl ?_
      show eG _ 107 19 [some (.ref 0), some (.int (zI l1)), some (.int (zI l2)), some (.int (zI l3)), some (.int (zI l4))] [.ref 45] (rd S) _
      refine g_run 5 25 [some (.ref 0), some (.int (zI l1)), some (.int (zI l2)), some (.int (zI l3)), some (.int (zI l4))] [.int (zI l4), .int (zI 2), .int (zI l3), .int (zI l2), .int (zI l1), .ref 45] (rd S) rfl ?_
      refine s_imul rfl ?_
      refine s_vir (fun z => some (.int (zI z))) (fun _ => rd S) rfl rfl rfl (rd_o45 _) rfl rfl (fun z hz => sH_refusal o n S l1 l2 l3 (2 * l4) hz) rfl h (fun z1 h => ?_)
      show eG _ 107 29 [some (.ref 0), some (.int (zI l1)), some (.int (zI l2)), some (.int (zI l3)), some (.int (zI l4))] [.int (zI z1)] (rd S) _
      cases h
      exact s_ret rfl rfl rfl
    · show eG _ 107 13 [some (.ref 0), some (.int (zI l1)), some (.int (zI l2)), some (.int (zI l3)), some (.int (zI l4))] [] (rd S) _
      refine g_run 1 14 [some (.ref 0), some (.int (zI l1)), some (.int (zI l2)), some (.int (zI l3)), some (.int (zI l4))] [.int (zI (-1))] (rd S) rfl ?_
      cases h
      exact s_ret rfl rfl rfl
def fH_look (n : Nat) (S : ZS) (l1 l2 : Int) : Option (Int) := gX ((l1 * 24) + l2) 96 (some (zA S 46 ((l1 * 24) + l2)))
set_option maxRecDepth 100000 in
set_option maxHeartbeats 4000000 in
theorem sH_look (o : eO) (n : Nat) (S : ZS) (l1 l2 : Int) {w : Int} (h : fH_look n S l1 l2 = some w) : eG o 115 0 (eEnt 115 [.ref 45, .int (zI l1), .int (zI l2)]) [] (rd S) (rv (some (.long (zL w))) (rd S)) := by
  unfold fH_look at h
  show eG o 115 0 [some (.ref 45), some (.int (zI l1)), some (.int (zI l2))] [] (rd S) _
  refine g_run 1 1 [some (.ref 45), some (.int (zI l1)), some (.int (zI l2))] [.ref 45] (rd S) rfl ?_
  refine g_getf rfl rfl (rd_o45 _) rfl ?_
  show eG _ 115 4 [some (.ref 45), some (.int (zI l1)), some (.int (zI l2))] [.ref 46] (rd S) _
  refine g_run 2 7 [some (.ref 45), some (.int (zI l1)), some (.int (zI l2))] [.int (zI 24), .int (zI l1), .ref 46] (rd S) rfl ?_
  refine s_imul rfl ?_
  refine g_run 1 9 [some (.ref 45), some (.int (zI l1)), some (.int (zI l2))] [.int (zI l2), .int (zI (l1 * 24)), .ref 46] (rd S) rfl ?_
  refine s_iadd rfl ?_
  refine s_lald rfl (rd_a46 _) h (fun h => ?_)
  show eG _ 115 11 [some (.ref 45), some (.int (zI l1)), some (.int (zI l2))] [.long (zL (zA S 46 ((l1 * 24) + l2)))] (rd S) _
  cases h
  exact s_retL rfl rfl rfl
def fT_pass_15 (n : Nat) (S : ZS) (l1 l2 : Int) : Option (ZS) := (fT_over n S 15 l1 l2).bind fun z1 => gC 999 z1 (some (wF (wF S 15 10 (min 999 z1)) 15 8 (zor (zand (zF S 15 8) (zxor l1 (-1))) l2)))
set_option maxRecDepth 100000 in
set_option maxHeartbeats 4000000 in
theorem sT_pass_15 (o : eO) (n : Nat) (S : ZS) (l1 l2 : Int) {w : ZS} (h : fT_pass_15 n S l1 l2 = some w) : eG o 58 0 (eEnt 58 [.ref 15, .int (zI l1), .int (zI l2)]) [] (rd S) (rv (none) (rd w)) := by
  unfold fT_pass_15 at h
  show eG o 58 0 [some (.ref 15), some (.int (zI l1)), some (.int (zI l2))] [] (rd S) _
  refine g_run 5 7 [some (.ref 15), some (.int (zI l1)), some (.int (zI l2))] [.int (zI l2), .int (zI l1), .ref 15, .int (zI 999), .ref 15] (rd S) rfl ?_
  refine s_vir (fun z => some (.int (zI z))) (fun _ => rd S) rfl rfl rfl (rd_o15 _) rfl rfl (fun z hz => sT_over o n S 15 (Or.inr (Or.inr rfl)) l1 l2 hz) rfl h (fun z1 h => ?_)
  show eG _ 58 10 [some (.ref 15), some (.int (zI l1)), some (.int (zI l2))] [.int (zI z1), .int (zI 999), .ref 15] (rd S) _
  refine s_min rfl rfl rfl rfl h (fun h => ?_)
  refine s_putf rfl rfl (rd_o15 _) rfl rfl rfl rfl rfl (rw_o15_10 _ _) ?_
  show eG _ 58 16 [some (.ref 15), some (.int (zI l1)), some (.int (zI l2))] [] (rd (wF S 15 10 (min 999 z1))) _
  refine g_run 2 18 [some (.ref 15), some (.int (zI l1)), some (.int (zI l2))] [.ref 15, .ref 15] (rd (wF S 15 10 (min 999 z1))) rfl ?_
  refine g_getf rfl rfl (rd_o15 _) rfl ?_
  show eG _ 58 21 [some (.ref 15), some (.int (zI l1)), some (.int (zI l2))] [.int (zI (zF S 15 8)), .ref 15] (rd (wF S 15 10 (min 999 z1))) _
  refine g_run 2 23 [some (.ref 15), some (.int (zI l1)), some (.int (zI l2))] [.int (zI (-1)), .int (zI l1), .int (zI (zF S 15 8)), .ref 15] (rd (wF S 15 10 (min 999 z1))) rfl ?_
  refine s_ixor rfl ?_
  refine s_iand rfl ?_
  refine g_run 1 26 [some (.ref 15), some (.int (zI l1)), some (.int (zI l2))] [.int (zI l2), .int (zI (zand (zF S 15 8) (zxor l1 (-1)))), .ref 15] (rd (wF S 15 10 (min 999 z1))) rfl ?_
  refine s_ior rfl ?_
  refine s_putf rfl rfl (rd_o15 _) rfl rfl rfl rfl rfl (rw_o15_8 _ _) ?_
  show eG _ 58 30 [some (.ref 15), some (.int (zI l1)), some (.int (zI l2))] [] (rd (wF (wF S 15 10 (min 999 z1)) 15 8 (zor (zand (zF S 15 8) (zxor l1 (-1))) l2))) _
  cases h
  exact g_retv rfl rfl rfl
def fD_draftPasses (n : Nat) (S : ZS) (l1 l2 : Int) : Option (Int × ZS) := (fH_look n S l1 l2).bind fun z1 => (fH_look n S l1 (l2 + 1)).bind fun z2 => (fT_isWeek n S 15 z1 z2).bind fun z3 => gC z3 0 (if z3 = 0 then gB 0 (some (0, S)) else (fT_isLawful n S 15 (zl2i z1) (zl2i z2)).bind fun z4 => gC z4 0 (if z4 = 0 then gB 0 (some (0, S)) else (fT_pass_15 n S (zl2i z1) (zl2i z2)).bind fun z5 => gB 1 (some (1, z5))))
set_option maxRecDepth 100000 in
set_option maxHeartbeats 4000000 in
theorem sD_draftPasses (o : eO) (n : Nat) (S : ZS) (l1 l2 : Int) {w : Int × ZS} (h : fD_draftPasses n S l1 l2 = some w) : eG o 114 0 (eEnt 114 [.ref 0, .int (zI l1), .int (zI l2)]) [] (rd S) (rv (some (.int (zI w.1))) (rd w.2)) := by
  unfold fD_draftPasses at h
  show eG o 114 0 [some (.ref 0), some (.int (zI l1)), some (.int (zI l2)), none, none, none, none] [] (rd S) _
  refine g_run 1 1 [some (.ref 0), some (.int (zI l1)), some (.int (zI l2)), none, none, none, none] [.ref 0] (rd S) rfl ?_
  refine g_getf rfl rfl (rd_o0 _) rfl ?_
  show eG _ 114 4 [some (.ref 0), some (.int (zI l1)), some (.int (zI l2)), none, none, none, none] [.ref 45] (rd S) _
  refine g_run 2 6 [some (.ref 0), some (.int (zI l1)), some (.int (zI l2)), none, none, none, none] [.int (zI l2), .int (zI l1), .ref 45] (rd S) rfl ?_
  refine s_vir (fun z => some (.long (zL z))) (fun _ => rd S) rfl rfl rfl (rd_o45 _) rfl rfl (fun z hz => sH_look o n S l1 l2 hz) rfl h (fun z1 h => ?_)
  show eG _ 114 9 [some (.ref 0), some (.int (zI l1)), some (.int (zI l2)), none, none, none, none] [.long (zL z1)] (rd S) _
  refine g_run 2 11 [some (.ref 0), some (.int (zI l1)), some (.int (zI l2)), some (.long (zL z1)), none, none, none] [.ref 0] (rd S) rfl ?_
  refine g_getf rfl rfl (rd_o0 _) rfl ?_
  show eG _ 114 14 [some (.ref 0), some (.int (zI l1)), some (.int (zI l2)), some (.long (zL z1)), none, none, none] [.ref 45] (rd S) _
  refine g_run 3 17 [some (.ref 0), some (.int (zI l1)), some (.int (zI l2)), some (.long (zL z1)), none, none, none] [.int (zI 1), .int (zI l2), .int (zI l1), .ref 45] (rd S) rfl ?_
  refine s_iadd rfl ?_
  refine s_vir (fun z => some (.long (zL z))) (fun _ => rd S) rfl rfl rfl (rd_o45 _) rfl rfl (fun z hz => sH_look o n S l1 (l2 + 1) hz) rfl h (fun z2 h => ?_)
  show eG _ 114 21 [some (.ref 0), some (.int (zI l1)), some (.int (zI l2)), some (.long (zL z1)), none, none, none] [.long (zL z2)] (rd S) _
  refine g_run 2 24 [some (.ref 0), some (.int (zI l1)), some (.int (zI l2)), some (.long (zL z1)), none, some (.long (zL z2)), none] [.ref 0] (rd S) rfl ?_
  refine g_getf rfl rfl (rd_o0 _) rfl ?_
  show eG _ 114 27 [some (.ref 0), some (.int (zI l1)), some (.int (zI l2)), some (.long (zL z1)), none, some (.long (zL z2)), none] [.ref 15] (rd S) _
  refine g_run 2 30 [some (.ref 0), some (.int (zI l1)), some (.int (zI l2)), some (.long (zL z1)), none, some (.long (zL z2)), none] [.long (zL z2), .long (zL z1), .ref 15] (rd S) rfl ?_
  refine s_vir (fun z => some (.int (zI z))) (fun _ => rd S) rfl rfl rfl (rd_o15 _) rfl rfl (fun z hz => sT_isWeek o n S 15 (Or.inr (Or.inr rfl)) z1 z2 hz) rfl h (fun z3 h => ?_)
  show eG _ 114 33 [some (.ref 0), some (.int (zI l1)), some (.int (zI l2)), some (.long (zL z1)), none, some (.long (zL z2)), none] [.int (zI z3)] (rd S) _
  refine s_if_eq rfl h (fun h => ?_) (fun h => ?_)
  · show eG _ 114 51 [some (.ref 0), some (.int (zI l1)), some (.int (zI l2)), some (.long (zL z1)), none, some (.long (zL z2)), none] [] (rd S) _
    refine g_run 1 52 [some (.ref 0), some (.int (zI l1)), some (.int (zI l2)), some (.long (zL z1)), none, some (.long (zL z2)), none] [.int (zI 0)] (rd S) rfl ?_
    exact s_retB rfl rfl h (fun h => by cases h; exact rfl)
  · show eG _ 114 36 [some (.ref 0), some (.int (zI l1)), some (.int (zI l2)), some (.long (zL z1)), none, some (.long (zL z2)), none] [] (rd S) _
    refine g_run 1 37 [some (.ref 0), some (.int (zI l1)), some (.int (zI l2)), some (.long (zL z1)), none, some (.long (zL z2)), none] [.ref 0] (rd S) rfl ?_
    refine g_getf rfl rfl (rd_o0 _) rfl ?_
    show eG _ 114 40 [some (.ref 0), some (.int (zI l1)), some (.int (zI l2)), some (.long (zL z1)), none, some (.long (zL z2)), none] [.ref 15] (rd S) _
    refine g_run 1 41 [some (.ref 0), some (.int (zI l1)), some (.int (zI l2)), some (.long (zL z1)), none, some (.long (zL z2)), none] [.long (zL z1), .ref 15] (rd S) rfl ?_
    refine s_l2i rfl ?_
    refine g_run 1 44 [some (.ref 0), some (.int (zI l1)), some (.int (zI l2)), some (.long (zL z1)), none, some (.long (zL z2)), none] [.long (zL z2), .int (zI (zl2i z1)), .ref 15] (rd S) rfl ?_
    refine s_l2i rfl ?_
    refine s_vir (fun z => some (.int (zI z))) (fun _ => rd S) rfl rfl rfl (rd_o15 _) rfl rfl (fun z hz => sT_isLawful o n S 15 (Or.inr (Or.inr rfl)) (zl2i z1) (zl2i z2) hz) rfl h (fun z4 h => ?_)
    show eG _ 114 48 [some (.ref 0), some (.int (zI l1)), some (.int (zI l2)), some (.long (zL z1)), none, some (.long (zL z2)), none] [.int (zI z4)] (rd S) _
    refine s_if_ne rfl h (fun h => ?_) (fun h => ?_)
    · show eG _ 114 53 [some (.ref 0), some (.int (zI l1)), some (.int (zI l2)), some (.long (zL z1)), none, some (.long (zL z2)), none] [] (rd S) _
      refine g_run 1 54 [some (.ref 0), some (.int (zI l1)), some (.int (zI l2)), some (.long (zL z1)), none, some (.long (zL z2)), none] [.ref 0] (rd S) rfl ?_
      refine g_getf rfl rfl (rd_o0 _) rfl ?_
      show eG _ 114 57 [some (.ref 0), some (.int (zI l1)), some (.int (zI l2)), some (.long (zL z1)), none, some (.long (zL z2)), none] [.ref 15] (rd S) _
      refine g_run 1 58 [some (.ref 0), some (.int (zI l1)), some (.int (zI l2)), some (.long (zL z1)), none, some (.long (zL z2)), none] [.long (zL z1), .ref 15] (rd S) rfl ?_
      refine s_l2i rfl ?_
      refine g_run 1 61 [some (.ref 0), some (.int (zI l1)), some (.int (zI l2)), some (.long (zL z1)), none, some (.long (zL z2)), none] [.long (zL z2), .int (zI (zl2i z1)), .ref 15] (rd S) rfl ?_
      refine s_l2i rfl ?_
      refine s_vir (fun _ => none) (fun z => rd z) rfl rfl rfl (rd_o15 _) rfl rfl (fun z hz => sT_pass_15 o n S (zl2i z1) (zl2i z2) hz) rfl h (fun z5 h => ?_)
      show eG _ 114 65 [some (.ref 0), some (.int (zI l1)), some (.int (zI l2)), some (.long (zL z1)), none, some (.long (zL z2)), none] [] (rd z5) _
      refine g_run 1 66 [some (.ref 0), some (.int (zI l1)), some (.int (zI l2)), some (.long (zL z1)), none, some (.long (zL z2)), none] [.int (zI 1)] (rd z5) rfl ?_
      exact s_retB rfl rfl h (fun h => by cases h; exact rfl)
    · show eG _ 114 51 [some (.ref 0), some (.int (zI l1)), some (.int (zI l2)), some (.long (zL z1)), none, some (.long (zL z2)), none] [] (rd S) _
      refine g_run 1 52 [some (.ref 0), some (.int (zI l1)), some (.int (zI l2)), some (.long (zL z1)), none, some (.long (zL z2)), none] [.int (zI 0)] (rd S) rfl ?_
      exact s_retB rfl rfl h (fun h => by cases h; exact rfl)
def fD_firstUnlawful_1 : Nat → ZS → Int → Int → Int → Int → Int → Option ((Int × ZS) ⊕ (ZS))
  | 0, _, _, _, _, _, _ => none
  | n + 1, S, l1, l2, l3, l4, l5 => gC l5 l3 (if l5 < l3 then gC l5 l4 (if l5 = l4 then fD_firstUnlawful_1 n S l1 l2 l3 l4 (l5 + 1) else (fD_draftPasses n S l1 (l2 + (2 * l5))).bind fun z1 => gC z1.1 0 (if z1.1 = 0 then some (.inl (l5, z1.2)) else fD_firstUnlawful_1 n z1.2 l1 l2 l3 l4 (l5 + 1))) else some (.inr S))
set_option maxRecDepth 100000 in
set_option maxHeartbeats 4000000 in
theorem sD_firstUnlawful_1 (o : eO) : ∀ (n : Nat) (S : ZS) (l1 l2 l3 l4 l5 : Int) {w : (Int × ZS) ⊕ (ZS)} {r : eP} (h : fD_firstUnlawful_1 n S l1 l2 l3 l4 l5 = some w) (hr : ∀ v, w = .inl v → r (some (.int (zI v.1)), rd v.2)) (hk : ∀ x, w = .inr x → eG o 113 50 [none, none, none, some (.int (zI l3)), none, none] [] (rd x) r), eG o 113 14 [some (.ref 0), some (.int (zI l1)), some (.int (zI l2)), some (.int (zI l3)), some (.int (zI l4)), some (.int (zI l5))] [] (rd S) r := by
  intro n
  induction n with
  | zero => intro S l1 l2 l3 l4 l5 w r h hr hk; unfold fD_firstUnlawful_1 at h; cases h
  | succ n ih =>
    intro S l1 l2 l3 l4 l5 w r h hr hk
    unfold fD_firstUnlawful_1 at h
    refine g_run 2 17 [some (.ref 0), some (.int (zI l1)), some (.int (zI l2)), some (.int (zI l3)), some (.int (zI l4)), some (.int (zI l5))] [.int (zI l3), .int (zI l5)] (rd S) rfl ?_
    refine s_icmp_ge rfl h (fun h => ?_) (fun h => ?_)
    · show eG _ 113 50 [some (.ref 0), some (.int (zI l1)), some (.int (zI l2)), some (.int (zI l3)), some (.int (zI l4)), some (.int (zI l5))] [] (rd S) _
      refine g_fgt [true, true, true, false, true, true] ?_
      show eG _ 113 50 [none, none, none, some (.int (zI l3)), none, none] [] (rd S) _
      cases h
      exact hk _ rfl
    · show eG _ 113 20 [some (.ref 0), some (.int (zI l1)), some (.int (zI l2)), some (.int (zI l3)), some (.int (zI l4)), some (.int (zI l5))] [] (rd S) _
      refine g_run 2 24 [some (.ref 0), some (.int (zI l1)), some (.int (zI l2)), some (.int (zI l3)), some (.int (zI l4)), some (.int (zI l5))] [.int (zI l4), .int (zI l5)] (rd S) rfl ?_
      refine s_icmp_eq rfl h (fun h => ?_) (fun h => ?_)
      · show eG _ 113 44 [some (.ref 0), some (.int (zI l1)), some (.int (zI l2)), some (.int (zI l3)), some (.int (zI l4)), some (.int (zI l5))] [] (rd S) _
        refine s_iinc (L' := [some (.ref 0), some (.int (zI l1)), some (.int (zI l2)), some (.int (zI l3)), some (.int (zI l4)), some (.int (zI (l5 + 1)))]) rfl rfl rfl ?_
        refine g_run 1 14 [some (.ref 0), some (.int (zI l1)), some (.int (zI l2)), some (.int (zI l3)), some (.int (zI l4)), some (.int (zI (l5 + 1)))] [] (rd S) rfl ?_
        exact ih S l1 l2 l3 l4 (l5 + 1) h hr hk
      · show eG _ 113 27 [some (.ref 0), some (.int (zI l1)), some (.int (zI l2)), some (.int (zI l3)), some (.int (zI l4)), some (.int (zI l5))] [] (rd S) _
        refine g_run 5 33 [some (.ref 0), some (.int (zI l1)), some (.int (zI l2)), some (.int (zI l3)), some (.int (zI l4)), some (.int (zI l5))] [.int (zI l5), .int (zI 2), .int (zI l2), .int (zI l1), .ref 0] (rd S) rfl ?_
        refine s_imul rfl ?_
        refine s_iadd rfl ?_
        refine s_vir (fun z => some (.int (zI z.1))) (fun z => rd z.2) rfl rfl rfl (rd_o0 _) rfl rfl (fun z hz => sD_draftPasses o n S l1 (l2 + (2 * l5)) hz) rfl h (fun z1 h => ?_)
        show eG _ 113 38 [some (.ref 0), some (.int (zI l1)), some (.int (zI l2)), some (.int (zI l3)), some (.int (zI l4)), some (.int (zI l5))] [.int (zI z1.1)] (rd z1.2) _
        refine s_if_ne rfl h (fun h => ?_) (fun h => ?_)
        · show eG _ 113 44 [some (.ref 0), some (.int (zI l1)), some (.int (zI l2)), some (.int (zI l3)), some (.int (zI l4)), some (.int (zI l5))] [] (rd z1.2) _
          refine s_iinc (L' := [some (.ref 0), some (.int (zI l1)), some (.int (zI l2)), some (.int (zI l3)), some (.int (zI l4)), some (.int (zI (l5 + 1)))]) rfl rfl rfl ?_
          refine g_run 1 14 [some (.ref 0), some (.int (zI l1)), some (.int (zI l2)), some (.int (zI l3)), some (.int (zI l4)), some (.int (zI (l5 + 1)))] [] (rd z1.2) rfl ?_
          exact ih z1.2 l1 l2 l3 l4 (l5 + 1) h hr hk
        · show eG _ 113 41 [some (.ref 0), some (.int (zI l1)), some (.int (zI l2)), some (.int (zI l3)), some (.int (zI l4)), some (.int (zI l5))] [] (rd z1.2) _
          refine g_run 1 43 [some (.ref 0), some (.int (zI l1)), some (.int (zI l2)), some (.int (zI l3)), some (.int (zI l4)), some (.int (zI l5))] [.int (zI l5)] (rd z1.2) rfl ?_
          cases h
          exact s_ret rfl rfl (hr _ rfl)
def fD_firstUnlawful (n : Nat) (S : ZS) (l1 l2 l3 l4 : Int) : Option (Int × ZS) := (fT_takeOver_15_1 n S).bind fun z1 => zR (fD_firstUnlawful_1 n z1 l1 l2 l3 l4 0) fun z2 => some (l3, z2)
set_option maxRecDepth 100000 in
set_option maxHeartbeats 4000000 in
theorem sD_firstUnlawful (o : eO) (n : Nat) (S : ZS) (l1 l2 l3 l4 : Int) {w : Int × ZS} (h : fD_firstUnlawful n S l1 l2 l3 l4 = some w) : eG o 113 0 (eEnt 113 [.ref 0, .int (zI l1), .int (zI l2), .int (zI l3), .int (zI l4)]) [] (rd S) (rv (some (.int (zI w.1))) (rd w.2)) := by
  unfold fD_firstUnlawful at h
  show eG o 113 0 [some (.ref 0), some (.int (zI l1)), some (.int (zI l2)), some (.int (zI l3)), some (.int (zI l4)), none] [] (rd S) _
  refine g_run 1 1 [some (.ref 0), some (.int (zI l1)), some (.int (zI l2)), some (.int (zI l3)), some (.int (zI l4)), none] [.ref 0] (rd S) rfl ?_
  refine g_getf rfl rfl (rd_o0 _) rfl ?_
  show eG _ 113 4 [some (.ref 0), some (.int (zI l1)), some (.int (zI l2)), some (.int (zI l3)), some (.int (zI l4)), none] [.ref 15] (rd S) _
  refine g_run 1 5 [some (.ref 0), some (.int (zI l1)), some (.int (zI l2)), some (.int (zI l3)), some (.int (zI l4)), none] [.ref 0, .ref 15] (rd S) rfl ?_
  refine g_getf rfl rfl (rd_o0 _) rfl ?_
  show eG _ 113 8 [some (.ref 0), some (.int (zI l1)), some (.int (zI l2)), some (.int (zI l3)), some (.int (zI l4)), none] [.ref 1, .ref 15] (rd S) _
  refine s_vir (fun _ => none) (fun z => rd z) rfl rfl rfl (rd_o15 _) rfl rfl (fun z hz => sT_takeOver_15_1 o n S hz) rfl h (fun z1 h => ?_)
  show eG _ 113 11 [some (.ref 0), some (.int (zI l1)), some (.int (zI l2)), some (.int (zI l3)), some (.int (zI l4)), none] [] (rd z1) _
  refine g_run 2 14 [some (.ref 0), some (.int (zI l1)), some (.int (zI l2)), some (.int (zI l3)), some (.int (zI l4)), some (.int (zI 0))] [] (rd z1) rfl ?_
  rcases zR_inv h with h1 | ⟨z2, h1, h⟩
  · exact sD_firstUnlawful_1 o n z1 l1 l2 l3 l4 0 h1 (fun v e => by cases e; rfl) (fun x e => by cases e)
  refine sD_firstUnlawful_1 o n z1 l1 l2 l3 l4 0 h1 (fun v e => by cases e) (fun x e => ?_)
  cases e
  show eG _ 113 50 [none, none, none, some (.int (zI l3)), none, none] [] (rd z2) _
  refine g_run 1 51 [none, none, none, some (.int (zI l3)), none, none] [.int (zI l3)] (rd z2) rfl ?_
  cases h
  exact s_ret rfl rfl rfl
def fD_judged (n : Nat) (S : ZS) (l1 l2 l3 l4 : Int) : Option (Int × ZS) := (fD_refusalOfBook n S l1 l2 l3 l4).bind fun z1 => gC z1 0 (if z1 = 0 then (fD_firstUnlawful n S l1 l3 l4 (-1)).bind fun z2 => gC z2.1 l4 (if z2.1 < l4 then some (z2.1, z2.2) else some (-4, z2.2)) else some (z1, S))
set_option maxRecDepth 100000 in
set_option maxHeartbeats 4000000 in
theorem sD_judged (o : eO) (n : Nat) (S : ZS) (l1 l2 l3 l4 : Int) {w : Int × ZS} (h : fD_judged n S l1 l2 l3 l4 = some w) : eG o 106 0 (eEnt 106 [.ref 0, .int (zI l1), .int (zI l2), .int (zI l3), .int (zI l4)]) [] (rd S) (rv (some (.int (zI w.1))) (rd w.2)) := by
  unfold fD_judged at h
  show eG o 106 0 [some (.ref 0), some (.int (zI l1)), some (.int (zI l2)), some (.int (zI l3)), some (.int (zI l4)), none, none] [] (rd S) _
  refine g_run 5 6 [some (.ref 0), some (.int (zI l1)), some (.int (zI l2)), some (.int (zI l3)), some (.int (zI l4)), none, none] [.int (zI l4), .int (zI l3), .int (zI l2), .int (zI l1), .ref 0] (rd S) rfl ?_
  refine s_vir (fun z => some (.int (zI z))) (fun _ => rd S) rfl rfl rfl (rd_o0 _) rfl rfl (fun z hz => sD_refusalOfBook o n S l1 l2 l3 l4 hz) rfl h (fun z1 h => ?_)
  show eG _ 106 9 [some (.ref 0), some (.int (zI l1)), some (.int (zI l2)), some (.int (zI l3)), some (.int (zI l4)), none, none] [.int (zI z1)] (rd S) _
  refine g_run 2 13 [some (.ref 0), some (.int (zI l1)), some (.int (zI l2)), some (.int (zI l3)), some (.int (zI l4)), some (.int (zI z1)), none] [.int (zI z1)] (rd S) rfl ?_
  refine s_if_eq rfl h (fun h => ?_) (fun h => ?_)
  · show eG _ 106 19 [some (.ref 0), some (.int (zI l1)), some (.int (zI l2)), some (.int (zI l3)), some (.int (zI l4)), some (.int (zI z1)), none] [] (rd S) _
    refine g_run 5 25 [some (.ref 0), some (.int (zI l1)), some (.int (zI l2)), some (.int (zI l3)), some (.int (zI l4)), some (.int (zI z1)), none] [.int (zI (-1)), .int (zI l4), .int (zI l3), .int (zI l1), .ref 0] (rd S) rfl ?_
    refine s_vir (fun z => some (.int (zI z.1))) (fun z => rd z.2) rfl rfl rfl (rd_o0 _) rfl rfl (fun z hz => sD_firstUnlawful o n S l1 l3 l4 (-1) hz) rfl h (fun z2 h => ?_)
    show eG _ 106 28 [some (.ref 0), some (.int (zI l1)), some (.int (zI l2)), some (.int (zI l3)), some (.int (zI l4)), some (.int (zI z1)), none] [.int (zI z2.1)] (rd z2.2) _
    refine g_run 3 34 [some (.ref 0), some (.int (zI l1)), some (.int (zI l2)), some (.int (zI l3)), some (.int (zI l4)), some (.int (zI z1)), some (.int (zI z2.1))] [.int (zI l4), .int (zI z2.1)] (rd z2.2) rfl ?_
    refine s_icmp_ge rfl h (fun h => ?_) (fun h => ?_)
    · show eG _ 106 42 [some (.ref 0), some (.int (zI l1)), some (.int (zI l2)), some (.int (zI l3)), some (.int (zI l4)), some (.int (zI z1)), some (.int (zI z2.1))] [] (rd z2.2) _
      refine g_run 1 44 [some (.ref 0), some (.int (zI l1)), some (.int (zI l2)), some (.int (zI l3)), some (.int (zI l4)), some (.int (zI z1)), some (.int (zI z2.1))] [.int (zI (-4))] (rd z2.2) rfl ?_
      cases h
      exact s_ret rfl rfl rfl
    · show eG _ 106 37 [some (.ref 0), some (.int (zI l1)), some (.int (zI l2)), some (.int (zI l3)), some (.int (zI l4)), some (.int (zI z1)), some (.int (zI z2.1))] [] (rd z2.2) _
      refine g_run 2 44 [some (.ref 0), some (.int (zI l1)), some (.int (zI l2)), some (.int (zI l3)), some (.int (zI l4)), some (.int (zI z1)), some (.int (zI z2.1))] [.int (zI z2.1)] (rd z2.2) rfl ?_
      cases h
      exact s_ret rfl rfl rfl
  · show eG _ 106 16 [some (.ref 0), some (.int (zI l1)), some (.int (zI l2)), some (.int (zI l3)), some (.int (zI l4)), some (.int (zI z1)), none] [] (rd S) _
    refine g_run 1 18 [some (.ref 0), some (.int (zI l1)), some (.int (zI l2)), some (.int (zI l3)), some (.int (zI l4)), some (.int (zI z1)), none] [.int (zI z1)] (rd S) rfl ?_
    cases h
    exact s_ret rfl rfl rfl
def fD_wrong_1 : Nat → ZS → Int → Int → Int → Int → Int → Int → Option (Int × ZS)
  | 0, _, _, _, _, _, _, _ => none
  | n + 1, S, l1, l3, l4, l5, l7, l8 => gC l8 l4 (if l8 < l4 then (fD_firstUnlawful n S l1 l3 l4 l8).bind fun z1 => gC z1.1 l4 (if z1.1 = l4 then gC (zF z1.2 15 8) l5 (if (zF z1.2 15 8) = l5 then fD_wrong_1 n z1.2 l1 l3 l4 l5 (zor l7 (zshl 1 l8)) (l8 + 1) else fD_wrong_1 n z1.2 l1 l3 l4 l5 l7 (l8 + 1)) else fD_wrong_1 n z1.2 l1 l3 l4 l5 l7 (l8 + 1)) else some (l7, S))
set_option maxRecDepth 100000 in
set_option maxHeartbeats 4000000 in
theorem sD_wrong_1 (o : eO) : ∀ (n : Nat) (S : ZS) (l1 l3 l4 l5 l7 l8 : Int) {w : Int × ZS} {r : eP} (h : fD_wrong_1 n S l1 l3 l4 l5 l7 l8 = some w) (hk : eG o 116 89 [none, none, none, none, none, none, none, some (.int (zI w.1)), none] [] (rd w.2) r), eG o 116 40 [some (.ref 0), some (.int (zI l1)), none, some (.int (zI l3)), some (.int (zI l4)), some (.int (zI l5)), none, some (.int (zI l7)), some (.int (zI l8))] [] (rd S) r := by
  intro n
  induction n with
  | zero => intro S l1 l3 l4 l5 l7 l8 w r h hk; unfold fD_wrong_1 at h; cases h
  | succ n ih =>
    intro S l1 l3 l4 l5 l7 l8 w r h hk
    unfold fD_wrong_1 at h
    refine g_run 2 44 [some (.ref 0), some (.int (zI l1)), none, some (.int (zI l3)), some (.int (zI l4)), some (.int (zI l5)), none, some (.int (zI l7)), some (.int (zI l8))] [.int (zI l4), .int (zI l8)] (rd S) rfl ?_
    refine s_icmp_ge rfl h (fun h => ?_) (fun h => ?_)
    · show eG _ 116 89 [some (.ref 0), some (.int (zI l1)), none, some (.int (zI l3)), some (.int (zI l4)), some (.int (zI l5)), none, some (.int (zI l7)), some (.int (zI l8))] [] (rd S) _
      refine g_fgt [true, true, true, true, true, true, true, false, true] ?_
      show eG _ 116 89 [none, none, none, none, none, none, none, some (.int (zI l7)), none] [] (rd S) _
      cases h
      exact hk
    · show eG _ 116 47 [some (.ref 0), some (.int (zI l1)), none, some (.int (zI l3)), some (.int (zI l4)), some (.int (zI l5)), none, some (.int (zI l7)), some (.int (zI l8))] [] (rd S) _
      refine g_run 5 54 [some (.ref 0), some (.int (zI l1)), none, some (.int (zI l3)), some (.int (zI l4)), some (.int (zI l5)), none, some (.int (zI l7)), some (.int (zI l8))] [.int (zI l8), .int (zI l4), .int (zI l3), .int (zI l1), .ref 0] (rd S) rfl ?_
      refine s_vir (fun z => some (.int (zI z.1))) (fun z => rd z.2) rfl rfl rfl (rd_o0 _) rfl rfl (fun z hz => sD_firstUnlawful o n S l1 l3 l4 l8 hz) rfl h (fun z1 h => ?_)
      show eG _ 116 57 [some (.ref 0), some (.int (zI l1)), none, some (.int (zI l3)), some (.int (zI l4)), some (.int (zI l5)), none, some (.int (zI l7)), some (.int (zI l8))] [.int (zI z1.1)] (rd z1.2) _
      refine g_run 1 59 [some (.ref 0), some (.int (zI l1)), none, some (.int (zI l3)), some (.int (zI l4)), some (.int (zI l5)), none, some (.int (zI l7)), some (.int (zI l8))] [.int (zI l4), .int (zI z1.1)] (rd z1.2) rfl ?_
      refine s_icmp_ne rfl h (fun h => ?_) (fun h => ?_)
      · show eG _ 116 83 [some (.ref 0), some (.int (zI l1)), none, some (.int (zI l3)), some (.int (zI l4)), some (.int (zI l5)), none, some (.int (zI l7)), some (.int (zI l8))] [] (rd z1.2) _
        refine s_iinc (L' := [some (.ref 0), some (.int (zI l1)), none, some (.int (zI l3)), some (.int (zI l4)), some (.int (zI l5)), none, some (.int (zI l7)), some (.int (zI (l8 + 1)))]) rfl rfl rfl ?_
        refine g_run 1 40 [some (.ref 0), some (.int (zI l1)), none, some (.int (zI l3)), some (.int (zI l4)), some (.int (zI l5)), none, some (.int (zI l7)), some (.int (zI (l8 + 1)))] [] (rd z1.2) rfl ?_
        exact ih z1.2 l1 l3 l4 l5 l7 (l8 + 1) h hk
      · show eG _ 116 62 [some (.ref 0), some (.int (zI l1)), none, some (.int (zI l3)), some (.int (zI l4)), some (.int (zI l5)), none, some (.int (zI l7)), some (.int (zI l8))] [] (rd z1.2) _
        refine g_run 1 63 [some (.ref 0), some (.int (zI l1)), none, some (.int (zI l3)), some (.int (zI l4)), some (.int (zI l5)), none, some (.int (zI l7)), some (.int (zI l8))] [.ref 0] (rd z1.2) rfl ?_
        refine g_getf rfl rfl (rd_o0 _) rfl ?_
        show eG _ 116 66 [some (.ref 0), some (.int (zI l1)), none, some (.int (zI l3)), some (.int (zI l4)), some (.int (zI l5)), none, some (.int (zI l7)), some (.int (zI l8))] [.ref 15] (rd z1.2) _
        refine g_getf rfl rfl (rd_o15 _) rfl ?_
        show eG _ 116 69 [some (.ref 0), some (.int (zI l1)), none, some (.int (zI l3)), some (.int (zI l4)), some (.int (zI l5)), none, some (.int (zI l7)), some (.int (zI l8))] [.int (zI (zF z1.2 15 8))] (rd z1.2) _
        refine g_run 1 71 [some (.ref 0), some (.int (zI l1)), none, some (.int (zI l3)), some (.int (zI l4)), some (.int (zI l5)), none, some (.int (zI l7)), some (.int (zI l8))] [.int (zI l5), .int (zI (zF z1.2 15 8))] (rd z1.2) rfl ?_
        refine s_icmp_ne rfl h (fun h => ?_) (fun h => ?_)
        · show eG _ 116 83 [some (.ref 0), some (.int (zI l1)), none, some (.int (zI l3)), some (.int (zI l4)), some (.int (zI l5)), none, some (.int (zI l7)), some (.int (zI l8))] [] (rd z1.2) _
          refine s_iinc (L' := [some (.ref 0), some (.int (zI l1)), none, some (.int (zI l3)), some (.int (zI l4)), some (.int (zI l5)), none, some (.int (zI l7)), some (.int (zI (l8 + 1)))]) rfl rfl rfl ?_
          refine g_run 1 40 [some (.ref 0), some (.int (zI l1)), none, some (.int (zI l3)), some (.int (zI l4)), some (.int (zI l5)), none, some (.int (zI l7)), some (.int (zI (l8 + 1)))] [] (rd z1.2) rfl ?_
          exact ih z1.2 l1 l3 l4 l5 l7 (l8 + 1) h hk
        · show eG _ 116 74 [some (.ref 0), some (.int (zI l1)), none, some (.int (zI l3)), some (.int (zI l4)), some (.int (zI l5)), none, some (.int (zI l7)), some (.int (zI l8))] [] (rd z1.2) _
          refine g_run 3 79 [some (.ref 0), some (.int (zI l1)), none, some (.int (zI l3)), some (.int (zI l4)), some (.int (zI l5)), none, some (.int (zI l7)), some (.int (zI l8))] [.int (zI l8), .int (zI 1), .int (zI l7)] (rd z1.2) rfl ?_
          refine s_ishl rfl ?_
          refine s_ior rfl ?_
          refine g_run 1 83 [some (.ref 0), some (.int (zI l1)), none, some (.int (zI l3)), some (.int (zI l4)), some (.int (zI l5)), none, some (.int (zI (zor l7 (zshl 1 l8)))), some (.int (zI l8))] [] (rd z1.2) rfl ?_
          refine s_iinc (L' := [some (.ref 0), some (.int (zI l1)), none, some (.int (zI l3)), some (.int (zI l4)), some (.int (zI l5)), none, some (.int (zI (zor l7 (zshl 1 l8)))), some (.int (zI (l8 + 1)))]) rfl rfl rfl ?_
          refine g_run 1 40 [some (.ref 0), some (.int (zI l1)), none, some (.int (zI l3)), some (.int (zI l4)), some (.int (zI l5)), none, some (.int (zI (zor l7 (zshl 1 l8)))), some (.int (zI (l8 + 1)))] [] (rd z1.2) rfl ?_
          exact ih z1.2 l1 l3 l4 l5 (zor l7 (zshl 1 l8)) (l8 + 1) h hk
def fD_wrong (n : Nat) (S : ZS) (l1 l2 l3 l4 l5 : Int) : Option (Int × ZS) := gC l5 0 ((fT_isSet n S 1 l5).bind fun z1 => gC z1 0 (if z1 = 0 then some (-1, S) else (fD_refusalOfBook n S l1 l2 l3 l4).bind fun z2 => gC z2 0 (if z2 = 0 then (fD_wrong_1 n S l1 l3 l4 l5 0 0).bind fun z3 => some (z3.1, z3.2) else some (z2, S))))
set_option maxRecDepth 100000 in
set_option maxHeartbeats 4000000 in
theorem sD_wrong (o : eO) (n : Nat) (S : ZS) (l1 l2 l3 l4 l5 : Int) {w : Int × ZS} (h : fD_wrong n S l1 l2 l3 l4 l5 = some w) : eG o 116 0 (eEnt 116 [.ref 0, .int (zI l1), .int (zI l2), .int (zI l3), .int (zI l4), .int (zI l5)]) [] (rd S) (rv (some (.int (zI w.1))) (rd w.2)) := by
  unfold fD_wrong at h
  show eG o 116 0 [some (.ref 0), some (.int (zI l1)), some (.int (zI l2)), some (.int (zI l3)), some (.int (zI l4)), some (.int (zI l5)), none, none, none] [] (rd S) _
  refine g_run 1 1 [some (.ref 0), some (.int (zI l1)), some (.int (zI l2)), some (.int (zI l3)), some (.int (zI l4)), some (.int (zI l5)), none, none, none] [.ref 0] (rd S) rfl ?_
  refine g_getf rfl rfl (rd_o0 _) rfl ?_
  show eG _ 116 4 [some (.ref 0), some (.int (zI l1)), some (.int (zI l2)), some (.int (zI l3)), some (.int (zI l4)), some (.int (zI l5)), none, none, none] [.ref 1] (rd S) _
  refine g_run 1 6 [some (.ref 0), some (.int (zI l1)), some (.int (zI l2)), some (.int (zI l3)), some (.int (zI l4)), some (.int (zI l5)), none, none, none] [.int (zI l5), .ref 1] (rd S) rfl ?_
  refine s_i2l rfl h (fun h => ?_)
  refine s_vir (fun z => some (.int (zI z))) (fun _ => rd S) rfl rfl rfl (rd_o1 _) rfl rfl (fun z hz => sT_isSet o n S 1 (Or.inl rfl) l5 hz) rfl h (fun z1 h => ?_)
  show eG _ 116 10 [some (.ref 0), some (.int (zI l1)), some (.int (zI l2)), some (.int (zI l3)), some (.int (zI l4)), some (.int (zI l5)), none, none, none] [.int (zI z1)] (rd S) _
  refine s_if_ne rfl h (fun h => ?_) (fun h => ?_)
  · show eG _ 116 15 [some (.ref 0), some (.int (zI l1)), some (.int (zI l2)), some (.int (zI l3)), some (.int (zI l4)), some (.int (zI l5)), none, none, none] [] (rd S) _
    refine g_run 5 21 [some (.ref 0), some (.int (zI l1)), some (.int (zI l2)), some (.int (zI l3)), some (.int (zI l4)), some (.int (zI l5)), none, none, none] [.int (zI l4), .int (zI l3), .int (zI l2), .int (zI l1), .ref 0] (rd S) rfl ?_
    refine s_vir (fun z => some (.int (zI z))) (fun _ => rd S) rfl rfl rfl (rd_o0 _) rfl rfl (fun z hz => sD_refusalOfBook o n S l1 l2 l3 l4 hz) rfl h (fun z2 h => ?_)
    show eG _ 116 24 [some (.ref 0), some (.int (zI l1)), some (.int (zI l2)), some (.int (zI l3)), some (.int (zI l4)), some (.int (zI l5)), none, none, none] [.int (zI z2)] (rd S) _
    refine g_run 2 28 [some (.ref 0), some (.int (zI l1)), some (.int (zI l2)), some (.int (zI l3)), some (.int (zI l4)), some (.int (zI l5)), some (.int (zI z2)), none, none] [.int (zI z2)] (rd S) rfl ?_
    refine s_if_eq rfl h (fun h => ?_) (fun h => ?_)
    · show eG _ 116 34 [some (.ref 0), some (.int (zI l1)), some (.int (zI l2)), some (.int (zI l3)), some (.int (zI l4)), some (.int (zI l5)), some (.int (zI z2)), none, none] [] (rd S) _
      refine g_run 4 40 [some (.ref 0), some (.int (zI l1)), some (.int (zI l2)), some (.int (zI l3)), some (.int (zI l4)), some (.int (zI l5)), some (.int (zI z2)), some (.int (zI 0)), some (.int (zI 0))] [] (rd S) rfl ?_
      refine g_fgt [false, false, true, false, false, false, true, false, false] ?_
      show eG _ 116 40 [some (.ref 0), some (.int (zI l1)), none, some (.int (zI l3)), some (.int (zI l4)), some (.int (zI l5)), none, some (.int (zI 0)), some (.int (zI 0))] [] (rd S) _
      obtain ⟨z3, h1, h⟩ := zB_inv h
      refine sD_wrong_1 o n S l1 l3 l4 l5 0 0 h1 ?_
      show eG _ 116 89 [none, none, none, none, none, none, none, some (.int (zI z3.1)), none] [] (rd z3.2) _
      refine g_run 1 91 [none, none, none, none, none, none, none, some (.int (zI z3.1)), none] [.int (zI z3.1)] (rd z3.2) rfl ?_
      cases h
      exact s_ret rfl rfl rfl
    · show eG _ 116 31 [some (.ref 0), some (.int (zI l1)), some (.int (zI l2)), some (.int (zI l3)), some (.int (zI l4)), some (.int (zI l5)), some (.int (zI z2)), none, none] [] (rd S) _
      refine g_run 1 33 [some (.ref 0), some (.int (zI l1)), some (.int (zI l2)), some (.int (zI l3)), some (.int (zI l4)), some (.int (zI l5)), some (.int (zI z2)), none, none] [.int (zI z2)] (rd S) rfl ?_
      cases h
      exact s_ret rfl rfl rfl
  · show eG _ 116 13 [some (.ref 0), some (.int (zI l1)), some (.int (zI l2)), some (.int (zI l3)), some (.int (zI l4)), some (.int (zI l5)), none, none, none] [] (rd S) _
    refine g_run 1 14 [some (.ref 0), some (.int (zI l1)), some (.int (zI l2)), some (.int (zI l3)), some (.int (zI l4)), some (.int (zI l5)), none, none, none] [.int (zI (-1))] (rd S) rfl ?_
    cases h
    exact s_ret rfl rfl rfl
def fA_fill_46_1 : Nat → ZS → Int → Int → Int → Option (ZS)
  | 0, _, _, _, _ => none
  | n + 1, S, l2, l3, l5 => gC l5 l2 (if l5 < l2 then gX l5 96 (fA_fill_46_1 n (wA S 46 l5 l3) l2 l3 (l5 + 1)) else some S)
set_option maxRecDepth 100000 in
set_option maxHeartbeats 4000000 in
theorem sA_fill_46_1 (o : eO) : ∀ (n : Nat) (S : ZS) (l2 l3 l5 : Int) {w : ZS} {r : eP} (h : fA_fill_46_1 n S l2 l3 l5 = some w) (hk : eG o 119 27 [none, none, none, none, none, none] [] (rd w) r), eG o 119 10 [some (.ref 46), none, some (.int (zI l2)), some (.long (zL l3)), none, some (.int (zI l5))] [] (rd S) r := by
  intro n
  induction n with
  | zero => intro S l2 l3 l5 w r h hk; unfold fA_fill_46_1 at h; cases h
  | succ n ih =>
    intro S l2 l3 l5 w r h hk
    unfold fA_fill_46_1 at h
    refine g_run 2 13 [some (.ref 46), none, some (.int (zI l2)), some (.long (zL l3)), none, some (.int (zI l5))] [.int (zI l2), .int (zI l5)] (rd S) rfl ?_
    refine s_icmp_ge rfl h (fun h => ?_) (fun h => ?_)
    · show eG _ 119 27 [some (.ref 46), none, some (.int (zI l2)), some (.long (zL l3)), none, some (.int (zI l5))] [] (rd S) _
      refine g_fgt [true, true, true, true, true, true] ?_
      show eG _ 119 27 [none, none, none, none, none, none] [] (rd S) _
      cases h
      exact hk
    · show eG _ 119 16 [some (.ref 46), none, some (.int (zI l2)), some (.long (zL l3)), none, some (.int (zI l5))] [] (rd S) _
      refine g_run 3 20 [some (.ref 46), none, some (.int (zI l2)), some (.long (zL l3)), none, some (.int (zI l5))] [.long (zL l3), .int (zI l5), .ref 46] (rd S) rfl ?_
      refine s_last rfl (rd_a46 _) (rw_a46 _ _) h (fun h => ?_)
      show eG _ 119 21 [some (.ref 46), none, some (.int (zI l2)), some (.long (zL l3)), none, some (.int (zI l5))] [] (rd (wA S 46 l5 l3)) _
      refine s_iinc (L' := [some (.ref 46), none, some (.int (zI l2)), some (.long (zL l3)), none, some (.int (zI (l5 + 1)))]) rfl rfl rfl ?_
      refine g_run 1 10 [some (.ref 46), none, some (.int (zI l2)), some (.long (zL l3)), none, some (.int (zI (l5 + 1)))] [] (rd (wA S 46 l5 l3)) rfl ?_
      exact ih (wA S 46 l5 l3) l2 l3 (l5 + 1) h hk
def fA_fill_46 (n : Nat) (S : ZS) (l1 l2 l3 : Int) : Option (ZS) := (fA_rangeCheck n S 96 l1 l2).bind fun z1 => (fA_fill_46_1 n S l2 l3 l1).bind fun z2 => some z2
set_option maxRecDepth 100000 in
set_option maxHeartbeats 4000000 in
theorem sA_fill_46 (o : eO) (n : Nat) (S : ZS) (l1 l2 l3 : Int) {w : ZS} (h : fA_fill_46 n S l1 l2 l3 = some w) : eG o 119 0 (eEnt 119 [.ref 46, .int (zI l1), .int (zI l2), .long (zL l3)]) [] (rd S) (rv (none) (rd w)) := by
  unfold fA_fill_46 at h
  show eG o 119 0 [some (.ref 46), some (.int (zI l1)), some (.int (zI l2)), some (.long (zL l3)), none, none] [] (rd S) _
  refine g_run 1 1 [some (.ref 46), some (.int (zI l1)), some (.int (zI l2)), some (.long (zL l3)), none, none] [.ref 46] (rd S) rfl ?_
  refine s_alenL rfl (rd_a46 _) ?_
  show eG _ 119 2 [some (.ref 46), some (.int (zI l1)), some (.int (zI l2)), some (.long (zL l3)), none, none] [.int (zI 96)] (rd S) _
  refine g_run 2 4 [some (.ref 46), some (.int (zI l1)), some (.int (zI l2)), some (.long (zL l3)), none, none] [.int (zI l2), .int (zI l1), .int (zI 96)] (rd S) rfl ?_
  refine s_sta (fun _ => none) (fun _ => rd S) rfl rfl rfl rfl rfl rfl rfl (fun z hz => sA_rangeCheck o n S 96 l1 l2 hz) rfl h (fun z1 h => ?_)
  show eG _ 119 7 [some (.ref 46), some (.int (zI l1)), some (.int (zI l2)), some (.long (zL l3)), none, none] [] (rd S) _
  refine g_run 2 10 [some (.ref 46), some (.int (zI l1)), some (.int (zI l2)), some (.long (zL l3)), none, some (.int (zI l1))] [] (rd S) rfl ?_
  refine g_fgt [false, true, false, false, true, false] ?_
  show eG _ 119 10 [some (.ref 46), none, some (.int (zI l2)), some (.long (zL l3)), none, some (.int (zI l1))] [] (rd S) _
  obtain ⟨z2, h1, h⟩ := zB_inv h
  refine sA_fill_46_1 o n S l2 l3 l1 h1 ?_
  show eG _ 119 27 [none, none, none, none, none, none] [] (rd z2) _
  cases h
  exact g_retv rfl rfl rfl
def fH_renew (n : Nat) (S : ZS) (l1 l2 l3 : Int) : Option (ZS) := gX l1 4 (gX l1 4 ((fA_fill_46 n (wA (wA S 47 l1 l2) 48 l1 l3) (l1 * 24) ((l1 + 1) * 24) 0).bind fun z1 => some z1))
set_option maxRecDepth 100000 in
set_option maxHeartbeats 4000000 in
theorem sH_renew (o : eO) (n : Nat) (S : ZS) (l1 l2 l3 : Int) {w : ZS} (h : fH_renew n S l1 l2 l3 = some w) : eG o 118 0 (eEnt 118 [.ref 45, .int (zI l1), .int (zI l2), .int (zI l3)]) [] (rd S) (rv (none) (rd w)) := by
  unfold fH_renew at h
  show eG o 118 0 [some (.ref 45), some (.int (zI l1)), some (.int (zI l2)), some (.int (zI l3))] [] (rd S) _
  refine g_run 1 1 [some (.ref 45), some (.int (zI l1)), some (.int (zI l2)), some (.int (zI l3))] [.ref 45] (rd S) rfl ?_
  refine g_getf rfl rfl (rd_o45 _) rfl ?_
  show eG _ 118 4 [some (.ref 45), some (.int (zI l1)), some (.int (zI l2)), some (.int (zI l3))] [.ref 47] (rd S) _
  refine g_run 2 6 [some (.ref 45), some (.int (zI l1)), some (.int (zI l2)), some (.int (zI l3))] [.int (zI l2), .int (zI l1), .ref 47] (rd S) rfl ?_
  refine s_iast rfl (rd_a47 _) (rw_a47 _ _) h (fun h => ?_)
  show eG _ 118 7 [some (.ref 45), some (.int (zI l1)), some (.int (zI l2)), some (.int (zI l3))] [] (rd (wA S 47 l1 l2)) _
  refine g_run 1 8 [some (.ref 45), some (.int (zI l1)), some (.int (zI l2)), some (.int (zI l3))] [.ref 45] (rd (wA S 47 l1 l2)) rfl ?_
  refine g_getf rfl rfl (rd_o45 _) rfl ?_
  show eG _ 118 11 [some (.ref 45), some (.int (zI l1)), some (.int (zI l2)), some (.int (zI l3))] [.ref 48] (rd (wA S 47 l1 l2)) _
  refine g_run 2 13 [some (.ref 45), some (.int (zI l1)), some (.int (zI l2)), some (.int (zI l3))] [.int (zI l3), .int (zI l1), .ref 48] (rd (wA S 47 l1 l2)) rfl ?_
  refine s_iast rfl (rd_a48 _) (rw_a48 _ _) h (fun h => ?_)
  show eG _ 118 14 [some (.ref 45), some (.int (zI l1)), some (.int (zI l2)), some (.int (zI l3))] [] (rd (wA (wA S 47 l1 l2) 48 l1 l3)) _
  refine g_run 1 15 [some (.ref 45), some (.int (zI l1)), some (.int (zI l2)), some (.int (zI l3))] [.ref 45] (rd (wA (wA S 47 l1 l2) 48 l1 l3)) rfl ?_
  refine g_getf rfl rfl (rd_o45 _) rfl ?_
  show eG _ 118 18 [some (.ref 45), some (.int (zI l1)), some (.int (zI l2)), some (.int (zI l3))] [.ref 46] (rd (wA (wA S 47 l1 l2) 48 l1 l3)) _
  refine g_run 2 21 [some (.ref 45), some (.int (zI l1)), some (.int (zI l2)), some (.int (zI l3))] [.int (zI 24), .int (zI l1), .ref 46] (rd (wA (wA S 47 l1 l2) 48 l1 l3)) rfl ?_
  refine s_imul rfl ?_
  refine g_run 2 24 [some (.ref 45), some (.int (zI l1)), some (.int (zI l2)), some (.int (zI l3))] [.int (zI 1), .int (zI l1), .int (zI (l1 * 24)), .ref 46] (rd (wA (wA S 47 l1 l2) 48 l1 l3)) rfl ?_
  refine s_iadd rfl ?_
  refine g_run 1 27 [some (.ref 45), some (.int (zI l1)), some (.int (zI l2)), some (.int (zI l3))] [.int (zI 24), .int (zI (l1 + 1)), .int (zI (l1 * 24)), .ref 46] (rd (wA (wA S 47 l1 l2) 48 l1 l3)) rfl ?_
  refine s_imul rfl ?_
  refine g_run 1 29 [some (.ref 45), some (.int (zI l1)), some (.int (zI l2)), some (.int (zI l3))] [.long (zL 0), .int (zI ((l1 + 1) * 24)), .int (zI (l1 * 24)), .ref 46] (rd (wA (wA S 47 l1 l2) 48 l1 l3)) rfl ?_
  refine s_sta (fun _ => none) (fun z => rd z) rfl rfl rfl rfl rfl rfl rfl (fun z hz => sA_fill_46 o n (wA (wA S 47 l1 l2) 48 l1 l3) (l1 * 24) ((l1 + 1) * 24) 0 hz) rfl h (fun z1 h => ?_)
  show eG _ 118 32 [some (.ref 45), some (.int (zI l1)), some (.int (zI l2)), some (.int (zI l3))] [] (rd z1) _
  cases h
  exact g_retv rfl rfl rfl
def fD_sheet (n : Nat) (S : ZS) (l1 l2 l3 : Int) : Option (Int × ZS) := (fH_isNamed n S l1 l2).bind fun z1 => gC z1 0 (if z1 = 0 then some (-1, S) else gC l3 24 (if 24 < l3 then some (-1, S) else gC l3 0 (if l3 < 0 then some (-14, S) else (fH_renew n S l1 l2 l3).bind fun z2 => some (l3, z2))))
set_option maxRecDepth 100000 in
set_option maxHeartbeats 4000000 in
theorem sD_sheet (o : eO) (n : Nat) (S : ZS) (l1 l2 l3 : Int) {w : Int × ZS} (h : fD_sheet n S l1 l2 l3 = some w) : eG o 117 0 (eEnt 117 [.ref 0, .int (zI l1), .int (zI l2), .int (zI l3)]) [] (rd S) (rv (some (.int (zI w.1))) (rd w.2)) := by
  unfold fD_sheet at h
  show eG o 117 0 [some (.ref 0), some (.int (zI l1)), some (.int (zI l2)), some (.int (zI l3))] [] (rd S) _
  refine g_run 2 2 [some (.ref 0), some (.int (zI l1)), some (.int (zI l2)), some (.int (zI l3))] [.int (zI l2), .int (zI l1)] (rd S) rfl ?_
  refine s_sta (fun z => some (.int (zI z))) (fun _ => rd S) rfl rfl rfl rfl rfl rfl rfl (fun z hz => sH_isNamed o n S l1 l2 hz) rfl h (fun z1 h => ?_)
  show eG _ 117 5 [some (.ref 0), some (.int (zI l1)), some (.int (zI l2)), some (.int (zI l3))] [.int (zI z1)] (rd S) _
  refine s_if_eq rfl h (fun h => ?_) (fun h => ?_)
  · show eG _ 117 14 [some (.ref 0), some (.int (zI l1)), some (.int (zI l2)), some (.int (zI l3))] [] (rd S) _
    refine g_run 1 15 [some (.ref 0), some (.int (zI l1)), some (.int (zI l2)), some (.int (zI l3))] [.int (zI (-1))] (rd S) rfl ?_
    cases h
    exact s_ret rfl rfl rfl
  · show eG _ 117 8 [some (.ref 0), some (.int (zI l1)), some (.int (zI l2)), some (.int (zI l3))] [] (rd S) _
    refine g_run 2 11 [some (.ref 0), some (.int (zI l1)), some (.int (zI l2)), some (.int (zI l3))] [.int (zI 24), .int (zI l3)] (rd S) rfl ?_
    refine s_icmp_le rfl h (fun h => ?_) (fun h => ?_)
    · show eG _ 117 16 [some (.ref 0), some (.int (zI l1)), some (.int (zI l2)), some (.int (zI l3))] [] (rd S) _
      refine g_run 1 17 [some (.ref 0), some (.int (zI l1)), some (.int (zI l2)), some (.int (zI l3))] [.int (zI l3)] (rd S) rfl ?_
      refine s_if_ge rfl h (fun h => ?_) (fun h => ?_)
      · show eG _ 117 23 [some (.ref 0), some (.int (zI l1)), some (.int (zI l2)), some (.int (zI l3))] [] (rd S) _
        refine g_run 1 24 [some (.ref 0), some (.int (zI l1)), some (.int (zI l2)), some (.int (zI l3))] [.ref 0] (rd S) rfl ?_
        refine g_getf rfl rfl (rd_o0 _) rfl ?_
        show eG _ 117 27 [some (.ref 0), some (.int (zI l1)), some (.int (zI l2)), some (.int (zI l3))] [.ref 45] (rd S) _
        refine g_run 3 30 [some (.ref 0), some (.int (zI l1)), some (.int (zI l2)), some (.int (zI l3))] [.int (zI l3), .int (zI l2), .int (zI l1), .ref 45] (rd S) rfl ?_
        refine s_vir (fun _ => none) (fun z => rd z) rfl rfl rfl (rd_o45 _) rfl rfl (fun z hz => sH_renew o n S l1 l2 l3 hz) rfl h (fun z2 h => ?_)
        show eG _ 117 33 [some (.ref 0), some (.int (zI l1)), some (.int (zI l2)), some (.int (zI l3))] [] (rd z2) _
        refine g_run 1 34 [some (.ref 0), some (.int (zI l1)), some (.int (zI l2)), some (.int (zI l3))] [.int (zI l3)] (rd z2) rfl ?_
        cases h
        exact s_ret rfl rfl rfl
      · show eG _ 117 20 [some (.ref 0), some (.int (zI l1)), some (.int (zI l2)), some (.int (zI l3))] [] (rd S) _
        refine g_run 1 22 [some (.ref 0), some (.int (zI l1)), some (.int (zI l2)), some (.int (zI l3))] [.int (zI (-14))] (rd S) rfl ?_
        cases h
        exact s_ret rfl rfl rfl
    · show eG _ 117 14 [some (.ref 0), some (.int (zI l1)), some (.int (zI l2)), some (.int (zI l3))] [] (rd S) _
      refine g_run 1 15 [some (.ref 0), some (.int (zI l1)), some (.int (zI l2)), some (.int (zI l3))] [.int (zI (-1))] (rd S) rfl ?_
      cases h
      exact s_ret rfl rfl rfl
def fH_clear (n : Nat) (S : ZS) (l1 : Int) : Option (Int × ZS) := gX l1 4 (gX l1 4 (some (zA S 48 l1, wA S 48 l1 (-1))))
set_option maxRecDepth 100000 in
set_option maxHeartbeats 4000000 in
theorem sH_clear (o : eO) (n : Nat) (S : ZS) (l1 : Int) {w : Int × ZS} (h : fH_clear n S l1 = some w) : eG o 121 0 (eEnt 121 [.ref 45, .int (zI l1)]) [] (rd S) (rv (some (.int (zI w.1))) (rd w.2)) := by
  unfold fH_clear at h
  show eG o 121 0 [some (.ref 45), some (.int (zI l1)), none] [] (rd S) _
  refine g_run 1 1 [some (.ref 45), some (.int (zI l1)), none] [.ref 45] (rd S) rfl ?_
  refine g_getf rfl rfl (rd_o45 _) rfl ?_
  show eG _ 121 4 [some (.ref 45), some (.int (zI l1)), none] [.ref 48] (rd S) _
  refine g_run 1 5 [some (.ref 45), some (.int (zI l1)), none] [.int (zI l1), .ref 48] (rd S) rfl ?_
  refine s_iald rfl (rd_a48 _) h (fun h => ?_)
  show eG _ 121 6 [some (.ref 45), some (.int (zI l1)), none] [.int (zI (zA S 48 l1))] (rd S) _
  refine g_run 2 8 [some (.ref 45), some (.int (zI l1)), some (.int (zI (zA S 48 l1)))] [.ref 45] (rd S) rfl ?_
  refine g_getf rfl rfl (rd_o45 _) rfl ?_
  show eG _ 121 11 [some (.ref 45), some (.int (zI l1)), some (.int (zI (zA S 48 l1)))] [.ref 48] (rd S) _
  refine g_run 2 13 [some (.ref 45), some (.int (zI l1)), some (.int (zI (zA S 48 l1)))] [.int (zI (-1)), .int (zI l1), .ref 48] (rd S) rfl ?_
  refine s_iast rfl (rd_a48 _) (rw_a48 _ _) h (fun h => ?_)
  show eG _ 121 14 [some (.ref 45), some (.int (zI l1)), some (.int (zI (zA S 48 l1)))] [] (rd (wA S 48 l1 (-1))) _
  refine g_run 1 15 [some (.ref 45), some (.int (zI l1)), some (.int (zI (zA S 48 l1)))] [.int (zI (zA S 48 l1))] (rd (wA S 48 l1 (-1))) rfl ?_
  cases h
  exact s_ret rfl rfl rfl
def fD_drop (n : Nat) (S : ZS) (l1 : Int) : Option (Int × ZS) := (fH_isSheet n S l1).bind fun z1 => gC z1 0 (if z1 = 0 then some (-1, S) else (fH_isNothing n S l1).bind fun z2 => gC z2 0 (if z2 = 0 then (fH_clear n S l1).bind fun z3 => some (z3.1, z3.2) else some (-11, S)))
set_option maxRecDepth 100000 in
set_option maxHeartbeats 4000000 in
theorem sD_drop (o : eO) (n : Nat) (S : ZS) (l1 : Int) {w : Int × ZS} (h : fD_drop n S l1 = some w) : eG o 120 0 (eEnt 120 [.ref 0, .int (zI l1)]) [] (rd S) (rv (some (.int (zI w.1))) (rd w.2)) := by
  unfold fD_drop at h
  show eG o 120 0 [some (.ref 0), some (.int (zI l1))] [] (rd S) _
  refine g_run 1 1 [some (.ref 0), some (.int (zI l1))] [.int (zI l1)] (rd S) rfl ?_
  refine s_sta (fun z => some (.int (zI z))) (fun _ => rd S) rfl rfl rfl rfl rfl rfl rfl (fun z hz => sH_isSheet o n S l1 hz) rfl h (fun z1 h => ?_)
  show eG _ 120 4 [some (.ref 0), some (.int (zI l1))] [.int (zI z1)] (rd S) _
  refine s_if_ne rfl h (fun h => ?_) (fun h => ?_)
  · show eG _ 120 9 [some (.ref 0), some (.int (zI l1))] [] (rd S) _
    refine g_run 1 10 [some (.ref 0), some (.int (zI l1))] [.ref 0] (rd S) rfl ?_
    refine g_getf rfl rfl (rd_o0 _) rfl ?_
    show eG _ 120 13 [some (.ref 0), some (.int (zI l1))] [.ref 45] (rd S) _
    refine g_run 1 14 [some (.ref 0), some (.int (zI l1))] [.int (zI l1), .ref 45] (rd S) rfl ?_
    refine s_vir (fun z => some (.int (zI z))) (fun _ => rd S) rfl rfl rfl (rd_o45 _) rfl rfl (fun z hz => sH_isNothing o n S l1 hz) rfl h (fun z2 h => ?_)
    show eG _ 120 17 [some (.ref 0), some (.int (zI l1))] [.int (zI z2)] (rd S) _
    refine s_if_eq rfl h (fun h => ?_) (fun h => ?_)
    · show eG _ 120 23 [some (.ref 0), some (.int (zI l1))] [] (rd S) _
      refine g_run 1 24 [some (.ref 0), some (.int (zI l1))] [.ref 0] (rd S) rfl ?_
      refine g_getf rfl rfl (rd_o0 _) rfl ?_
      show eG _ 120 27 [some (.ref 0), some (.int (zI l1))] [.ref 45] (rd S) _
      refine g_run 1 28 [some (.ref 0), some (.int (zI l1))] [.int (zI l1), .ref 45] (rd S) rfl ?_
      refine s_vir (fun z => some (.int (zI z.1))) (fun z => rd z.2) rfl rfl rfl (rd_o45 _) rfl rfl (fun z hz => sH_clear o n S l1 hz) rfl h (fun z3 h => ?_)
      show eG _ 120 31 [some (.ref 0), some (.int (zI l1))] [.int (zI z3.1)] (rd z3.2) _
      cases h
      exact s_ret rfl rfl rfl
    · show eG _ 120 20 [some (.ref 0), some (.int (zI l1))] [] (rd S) _
      refine g_run 1 22 [some (.ref 0), some (.int (zI l1))] [.int (zI (-11))] (rd S) rfl ?_
      cases h
      exact s_ret rfl rfl rfl
  · show eG _ 120 7 [some (.ref 0), some (.int (zI l1))] [] (rd S) _
    refine g_run 1 8 [some (.ref 0), some (.int (zI l1))] [.int (zI (-1))] (rd S) rfl ?_
    cases h
    exact s_ret rfl rfl rfl
def fH_put (n : Nat) (S : ZS) (l1 l2 l3 : Int) : Option (ZS) := gX l1 4 ((gC (zA S 47 l1) 0 (if (zA S 47 l1) = 0 then gC (zs16 (zl2i l3)) 0 (some (zs16 (zl2i l3))) else gX l1 4 (gC (zA S 47 l1) 1 (if (zA S 47 l1) = 1 then gC (zl2i l3) 0 (some (zl2i l3)) else some l3)))).bind fun z1 => gX ((l1 * 24) + l2) 96 (some (wA S 46 ((l1 * 24) + l2) z1)))
set_option maxRecDepth 100000 in
set_option maxHeartbeats 4000000 in
theorem sH_put (o : eO) (n : Nat) (S : ZS) (l1 l2 l3 : Int) {w : ZS} (h : fH_put n S l1 l2 l3 = some w) : eG o 123 0 (eEnt 123 [.ref 45, .int (zI l1), .int (zI l2), .long (zL l3)]) [] (rd S) (rv (none) (rd w)) := by
  unfold fH_put at h
  show eG o 123 0 [some (.ref 45), some (.int (zI l1)), some (.int (zI l2)), some (.long (zL l3)), none, none, none] [] (rd S) _
  refine g_run 3 4 [some (.ref 45), some (.int (zI l1)), some (.int (zI l2)), some (.long (zL l3)), none, some (.long (zL l3)), none] [.ref 45] (rd S) rfl ?_
  refine g_getf rfl rfl (rd_o45 _) rfl ?_
  show eG _ 123 7 [some (.ref 45), some (.int (zI l1)), some (.int (zI l2)), some (.long (zL l3)), none, some (.long (zL l3)), none] [.ref 47] (rd S) _
  refine g_run 1 8 [some (.ref 45), some (.int (zI l1)), some (.int (zI l2)), some (.long (zL l3)), none, some (.long (zL l3)), none] [.int (zI l1), .ref 47] (rd S) rfl ?_
  refine s_iald rfl (rd_a47 _) h (fun h => ?_)
  show eG _ 123 9 [some (.ref 45), some (.int (zI l1)), some (.int (zI l2)), some (.long (zL l3)), none, some (.long (zL l3)), none] [.int (zI (zA S 47 l1))] (rd S) _
  refine s_join (α := Int) (fun z => eG o 123 36 [some (.ref 45), some (.int (zI l1)), some (.int (zI l2)), none, none, some (.long (zL z)), none] [] (rd S) (rv (none) (rd w))) h (fun z1 h => ?_) (fun z1 h j => ?_)
  · show eG _ 123 36 [some (.ref 45), some (.int (zI l1)), some (.int (zI l2)), none, none, some (.long (zL z1)), none] [] (rd S) _
    refine g_run 1 37 [some (.ref 45), some (.int (zI l1)), some (.int (zI l2)), none, none, some (.long (zL z1)), none] [.ref 45] (rd S) rfl ?_
    refine g_getf rfl rfl (rd_o45 _) rfl ?_
    show eG _ 123 40 [some (.ref 45), some (.int (zI l1)), some (.int (zI l2)), none, none, some (.long (zL z1)), none] [.ref 46] (rd S) _
    refine g_run 2 43 [some (.ref 45), some (.int (zI l1)), some (.int (zI l2)), none, none, some (.long (zL z1)), none] [.int (zI 24), .int (zI l1), .ref 46] (rd S) rfl ?_
    refine s_imul rfl ?_
    refine g_run 1 45 [some (.ref 45), some (.int (zI l1)), some (.int (zI l2)), none, none, some (.long (zL z1)), none] [.int (zI l2), .int (zI (l1 * 24)), .ref 46] (rd S) rfl ?_
    refine s_iadd rfl ?_
    refine g_run 1 48 [some (.ref 45), some (.int (zI l1)), some (.int (zI l2)), none, none, some (.long (zL z1)), none] [.long (zL z1), .int (zI ((l1 * 24) + l2)), .ref 46] (rd S) rfl ?_
    refine s_last rfl (rd_a46 _) (rw_a46 _ _) h (fun h => ?_)
    show eG _ 123 49 [some (.ref 45), some (.int (zI l1)), some (.int (zI l2)), none, none, some (.long (zL z1)), none] [] (rd (wA S 46 ((l1 * 24) + l2) z1)) _
    cases h
    exact g_retv rfl rfl rfl
  · skip
    refine s_if_ne rfl h (fun h => ?_) (fun h => ?_)
    · show eG _ 123 21 [some (.ref 45), some (.int (zI l1)), some (.int (zI l2)), some (.long (zL l3)), none, some (.long (zL l3)), none] [] (rd S) _
      refine g_run 1 22 [some (.ref 45), some (.int (zI l1)), some (.int (zI l2)), some (.long (zL l3)), none, some (.long (zL l3)), none] [.ref 45] (rd S) rfl ?_
      refine g_getf rfl rfl (rd_o45 _) rfl ?_
      show eG _ 123 25 [some (.ref 45), some (.int (zI l1)), some (.int (zI l2)), some (.long (zL l3)), none, some (.long (zL l3)), none] [.ref 47] (rd S) _
      refine g_run 1 26 [some (.ref 45), some (.int (zI l1)), some (.int (zI l2)), some (.long (zL l3)), none, some (.long (zL l3)), none] [.int (zI l1), .ref 47] (rd S) rfl ?_
      refine s_iald rfl (rd_a47 _) h (fun h => ?_)
      show eG _ 123 27 [some (.ref 45), some (.int (zI l1)), some (.int (zI l2)), some (.long (zL l3)), none, some (.long (zL l3)), none] [.int (zI (zA S 47 l1))] (rd S) _
      refine g_run 1 28 [some (.ref 45), some (.int (zI l1)), some (.int (zI l2)), some (.long (zL l3)), none, some (.long (zL l3)), none] [.int (zI 1), .int (zI (zA S 47 l1))] (rd S) rfl ?_
      refine s_icmp_ne rfl h (fun h => ?_) (fun h => ?_)
      · show eG _ 123 36 [some (.ref 45), some (.int (zI l1)), some (.int (zI l2)), some (.long (zL l3)), none, some (.long (zL l3)), none] [] (rd S) _
        refine g_fgt [false, false, false, true, true, false, true] ?_
        show eG _ 123 36 [some (.ref 45), some (.int (zI l1)), some (.int (zI l2)), none, none, some (.long (zL l3)), none] [] (rd S) _
        cases h
        exact j
      · show eG _ 123 31 [some (.ref 45), some (.int (zI l1)), some (.int (zI l2)), some (.long (zL l3)), none, some (.long (zL l3)), none] [] (rd S) _
        refine g_run 1 32 [some (.ref 45), some (.int (zI l1)), some (.int (zI l2)), some (.long (zL l3)), none, some (.long (zL l3)), none] [.long (zL l3)] (rd S) rfl ?_
        refine s_l2i rfl ?_
        refine s_i2l rfl h (fun h => ?_)
        refine g_run 1 36 [some (.ref 45), some (.int (zI l1)), some (.int (zI l2)), some (.long (zL l3)), none, some (.long (zL (zl2i l3))), none] [] (rd S) rfl ?_
        refine g_fgt [false, false, false, true, true, false, true] ?_
        show eG _ 123 36 [some (.ref 45), some (.int (zI l1)), some (.int (zI l2)), none, none, some (.long (zL (zl2i l3))), none] [] (rd S) _
        cases h
        exact j
    · show eG _ 123 12 [some (.ref 45), some (.int (zI l1)), some (.int (zI l2)), some (.long (zL l3)), none, some (.long (zL l3)), none] [] (rd S) _
      refine g_run 1 13 [some (.ref 45), some (.int (zI l1)), some (.int (zI l2)), some (.long (zL l3)), none, some (.long (zL l3)), none] [.long (zL l3)] (rd S) rfl ?_
      refine s_l2i rfl ?_
      refine s_i2s rfl ?_
      refine s_i2l rfl h (fun h => ?_)
      refine g_run 2 36 [some (.ref 45), some (.int (zI l1)), some (.int (zI l2)), some (.long (zL l3)), none, some (.long (zL (zs16 (zl2i l3)))), none] [] (rd S) rfl ?_
      refine g_fgt [false, false, false, true, true, false, true] ?_
      show eG _ 123 36 [some (.ref 45), some (.int (zI l1)), some (.int (zI l2)), none, none, some (.long (zL (zs16 (zl2i l3)))), none] [] (rd S) _
      cases h
      exact j
def fD_item (n : Nat) (S : ZS) (l1 l2 l3 l4 : Int) : Option (Int × ZS) := (fH_refusal n S l1 l2 l3 1).bind fun z1 => gC z1 0 (if z1 = 0 then (fH_put n S l1 l3 l4).bind fun z2 => some (1, z2) else some (z1, S))
set_option maxRecDepth 100000 in
set_option maxHeartbeats 4000000 in
theorem sD_item (o : eO) (n : Nat) (S : ZS) (l1 l2 l3 l4 : Int) {w : Int × ZS} (h : fD_item n S l1 l2 l3 l4 = some w) : eG o 122 0 (eEnt 122 [.ref 0, .int (zI l1), .int (zI l2), .int (zI l3), .long (zL l4)]) [] (rd S) (rv (some (.int (zI w.1))) (rd w.2)) := by
  unfold fD_item at h
  show eG o 122 0 [some (.ref 0), some (.int (zI l1)), some (.int (zI l2)), some (.int (zI l3)), some (.long (zL l4)), none, none] [] (rd S) _
  refine g_run 1 1 [some (.ref 0), some (.int (zI l1)), some (.int (zI l2)), some (.int (zI l3)), some (.long (zL l4)), none, none] [.ref 0] (rd S) rfl ?_
  refine g_getf rfl rfl (rd_o0 _) rfl ?_
  show eG _ 122 4 [some (.ref 0), some (.int (zI l1)), some (.int (zI l2)), some (.int (zI l3)), some (.long (zL l4)), none, none] [.ref 45] (rd S) _
  refine g_run 4 8 [some (.ref 0), some (.int (zI l1)), some (.int (zI l2)), some (.int (zI l3)), some (.long (zL l4)), none, none] [.int (zI 1), .int (zI l3), .int (zI l2), .int (zI l1), .ref 45] (rd S) rfl ?_
  refine s_vir (fun z => some (.int (zI z))) (fun _ => rd S) rfl rfl rfl (rd_o45 _) rfl rfl (fun z hz => sH_refusal o n S l1 l2 l3 1 hz) rfl h (fun z1 h => ?_)
  show eG _ 122 11 [some (.ref 0), some (.int (zI l1)), some (.int (zI l2)), some (.int (zI l3)), some (.long (zL l4)), none, none] [.int (zI z1)] (rd S) _
  refine g_run 2 15 [some (.ref 0), some (.int (zI l1)), some (.int (zI l2)), some (.int (zI l3)), some (.long (zL l4)), none, some (.int (zI z1))] [.int (zI z1)] (rd S) rfl ?_
  refine s_if_eq rfl h (fun h => ?_) (fun h => ?_)
  · show eG _ 122 21 [some (.ref 0), some (.int (zI l1)), some (.int (zI l2)), some (.int (zI l3)), some (.long (zL l4)), none, some (.int (zI z1))] [] (rd S) _
    refine g_run 1 22 [some (.ref 0), some (.int (zI l1)), some (.int (zI l2)), some (.int (zI l3)), some (.long (zL l4)), none, some (.int (zI z1))] [.ref 0] (rd S) rfl ?_
    refine g_getf rfl rfl (rd_o0 _) rfl ?_
    show eG _ 122 25 [some (.ref 0), some (.int (zI l1)), some (.int (zI l2)), some (.int (zI l3)), some (.long (zL l4)), none, some (.int (zI z1))] [.ref 45] (rd S) _
    refine g_run 3 29 [some (.ref 0), some (.int (zI l1)), some (.int (zI l2)), some (.int (zI l3)), some (.long (zL l4)), none, some (.int (zI z1))] [.long (zL l4), .int (zI l3), .int (zI l1), .ref 45] (rd S) rfl ?_
    refine s_vir (fun _ => none) (fun z => rd z) rfl rfl rfl (rd_o45 _) rfl rfl (fun z hz => sH_put o n S l1 l3 l4 hz) rfl h (fun z2 h => ?_)
    show eG _ 122 32 [some (.ref 0), some (.int (zI l1)), some (.int (zI l2)), some (.int (zI l3)), some (.long (zL l4)), none, some (.int (zI z1))] [] (rd z2) _
    refine g_run 1 33 [some (.ref 0), some (.int (zI l1)), some (.int (zI l2)), some (.int (zI l3)), some (.long (zL l4)), none, some (.int (zI z1))] [.int (zI 1)] (rd z2) rfl ?_
    cases h
    exact s_ret rfl rfl rfl
  · show eG _ 122 18 [some (.ref 0), some (.int (zI l1)), some (.int (zI l2)), some (.int (zI l3)), some (.long (zL l4)), none, some (.int (zI z1))] [] (rd S) _
    refine g_run 1 20 [some (.ref 0), some (.int (zI l1)), some (.int (zI l2)), some (.int (zI l3)), some (.long (zL l4)), none, some (.int (zI z1))] [.int (zI z1)] (rd S) rfl ?_
    cases h
    exact s_ret rfl rfl rfl
def fD_film_1 : Nat → ZS → Int → Int → Int → Option (ZS)
  | 0, _, _, _, _ => none
  | n + 1, S, l1, l3, l5 => gC l5 (zF S 24 9) (if l5 < (zF S 24 9) then gX l5 256 (gC (zA S 32 l5) 0 ((fH_put n S l1 (l3 + l5) (zA S 32 l5)).bind fun z1 => fD_film_1 n z1 l1 l3 (l5 + 1))) else some S)
set_option maxRecDepth 100000 in
set_option maxHeartbeats 4000000 in
theorem sD_film_1 (o : eO) : ∀ (n : Nat) (S : ZS) (l1 l3 l5 : Int) {w : ZS} {r : eP} (h : fD_film_1 n S l1 l3 l5 = some w) (hk : eG o 124 105 [some (.ref 0), none, none, none, none, none] [] (rd w) r), eG o 124 64 [some (.ref 0), some (.int (zI l1)), none, some (.int (zI l3)), none, some (.int (zI l5))] [] (rd S) r := by
  intro n
  induction n with
  | zero => intro S l1 l3 l5 w r h hk; unfold fD_film_1 at h; cases h
  | succ n ih =>
    intro S l1 l3 l5 w r h hk
    unfold fD_film_1 at h
    refine g_run 2 67 [some (.ref 0), some (.int (zI l1)), none, some (.int (zI l3)), none, some (.int (zI l5))] [.ref 0, .int (zI l5)] (rd S) rfl ?_
    refine g_getf rfl rfl (rd_o0 _) rfl ?_
    show eG _ 124 70 [some (.ref 0), some (.int (zI l1)), none, some (.int (zI l3)), none, some (.int (zI l5))] [.ref 24, .int (zI l5)] (rd S) _
    refine g_getf rfl rfl (rd_o24 _) rfl ?_
    show eG _ 124 73 [some (.ref 0), some (.int (zI l1)), none, some (.int (zI l3)), none, some (.int (zI l5))] [.int (zI (zF S 24 9)), .int (zI l5)] (rd S) _
    refine s_icmp_ge rfl h (fun h => ?_) (fun h => ?_)
    · show eG _ 124 105 [some (.ref 0), some (.int (zI l1)), none, some (.int (zI l3)), none, some (.int (zI l5))] [] (rd S) _
      refine g_fgt [false, true, true, true, true, true] ?_
      show eG _ 124 105 [some (.ref 0), none, none, none, none, none] [] (rd S) _
      cases h
      exact hk
    · show eG _ 124 76 [some (.ref 0), some (.int (zI l1)), none, some (.int (zI l3)), none, some (.int (zI l5))] [] (rd S) _
      refine g_run 1 77 [some (.ref 0), some (.int (zI l1)), none, some (.int (zI l3)), none, some (.int (zI l5))] [.ref 0] (rd S) rfl ?_
      refine g_getf rfl rfl (rd_o0 _) rfl ?_
      show eG _ 124 80 [some (.ref 0), some (.int (zI l1)), none, some (.int (zI l3)), none, some (.int (zI l5))] [.ref 45] (rd S) _
      refine g_run 3 84 [some (.ref 0), some (.int (zI l1)), none, some (.int (zI l3)), none, some (.int (zI l5))] [.int (zI l5), .int (zI l3), .int (zI l1), .ref 45] (rd S) rfl ?_
      refine s_iadd rfl ?_
      refine g_run 1 86 [some (.ref 0), some (.int (zI l1)), none, some (.int (zI l3)), none, some (.int (zI l5))] [.ref 0, .int (zI (l3 + l5)), .int (zI l1), .ref 45] (rd S) rfl ?_
      refine g_getf rfl rfl (rd_o0 _) rfl ?_
      show eG _ 124 89 [some (.ref 0), some (.int (zI l1)), none, some (.int (zI l3)), none, some (.int (zI l5))] [.ref 24, .int (zI (l3 + l5)), .int (zI l1), .ref 45] (rd S) _
      refine g_getf rfl rfl (rd_o24 _) rfl ?_
      show eG _ 124 92 [some (.ref 0), some (.int (zI l1)), none, some (.int (zI l3)), none, some (.int (zI l5))] [.ref 32, .int (zI (l3 + l5)), .int (zI l1), .ref 45] (rd S) _
      refine g_run 1 94 [some (.ref 0), some (.int (zI l1)), none, some (.int (zI l3)), none, some (.int (zI l5))] [.int (zI l5), .ref 32, .int (zI (l3 + l5)), .int (zI l1), .ref 45] (rd S) rfl ?_
      refine s_iald rfl (rd_a32 _) h (fun h => ?_)
      show eG _ 124 95 [some (.ref 0), some (.int (zI l1)), none, some (.int (zI l3)), none, some (.int (zI l5))] [.int (zI (zA S 32 l5)), .int (zI (l3 + l5)), .int (zI l1), .ref 45] (rd S) _
      refine s_i2l rfl h (fun h => ?_)
      refine s_vir (fun _ => none) (fun z => rd z) rfl rfl rfl (rd_o45 _) rfl rfl (fun z hz => sH_put o n S l1 (l3 + l5) (zA S 32 l5) hz) rfl h (fun z1 h => ?_)
      show eG _ 124 99 [some (.ref 0), some (.int (zI l1)), none, some (.int (zI l3)), none, some (.int (zI l5))] [] (rd z1) _
      refine s_iinc (L' := [some (.ref 0), some (.int (zI l1)), none, some (.int (zI l3)), none, some (.int (zI (l5 + 1)))]) rfl rfl rfl ?_
      refine g_run 1 64 [some (.ref 0), some (.int (zI l1)), none, some (.int (zI l3)), none, some (.int (zI (l5 + 1)))] [] (rd z1) rfl ?_
      exact ih z1 l1 l3 (l5 + 1) h hk
def fD_film (n : Nat) (S : ZS) (l1 l2 l3 : Int) : Option (Int × ZS) := (fH_isNamed n S l1 l2).bind fun z1 => gC z1 0 (if z1 = 0 then some (-1, S) else (fW_seekWanted n S).bind fun z2 => gC (zF z2 24 8) 0 (if (zF z2 24 8) = 0 then some (-4, z2) else (fH_refusal n z2 l1 l2 l3 (zF z2 24 9)).bind fun z3 => gC z3 0 (if z3 = 0 then (fD_film_1 n z2 l1 l3 0).bind fun z4 => some (zF z4 24 9, z4) else some (z3, z2))))
set_option maxRecDepth 100000 in
set_option maxHeartbeats 4000000 in
theorem sD_film (o : eO) (n : Nat) (S : ZS) (l1 l2 l3 : Int) {w : Int × ZS} (h : fD_film n S l1 l2 l3 = some w) : eG o 124 0 (eEnt 124 [.ref 0, .int (zI l1), .int (zI l2), .int (zI l3)]) [] (rd S) (rv (some (.int (zI w.1))) (rd w.2)) := by
  unfold fD_film at h
  show eG o 124 0 [some (.ref 0), some (.int (zI l1)), some (.int (zI l2)), some (.int (zI l3)), none, none] [] (rd S) _
  refine g_run 2 2 [some (.ref 0), some (.int (zI l1)), some (.int (zI l2)), some (.int (zI l3)), none, none] [.int (zI l2), .int (zI l1)] (rd S) rfl ?_
  refine s_sta (fun z => some (.int (zI z))) (fun _ => rd S) rfl rfl rfl rfl rfl rfl rfl (fun z hz => sH_isNamed o n S l1 l2 hz) rfl h (fun z1 h => ?_)
  show eG _ 124 5 [some (.ref 0), some (.int (zI l1)), some (.int (zI l2)), some (.int (zI l3)), none, none] [.int (zI z1)] (rd S) _
  refine s_if_ne rfl h (fun h => ?_) (fun h => ?_)
  · show eG _ 124 10 [some (.ref 0), some (.int (zI l1)), some (.int (zI l2)), some (.int (zI l3)), none, none] [] (rd S) _
    refine g_run 1 11 [some (.ref 0), some (.int (zI l1)), some (.int (zI l2)), some (.int (zI l3)), none, none] [.ref 0] (rd S) rfl ?_
    refine g_getf rfl rfl (rd_o0 _) rfl ?_
    show eG _ 124 14 [some (.ref 0), some (.int (zI l1)), some (.int (zI l2)), some (.int (zI l3)), none, none] [.ref 24] (rd S) _
    refine g_run 1 15 [some (.ref 0), some (.int (zI l1)), some (.int (zI l2)), some (.int (zI l3)), none, none] [.ref 0, .ref 24] (rd S) rfl ?_
    refine g_getf rfl rfl (rd_o0 _) rfl ?_
    show eG _ 124 18 [some (.ref 0), some (.int (zI l1)), some (.int (zI l2)), some (.int (zI l3)), none, none] [.ref 1, .ref 24] (rd S) _
    refine s_vir (fun _ => none) (fun z => rd z) rfl rfl rfl (rd_o24 _) rfl rfl (fun z hz => sW_seekWanted o n S hz) rfl h (fun z2 h => ?_)
    show eG _ 124 21 [some (.ref 0), some (.int (zI l1)), some (.int (zI l2)), some (.int (zI l3)), none, none] [] (rd z2) _
    refine g_run 1 22 [some (.ref 0), some (.int (zI l1)), some (.int (zI l2)), some (.int (zI l3)), none, none] [.ref 0] (rd z2) rfl ?_
    refine g_getf rfl rfl (rd_o0 _) rfl ?_
    show eG _ 124 25 [some (.ref 0), some (.int (zI l1)), some (.int (zI l2)), some (.int (zI l3)), none, none] [.ref 24] (rd z2) _
    refine g_getf rfl rfl (rd_o24 _) rfl ?_
    show eG _ 124 28 [some (.ref 0), some (.int (zI l1)), some (.int (zI l2)), some (.int (zI l3)), none, none] [.int (zI (zF z2 24 8))] (rd z2) _
    refine s_if_ne rfl h (fun h => ?_) (fun h => ?_)
    · show eG _ 124 34 [some (.ref 0), some (.int (zI l1)), some (.int (zI l2)), some (.int (zI l3)), none, none] [] (rd z2) _
      refine g_run 1 35 [some (.ref 0), some (.int (zI l1)), some (.int (zI l2)), some (.int (zI l3)), none, none] [.ref 0] (rd z2) rfl ?_
      refine g_getf rfl rfl (rd_o0 _) rfl ?_
      show eG _ 124 38 [some (.ref 0), some (.int (zI l1)), some (.int (zI l2)), some (.int (zI l3)), none, none] [.ref 45] (rd z2) _
      refine g_run 4 42 [some (.ref 0), some (.int (zI l1)), some (.int (zI l2)), some (.int (zI l3)), none, none] [.ref 0, .int (zI l3), .int (zI l2), .int (zI l1), .ref 45] (rd z2) rfl ?_
      refine g_getf rfl rfl (rd_o0 _) rfl ?_
      show eG _ 124 45 [some (.ref 0), some (.int (zI l1)), some (.int (zI l2)), some (.int (zI l3)), none, none] [.ref 24, .int (zI l3), .int (zI l2), .int (zI l1), .ref 45] (rd z2) _
      refine g_getf rfl rfl (rd_o24 _) rfl ?_
      show eG _ 124 48 [some (.ref 0), some (.int (zI l1)), some (.int (zI l2)), some (.int (zI l3)), none, none] [.int (zI (zF z2 24 9)), .int (zI l3), .int (zI l2), .int (zI l1), .ref 45] (rd z2) _
      refine s_vir (fun z => some (.int (zI z))) (fun _ => rd z2) rfl rfl rfl (rd_o45 _) rfl rfl (fun z hz => sH_refusal o n z2 l1 l2 l3 (zF z2 24 9) hz) rfl h (fun z3 h => ?_)
      show eG _ 124 51 [some (.ref 0), some (.int (zI l1)), some (.int (zI l2)), some (.int (zI l3)), none, none] [.int (zI z3)] (rd z2) _
      refine g_run 2 55 [some (.ref 0), some (.int (zI l1)), some (.int (zI l2)), some (.int (zI l3)), some (.int (zI z3)), none] [.int (zI z3)] (rd z2) rfl ?_
      refine s_if_eq rfl h (fun h => ?_) (fun h => ?_)
      · show eG _ 124 61 [some (.ref 0), some (.int (zI l1)), some (.int (zI l2)), some (.int (zI l3)), some (.int (zI z3)), none] [] (rd z2) _
        refine g_run 2 64 [some (.ref 0), some (.int (zI l1)), some (.int (zI l2)), some (.int (zI l3)), some (.int (zI z3)), some (.int (zI 0))] [] (rd z2) rfl ?_
        refine g_fgt [false, false, true, false, true, false] ?_
        show eG _ 124 64 [some (.ref 0), some (.int (zI l1)), none, some (.int (zI l3)), none, some (.int (zI 0))] [] (rd z2) _
        obtain ⟨z4, h1, h⟩ := zB_inv h
        refine sD_film_1 o n z2 l1 l3 0 h1 ?_
        show eG _ 124 105 [some (.ref 0), none, none, none, none, none] [] (rd z4) _
        refine g_run 1 106 [some (.ref 0), none, none, none, none, none] [.ref 0] (rd z4) rfl ?_
        refine g_getf rfl rfl (rd_o0 _) rfl ?_
        show eG _ 124 109 [some (.ref 0), none, none, none, none, none] [.ref 24] (rd z4) _
        refine g_getf rfl rfl (rd_o24 _) rfl ?_
        show eG _ 124 112 [some (.ref 0), none, none, none, none, none] [.int (zI (zF z4 24 9))] (rd z4) _
        cases h
        exact s_ret rfl rfl rfl
      · show eG _ 124 58 [some (.ref 0), some (.int (zI l1)), some (.int (zI l2)), some (.int (zI l3)), some (.int (zI z3)), none] [] (rd z2) _
        refine g_run 1 60 [some (.ref 0), some (.int (zI l1)), some (.int (zI l2)), some (.int (zI l3)), some (.int (zI z3)), none] [.int (zI z3)] (rd z2) rfl ?_
        cases h
        exact s_ret rfl rfl rfl
    · show eG _ 124 31 [some (.ref 0), some (.int (zI l1)), some (.int (zI l2)), some (.int (zI l3)), none, none] [] (rd z2) _
      refine g_run 1 33 [some (.ref 0), some (.int (zI l1)), some (.int (zI l2)), some (.int (zI l3)), none, none] [.int (zI (-4))] (rd z2) rfl ?_
      cases h
      exact s_ret rfl rfl rfl
  · show eG _ 124 8 [some (.ref 0), some (.int (zI l1)), some (.int (zI l2)), some (.int (zI l3)), none, none] [] (rd S) _
    refine g_run 1 9 [some (.ref 0), some (.int (zI l1)), some (.int (zI l2)), some (.int (zI l3)), none, none] [.int (zI (-1))] (rd S) rfl ?_
    cases h
    exact s_ret rfl rfl rfl
def fH_areAlike (n : Nat) (S : ZS) (l1 l2 : Int) : Option (Int) := gX l1 4 (gX l2 4 (gC (zA S 47 l1) (zA S 47 l2) (if (zA S 47 l1) = (zA S 47 l2) then gB 1 (some 1) else gB 0 (some 0))))
set_option maxRecDepth 100000 in
set_option maxHeartbeats 4000000 in
theorem sH_areAlike (o : eO) (n : Nat) (S : ZS) (l1 l2 : Int) {w : Int} (h : fH_areAlike n S l1 l2 = some w) : eG o 126 0 (eEnt 126 [.ref 45, .int (zI l1), .int (zI l2)]) [] (rd S) (rv (some (.int (zI w))) (rd S)) := by
  unfold fH_areAlike at h
  show eG o 126 0 [some (.ref 45), some (.int (zI l1)), some (.int (zI l2))] [] (rd S) _
  refine g_run 1 1 [some (.ref 45), some (.int (zI l1)), some (.int (zI l2))] [.ref 45] (rd S) rfl ?_
  refine g_getf rfl rfl (rd_o45 _) rfl ?_
  show eG _ 126 4 [some (.ref 45), some (.int (zI l1)), some (.int (zI l2))] [.ref 47] (rd S) _
  refine g_run 1 5 [some (.ref 45), some (.int (zI l1)), some (.int (zI l2))] [.int (zI l1), .ref 47] (rd S) rfl ?_
  refine s_iald rfl (rd_a47 _) h (fun h => ?_)
  show eG _ 126 6 [some (.ref 45), some (.int (zI l1)), some (.int (zI l2))] [.int (zI (zA S 47 l1))] (rd S) _
  refine g_run 1 7 [some (.ref 45), some (.int (zI l1)), some (.int (zI l2))] [.ref 45, .int (zI (zA S 47 l1))] (rd S) rfl ?_
  refine g_getf rfl rfl (rd_o45 _) rfl ?_
  show eG _ 126 10 [some (.ref 45), some (.int (zI l1)), some (.int (zI l2))] [.ref 47, .int (zI (zA S 47 l1))] (rd S) _
  refine g_run 1 11 [some (.ref 45), some (.int (zI l1)), some (.int (zI l2))] [.int (zI l2), .ref 47, .int (zI (zA S 47 l1))] (rd S) rfl ?_
  refine s_iald rfl (rd_a47 _) h (fun h => ?_)
  show eG _ 126 12 [some (.ref 45), some (.int (zI l1)), some (.int (zI l2))] [.int (zI (zA S 47 l2)), .int (zI (zA S 47 l1))] (rd S) _
  refine s_icmp_ne rfl h (fun h => ?_) (fun h => ?_)
  · show eG _ 126 19 [some (.ref 45), some (.int (zI l1)), some (.int (zI l2))] [] (rd S) _
    refine g_run 1 20 [some (.ref 45), some (.int (zI l1)), some (.int (zI l2))] [.int (zI 0)] (rd S) rfl ?_
    exact s_retB rfl rfl h (fun h => by cases h; exact rfl)
  · show eG _ 126 15 [some (.ref 45), some (.int (zI l1)), some (.int (zI l2))] [] (rd S) _
    refine g_run 2 20 [some (.ref 45), some (.int (zI l1)), some (.int (zI l2))] [.int (zI 1)] (rd S) rfl ?_
    exact s_retB rfl rfl h (fun h => by cases h; exact rfl)
