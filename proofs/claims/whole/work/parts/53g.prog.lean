def fB_goOn (n : Nat) (S : ZS) : Option (Int × ZS) := (fB_doesTwo n S (zand (zF S 1 8) (zxor (zF S 1 9) (-1))) (zand (zF S 1 9) (zxor (zF S 1 8) (-1)))).bind fun z1 => gC z1.1 0 (if z1.1 = 0 then (fB_doesOne n z1.2 (zand (zF S 1 8) (zxor (zF S 1 9) (-1))) 1).bind fun z2 => gC z2.1 0 (if z2.1 = 0 then (fB_doesOne n z2.2 (zand (zF S 1 9) (zxor (zF S 1 8) (-1))) 0).bind fun z3 => gC z3.1 0 (if z3.1 = 0 then gB 0 (some (0, z3.2)) else gB 1 (some (1, z3.2))) else gB 1 (some (1, z2.2))) else gB 1 (some (1, z1.2)))
set_option maxRecDepth 100000 in
set_option maxHeartbeats 4000000 in
theorem sB_goOn (o : eO) (n : Nat) (S : ZS) {w : Int × ZS} (h : fB_goOn n S = some w) : eG o 93 0 (eEnt 93 [.ref 43, .ref 1]) [] (rd S) (rv (some (.int (zI w.1))) (rd w.2)) := by
  unfold fB_goOn at h
  show eG o 93 0 [some (.ref 43), some (.ref 1), none, none] [] (rd S) _
  refine g_run 1 1 [some (.ref 43), some (.ref 1), none, none] [.ref 1] (rd S) rfl ?_
  refine g_getf rfl rfl (rd_o1 _) rfl ?_
  show eG _ 93 4 [some (.ref 43), some (.ref 1), none, none] [.int (zI (zF S 1 8))] (rd S) _
  refine g_run 1 5 [some (.ref 43), some (.ref 1), none, none] [.ref 1, .int (zI (zF S 1 8))] (rd S) rfl ?_
  refine g_getf rfl rfl (rd_o1 _) rfl ?_
  show eG _ 93 8 [some (.ref 43), some (.ref 1), none, none] [.int (zI (zF S 1 9)), .int (zI (zF S 1 8))] (rd S) _
  refine g_run 1 9 [some (.ref 43), some (.ref 1), none, none] [.int (zI (-1)), .int (zI (zF S 1 9)), .int (zI (zF S 1 8))] (rd S) rfl ?_
  refine s_ixor rfl ?_
  refine s_iand rfl ?_
  refine g_run 2 13 [some (.ref 43), some (.ref 1), some (.int (zI (zand (zF S 1 8) (zxor (zF S 1 9) (-1))))), none] [.ref 1] (rd S) rfl ?_
  refine g_getf rfl rfl (rd_o1 _) rfl ?_
  show eG _ 93 16 [some (.ref 43), some (.ref 1), some (.int (zI (zand (zF S 1 8) (zxor (zF S 1 9) (-1))))), none] [.int (zI (zF S 1 9))] (rd S) _
  refine g_run 1 17 [some (.ref 43), some (.ref 1), some (.int (zI (zand (zF S 1 8) (zxor (zF S 1 9) (-1))))), none] [.ref 1, .int (zI (zF S 1 9))] (rd S) rfl ?_
  refine g_getf rfl rfl (rd_o1 _) rfl ?_
  show eG _ 93 20 [some (.ref 43), some (.ref 1), some (.int (zI (zand (zF S 1 8) (zxor (zF S 1 9) (-1))))), none] [.int (zI (zF S 1 8)), .int (zI (zF S 1 9))] (rd S) _
  refine g_run 1 21 [some (.ref 43), some (.ref 1), some (.int (zI (zand (zF S 1 8) (zxor (zF S 1 9) (-1))))), none] [.int (zI (-1)), .int (zI (zF S 1 8)), .int (zI (zF S 1 9))] (rd S) rfl ?_
  refine s_ixor rfl ?_
  refine s_iand rfl ?_
  refine g_run 5 28 [some (.ref 43), some (.ref 1), some (.int (zI (zand (zF S 1 8) (zxor (zF S 1 9) (-1))))), some (.int (zI (zand (zF S 1 9) (zxor (zF S 1 8) (-1)))))] [.int (zI (zand (zF S 1 9) (zxor (zF S 1 8) (-1)))), .int (zI (zand (zF S 1 8) (zxor (zF S 1 9) (-1)))), .ref 1, .ref 43] (rd S) rfl ?_
  refine s_vir (fun z => some (.int (zI z.1))) (fun z => rd z.2) rfl rfl rfl (rd_o43 _) rfl rfl (fun z hz => sB_doesTwo o n S (zand (zF S 1 8) (zxor (zF S 1 9) (-1))) (zand (zF S 1 9) (zxor (zF S 1 8) (-1))) hz) rfl h (fun z1 h => ?_)
  show eG _ 93 31 [some (.ref 43), some (.ref 1), some (.int (zI (zand (zF S 1 8) (zxor (zF S 1 9) (-1))))), some (.int (zI (zand (zF S 1 9) (zxor (zF S 1 8) (-1)))))] [.int (zI z1.1)] (rd z1.2) _
  refine s_if_ne rfl h (fun h => ?_) (fun h => ?_)
  · show eG _ 93 54 [some (.ref 43), some (.ref 1), some (.int (zI (zand (zF S 1 8) (zxor (zF S 1 9) (-1))))), some (.int (zI (zand (zF S 1 9) (zxor (zF S 1 8) (-1)))))] [] (rd z1.2) _
    refine g_run 2 59 [some (.ref 43), some (.ref 1), some (.int (zI (zand (zF S 1 8) (zxor (zF S 1 9) (-1))))), some (.int (zI (zand (zF S 1 9) (zxor (zF S 1 8) (-1)))))] [.int (zI 1)] (rd z1.2) rfl ?_
    exact s_retB rfl rfl h (fun h => by cases h; exact rfl)
  · show eG _ 93 34 [some (.ref 43), some (.ref 1), some (.int (zI (zand (zF S 1 8) (zxor (zF S 1 9) (-1))))), some (.int (zI (zand (zF S 1 9) (zxor (zF S 1 8) (-1)))))] [] (rd z1.2) _
    refine g_run 4 38 [some (.ref 43), some (.ref 1), some (.int (zI (zand (zF S 1 8) (zxor (zF S 1 9) (-1))))), some (.int (zI (zand (zF S 1 9) (zxor (zF S 1 8) (-1)))))] [.int (zI 1), .int (zI (zand (zF S 1 8) (zxor (zF S 1 9) (-1)))), .ref 1, .ref 43] (rd z1.2) rfl ?_
    refine s_vir (fun z => some (.int (zI z.1))) (fun z => rd z.2) rfl rfl rfl (rd_o43 _) rfl rfl (fun z hz => sB_doesOne o n z1.2 (zand (zF S 1 8) (zxor (zF S 1 9) (-1))) 1 hz) rfl h (fun z2 h => ?_)
    show eG _ 93 41 [some (.ref 43), some (.ref 1), some (.int (zI (zand (zF S 1 8) (zxor (zF S 1 9) (-1))))), some (.int (zI (zand (zF S 1 9) (zxor (zF S 1 8) (-1)))))] [.int (zI z2.1)] (rd z2.2) _
    refine s_if_ne rfl h (fun h => ?_) (fun h => ?_)
    · show eG _ 93 54 [some (.ref 43), some (.ref 1), some (.int (zI (zand (zF S 1 8) (zxor (zF S 1 9) (-1))))), some (.int (zI (zand (zF S 1 9) (zxor (zF S 1 8) (-1)))))] [] (rd z2.2) _
      refine g_run 2 59 [some (.ref 43), some (.ref 1), some (.int (zI (zand (zF S 1 8) (zxor (zF S 1 9) (-1))))), some (.int (zI (zand (zF S 1 9) (zxor (zF S 1 8) (-1)))))] [.int (zI 1)] (rd z2.2) rfl ?_
      exact s_retB rfl rfl h (fun h => by cases h; exact rfl)
    · show eG _ 93 44 [some (.ref 43), some (.ref 1), some (.int (zI (zand (zF S 1 8) (zxor (zF S 1 9) (-1))))), some (.int (zI (zand (zF S 1 9) (zxor (zF S 1 8) (-1)))))] [] (rd z2.2) _
      refine g_run 4 48 [some (.ref 43), some (.ref 1), some (.int (zI (zand (zF S 1 8) (zxor (zF S 1 9) (-1))))), some (.int (zI (zand (zF S 1 9) (zxor (zF S 1 8) (-1)))))] [.int (zI 0), .int (zI (zand (zF S 1 9) (zxor (zF S 1 8) (-1)))), .ref 1, .ref 43] (rd z2.2) rfl ?_
      refine s_vir (fun z => some (.int (zI z.1))) (fun z => rd z.2) rfl rfl rfl (rd_o43 _) rfl rfl (fun z hz => sB_doesOne o n z2.2 (zand (zF S 1 9) (zxor (zF S 1 8) (-1))) 0 hz) rfl h (fun z3 h => ?_)
      show eG _ 93 51 [some (.ref 43), some (.ref 1), some (.int (zI (zand (zF S 1 8) (zxor (zF S 1 9) (-1))))), some (.int (zI (zand (zF S 1 9) (zxor (zF S 1 8) (-1)))))] [.int (zI z3.1)] (rd z3.2) _
      refine s_if_eq rfl h (fun h => ?_) (fun h => ?_)
      · show eG _ 93 58 [some (.ref 43), some (.ref 1), some (.int (zI (zand (zF S 1 8) (zxor (zF S 1 9) (-1))))), some (.int (zI (zand (zF S 1 9) (zxor (zF S 1 8) (-1)))))] [] (rd z3.2) _
        refine g_run 1 59 [some (.ref 43), some (.ref 1), some (.int (zI (zand (zF S 1 8) (zxor (zF S 1 9) (-1))))), some (.int (zI (zand (zF S 1 9) (zxor (zF S 1 8) (-1)))))] [.int (zI 0)] (rd z3.2) rfl ?_
        exact s_retB rfl rfl h (fun h => by cases h; exact rfl)
      · show eG _ 93 54 [some (.ref 43), some (.ref 1), some (.int (zI (zand (zF S 1 8) (zxor (zF S 1 9) (-1))))), some (.int (zI (zand (zF S 1 9) (zxor (zF S 1 8) (-1)))))] [] (rd z3.2) _
        refine g_run 2 59 [some (.ref 43), some (.ref 1), some (.int (zI (zand (zF S 1 8) (zxor (zF S 1 9) (-1))))), some (.int (zI (zand (zF S 1 9) (zxor (zF S 1 8) (-1)))))] [.int (zI 1)] (rd z3.2) rfl ?_
        exact s_retB rfl rfl h (fun h => by cases h; exact rfl)
def fD_build_1 : Nat → ZS → Int → Int → Option (Int × ZS)
  | 0, _, _, _ => none
  | n + 1, S, l2, l3 => gC l3 l2 (if l3 < l2 then (fB_goOn n S).bind fun z1 => gC z1.1 0 (if z1.1 = 0 then some (l3, z1.2) else fD_build_1 n z1.2 l2 (l3 + 1)) else some (l3, S))
set_option maxRecDepth 100000 in
set_option maxHeartbeats 4000000 in
theorem sD_build_1 (o : eO) : ∀ (n : Nat) (S : ZS) (l2 l3 : Int) {w : Int × ZS} {r : eP} (h : fD_build_1 n S l2 l3 = some w) (hk : eG o 88 59 [some (.ref 0), none, none, some (.int (zI w.1))] [] (rd w.2) r), eG o 88 34 [some (.ref 0), none, some (.int (zI l2)), some (.int (zI l3))] [] (rd S) r := by
  intro n
  induction n with
  | zero => intro S l2 l3 w r h hk; unfold fD_build_1 at h; cases h
  | succ n ih =>
    intro S l2 l3 w r h hk
    unfold fD_build_1 at h
    refine g_run 2 36 [some (.ref 0), none, some (.int (zI l2)), some (.int (zI l3))] [.int (zI l2), .int (zI l3)] (rd S) rfl ?_
    refine s_icmp_ge rfl h (fun h => ?_) (fun h => ?_)
    · show eG _ 88 59 [some (.ref 0), none, some (.int (zI l2)), some (.int (zI l3))] [] (rd S) _
      refine g_fgt [false, true, true, false] ?_
      show eG _ 88 59 [some (.ref 0), none, none, some (.int (zI l3))] [] (rd S) _
      cases h
      exact hk
    · show eG _ 88 39 [some (.ref 0), none, some (.int (zI l2)), some (.int (zI l3))] [] (rd S) _
      refine g_run 1 40 [some (.ref 0), none, some (.int (zI l2)), some (.int (zI l3))] [.ref 0] (rd S) rfl ?_
      refine g_getf rfl rfl (rd_o0 _) rfl ?_
      show eG _ 88 43 [some (.ref 0), none, some (.int (zI l2)), some (.int (zI l3))] [.ref 43] (rd S) _
      refine g_run 1 44 [some (.ref 0), none, some (.int (zI l2)), some (.int (zI l3))] [.ref 0, .ref 43] (rd S) rfl ?_
      refine g_getf rfl rfl (rd_o0 _) rfl ?_
      show eG _ 88 47 [some (.ref 0), none, some (.int (zI l2)), some (.int (zI l3))] [.ref 1, .ref 43] (rd S) _
      refine s_vir (fun z => some (.int (zI z.1))) (fun z => rd z.2) rfl rfl rfl (rd_o43 _) rfl rfl (fun z hz => sB_goOn o n S hz) rfl h (fun z1 h => ?_)
      show eG _ 88 50 [some (.ref 0), none, some (.int (zI l2)), some (.int (zI l3))] [.int (zI z1.1)] (rd z1.2) _
      refine s_if_eq rfl h (fun h => ?_) (fun h => ?_)
      · show eG _ 88 59 [some (.ref 0), none, some (.int (zI l2)), some (.int (zI l3))] [] (rd z1.2) _
        refine g_fgt [false, true, true, false] ?_
        show eG _ 88 59 [some (.ref 0), none, none, some (.int (zI l3))] [] (rd z1.2) _
        cases h
        exact hk
      · show eG _ 88 53 [some (.ref 0), none, some (.int (zI l2)), some (.int (zI l3))] [] (rd z1.2) _
        refine s_iinc (L' := [some (.ref 0), none, some (.int (zI l2)), some (.int (zI (l3 + 1)))]) rfl rfl rfl ?_
        refine g_run 1 34 [some (.ref 0), none, some (.int (zI l2)), some (.int (zI (l3 + 1)))] [] (rd z1.2) rfl ?_
        exact ih z1.2 l2 (l3 + 1) h hk
def fD_build (n : Nat) (S : ZS) (l1 l2 : Int) : Option (Int × ZS) := (fB_isBuilder n S l1).bind fun z1 => gC z1 0 (if z1 = 0 then some (-1, S) else gC l2 1 (if l2 < 1 then some (-1, S) else gC l2 60 (if 60 < l2 then some (-1, S) else (fB_lineUp n S l1).bind fun z2 => (fD_build_1 n z2 l2 0).bind fun z3 => (fW_forget n z3.2).bind fun z4 => some (z3.1, z4))))
set_option maxRecDepth 100000 in
set_option maxHeartbeats 4000000 in
theorem sD_build (o : eO) (n : Nat) (S : ZS) (l1 l2 : Int) {w : Int × ZS} (h : fD_build n S l1 l2 = some w) : eG o 88 0 (eEnt 88 [.ref 0, .int (zI l1), .int (zI l2)]) [] (rd S) (rv (some (.int (zI w.1))) (rd w.2)) := by
  unfold fD_build at h
  show eG o 88 0 [some (.ref 0), some (.int (zI l1)), some (.int (zI l2)), none] [] (rd S) _
  refine g_run 1 1 [some (.ref 0), some (.int (zI l1)), some (.int (zI l2)), none] [.int (zI l1)] (rd S) rfl ?_
  refine s_sta (fun z => some (.int (zI z))) (fun _ => rd S) rfl rfl rfl rfl rfl rfl rfl (fun z hz => sB_isBuilder o n S l1 hz) rfl h (fun z1 h => ?_)
  show eG _ 88 4 [some (.ref 0), some (.int (zI l1)), some (.int (zI l2)), none] [.int (zI z1)] (rd S) _
  refine s_if_eq rfl h (fun h => ?_) (fun h => ?_)
  · show eG _ 88 18 [some (.ref 0), some (.int (zI l1)), some (.int (zI l2)), none] [] (rd S) _
    refine g_run 1 19 [some (.ref 0), some (.int (zI l1)), some (.int (zI l2)), none] [.int (zI (-1))] (rd S) rfl ?_
    cases h
    exact s_ret rfl rfl rfl
  · show eG _ 88 7 [some (.ref 0), some (.int (zI l1)), some (.int (zI l2)), none] [] (rd S) _
    refine g_run 2 9 [some (.ref 0), some (.int (zI l1)), some (.int (zI l2)), none] [.int (zI 1), .int (zI l2)] (rd S) rfl ?_
    refine s_icmp_lt rfl h (fun h => ?_) (fun h => ?_)
    · show eG _ 88 18 [some (.ref 0), some (.int (zI l1)), some (.int (zI l2)), none] [] (rd S) _
      refine g_run 1 19 [some (.ref 0), some (.int (zI l1)), some (.int (zI l2)), none] [.int (zI (-1))] (rd S) rfl ?_
      cases h
      exact s_ret rfl rfl rfl
    · show eG _ 88 12 [some (.ref 0), some (.int (zI l1)), some (.int (zI l2)), none] [] (rd S) _
      refine g_run 2 15 [some (.ref 0), some (.int (zI l1)), some (.int (zI l2)), none] [.int (zI 60), .int (zI l2)] (rd S) rfl ?_
      refine s_icmp_le rfl h (fun h => ?_) (fun h => ?_)
      · show eG _ 88 20 [some (.ref 0), some (.int (zI l1)), some (.int (zI l2)), none] [] (rd S) _
        refine g_run 1 21 [some (.ref 0), some (.int (zI l1)), some (.int (zI l2)), none] [.ref 0] (rd S) rfl ?_
        refine g_getf rfl rfl (rd_o0 _) rfl ?_
        show eG _ 88 24 [some (.ref 0), some (.int (zI l1)), some (.int (zI l2)), none] [.ref 43] (rd S) _
        refine g_run 1 25 [some (.ref 0), some (.int (zI l1)), some (.int (zI l2)), none] [.ref 0, .ref 43] (rd S) rfl ?_
        refine g_getf rfl rfl (rd_o0 _) rfl ?_
        show eG _ 88 28 [some (.ref 0), some (.int (zI l1)), some (.int (zI l2)), none] [.ref 1, .ref 43] (rd S) _
        refine g_run 1 29 [some (.ref 0), some (.int (zI l1)), some (.int (zI l2)), none] [.int (zI l1), .ref 1, .ref 43] (rd S) rfl ?_
        refine s_vir (fun _ => none) (fun z => rd z) rfl rfl rfl (rd_o43 _) rfl rfl (fun z hz => sB_lineUp o n S l1 hz) rfl h (fun z2 h => ?_)
        show eG _ 88 32 [some (.ref 0), some (.int (zI l1)), some (.int (zI l2)), none] [] (rd z2) _
        refine g_run 2 34 [some (.ref 0), some (.int (zI l1)), some (.int (zI l2)), some (.int (zI 0))] [] (rd z2) rfl ?_
        refine g_fgt [false, true, false, false] ?_
        show eG _ 88 34 [some (.ref 0), none, some (.int (zI l2)), some (.int (zI 0))] [] (rd z2) _
        obtain ⟨z3, h1, h⟩ := zB_inv h
        refine sD_build_1 o n z2 l2 0 h1 ?_
        show eG _ 88 59 [some (.ref 0), none, none, some (.int (zI z3.1))] [] (rd z3.2) _
        refine g_run 1 60 [some (.ref 0), none, none, some (.int (zI z3.1))] [.ref 0] (rd z3.2) rfl ?_
        refine g_getf rfl rfl (rd_o0 _) rfl ?_
        show eG _ 88 63 [some (.ref 0), none, none, some (.int (zI z3.1))] [.ref 24] (rd z3.2) _
        refine s_vir (fun _ => none) (fun z => rd z) rfl rfl rfl (rd_o24 _) rfl rfl (fun z hz => sW_forget o n z3.2 hz) rfl h (fun z4 h => ?_)
        show eG _ 88 66 [some (.ref 0), none, none, some (.int (zI z3.1))] [] (rd z4) _
        refine g_run 1 67 [some (.ref 0), none, none, some (.int (zI z3.1))] [.int (zI z3.1)] (rd z4) rfl ?_
        cases h
        exact s_ret rfl rfl rfl
      · show eG _ 88 18 [some (.ref 0), some (.int (zI l1)), some (.int (zI l2)), none] [] (rd S) _
        refine g_run 1 19 [some (.ref 0), some (.int (zI l1)), some (.int (zI l2)), none] [.int (zI (-1))] (rd S) rfl ?_
        cases h
        exact s_ret rfl rfl rfl
def fW_isAble (n : Nat) (S : ZS) (l0 l1 : Int) : Option (Int) := gC (zand (zshr l0 l1) 1) 1 (if (zand (zshr l0 l1) 1) = 1 then gB 1 (some 1) else gB 0 (some 0))
set_option maxRecDepth 100000 in
set_option maxHeartbeats 4000000 in
theorem sW_isAble (o : eO) (n : Nat) (S : ZS) (l0 l1 : Int) {w : Int} (h : fW_isAble n S l0 l1 = some w) : eG o 100 0 (eEnt 100 [.int (zI l0), .int (zI l1)]) [] (rd S) (rv (some (.int (zI w))) (rd S)) := by
  unfold fW_isAble at h
  show eG o 100 0 [some (.int (zI l0)), some (.int (zI l1))] [] (rd S) _
  refine g_run 2 2 [some (.int (zI l0)), some (.int (zI l1))] [.int (zI l1), .int (zI l0)] (rd S) rfl ?_
  refine s_ishr rfl ?_
  refine g_run 1 4 [some (.int (zI l0)), some (.int (zI l1))] [.int (zI 1), .int (zI (zshr l0 l1))] (rd S) rfl ?_
  refine s_iand rfl ?_
  refine g_run 1 6 [some (.int (zI l0)), some (.int (zI l1))] [.int (zI 1), .int (zI (zand (zshr l0 l1) 1))] (rd S) rfl ?_
  refine s_icmp_ne rfl h (fun h => ?_) (fun h => ?_)
  · show eG _ 100 13 [some (.int (zI l0)), some (.int (zI l1))] [] (rd S) _
    refine g_run 1 14 [some (.int (zI l0)), some (.int (zI l1))] [.int (zI 0)] (rd S) rfl ?_
    exact s_retB rfl rfl h (fun h => by cases h; exact rfl)
  · show eG _ 100 9 [some (.int (zI l0)), some (.int (zI l1))] [] (rd S) _
    refine g_run 2 14 [some (.int (zI l0)), some (.int (zI l1))] [.int (zI 1)] (rd S) rfl ?_
    exact s_retB rfl rfl h (fun h => by cases h; exact rfl)
def fW_hasAblePart_1 : Nat → ZS → Int → Int → Int → Option ((Int) ⊕ (Unit))
  | 0, _, _, _, _ => none
  | n + 1, S, l0, l1, l2 => gC l2 4 (if l2 < 4 then gC (zand l1 (zxor (zshl 1 l2) (-1))) l1 (if (zand l1 (zxor (zshl 1 l2) (-1))) = l1 then fW_hasAblePart_1 n S l0 l1 (l2 + 1) else (fW_isAble n S l0 (zand l1 (zxor (zshl 1 l2) (-1)))).bind fun z1 => gC z1 0 (if z1 = 0 then fW_hasAblePart_1 n S l0 l1 (l2 + 1) else gB 1 (some (.inl 1)))) else some (.inr ()))
set_option maxRecDepth 100000 in
set_option maxHeartbeats 4000000 in
theorem sW_hasAblePart_1 (o : eO) : ∀ (n : Nat) (S : ZS) (l0 l1 l2 : Int) {w : (Int) ⊕ (Unit)} {r : eP} (h : fW_hasAblePart_1 n S l0 l1 l2 = some w) (hr : ∀ v, w = .inl v → r (some (.int (zI v)), rd S)) (hk : ∀ x, w = .inr x → eG o 99 36 [none, none, none, none] [] (rd S) r), eG o 99 2 [some (.int (zI l0)), some (.int (zI l1)), some (.int (zI l2)), none] [] (rd S) r := by
  intro n
  induction n with
  | zero => intro S l0 l1 l2 w r h hr hk; unfold fW_hasAblePart_1 at h; cases h
  | succ n ih =>
    intro S l0 l1 l2 w r h hr hk
    unfold fW_hasAblePart_1 at h
    refine g_run 2 4 [some (.int (zI l0)), some (.int (zI l1)), some (.int (zI l2)), none] [.int (zI 4), .int (zI l2)] (rd S) rfl ?_
    refine s_icmp_ge rfl h (fun h => ?_) (fun h => ?_)
    · show eG _ 99 36 [some (.int (zI l0)), some (.int (zI l1)), some (.int (zI l2)), none] [] (rd S) _
      refine g_fgt [true, true, true, true] ?_
      show eG _ 99 36 [none, none, none, none] [] (rd S) _
      cases h
      exact hk _ rfl
    · show eG _ 99 7 [some (.int (zI l0)), some (.int (zI l1)), some (.int (zI l2)), none] [] (rd S) _
      refine g_run 3 10 [some (.int (zI l0)), some (.int (zI l1)), some (.int (zI l2)), none] [.int (zI l2), .int (zI 1), .int (zI l1)] (rd S) rfl ?_
      refine s_ishl rfl ?_
      refine g_run 1 12 [some (.int (zI l0)), some (.int (zI l1)), some (.int (zI l2)), none] [.int (zI (-1)), .int (zI (zshl 1 l2)), .int (zI l1)] (rd S) rfl ?_
      refine s_ixor rfl ?_
      refine s_iand rfl ?_
      refine g_run 3 17 [some (.int (zI l0)), some (.int (zI l1)), some (.int (zI l2)), some (.int (zI (zand l1 (zxor (zshl 1 l2) (-1)))))] [.int (zI l1), .int (zI (zand l1 (zxor (zshl 1 l2) (-1))))] (rd S) rfl ?_
      refine s_icmp_eq rfl h (fun h => ?_) (fun h => ?_)
      · show eG _ 99 30 [some (.int (zI l0)), some (.int (zI l1)), some (.int (zI l2)), some (.int (zI (zand l1 (zxor (zshl 1 l2) (-1)))))] [] (rd S) _
        refine s_iinc (L' := [some (.int (zI l0)), some (.int (zI l1)), some (.int (zI (l2 + 1))), some (.int (zI (zand l1 (zxor (zshl 1 l2) (-1)))))]) rfl rfl rfl ?_
        refine g_run 1 2 [some (.int (zI l0)), some (.int (zI l1)), some (.int (zI (l2 + 1))), some (.int (zI (zand l1 (zxor (zshl 1 l2) (-1)))))] [] (rd S) rfl ?_
        refine g_fgt [false, false, false, true] ?_
        show eG _ 99 2 [some (.int (zI l0)), some (.int (zI l1)), some (.int (zI (l2 + 1))), none] [] (rd S) _
        exact ih S l0 l1 (l2 + 1) h hr hk
      · show eG _ 99 20 [some (.int (zI l0)), some (.int (zI l1)), some (.int (zI l2)), some (.int (zI (zand l1 (zxor (zshl 1 l2) (-1)))))] [] (rd S) _
        refine g_run 2 22 [some (.int (zI l0)), some (.int (zI l1)), some (.int (zI l2)), some (.int (zI (zand l1 (zxor (zshl 1 l2) (-1)))))] [.int (zI (zand l1 (zxor (zshl 1 l2) (-1)))), .int (zI l0)] (rd S) rfl ?_
        refine s_sta (fun z => some (.int (zI z))) (fun _ => rd S) rfl rfl rfl rfl rfl rfl rfl (fun z hz => sW_isAble o n S l0 (zand l1 (zxor (zshl 1 l2) (-1))) hz) rfl h (fun z1 h => ?_)
        show eG _ 99 25 [some (.int (zI l0)), some (.int (zI l1)), some (.int (zI l2)), some (.int (zI (zand l1 (zxor (zshl 1 l2) (-1)))))] [.int (zI z1)] (rd S) _
        refine s_if_eq rfl h (fun h => ?_) (fun h => ?_)
        · show eG _ 99 30 [some (.int (zI l0)), some (.int (zI l1)), some (.int (zI l2)), some (.int (zI (zand l1 (zxor (zshl 1 l2) (-1)))))] [] (rd S) _
          refine s_iinc (L' := [some (.int (zI l0)), some (.int (zI l1)), some (.int (zI (l2 + 1))), some (.int (zI (zand l1 (zxor (zshl 1 l2) (-1)))))]) rfl rfl rfl ?_
          refine g_run 1 2 [some (.int (zI l0)), some (.int (zI l1)), some (.int (zI (l2 + 1))), some (.int (zI (zand l1 (zxor (zshl 1 l2) (-1)))))] [] (rd S) rfl ?_
          refine g_fgt [false, false, false, true] ?_
          show eG _ 99 2 [some (.int (zI l0)), some (.int (zI l1)), some (.int (zI (l2 + 1))), none] [] (rd S) _
          exact ih S l0 l1 (l2 + 1) h hr hk
        · show eG _ 99 28 [some (.int (zI l0)), some (.int (zI l1)), some (.int (zI l2)), some (.int (zI (zand l1 (zxor (zshl 1 l2) (-1)))))] [] (rd S) _
          refine g_run 1 29 [some (.int (zI l0)), some (.int (zI l1)), some (.int (zI l2)), some (.int (zI (zand l1 (zxor (zshl 1 l2) (-1)))))] [.int (zI 1)] (rd S) rfl ?_
          exact s_retB rfl rfl h (fun h => by cases h; exact hr _ rfl)
def fW_hasAblePart (n : Nat) (S : ZS) (l0 l1 : Int) : Option (Int) := zR (fW_hasAblePart_1 n S l0 l1 0) fun z1 => gB 0 (some 0)
set_option maxRecDepth 100000 in
set_option maxHeartbeats 4000000 in
theorem sW_hasAblePart (o : eO) (n : Nat) (S : ZS) (l0 l1 : Int) {w : Int} (h : fW_hasAblePart n S l0 l1 = some w) : eG o 99 0 (eEnt 99 [.int (zI l0), .int (zI l1)]) [] (rd S) (rv (some (.int (zI w))) (rd S)) := by
  unfold fW_hasAblePart at h
  show eG o 99 0 [some (.int (zI l0)), some (.int (zI l1)), none, none] [] (rd S) _
  refine g_run 2 2 [some (.int (zI l0)), some (.int (zI l1)), some (.int (zI 0)), none] [] (rd S) rfl ?_
  rcases zR_inv h with h1 | ⟨z1, h1, h⟩
  · exact sW_hasAblePart_1 o n S l0 l1 0 h1 (fun v e => by cases e; rfl) (fun x e => by cases e)
  refine sW_hasAblePart_1 o n S l0 l1 0 h1 (fun v e => by cases e) (fun x e => ?_)
  cases e
  show eG _ 99 36 [none, none, none, none] [] (rd S) _
  refine g_run 1 37 [none, none, none, none] [.int (zI 0)] (rd S) rfl ?_
  exact s_retB rfl rfl h (fun h => by cases h; exact rfl)
def fW_partsOf_1 : Nat → ZS → Int → Int → Int → Option (Int)
  | 0, _, _, _, _ => none
  | n + 1, S, l1, l2, l3 => gC l3 (zF S 1 6) (if l3 < (zF S 1 6) then gX l3 8 (gC (zand (zshr l1 (zA S 5 l3)) 1) 1 (if (zand (zshr l1 (zA S 5 l3)) 1) = 1 then fW_partsOf_1 n S l1 (zor l2 (zshl 1 l3)) (l3 + 1) else fW_partsOf_1 n S l1 l2 (l3 + 1))) else some l2)
set_option maxRecDepth 100000 in
set_option maxHeartbeats 4000000 in
theorem sW_partsOf_1 (o : eO) : ∀ (n : Nat) (S : ZS) (l1 l2 l3 : Int) {w : Int} {r : eP} (h : fW_partsOf_1 n S l1 l2 l3 = some w) (hk : eG o 101 38 [none, none, some (.int (zI w)), none] [] (rd S) r), eG o 101 4 [some (.ref 1), some (.int (zI l1)), some (.int (zI l2)), some (.int (zI l3))] [] (rd S) r := by
  intro n
  induction n with
  | zero => intro S l1 l2 l3 w r h hk; unfold fW_partsOf_1 at h; cases h
  | succ n ih =>
    intro S l1 l2 l3 w r h hk
    unfold fW_partsOf_1 at h
    refine g_run 2 6 [some (.ref 1), some (.int (zI l1)), some (.int (zI l2)), some (.int (zI l3))] [.ref 1, .int (zI l3)] (rd S) rfl ?_
    refine g_getf rfl rfl (rd_o1 _) rfl ?_
    show eG _ 101 9 [some (.ref 1), some (.int (zI l1)), some (.int (zI l2)), some (.int (zI l3))] [.int (zI (zF S 1 6)), .int (zI l3)] (rd S) _
    refine s_icmp_ge rfl h (fun h => ?_) (fun h => ?_)
    · show eG _ 101 38 [some (.ref 1), some (.int (zI l1)), some (.int (zI l2)), some (.int (zI l3))] [] (rd S) _
      refine g_fgt [true, true, false, true] ?_
      show eG _ 101 38 [none, none, some (.int (zI l2)), none] [] (rd S) _
      cases h
      exact hk
    · show eG _ 101 12 [some (.ref 1), some (.int (zI l1)), some (.int (zI l2)), some (.int (zI l3))] [] (rd S) _
      refine g_run 2 14 [some (.ref 1), some (.int (zI l1)), some (.int (zI l2)), some (.int (zI l3))] [.ref 1, .int (zI l1)] (rd S) rfl ?_
      refine g_getf rfl rfl (rd_o1 _) rfl ?_
      show eG _ 101 17 [some (.ref 1), some (.int (zI l1)), some (.int (zI l2)), some (.int (zI l3))] [.ref 5, .int (zI l1)] (rd S) _
      refine g_run 1 18 [some (.ref 1), some (.int (zI l1)), some (.int (zI l2)), some (.int (zI l3))] [.int (zI l3), .ref 5, .int (zI l1)] (rd S) rfl ?_
      refine s_iald rfl (rd_a5 _) h (fun h => ?_)
      show eG _ 101 19 [some (.ref 1), some (.int (zI l1)), some (.int (zI l2)), some (.int (zI l3))] [.int (zI (zA S 5 l3)), .int (zI l1)] (rd S) _
      refine s_ishr rfl ?_
      refine g_run 1 21 [some (.ref 1), some (.int (zI l1)), some (.int (zI l2)), some (.int (zI l3))] [.int (zI 1), .int (zI (zshr l1 (zA S 5 l3)))] (rd S) rfl ?_
      refine s_iand rfl ?_
      refine g_run 1 23 [some (.ref 1), some (.int (zI l1)), some (.int (zI l2)), some (.int (zI l3))] [.int (zI 1), .int (zI (zand (zshr l1 (zA S 5 l3)) 1))] (rd S) rfl ?_
      refine s_icmp_ne rfl h (fun h => ?_) (fun h => ?_)
      · show eG _ 101 32 [some (.ref 1), some (.int (zI l1)), some (.int (zI l2)), some (.int (zI l3))] [] (rd S) _
        refine s_iinc (L' := [some (.ref 1), some (.int (zI l1)), some (.int (zI l2)), some (.int (zI (l3 + 1)))]) rfl rfl rfl ?_
        refine g_run 1 4 [some (.ref 1), some (.int (zI l1)), some (.int (zI l2)), some (.int (zI (l3 + 1)))] [] (rd S) rfl ?_
        exact ih S l1 l2 (l3 + 1) h hk
      · show eG _ 101 26 [some (.ref 1), some (.int (zI l1)), some (.int (zI l2)), some (.int (zI l3))] [] (rd S) _
        refine g_run 3 29 [some (.ref 1), some (.int (zI l1)), some (.int (zI l2)), some (.int (zI l3))] [.int (zI l3), .int (zI 1), .int (zI l2)] (rd S) rfl ?_
        refine s_ishl rfl ?_
        refine s_ior rfl ?_
        refine g_run 1 32 [some (.ref 1), some (.int (zI l1)), some (.int (zI (zor l2 (zshl 1 l3)))), some (.int (zI l3))] [] (rd S) rfl ?_
        refine s_iinc (L' := [some (.ref 1), some (.int (zI l1)), some (.int (zI (zor l2 (zshl 1 l3)))), some (.int (zI (l3 + 1)))]) rfl rfl rfl ?_
        refine g_run 1 4 [some (.ref 1), some (.int (zI l1)), some (.int (zI (zor l2 (zshl 1 l3)))), some (.int (zI (l3 + 1)))] [] (rd S) rfl ?_
        exact ih S l1 (zor l2 (zshl 1 l3)) (l3 + 1) h hk
def fW_partsOf (n : Nat) (S : ZS) (l1 : Int) : Option (Int) := (fW_partsOf_1 n S l1 0 0).bind fun z1 => some z1
set_option maxRecDepth 100000 in
set_option maxHeartbeats 4000000 in
theorem sW_partsOf (o : eO) (n : Nat) (S : ZS) (l1 : Int) {w : Int} (h : fW_partsOf n S l1 = some w) : eG o 101 0 (eEnt 101 [.ref 1, .int (zI l1)]) [] (rd S) (rv (some (.int (zI w))) (rd S)) := by
  unfold fW_partsOf at h
  show eG o 101 0 [some (.ref 1), some (.int (zI l1)), none, none] [] (rd S) _
  refine g_run 4 4 [some (.ref 1), some (.int (zI l1)), some (.int (zI 0)), some (.int (zI 0))] [] (rd S) rfl ?_
  obtain ⟨z1, h1, h⟩ := zB_inv h
  refine sW_partsOf_1 o n S l1 0 0 h1 ?_
  show eG _ 101 38 [none, none, some (.int (zI z1)), none] [] (rd S) _
  refine g_run 1 39 [none, none, some (.int (zI z1)), none] [.int (zI z1)] (rd S) rfl ?_
  cases h
  exact s_ret rfl rfl rfl
def fW_ableCompanies_1 : Nat → ZS → Int → Int → Option (Int × ZS)
  | 0, _, _, _ => none
  | n + 1, S, l2, l3 => gC l3 16 (if l3 < 16 then (fW_hasAblePart n S l2 l3).bind fun z1 => gC z1 0 (if z1 = 0 then (fW_partsOf n S l3).bind fun z2 => (fW_seek n S z2).bind fun z3 => gC z3.1 0 (if z3.1 = 0 then fW_ableCompanies_1 n z3.2 l2 (l3 + 1) else fW_ableCompanies_1 n z3.2 (zor l2 (zshl 1 l3)) (l3 + 1)) else fW_ableCompanies_1 n S (zor l2 (zshl 1 l3)) (l3 + 1)) else some (l2, S))
set_option maxRecDepth 100000 in
set_option maxHeartbeats 4000000 in
theorem sW_ableCompanies_1 (o : eO) : ∀ (n : Nat) (S : ZS) (l2 l3 : Int) {w : Int × ZS} {r : eP} (h : fW_ableCompanies_1 n S l2 l3 = some w) (hk : eG o 98 43 [none, none, some (.int (zI w.1)), none] [] (rd w.2) r), eG o 98 4 [some (.ref 24), some (.ref 1), some (.int (zI l2)), some (.int (zI l3))] [] (rd S) r := by
  intro n
  induction n with
  | zero => intro S l2 l3 w r h hk; unfold fW_ableCompanies_1 at h; cases h
  | succ n ih =>
    intro S l2 l3 w r h hk
    unfold fW_ableCompanies_1 at h
    refine g_run 2 7 [some (.ref 24), some (.ref 1), some (.int (zI l2)), some (.int (zI l3))] [.int (zI 16), .int (zI l3)] (rd S) rfl ?_
    refine s_icmp_ge rfl h (fun h => ?_) (fun h => ?_)
    · show eG _ 98 43 [some (.ref 24), some (.ref 1), some (.int (zI l2)), some (.int (zI l3))] [] (rd S) _
      refine g_fgt [true, true, false, true] ?_
      show eG _ 98 43 [none, none, some (.int (zI l2)), none] [] (rd S) _
      cases h
      exact hk
    · show eG _ 98 10 [some (.ref 24), some (.ref 1), some (.int (zI l2)), some (.int (zI l3))] [] (rd S) _
      refine g_run 2 12 [some (.ref 24), some (.ref 1), some (.int (zI l2)), some (.int (zI l3))] [.int (zI l3), .int (zI l2)] (rd S) rfl ?_
      refine s_sta (fun z => some (.int (zI z))) (fun _ => rd S) rfl rfl rfl rfl rfl rfl rfl (fun z hz => sW_hasAblePart o n S l2 l3 hz) rfl h (fun z1 h => ?_)
      show eG _ 98 15 [some (.ref 24), some (.ref 1), some (.int (zI l2)), some (.int (zI l3))] [.int (zI z1)] (rd S) _
      refine s_if_ne rfl h (fun h => ?_) (fun h => ?_)
      · show eG _ 98 31 [some (.ref 24), some (.ref 1), some (.int (zI l2)), some (.int (zI l3))] [] (rd S) _
        refine g_run 3 34 [some (.ref 24), some (.ref 1), some (.int (zI l2)), some (.int (zI l3))] [.int (zI l3), .int (zI 1), .int (zI l2)] (rd S) rfl ?_
        refine s_ishl rfl ?_
        refine s_ior rfl ?_
        refine g_run 1 37 [some (.ref 24), some (.ref 1), some (.int (zI (zor l2 (zshl 1 l3)))), some (.int (zI l3))] [] (rd S) rfl ?_
        refine s_iinc (L' := [some (.ref 24), some (.ref 1), some (.int (zI (zor l2 (zshl 1 l3)))), some (.int (zI (l3 + 1)))]) rfl rfl rfl ?_
        refine g_run 1 4 [some (.ref 24), some (.ref 1), some (.int (zI (zor l2 (zshl 1 l3)))), some (.int (zI (l3 + 1)))] [] (rd S) rfl ?_
        exact ih S (zor l2 (zshl 1 l3)) (l3 + 1) h hk
      · show eG _ 98 18 [some (.ref 24), some (.ref 1), some (.int (zI l2)), some (.int (zI l3))] [] (rd S) _
        refine g_run 4 22 [some (.ref 24), some (.ref 1), some (.int (zI l2)), some (.int (zI l3))] [.int (zI l3), .ref 1, .ref 1, .ref 24] (rd S) rfl ?_
        refine s_sta (fun z => some (.int (zI z))) (fun _ => rd S) rfl rfl rfl rfl rfl rfl rfl (fun z hz => sW_partsOf o n S l3 hz) rfl h (fun z2 h => ?_)
        show eG _ 98 25 [some (.ref 24), some (.ref 1), some (.int (zI l2)), some (.int (zI l3))] [.int (zI z2), .ref 1, .ref 24] (rd S) _
        refine s_vir (fun z => some (.int (zI z.1))) (fun z => rd z.2) rfl rfl rfl (rd_o24 _) rfl rfl (fun z hz => sW_seek o n S z2 hz) rfl h (fun z3 h => ?_)
        show eG _ 98 28 [some (.ref 24), some (.ref 1), some (.int (zI l2)), some (.int (zI l3))] [.int (zI z3.1)] (rd z3.2) _
        refine s_if_eq rfl h (fun h => ?_) (fun h => ?_)
        · show eG _ 98 37 [some (.ref 24), some (.ref 1), some (.int (zI l2)), some (.int (zI l3))] [] (rd z3.2) _
          refine s_iinc (L' := [some (.ref 24), some (.ref 1), some (.int (zI l2)), some (.int (zI (l3 + 1)))]) rfl rfl rfl ?_
          refine g_run 1 4 [some (.ref 24), some (.ref 1), some (.int (zI l2)), some (.int (zI (l3 + 1)))] [] (rd z3.2) rfl ?_
          exact ih z3.2 l2 (l3 + 1) h hk
        · show eG _ 98 31 [some (.ref 24), some (.ref 1), some (.int (zI l2)), some (.int (zI l3))] [] (rd z3.2) _
          refine g_run 3 34 [some (.ref 24), some (.ref 1), some (.int (zI l2)), some (.int (zI l3))] [.int (zI l3), .int (zI 1), .int (zI l2)] (rd z3.2) rfl ?_
          refine s_ishl rfl ?_
          refine s_ior rfl ?_
          refine g_run 1 37 [some (.ref 24), some (.ref 1), some (.int (zI (zor l2 (zshl 1 l3)))), some (.int (zI l3))] [] (rd z3.2) rfl ?_
          refine s_iinc (L' := [some (.ref 24), some (.ref 1), some (.int (zI (zor l2 (zshl 1 l3)))), some (.int (zI (l3 + 1)))]) rfl rfl rfl ?_
          refine g_run 1 4 [some (.ref 24), some (.ref 1), some (.int (zI (zor l2 (zshl 1 l3)))), some (.int (zI (l3 + 1)))] [] (rd z3.2) rfl ?_
          exact ih z3.2 (zor l2 (zshl 1 l3)) (l3 + 1) h hk
def fW_ableCompanies (n : Nat) (S : ZS) : Option (Int × ZS) := (fW_ableCompanies_1 n S 0 0).bind fun z1 => some (z1.1, z1.2)
set_option maxRecDepth 100000 in
set_option maxHeartbeats 4000000 in
theorem sW_ableCompanies (o : eO) (n : Nat) (S : ZS) {w : Int × ZS} (h : fW_ableCompanies n S = some w) : eG o 98 0 (eEnt 98 [.ref 24, .ref 1]) [] (rd S) (rv (some (.int (zI w.1))) (rd w.2)) := by
  unfold fW_ableCompanies at h
  show eG o 98 0 [some (.ref 24), some (.ref 1), none, none] [] (rd S) _
  refine g_run 4 4 [some (.ref 24), some (.ref 1), some (.int (zI 0)), some (.int (zI 0))] [] (rd S) rfl ?_
  obtain ⟨z1, h1, h⟩ := zB_inv h
  refine sW_ableCompanies_1 o n S 0 0 h1 ?_
  show eG _ 98 43 [none, none, some (.int (zI z1.1)), none] [] (rd z1.2) _
  refine g_run 1 44 [none, none, some (.int (zI z1.1)), none] [.int (zI z1.1)] (rd z1.2) rfl ?_
  cases h
  exact s_ret rfl rfl rfl
def fI_bitCount (n : Nat) (S : ZS) (l0 : Int) : Option (Int) := some (zand (((zand (((zand (l0 - (zand (zushr l0 1) 1431655765)) 858993459) + (zand (zushr (l0 - (zand (zushr l0 1) 1431655765)) 2) 858993459)) + (zushr ((zand (l0 - (zand (zushr l0 1) 1431655765)) 858993459) + (zand (zushr (l0 - (zand (zushr l0 1) 1431655765)) 2) 858993459)) 4)) 252645135) + (zushr (zand (((zand (l0 - (zand (zushr l0 1) 1431655765)) 858993459) + (zand (zushr (l0 - (zand (zushr l0 1) 1431655765)) 2) 858993459)) + (zushr ((zand (l0 - (zand (zushr l0 1) 1431655765)) 858993459) + (zand (zushr (l0 - (zand (zushr l0 1) 1431655765)) 2) 858993459)) 4)) 252645135) 8)) + (zushr ((zand (((zand (l0 - (zand (zushr l0 1) 1431655765)) 858993459) + (zand (zushr (l0 - (zand (zushr l0 1) 1431655765)) 2) 858993459)) + (zushr ((zand (l0 - (zand (zushr l0 1) 1431655765)) 858993459) + (zand (zushr (l0 - (zand (zushr l0 1) 1431655765)) 2) 858993459)) 4)) 252645135) + (zushr (zand (((zand (l0 - (zand (zushr l0 1) 1431655765)) 858993459) + (zand (zushr (l0 - (zand (zushr l0 1) 1431655765)) 2) 858993459)) + (zushr ((zand (l0 - (zand (zushr l0 1) 1431655765)) 858993459) + (zand (zushr (l0 - (zand (zushr l0 1) 1431655765)) 2) 858993459)) 4)) 252645135) 8)) 16)) 63)
set_option maxRecDepth 100000 in
set_option maxHeartbeats 4000000 in
theorem sI_bitCount (o : eO) (n : Nat) (S : ZS) (l0 : Int) {w : Int} (h : fI_bitCount n S l0 = some w) : eG o 102 0 (eEnt 102 [.int (zI l0)]) [] (rd S) (rv (some (.int (zI w))) (rd S)) := by
  unfold fI_bitCount at h
  show eG o 102 0 [some (.int (zI l0))] [] (rd S) _
  refine g_run 3 3 [some (.int (zI l0))] [.int (zI 1), .int (zI l0), .int (zI l0)] (rd S) rfl ?_
  refine s_iushr rfl ?_
  refine g_run 1 7 [some (.int (zI l0))] [.int (zI 1431655765), .int (zI (zushr l0 1)), .int (zI l0)] (rd S) rfl ?_
  refine s_iand rfl ?_
  refine s_isub rfl ?_
  refine g_run 3 14 [some (.int (zI (l0 - (zand (zushr l0 1) 1431655765))))] [.int (zI 858993459), .int (zI (l0 - (zand (zushr l0 1) 1431655765)))] (rd S) rfl ?_
  refine s_iand rfl ?_
  refine g_run 2 17 [some (.int (zI (l0 - (zand (zushr l0 1) 1431655765))))] [.int (zI 2), .int (zI (l0 - (zand (zushr l0 1) 1431655765))), .int (zI (zand (l0 - (zand (zushr l0 1) 1431655765)) 858993459))] (rd S) rfl ?_
  refine s_iushr rfl ?_
  refine g_run 1 21 [some (.int (zI (l0 - (zand (zushr l0 1) 1431655765))))] [.int (zI 858993459), .int (zI (zushr (l0 - (zand (zushr l0 1) 1431655765)) 2)), .int (zI (zand (l0 - (zand (zushr l0 1) 1431655765)) 858993459))] (rd S) rfl ?_
  refine s_iand rfl ?_
  refine s_iadd rfl ?_
  refine g_run 4 27 [some (.int (zI ((zand (l0 - (zand (zushr l0 1) 1431655765)) 858993459) + (zand (zushr (l0 - (zand (zushr l0 1) 1431655765)) 2) 858993459))))] [.int (zI 4), .int (zI ((zand (l0 - (zand (zushr l0 1) 1431655765)) 858993459) + (zand (zushr (l0 - (zand (zushr l0 1) 1431655765)) 2) 858993459))), .int (zI ((zand (l0 - (zand (zushr l0 1) 1431655765)) 858993459) + (zand (zushr (l0 - (zand (zushr l0 1) 1431655765)) 2) 858993459)))] (rd S) rfl ?_
  refine s_iushr rfl ?_
  refine s_iadd rfl ?_
  refine g_run 1 32 [some (.int (zI ((zand (l0 - (zand (zushr l0 1) 1431655765)) 858993459) + (zand (zushr (l0 - (zand (zushr l0 1) 1431655765)) 2) 858993459))))] [.int (zI 252645135), .int (zI (((zand (l0 - (zand (zushr l0 1) 1431655765)) 858993459) + (zand (zushr (l0 - (zand (zushr l0 1) 1431655765)) 2) 858993459)) + (zushr ((zand (l0 - (zand (zushr l0 1) 1431655765)) 858993459) + (zand (zushr (l0 - (zand (zushr l0 1) 1431655765)) 2) 858993459)) 4)))] (rd S) rfl ?_
  refine s_iand rfl ?_
  refine g_run 4 38 [some (.int (zI (zand (((zand (l0 - (zand (zushr l0 1) 1431655765)) 858993459) + (zand (zushr (l0 - (zand (zushr l0 1) 1431655765)) 2) 858993459)) + (zushr ((zand (l0 - (zand (zushr l0 1) 1431655765)) 858993459) + (zand (zushr (l0 - (zand (zushr l0 1) 1431655765)) 2) 858993459)) 4)) 252645135)))] [.int (zI 8), .int (zI (zand (((zand (l0 - (zand (zushr l0 1) 1431655765)) 858993459) + (zand (zushr (l0 - (zand (zushr l0 1) 1431655765)) 2) 858993459)) + (zushr ((zand (l0 - (zand (zushr l0 1) 1431655765)) 858993459) + (zand (zushr (l0 - (zand (zushr l0 1) 1431655765)) 2) 858993459)) 4)) 252645135)), .int (zI (zand (((zand (l0 - (zand (zushr l0 1) 1431655765)) 858993459) + (zand (zushr (l0 - (zand (zushr l0 1) 1431655765)) 2) 858993459)) + (zushr ((zand (l0 - (zand (zushr l0 1) 1431655765)) 858993459) + (zand (zushr (l0 - (zand (zushr l0 1) 1431655765)) 2) 858993459)) 4)) 252645135))] (rd S) rfl ?_
  refine s_iushr rfl ?_
  refine s_iadd rfl ?_
  refine g_run 4 45 [some (.int (zI ((zand (((zand (l0 - (zand (zushr l0 1) 1431655765)) 858993459) + (zand (zushr (l0 - (zand (zushr l0 1) 1431655765)) 2) 858993459)) + (zushr ((zand (l0 - (zand (zushr l0 1) 1431655765)) 858993459) + (zand (zushr (l0 - (zand (zushr l0 1) 1431655765)) 2) 858993459)) 4)) 252645135) + (zushr (zand (((zand (l0 - (zand (zushr l0 1) 1431655765)) 858993459) + (zand (zushr (l0 - (zand (zushr l0 1) 1431655765)) 2) 858993459)) + (zushr ((zand (l0 - (zand (zushr l0 1) 1431655765)) 858993459) + (zand (zushr (l0 - (zand (zushr l0 1) 1431655765)) 2) 858993459)) 4)) 252645135) 8))))] [.int (zI 16), .int (zI ((zand (((zand (l0 - (zand (zushr l0 1) 1431655765)) 858993459) + (zand (zushr (l0 - (zand (zushr l0 1) 1431655765)) 2) 858993459)) + (zushr ((zand (l0 - (zand (zushr l0 1) 1431655765)) 858993459) + (zand (zushr (l0 - (zand (zushr l0 1) 1431655765)) 2) 858993459)) 4)) 252645135) + (zushr (zand (((zand (l0 - (zand (zushr l0 1) 1431655765)) 858993459) + (zand (zushr (l0 - (zand (zushr l0 1) 1431655765)) 2) 858993459)) + (zushr ((zand (l0 - (zand (zushr l0 1) 1431655765)) 858993459) + (zand (zushr (l0 - (zand (zushr l0 1) 1431655765)) 2) 858993459)) 4)) 252645135) 8))), .int (zI ((zand (((zand (l0 - (zand (zushr l0 1) 1431655765)) 858993459) + (zand (zushr (l0 - (zand (zushr l0 1) 1431655765)) 2) 858993459)) + (zushr ((zand (l0 - (zand (zushr l0 1) 1431655765)) 858993459) + (zand (zushr (l0 - (zand (zushr l0 1) 1431655765)) 2) 858993459)) 4)) 252645135) + (zushr (zand (((zand (l0 - (zand (zushr l0 1) 1431655765)) 858993459) + (zand (zushr (l0 - (zand (zushr l0 1) 1431655765)) 2) 858993459)) + (zushr ((zand (l0 - (zand (zushr l0 1) 1431655765)) 858993459) + (zand (zushr (l0 - (zand (zushr l0 1) 1431655765)) 2) 858993459)) 4)) 252645135) 8)))] (rd S) rfl ?_
  refine s_iushr rfl ?_
  refine s_iadd rfl ?_
  refine g_run 3 51 [some (.int (zI (((zand (((zand (l0 - (zand (zushr l0 1) 1431655765)) 858993459) + (zand (zushr (l0 - (zand (zushr l0 1) 1431655765)) 2) 858993459)) + (zushr ((zand (l0 - (zand (zushr l0 1) 1431655765)) 858993459) + (zand (zushr (l0 - (zand (zushr l0 1) 1431655765)) 2) 858993459)) 4)) 252645135) + (zushr (zand (((zand (l0 - (zand (zushr l0 1) 1431655765)) 858993459) + (zand (zushr (l0 - (zand (zushr l0 1) 1431655765)) 2) 858993459)) + (zushr ((zand (l0 - (zand (zushr l0 1) 1431655765)) 858993459) + (zand (zushr (l0 - (zand (zushr l0 1) 1431655765)) 2) 858993459)) 4)) 252645135) 8)) + (zushr ((zand (((zand (l0 - (zand (zushr l0 1) 1431655765)) 858993459) + (zand (zushr (l0 - (zand (zushr l0 1) 1431655765)) 2) 858993459)) + (zushr ((zand (l0 - (zand (zushr l0 1) 1431655765)) 858993459) + (zand (zushr (l0 - (zand (zushr l0 1) 1431655765)) 2) 858993459)) 4)) 252645135) + (zushr (zand (((zand (l0 - (zand (zushr l0 1) 1431655765)) 858993459) + (zand (zushr (l0 - (zand (zushr l0 1) 1431655765)) 2) 858993459)) + (zushr ((zand (l0 - (zand (zushr l0 1) 1431655765)) 858993459) + (zand (zushr (l0 - (zand (zushr l0 1) 1431655765)) 2) 858993459)) 4)) 252645135) 8)) 16))))] [.int (zI 63), .int (zI (((zand (((zand (l0 - (zand (zushr l0 1) 1431655765)) 858993459) + (zand (zushr (l0 - (zand (zushr l0 1) 1431655765)) 2) 858993459)) + (zushr ((zand (l0 - (zand (zushr l0 1) 1431655765)) 858993459) + (zand (zushr (l0 - (zand (zushr l0 1) 1431655765)) 2) 858993459)) 4)) 252645135) + (zushr (zand (((zand (l0 - (zand (zushr l0 1) 1431655765)) 858993459) + (zand (zushr (l0 - (zand (zushr l0 1) 1431655765)) 2) 858993459)) + (zushr ((zand (l0 - (zand (zushr l0 1) 1431655765)) 858993459) + (zand (zushr (l0 - (zand (zushr l0 1) 1431655765)) 2) 858993459)) 4)) 252645135) 8)) + (zushr ((zand (((zand (l0 - (zand (zushr l0 1) 1431655765)) 858993459) + (zand (zushr (l0 - (zand (zushr l0 1) 1431655765)) 2) 858993459)) + (zushr ((zand (l0 - (zand (zushr l0 1) 1431655765)) 858993459) + (zand (zushr (l0 - (zand (zushr l0 1) 1431655765)) 2) 858993459)) 4)) 252645135) + (zushr (zand (((zand (l0 - (zand (zushr l0 1) 1431655765)) 858993459) + (zand (zushr (l0 - (zand (zushr l0 1) 1431655765)) 2) 858993459)) + (zushr ((zand (l0 - (zand (zushr l0 1) 1431655765)) 858993459) + (zand (zushr (l0 - (zand (zushr l0 1) 1431655765)) 2) 858993459)) 4)) 252645135) 8)) 16)))] (rd S) rfl ?_
  refine s_iand rfl ?_
  cases h
  exact s_ret rfl rfl rfl
def fW_turningOrders_1 : Nat → ZS → Int → Int → Int → Option (Int)
  | 0, _, _, _, _ => none
  | n + 1, S, l2, l3, l4 => gC l4 16 (if l4 < 16 then gC (zor l4 (zshl 1 l2)) l4 (if (zor l4 (zshl 1 l2)) = l4 then fW_turningOrders_1 n S l2 l3 (l4 + 1) else (fW_isAble n S (zF S 24 13) (zor l4 (zshl 1 l2))).bind fun z1 => gC z1 0 (if z1 = 0 then fW_turningOrders_1 n S l2 l3 (l4 + 1) else (fW_isAble n S (zF S 24 13) l4).bind fun z2 => gC z2 0 (if z2 = 0 then (fI_bitCount n S l4).bind fun z3 => gX z3 4 (fW_turningOrders_1 n S l2 (l3 + (zob z3)) (l4 + 1)) else fW_turningOrders_1 n S l2 l3 (l4 + 1)))) else some l3)
set_option maxRecDepth 100000 in
set_option maxHeartbeats 4000000 in
theorem sW_turningOrders_1 (o : eO) : ∀ (n : Nat) (S : ZS) (l2 l3 l4 : Int) {w : Int} {r : eP} (h : fW_turningOrders_1 n S l2 l3 l4 = some w) (hk : eG o 97 90 [none, none, none, some (.int (zI w)), none, none] [] (rd S) r), eG o 97 26 [some (.ref 24), none, some (.int (zI l2)), some (.int (zI l3)), some (.int (zI l4)), none] [] (rd S) r := by
  intro n
  induction n with
  | zero => intro S l2 l3 l4 w r h hk; unfold fW_turningOrders_1 at h; cases h
  | succ n ih =>
    intro S l2 l3 l4 w r h hk
    unfold fW_turningOrders_1 at h
    refine g_run 2 30 [some (.ref 24), none, some (.int (zI l2)), some (.int (zI l3)), some (.int (zI l4)), none] [.int (zI 16), .int (zI l4)] (rd S) rfl ?_
    refine s_icmp_ge rfl h (fun h => ?_) (fun h => ?_)
    · show eG _ 97 90 [some (.ref 24), none, some (.int (zI l2)), some (.int (zI l3)), some (.int (zI l4)), none] [] (rd S) _
      refine g_fgt [true, true, true, false, true, true] ?_
      show eG _ 97 90 [none, none, none, some (.int (zI l3)), none, none] [] (rd S) _
      cases h
      exact hk
    · show eG _ 97 33 [some (.ref 24), none, some (.int (zI l2)), some (.int (zI l3)), some (.int (zI l4)), none] [] (rd S) _
      refine g_run 3 37 [some (.ref 24), none, some (.int (zI l2)), some (.int (zI l3)), some (.int (zI l4)), none] [.int (zI l2), .int (zI 1), .int (zI l4)] (rd S) rfl ?_
      refine s_ishl rfl ?_
      refine s_ior rfl ?_
      refine g_run 3 45 [some (.ref 24), none, some (.int (zI l2)), some (.int (zI l3)), some (.int (zI l4)), some (.int (zI (zor l4 (zshl 1 l2))))] [.int (zI l4), .int (zI (zor l4 (zshl 1 l2)))] (rd S) rfl ?_
      refine s_icmp_eq rfl h (fun h => ?_) (fun h => ?_)
      · show eG _ 97 84 [some (.ref 24), none, some (.int (zI l2)), some (.int (zI l3)), some (.int (zI l4)), some (.int (zI (zor l4 (zshl 1 l2))))] [] (rd S) _
        refine s_iinc (L' := [some (.ref 24), none, some (.int (zI l2)), some (.int (zI l3)), some (.int (zI (l4 + 1))), some (.int (zI (zor l4 (zshl 1 l2))))]) rfl rfl rfl ?_
        refine g_run 1 26 [some (.ref 24), none, some (.int (zI l2)), some (.int (zI l3)), some (.int (zI (l4 + 1))), some (.int (zI (zor l4 (zshl 1 l2))))] [] (rd S) rfl ?_
        refine g_fgt [false, true, false, false, false, true] ?_
        show eG _ 97 26 [some (.ref 24), none, some (.int (zI l2)), some (.int (zI l3)), some (.int (zI (l4 + 1))), none] [] (rd S) _
        exact ih S l2 l3 (l4 + 1) h hk
      · show eG _ 97 48 [some (.ref 24), none, some (.int (zI l2)), some (.int (zI l3)), some (.int (zI l4)), some (.int (zI (zor l4 (zshl 1 l2))))] [] (rd S) _
        refine g_run 1 49 [some (.ref 24), none, some (.int (zI l2)), some (.int (zI l3)), some (.int (zI l4)), some (.int (zI (zor l4 (zshl 1 l2))))] [.ref 24] (rd S) rfl ?_
        refine g_getf rfl rfl (rd_o24 _) rfl ?_
        show eG _ 97 52 [some (.ref 24), none, some (.int (zI l2)), some (.int (zI l3)), some (.int (zI l4)), some (.int (zI (zor l4 (zshl 1 l2))))] [.int (zI (zF S 24 13))] (rd S) _
        refine g_run 1 54 [some (.ref 24), none, some (.int (zI l2)), some (.int (zI l3)), some (.int (zI l4)), some (.int (zI (zor l4 (zshl 1 l2))))] [.int (zI (zor l4 (zshl 1 l2))), .int (zI (zF S 24 13))] (rd S) rfl ?_
        refine s_sta (fun z => some (.int (zI z))) (fun _ => rd S) rfl rfl rfl rfl rfl rfl rfl (fun z hz => sW_isAble o n S (zF S 24 13) (zor l4 (zshl 1 l2)) hz) rfl h (fun z1 h => ?_)
        show eG _ 97 57 [some (.ref 24), none, some (.int (zI l2)), some (.int (zI l3)), some (.int (zI l4)), some (.int (zI (zor l4 (zshl 1 l2))))] [.int (zI z1)] (rd S) _
        refine s_if_eq rfl h (fun h => ?_) (fun h => ?_)
        · show eG _ 97 84 [some (.ref 24), none, some (.int (zI l2)), some (.int (zI l3)), some (.int (zI l4)), some (.int (zI (zor l4 (zshl 1 l2))))] [] (rd S) _
          refine s_iinc (L' := [some (.ref 24), none, some (.int (zI l2)), some (.int (zI l3)), some (.int (zI (l4 + 1))), some (.int (zI (zor l4 (zshl 1 l2))))]) rfl rfl rfl ?_
          refine g_run 1 26 [some (.ref 24), none, some (.int (zI l2)), some (.int (zI l3)), some (.int (zI (l4 + 1))), some (.int (zI (zor l4 (zshl 1 l2))))] [] (rd S) rfl ?_
          refine g_fgt [false, true, false, false, false, true] ?_
          show eG _ 97 26 [some (.ref 24), none, some (.int (zI l2)), some (.int (zI l3)), some (.int (zI (l4 + 1))), none] [] (rd S) _
          exact ih S l2 l3 (l4 + 1) h hk
        · show eG _ 97 60 [some (.ref 24), none, some (.int (zI l2)), some (.int (zI l3)), some (.int (zI l4)), some (.int (zI (zor l4 (zshl 1 l2))))] [] (rd S) _
          refine g_run 1 61 [some (.ref 24), none, some (.int (zI l2)), some (.int (zI l3)), some (.int (zI l4)), some (.int (zI (zor l4 (zshl 1 l2))))] [.ref 24] (rd S) rfl ?_
          refine g_getf rfl rfl (rd_o24 _) rfl ?_
          show eG _ 97 64 [some (.ref 24), none, some (.int (zI l2)), some (.int (zI l3)), some (.int (zI l4)), some (.int (zI (zor l4 (zshl 1 l2))))] [.int (zI (zF S 24 13))] (rd S) _
          refine g_run 1 66 [some (.ref 24), none, some (.int (zI l2)), some (.int (zI l3)), some (.int (zI l4)), some (.int (zI (zor l4 (zshl 1 l2))))] [.int (zI l4), .int (zI (zF S 24 13))] (rd S) rfl ?_
          refine s_sta (fun z => some (.int (zI z))) (fun _ => rd S) rfl rfl rfl rfl rfl rfl rfl (fun z hz => sW_isAble o n S (zF S 24 13) l4 hz) rfl h (fun z2 h => ?_)
          show eG _ 97 69 [some (.ref 24), none, some (.int (zI l2)), some (.int (zI l3)), some (.int (zI l4)), some (.int (zI (zor l4 (zshl 1 l2))))] [.int (zI z2)] (rd S) _
          refine s_if_ne rfl h (fun h => ?_) (fun h => ?_)
          · show eG _ 97 84 [some (.ref 24), none, some (.int (zI l2)), some (.int (zI l3)), some (.int (zI l4)), some (.int (zI (zor l4 (zshl 1 l2))))] [] (rd S) _
            refine s_iinc (L' := [some (.ref 24), none, some (.int (zI l2)), some (.int (zI l3)), some (.int (zI (l4 + 1))), some (.int (zI (zor l4 (zshl 1 l2))))]) rfl rfl rfl ?_
            refine g_run 1 26 [some (.ref 24), none, some (.int (zI l2)), some (.int (zI l3)), some (.int (zI (l4 + 1))), some (.int (zI (zor l4 (zshl 1 l2))))] [] (rd S) rfl ?_
            refine g_fgt [false, true, false, false, false, true] ?_
            show eG _ 97 26 [some (.ref 24), none, some (.int (zI l2)), some (.int (zI l3)), some (.int (zI (l4 + 1))), none] [] (rd S) _
            exact ih S l2 l3 (l4 + 1) h hk
          · show eG _ 97 72 [some (.ref 24), none, some (.int (zI l2)), some (.int (zI l3)), some (.int (zI l4)), some (.int (zI (zor l4 (zshl 1 l2))))] [] (rd S) _
            refine g_run 3 78 [some (.ref 24), none, some (.int (zI l2)), some (.int (zI l3)), some (.int (zI l4)), some (.int (zI (zor l4 (zshl 1 l2))))] [.int (zI l4), .retAddr 1, .int (zI l3)] (rd S) rfl ?_
            refine s_sta (fun z => some (.int (zI z))) (fun _ => rd S) rfl rfl rfl rfl rfl rfl rfl (fun z hz => sI_bitCount o n S l4 hz) rfl h (fun z3 h => ?_)
            show eG _ 97 81 [some (.ref 24), none, some (.int (zI l2)), some (.int (zI l3)), some (.int (zI l4)), some (.int (zI (zor l4 (zshl 1 l2))))] [.int (zI z3), .retAddr 1, .int (zI l3)] (rd S) _
            refine s_obld rfl h (fun h => ?_)
            refine s_iadd rfl ?_
            refine g_run 1 84 [some (.ref 24), none, some (.int (zI l2)), some (.int (zI (l3 + (zob z3)))), some (.int (zI l4)), some (.int (zI (zor l4 (zshl 1 l2))))] [] (rd S) rfl ?_
            refine s_iinc (L' := [some (.ref 24), none, some (.int (zI l2)), some (.int (zI (l3 + (zob z3)))), some (.int (zI (l4 + 1))), some (.int (zI (zor l4 (zshl 1 l2))))]) rfl rfl rfl ?_
            refine g_run 1 26 [some (.ref 24), none, some (.int (zI l2)), some (.int (zI (l3 + (zob z3)))), some (.int (zI (l4 + 1))), some (.int (zI (zor l4 (zshl 1 l2))))] [] (rd S) rfl ?_
            refine g_fgt [false, true, false, false, false, true] ?_
            show eG _ 97 26 [some (.ref 24), none, some (.int (zI l2)), some (.int (zI (l3 + (zob z3)))), some (.int (zI (l4 + 1))), none] [] (rd S) _
            exact ih S l2 (l3 + (zob z3)) (l4 + 1) h hk
def fW_turningOrders (n : Nat) (S : ZS) (l2 : Int) : Option (Int × ZS) := (gC (zF S 24 16) 0 (if (zF S 24 16) = 0 then (fW_ableCompanies n S).bind fun z3 => gB 1 (some (wF (wF z3.2 24 13 z3.1) 24 16 1)) else some S)).bind fun z1 => (fW_turningOrders_1 n z1 l2 0 0).bind fun z2 => some (z2, z1)
set_option maxRecDepth 100000 in
set_option maxHeartbeats 4000000 in
theorem sW_turningOrders (o : eO) (n : Nat) (S : ZS) (l2 : Int) {w : Int × ZS} (h : fW_turningOrders n S l2 = some w) : eG o 97 0 (eEnt 97 [.ref 24, .ref 1, .int (zI l2)]) [] (rd S) (rv (some (.int (zI w.1))) (rd w.2)) := by
  unfold fW_turningOrders at h
  show eG o 97 0 [some (.ref 24), some (.ref 1), some (.int (zI l2)), none, none, none] [] (rd S) _
  refine g_run 1 1 [some (.ref 24), some (.ref 1), some (.int (zI l2)), none, none, none] [.ref 24] (rd S) rfl ?_
  refine g_getf rfl rfl (rd_o24 _) rfl ?_
  show eG _ 97 4 [some (.ref 24), some (.ref 1), some (.int (zI l2)), none, none, none] [.int (zI (zF S 24 16))] (rd S) _
  refine s_join (α := ZS) (fun z => eG o 97 21 [some (.ref 24), none, some (.int (zI l2)), none, none, none] [] (rd z) (rv (some (.int (zI w.1))) (rd w.2))) h (fun z1 h => ?_) (fun z1 h j => ?_)
  · show eG _ 97 21 [some (.ref 24), none, some (.int (zI l2)), none, none, none] [] (rd z1) _
    refine g_run 4 26 [some (.ref 24), none, some (.int (zI l2)), some (.int (zI 0)), some (.int (zI 0)), none] [] (rd z1) rfl ?_
    obtain ⟨z2, h1, h⟩ := zB_inv h
    refine sW_turningOrders_1 o n z1 l2 0 0 h1 ?_
    show eG _ 97 90 [none, none, none, some (.int (zI z2)), none, none] [] (rd z1) _
    refine g_run 1 91 [none, none, none, some (.int (zI z2)), none, none] [.int (zI z2)] (rd z1) rfl ?_
    cases h
    exact s_ret rfl rfl rfl
  · skip
    refine s_if_ne rfl h (fun h => ?_) (fun h => ?_)
    · show eG _ 97 21 [some (.ref 24), some (.ref 1), some (.int (zI l2)), none, none, none] [] (rd S) _
      refine g_fgt [false, true, false, true, true, true] ?_
      show eG _ 97 21 [some (.ref 24), none, some (.int (zI l2)), none, none, none] [] (rd S) _
      cases h
      exact j
    · show eG _ 97 7 [some (.ref 24), some (.ref 1), some (.int (zI l2)), none, none, none] [] (rd S) _
      refine g_run 3 10 [some (.ref 24), some (.ref 1), some (.int (zI l2)), none, none, none] [.ref 1, .ref 24, .ref 24] (rd S) rfl ?_
      refine s_vir (fun z => some (.int (zI z.1))) (fun z => rd z.2) rfl rfl rfl (rd_o24 _) rfl rfl (fun z hz => sW_ableCompanies o n S hz) rfl h (fun z3 h => ?_)
      show eG _ 97 13 [some (.ref 24), some (.ref 1), some (.int (zI l2)), none, none, none] [.int (zI z3.1), .ref 24] (rd z3.2) _
      refine s_putf rfl rfl (rd_o24 _) rfl rfl rfl rfl rfl (rw_o24_13 _ _) ?_
      show eG _ 97 16 [some (.ref 24), some (.ref 1), some (.int (zI l2)), none, none, none] [] (rd (wF z3.2 24 13 z3.1)) _
      refine g_run 2 18 [some (.ref 24), some (.ref 1), some (.int (zI l2)), none, none, none] [.int (zI 1), .ref 24] (rd (wF z3.2 24 13 z3.1)) rfl ?_
      refine s_putb rfl rfl (rd_o24 _) rfl rfl rfl rfl (rw_o24_16 _ _) h (fun h => ?_)
      show eG _ 97 21 [some (.ref 24), some (.ref 1), some (.int (zI l2)), none, none, none] [] (rd (wF (wF z3.2 24 13 z3.1) 24 16 1)) _
      refine g_fgt [false, true, false, true, true, true] ?_
      show eG _ 97 21 [some (.ref 24), none, some (.int (zI l2)), none, none, none] [] (rd (wF (wF z3.2 24 13 z3.1) 24 16 1)) _
      cases h
      exact j
def fW_sharedDivisor_1 : Nat → ZS → Int → Int → Option ((Int) ⊕ (Unit))
  | 0, _, _, _ => none
  | n + 1, S, l0, l1 => gC l1 1 (if 1 < l1 then gV l0 l1 (gC (l0.tmod l1) 0 (if (l0.tmod l1) = 0 then gV 24 l1 (gC ((24 : Int).tmod l1) 0 (if ((24 : Int).tmod l1) = 0 then some (.inl l1) else fW_sharedDivisor_1 n S l0 (l1 + (-1)))) else fW_sharedDivisor_1 n S l0 (l1 + (-1)))) else some (.inr ()))
set_option maxRecDepth 100000 in
set_option maxHeartbeats 4000000 in
theorem sW_sharedDivisor_1 (o : eO) : ∀ (n : Nat) (S : ZS) (l0 l1 : Int) {w : (Int) ⊕ (Unit)} {r : eP} (h : fW_sharedDivisor_1 n S l0 l1 = some w) (hr : ∀ v, w = .inl v → r (some (.int (zI v)), rd S)) (hk : ∀ x, w = .inr x → eG o 103 29 [none, none] [] (rd S) r), eG o 103 3 [some (.int (zI l0)), some (.int (zI l1))] [] (rd S) r := by
  intro n
  induction n with
  | zero => intro S l0 l1 w r h hr hk; unfold fW_sharedDivisor_1 at h; cases h
  | succ n ih =>
    intro S l0 l1 w r h hr hk
    unfold fW_sharedDivisor_1 at h
    refine g_run 2 5 [some (.int (zI l0)), some (.int (zI l1))] [.int (zI 1), .int (zI l1)] (rd S) rfl ?_
    refine s_icmp_le rfl h (fun h => ?_) (fun h => ?_)
    · show eG _ 103 29 [some (.int (zI l0)), some (.int (zI l1))] [] (rd S) _
      refine g_fgt [true, true] ?_
      show eG _ 103 29 [none, none] [] (rd S) _
      cases h
      exact hk _ rfl
    · show eG _ 103 8 [some (.int (zI l0)), some (.int (zI l1))] [] (rd S) _
      refine g_run 2 10 [some (.int (zI l0)), some (.int (zI l1))] [.int (zI l1), .int (zI l0)] (rd S) rfl ?_
      refine s_irem rfl h (fun h => ?_)
      refine s_if_ne rfl h (fun h => ?_) (fun h => ?_)
      · show eG _ 103 23 [some (.int (zI l0)), some (.int (zI l1))] [] (rd S) _
        refine s_iinc (L' := [some (.int (zI l0)), some (.int (zI (l1 + (-1))))]) rfl rfl rfl ?_
        refine g_run 1 3 [some (.int (zI l0)), some (.int (zI (l1 + (-1))))] [] (rd S) rfl ?_
        exact ih S l0 (l1 + (-1)) h hr hk
      · show eG _ 103 14 [some (.int (zI l0)), some (.int (zI l1))] [] (rd S) _
        refine g_run 2 17 [some (.int (zI l0)), some (.int (zI l1))] [.int (zI l1), .int (zI 24)] (rd S) rfl ?_
        refine s_irem rfl h (fun h => ?_)
        refine s_if_ne rfl h (fun h => ?_) (fun h => ?_)
        · show eG _ 103 23 [some (.int (zI l0)), some (.int (zI l1))] [] (rd S) _
          refine s_iinc (L' := [some (.int (zI l0)), some (.int (zI (l1 + (-1))))]) rfl rfl rfl ?_
          refine g_run 1 3 [some (.int (zI l0)), some (.int (zI (l1 + (-1))))] [] (rd S) rfl ?_
          exact ih S l0 (l1 + (-1)) h hr hk
        · show eG _ 103 21 [some (.int (zI l0)), some (.int (zI l1))] [] (rd S) _
          refine g_run 1 22 [some (.int (zI l0)), some (.int (zI l1))] [.int (zI l1)] (rd S) rfl ?_
          cases h
          exact s_ret rfl rfl (hr _ rfl)
def fW_sharedDivisor (n : Nat) (S : ZS) (l0 : Int) : Option (Int) := zR (fW_sharedDivisor_1 n S l0 24) fun z1 => some 1
set_option maxRecDepth 100000 in
set_option maxHeartbeats 4000000 in
theorem sW_sharedDivisor (o : eO) (n : Nat) (S : ZS) (l0 : Int) {w : Int} (h : fW_sharedDivisor n S l0 = some w) : eG o 103 0 (eEnt 103 [.int (zI l0)]) [] (rd S) (rv (some (.int (zI w))) (rd S)) := by
  unfold fW_sharedDivisor at h
  show eG o 103 0 [some (.int (zI l0)), none] [] (rd S) _
  refine g_run 2 3 [some (.int (zI l0)), some (.int (zI 24))] [] (rd S) rfl ?_
  rcases zR_inv h with h1 | ⟨z1, h1, h⟩
  · exact sW_sharedDivisor_1 o n S l0 24 h1 (fun v e => by cases e; rfl) (fun x e => by cases e)
  refine sW_sharedDivisor_1 o n S l0 24 h1 (fun v e => by cases e) (fun x e => ?_)
  cases e
  show eG _ 103 29 [none, none] [] (rd S) _
  refine g_run 1 30 [none, none] [.int (zI 1)] (rd S) rfl ?_
  cases h
  exact s_ret rfl rfl rfl
def fD_worth (n : Nat) (S : ZS) (l1 l2 : Int) : Option (Int × ZS) := (fT_isOwner n S l1).bind fun z1 => gC z1 0 (if z1 = 0 then some (-1, S) else gC l2 0 (if l2 < 0 then some (-1, S) else gC l2 1 (if 1 < l2 then some (-1, S) else (fW_turningOrders n S l1).bind fun z2 => (fW_sharedDivisor n z2.2 z2.1).bind fun z3 => (gC l2 0 (if l2 = 0 then some z2.1 else some 24)).bind fun z4 => gC 1 z3 (gV z4 (max 1 z3) (some (z4.tdiv (max 1 z3), z2.2))))))
set_option maxRecDepth 100000 in
set_option maxHeartbeats 4000000 in
theorem sD_worth (o : eO) (n : Nat) (S : ZS) (l1 l2 : Int) {w : Int × ZS} (h : fD_worth n S l1 l2 = some w) : eG o 96 0 (eEnt 96 [.ref 0, .int (zI l1), .int (zI l2)]) [] (rd S) (rv (some (.int (zI w.1))) (rd w.2)) := by
  unfold fD_worth at h
  show eG o 96 0 [some (.ref 0), some (.int (zI l1)), some (.int (zI l2)), none, none] [] (rd S) _
  refine g_run 1 1 [some (.ref 0), some (.int (zI l1)), some (.int (zI l2)), none, none] [.int (zI l1)] (rd S) rfl ?_
  refine s_sta (fun z => some (.int (zI z))) (fun _ => rd S) rfl rfl rfl rfl rfl rfl rfl (fun z hz => sT_isOwner o n S l1 hz) rfl h (fun z1 h => ?_)
  show eG _ 96 4 [some (.ref 0), some (.int (zI l1)), some (.int (zI l2)), none, none] [.int (zI z1)] (rd S) _
  refine s_if_eq rfl h (fun h => ?_) (fun h => ?_)
  · show eG _ 96 16 [some (.ref 0), some (.int (zI l1)), some (.int (zI l2)), none, none] [] (rd S) _
    refine g_run 1 17 [some (.ref 0), some (.int (zI l1)), some (.int (zI l2)), none, none] [.int (zI (-1))] (rd S) rfl ?_
    cases h
    exact s_ret rfl rfl rfl
  · show eG _ 96 7 [some (.ref 0), some (.int (zI l1)), some (.int (zI l2)), none, none] [] (rd S) _
    refine g_run 1 8 [some (.ref 0), some (.int (zI l1)), some (.int (zI l2)), none, none] [.int (zI l2)] (rd S) rfl ?_
    refine s_if_lt rfl h (fun h => ?_) (fun h => ?_)
    · show eG _ 96 16 [some (.ref 0), some (.int (zI l1)), some (.int (zI l2)), none, none] [] (rd S) _
      refine g_run 1 17 [some (.ref 0), some (.int (zI l1)), some (.int (zI l2)), none, none] [.int (zI (-1))] (rd S) rfl ?_
      cases h
      exact s_ret rfl rfl rfl
    · show eG _ 96 11 [some (.ref 0), some (.int (zI l1)), some (.int (zI l2)), none, none] [] (rd S) _
      refine g_run 2 13 [some (.ref 0), some (.int (zI l1)), some (.int (zI l2)), none, none] [.int (zI 1), .int (zI l2)] (rd S) rfl ?_
      refine s_icmp_le rfl h (fun h => ?_) (fun h => ?_)
      · show eG _ 96 18 [some (.ref 0), some (.int (zI l1)), some (.int (zI l2)), none, none] [] (rd S) _
        refine g_run 1 19 [some (.ref 0), some (.int (zI l1)), some (.int (zI l2)), none, none] [.ref 0] (rd S) rfl ?_
        refine g_getf rfl rfl (rd_o0 _) rfl ?_
        show eG _ 96 22 [some (.ref 0), some (.int (zI l1)), some (.int (zI l2)), none, none] [.ref 24] (rd S) _
        refine g_run 1 23 [some (.ref 0), some (.int (zI l1)), some (.int (zI l2)), none, none] [.ref 0, .ref 24] (rd S) rfl ?_
        refine g_getf rfl rfl (rd_o0 _) rfl ?_
        show eG _ 96 26 [some (.ref 0), some (.int (zI l1)), some (.int (zI l2)), none, none] [.ref 1, .ref 24] (rd S) _
        refine g_run 1 27 [some (.ref 0), some (.int (zI l1)), some (.int (zI l2)), none, none] [.int (zI l1), .ref 1, .ref 24] (rd S) rfl ?_
        refine s_vir (fun z => some (.int (zI z.1))) (fun z => rd z.2) rfl rfl rfl (rd_o24 _) rfl rfl (fun z hz => sW_turningOrders o n S l1 hz) rfl h (fun z2 h => ?_)
        show eG _ 96 30 [some (.ref 0), some (.int (zI l1)), some (.int (zI l2)), none, none] [.int (zI z2.1)] (rd z2.2) _
        refine g_run 2 32 [some (.ref 0), some (.int (zI l1)), some (.int (zI l2)), some (.int (zI z2.1)), none] [.int (zI z2.1)] (rd z2.2) rfl ?_
        refine s_sta (fun z => some (.int (zI z))) (fun _ => rd z2.2) rfl rfl rfl rfl rfl rfl rfl (fun z hz => sW_sharedDivisor o n z2.2 z2.1 hz) rfl h (fun z3 h => ?_)
        show eG _ 96 35 [some (.ref 0), some (.int (zI l1)), some (.int (zI l2)), some (.int (zI z2.1)), none] [.int (zI z3)] (rd z2.2) _
        refine g_run 2 38 [some (.ref 0), some (.int (zI l1)), some (.int (zI l2)), some (.int (zI z2.1)), some (.int (zI z3))] [.int (zI l2)] (rd z2.2) rfl ?_
        refine s_join (α := Int) (fun z => eG o 96 47 [none, none, none, none, some (.int (zI z3))] [.int (zI z)] (rd z2.2) (rv (some (.int (zI w.1))) (rd w.2))) h (fun z4 h => ?_) (fun z4 h j => ?_)
        · show eG _ 96 47 [none, none, none, none, some (.int (zI z3))] [.int (zI z4)] (rd z2.2) _
          refine g_run 2 50 [none, none, none, none, some (.int (zI z3))] [.int (zI z3), .int (zI 1), .int (zI z4)] (rd z2.2) rfl ?_
          refine s_max rfl rfl rfl rfl h (fun h => ?_)
          refine s_idiv rfl h (fun h => ?_)
          cases h
          exact s_ret rfl rfl rfl
        · skip
          refine s_if_ne rfl h (fun h => ?_) (fun h => ?_)
          · show eG _ 96 45 [some (.ref 0), some (.int (zI l1)), some (.int (zI l2)), some (.int (zI z2.1)), some (.int (zI z3))] [] (rd z2.2) _
            refine g_run 1 47 [some (.ref 0), some (.int (zI l1)), some (.int (zI l2)), some (.int (zI z2.1)), some (.int (zI z3))] [.int (zI 24)] (rd z2.2) rfl ?_
            refine g_fgt [true, true, true, true, false] ?_
            show eG _ 96 47 [none, none, none, none, some (.int (zI z3))] [.int (zI 24)] (rd z2.2) _
            cases h
            exact j
          · show eG _ 96 41 [some (.ref 0), some (.int (zI l1)), some (.int (zI l2)), some (.int (zI z2.1)), some (.int (zI z3))] [] (rd z2.2) _
            refine g_run 2 47 [some (.ref 0), some (.int (zI l1)), some (.int (zI l2)), some (.int (zI z2.1)), some (.int (zI z3))] [.int (zI z2.1)] (rd z2.2) rfl ?_
            refine g_fgt [true, true, true, true, false] ?_
            show eG _ 96 47 [none, none, none, none, some (.int (zI z3))] [.int (zI z2.1)] (rd z2.2) _
            cases h
            exact j
      · show eG _ 96 16 [some (.ref 0), some (.int (zI l1)), some (.int (zI l2)), none, none] [] (rd S) _
        refine g_run 1 17 [some (.ref 0), some (.int (zI l1)), some (.int (zI l2)), none, none] [.int (zI (-1))] (rd S) rfl ?_
        cases h
        exact s_ret rfl rfl rfl
def fT_takeOver_8_1 (n : Nat) (S : ZS) : Option (ZS) := gY 0 0 8 8 8 (gY 0 0 8 8 8 (gY 0 0 8 8 8 (gY 0 0 8 8 8 (gY 0 0 8 8 8 (gY 0 0 4 4 4 (some (wF (wF (wF (wF (wF (wF (wR (wR (wR (wR (wR (wR S 9 (zc (S.1 2) (S.1 9) 0 0 8)) 10 (zc (S.1 3) (S.1 10) 0 0 8)) 11 (zc (S.1 4) (S.1 11) 0 0 8)) 12 (zc (S.1 5) (S.1 12) 0 0 8)) 13 (zc (S.1 6) (S.1 13) 0 0 8)) 14 (zc (S.1 7) (S.1 14) 0 0 4)) 8 6 (zF S 1 6)) 8 7 (zF S 1 7)) 8 8 (zF S 1 8)) 8 9 (zF S 1 9)) 8 10 (zF S 1 10)) 8 11 (zF S 1 11))))))))
set_option maxRecDepth 100000 in
set_option maxHeartbeats 4000000 in
theorem sT_takeOver_8_1 (o : eO) (n : Nat) (S : ZS) {w : ZS} (h : fT_takeOver_8_1 n S = some w) : eG o 31 0 (eEnt 31 [.ref 8, .ref 1]) [] (rd S) (rv (none) (rd w)) := by
  unfold fT_takeOver_8_1 at h
  show eG o 31 0 [some (.ref 8), some (.ref 1)] [] (rd S) _
  refine g_run 1 1 [some (.ref 8), some (.ref 1)] [.ref 1] (rd S) rfl ?_
  refine g_getf rfl rfl (rd_o1 _) rfl ?_
  show eG _ 31 4 [some (.ref 8), some (.ref 1)] [.ref 2] (rd S) _
  refine g_run 2 6 [some (.ref 8), some (.ref 1)] [.ref 8, .int (zI 0), .ref 2] (rd S) rfl ?_
  refine g_getf rfl rfl (rd_o8 _) rfl ?_
  show eG _ 31 9 [some (.ref 8), some (.ref 1)] [.ref 9, .int (zI 0), .ref 2] (rd S) _
  refine g_run 2 12 [some (.ref 8), some (.ref 1)] [.int (zI 8), .int (zI 0), .ref 9, .int (zI 0), .ref 2] (rd S) rfl ?_
  refine s_cpy rfl rfl (rd_a2 _) (rd_a9 _) rfl (rw_a9 _ _) h (fun h => ?_)
  show eG _ 31 15 [some (.ref 8), some (.ref 1)] [] (rd (wR S 9 (zc (S.1 2) (S.1 9) 0 0 8))) _
  refine g_run 1 16 [some (.ref 8), some (.ref 1)] [.ref 1] (rd (wR S 9 (zc (S.1 2) (S.1 9) 0 0 8))) rfl ?_
  refine g_getf rfl rfl (rd_o1 _) rfl ?_
  show eG _ 31 19 [some (.ref 8), some (.ref 1)] [.ref 3] (rd (wR S 9 (zc (S.1 2) (S.1 9) 0 0 8))) _
  refine g_run 2 21 [some (.ref 8), some (.ref 1)] [.ref 8, .int (zI 0), .ref 3] (rd (wR S 9 (zc (S.1 2) (S.1 9) 0 0 8))) rfl ?_
  refine g_getf rfl rfl (rd_o8 _) rfl ?_
  show eG _ 31 24 [some (.ref 8), some (.ref 1)] [.ref 10, .int (zI 0), .ref 3] (rd (wR S 9 (zc (S.1 2) (S.1 9) 0 0 8))) _
  refine g_run 2 27 [some (.ref 8), some (.ref 1)] [.int (zI 8), .int (zI 0), .ref 10, .int (zI 0), .ref 3] (rd (wR S 9 (zc (S.1 2) (S.1 9) 0 0 8))) rfl ?_
  refine s_cpy rfl rfl (rd_a3 _) (rd_a10 _) rfl (rw_a10 _ _) h (fun h => ?_)
  show eG _ 31 30 [some (.ref 8), some (.ref 1)] [] (rd (wR (wR S 9 (zc (S.1 2) (S.1 9) 0 0 8)) 10 (zc (S.1 3) (S.1 10) 0 0 8))) _
  refine g_run 1 31 [some (.ref 8), some (.ref 1)] [.ref 1] (rd (wR (wR S 9 (zc (S.1 2) (S.1 9) 0 0 8)) 10 (zc (S.1 3) (S.1 10) 0 0 8))) rfl ?_
  refine g_getf rfl rfl (rd_o1 _) rfl ?_
  show eG _ 31 34 [some (.ref 8), some (.ref 1)] [.ref 4] (rd (wR (wR S 9 (zc (S.1 2) (S.1 9) 0 0 8)) 10 (zc (S.1 3) (S.1 10) 0 0 8))) _
  refine g_run 2 36 [some (.ref 8), some (.ref 1)] [.ref 8, .int (zI 0), .ref 4] (rd (wR (wR S 9 (zc (S.1 2) (S.1 9) 0 0 8)) 10 (zc (S.1 3) (S.1 10) 0 0 8))) rfl ?_
  refine g_getf rfl rfl (rd_o8 _) rfl ?_
  show eG _ 31 39 [some (.ref 8), some (.ref 1)] [.ref 11, .int (zI 0), .ref 4] (rd (wR (wR S 9 (zc (S.1 2) (S.1 9) 0 0 8)) 10 (zc (S.1 3) (S.1 10) 0 0 8))) _
  refine g_run 2 42 [some (.ref 8), some (.ref 1)] [.int (zI 8), .int (zI 0), .ref 11, .int (zI 0), .ref 4] (rd (wR (wR S 9 (zc (S.1 2) (S.1 9) 0 0 8)) 10 (zc (S.1 3) (S.1 10) 0 0 8))) rfl ?_
  refine s_cpy rfl rfl (rd_a4 _) (rd_a11 _) rfl (rw_a11 _ _) h (fun h => ?_)
  show eG _ 31 45 [some (.ref 8), some (.ref 1)] [] (rd (wR (wR (wR S 9 (zc (S.1 2) (S.1 9) 0 0 8)) 10 (zc (S.1 3) (S.1 10) 0 0 8)) 11 (zc (S.1 4) (S.1 11) 0 0 8))) _
  refine g_run 1 46 [some (.ref 8), some (.ref 1)] [.ref 1] (rd (wR (wR (wR S 9 (zc (S.1 2) (S.1 9) 0 0 8)) 10 (zc (S.1 3) (S.1 10) 0 0 8)) 11 (zc (S.1 4) (S.1 11) 0 0 8))) rfl ?_
  refine g_getf rfl rfl (rd_o1 _) rfl ?_
  show eG _ 31 49 [some (.ref 8), some (.ref 1)] [.ref 5] (rd (wR (wR (wR S 9 (zc (S.1 2) (S.1 9) 0 0 8)) 10 (zc (S.1 3) (S.1 10) 0 0 8)) 11 (zc (S.1 4) (S.1 11) 0 0 8))) _
  refine g_run 2 51 [some (.ref 8), some (.ref 1)] [.ref 8, .int (zI 0), .ref 5] (rd (wR (wR (wR S 9 (zc (S.1 2) (S.1 9) 0 0 8)) 10 (zc (S.1 3) (S.1 10) 0 0 8)) 11 (zc (S.1 4) (S.1 11) 0 0 8))) rfl ?_
  refine g_getf rfl rfl (rd_o8 _) rfl ?_
  show eG _ 31 54 [some (.ref 8), some (.ref 1)] [.ref 12, .int (zI 0), .ref 5] (rd (wR (wR (wR S 9 (zc (S.1 2) (S.1 9) 0 0 8)) 10 (zc (S.1 3) (S.1 10) 0 0 8)) 11 (zc (S.1 4) (S.1 11) 0 0 8))) _
  refine g_run 2 57 [some (.ref 8), some (.ref 1)] [.int (zI 8), .int (zI 0), .ref 12, .int (zI 0), .ref 5] (rd (wR (wR (wR S 9 (zc (S.1 2) (S.1 9) 0 0 8)) 10 (zc (S.1 3) (S.1 10) 0 0 8)) 11 (zc (S.1 4) (S.1 11) 0 0 8))) rfl ?_
  refine s_cpy rfl rfl (rd_a5 _) (rd_a12 _) rfl (rw_a12 _ _) h (fun h => ?_)
  show eG _ 31 60 [some (.ref 8), some (.ref 1)] [] (rd (wR (wR (wR (wR S 9 (zc (S.1 2) (S.1 9) 0 0 8)) 10 (zc (S.1 3) (S.1 10) 0 0 8)) 11 (zc (S.1 4) (S.1 11) 0 0 8)) 12 (zc (S.1 5) (S.1 12) 0 0 8))) _
  refine g_run 1 61 [some (.ref 8), some (.ref 1)] [.ref 1] (rd (wR (wR (wR (wR S 9 (zc (S.1 2) (S.1 9) 0 0 8)) 10 (zc (S.1 3) (S.1 10) 0 0 8)) 11 (zc (S.1 4) (S.1 11) 0 0 8)) 12 (zc (S.1 5) (S.1 12) 0 0 8))) rfl ?_
  refine g_getf rfl rfl (rd_o1 _) rfl ?_
  show eG _ 31 64 [some (.ref 8), some (.ref 1)] [.ref 6] (rd (wR (wR (wR (wR S 9 (zc (S.1 2) (S.1 9) 0 0 8)) 10 (zc (S.1 3) (S.1 10) 0 0 8)) 11 (zc (S.1 4) (S.1 11) 0 0 8)) 12 (zc (S.1 5) (S.1 12) 0 0 8))) _
  refine g_run 2 66 [some (.ref 8), some (.ref 1)] [.ref 8, .int (zI 0), .ref 6] (rd (wR (wR (wR (wR S 9 (zc (S.1 2) (S.1 9) 0 0 8)) 10 (zc (S.1 3) (S.1 10) 0 0 8)) 11 (zc (S.1 4) (S.1 11) 0 0 8)) 12 (zc (S.1 5) (S.1 12) 0 0 8))) rfl ?_
  refine g_getf rfl rfl (rd_o8 _) rfl ?_
  show eG _ 31 69 [some (.ref 8), some (.ref 1)] [.ref 13, .int (zI 0), .ref 6] (rd (wR (wR (wR (wR S 9 (zc (S.1 2) (S.1 9) 0 0 8)) 10 (zc (S.1 3) (S.1 10) 0 0 8)) 11 (zc (S.1 4) (S.1 11) 0 0 8)) 12 (zc (S.1 5) (S.1 12) 0 0 8))) _
  refine g_run 2 72 [some (.ref 8), some (.ref 1)] [.int (zI 8), .int (zI 0), .ref 13, .int (zI 0), .ref 6] (rd (wR (wR (wR (wR S 9 (zc (S.1 2) (S.1 9) 0 0 8)) 10 (zc (S.1 3) (S.1 10) 0 0 8)) 11 (zc (S.1 4) (S.1 11) 0 0 8)) 12 (zc (S.1 5) (S.1 12) 0 0 8))) rfl ?_
  refine s_cpy rfl rfl (rd_a6 _) (rd_a13 _) rfl (rw_a13 _ _) h (fun h => ?_)
  show eG _ 31 75 [some (.ref 8), some (.ref 1)] [] (rd (wR (wR (wR (wR (wR S 9 (zc (S.1 2) (S.1 9) 0 0 8)) 10 (zc (S.1 3) (S.1 10) 0 0 8)) 11 (zc (S.1 4) (S.1 11) 0 0 8)) 12 (zc (S.1 5) (S.1 12) 0 0 8)) 13 (zc (S.1 6) (S.1 13) 0 0 8))) _
  refine g_run 1 76 [some (.ref 8), some (.ref 1)] [.ref 1] (rd (wR (wR (wR (wR (wR S 9 (zc (S.1 2) (S.1 9) 0 0 8)) 10 (zc (S.1 3) (S.1 10) 0 0 8)) 11 (zc (S.1 4) (S.1 11) 0 0 8)) 12 (zc (S.1 5) (S.1 12) 0 0 8)) 13 (zc (S.1 6) (S.1 13) 0 0 8))) rfl ?_
  refine g_getf rfl rfl (rd_o1 _) rfl ?_
  show eG _ 31 79 [some (.ref 8), some (.ref 1)] [.ref 7] (rd (wR (wR (wR (wR (wR S 9 (zc (S.1 2) (S.1 9) 0 0 8)) 10 (zc (S.1 3) (S.1 10) 0 0 8)) 11 (zc (S.1 4) (S.1 11) 0 0 8)) 12 (zc (S.1 5) (S.1 12) 0 0 8)) 13 (zc (S.1 6) (S.1 13) 0 0 8))) _
  refine g_run 2 81 [some (.ref 8), some (.ref 1)] [.ref 8, .int (zI 0), .ref 7] (rd (wR (wR (wR (wR (wR S 9 (zc (S.1 2) (S.1 9) 0 0 8)) 10 (zc (S.1 3) (S.1 10) 0 0 8)) 11 (zc (S.1 4) (S.1 11) 0 0 8)) 12 (zc (S.1 5) (S.1 12) 0 0 8)) 13 (zc (S.1 6) (S.1 13) 0 0 8))) rfl ?_
  refine g_getf rfl rfl (rd_o8 _) rfl ?_
  show eG _ 31 84 [some (.ref 8), some (.ref 1)] [.ref 14, .int (zI 0), .ref 7] (rd (wR (wR (wR (wR (wR S 9 (zc (S.1 2) (S.1 9) 0 0 8)) 10 (zc (S.1 3) (S.1 10) 0 0 8)) 11 (zc (S.1 4) (S.1 11) 0 0 8)) 12 (zc (S.1 5) (S.1 12) 0 0 8)) 13 (zc (S.1 6) (S.1 13) 0 0 8))) _
  refine g_run 2 86 [some (.ref 8), some (.ref 1)] [.int (zI 4), .int (zI 0), .ref 14, .int (zI 0), .ref 7] (rd (wR (wR (wR (wR (wR S 9 (zc (S.1 2) (S.1 9) 0 0 8)) 10 (zc (S.1 3) (S.1 10) 0 0 8)) 11 (zc (S.1 4) (S.1 11) 0 0 8)) 12 (zc (S.1 5) (S.1 12) 0 0 8)) 13 (zc (S.1 6) (S.1 13) 0 0 8))) rfl ?_
  refine s_cpy rfl rfl (rd_a7 _) (rd_a14 _) rfl (rw_a14 _ _) h (fun h => ?_)
  show eG _ 31 89 [some (.ref 8), some (.ref 1)] [] (rd (wR (wR (wR (wR (wR (wR S 9 (zc (S.1 2) (S.1 9) 0 0 8)) 10 (zc (S.1 3) (S.1 10) 0 0 8)) 11 (zc (S.1 4) (S.1 11) 0 0 8)) 12 (zc (S.1 5) (S.1 12) 0 0 8)) 13 (zc (S.1 6) (S.1 13) 0 0 8)) 14 (zc (S.1 7) (S.1 14) 0 0 4))) _
  refine g_run 2 91 [some (.ref 8), some (.ref 1)] [.ref 1, .ref 8] (rd (wR (wR (wR (wR (wR (wR S 9 (zc (S.1 2) (S.1 9) 0 0 8)) 10 (zc (S.1 3) (S.1 10) 0 0 8)) 11 (zc (S.1 4) (S.1 11) 0 0 8)) 12 (zc (S.1 5) (S.1 12) 0 0 8)) 13 (zc (S.1 6) (S.1 13) 0 0 8)) 14 (zc (S.1 7) (S.1 14) 0 0 4))) rfl ?_
  refine g_getf rfl rfl (rd_o1 _) rfl ?_
  show eG _ 31 94 [some (.ref 8), some (.ref 1)] [.int (zI (zF S 1 6)), .ref 8] (rd (wR (wR (wR (wR (wR (wR S 9 (zc (S.1 2) (S.1 9) 0 0 8)) 10 (zc (S.1 3) (S.1 10) 0 0 8)) 11 (zc (S.1 4) (S.1 11) 0 0 8)) 12 (zc (S.1 5) (S.1 12) 0 0 8)) 13 (zc (S.1 6) (S.1 13) 0 0 8)) 14 (zc (S.1 7) (S.1 14) 0 0 4))) _
  refine s_putf rfl rfl (rd_o8 _) rfl rfl rfl rfl rfl (rw_o8_6 _ _) ?_
  show eG _ 31 97 [some (.ref 8), some (.ref 1)] [] (rd (wF (wR (wR (wR (wR (wR (wR S 9 (zc (S.1 2) (S.1 9) 0 0 8)) 10 (zc (S.1 3) (S.1 10) 0 0 8)) 11 (zc (S.1 4) (S.1 11) 0 0 8)) 12 (zc (S.1 5) (S.1 12) 0 0 8)) 13 (zc (S.1 6) (S.1 13) 0 0 8)) 14 (zc (S.1 7) (S.1 14) 0 0 4)) 8 6 (zF S 1 6))) _
  refine g_run 2 99 [some (.ref 8), some (.ref 1)] [.ref 1, .ref 8] (rd (wF (wR (wR (wR (wR (wR (wR S 9 (zc (S.1 2) (S.1 9) 0 0 8)) 10 (zc (S.1 3) (S.1 10) 0 0 8)) 11 (zc (S.1 4) (S.1 11) 0 0 8)) 12 (zc (S.1 5) (S.1 12) 0 0 8)) 13 (zc (S.1 6) (S.1 13) 0 0 8)) 14 (zc (S.1 7) (S.1 14) 0 0 4)) 8 6 (zF S 1 6))) rfl ?_
  refine g_getf rfl rfl (rd_o1 _) rfl ?_
  show eG _ 31 102 [some (.ref 8), some (.ref 1)] [.int (zI (zF S 1 7)), .ref 8] (rd (wF (wR (wR (wR (wR (wR (wR S 9 (zc (S.1 2) (S.1 9) 0 0 8)) 10 (zc (S.1 3) (S.1 10) 0 0 8)) 11 (zc (S.1 4) (S.1 11) 0 0 8)) 12 (zc (S.1 5) (S.1 12) 0 0 8)) 13 (zc (S.1 6) (S.1 13) 0 0 8)) 14 (zc (S.1 7) (S.1 14) 0 0 4)) 8 6 (zF S 1 6))) _
  refine s_putf rfl rfl (rd_o8 _) rfl rfl rfl rfl rfl (rw_o8_7 _ _) ?_
  show eG _ 31 105 [some (.ref 8), some (.ref 1)] [] (rd (wF (wF (wR (wR (wR (wR (wR (wR S 9 (zc (S.1 2) (S.1 9) 0 0 8)) 10 (zc (S.1 3) (S.1 10) 0 0 8)) 11 (zc (S.1 4) (S.1 11) 0 0 8)) 12 (zc (S.1 5) (S.1 12) 0 0 8)) 13 (zc (S.1 6) (S.1 13) 0 0 8)) 14 (zc (S.1 7) (S.1 14) 0 0 4)) 8 6 (zF S 1 6)) 8 7 (zF S 1 7))) _
  refine g_run 2 107 [some (.ref 8), some (.ref 1)] [.ref 1, .ref 8] (rd (wF (wF (wR (wR (wR (wR (wR (wR S 9 (zc (S.1 2) (S.1 9) 0 0 8)) 10 (zc (S.1 3) (S.1 10) 0 0 8)) 11 (zc (S.1 4) (S.1 11) 0 0 8)) 12 (zc (S.1 5) (S.1 12) 0 0 8)) 13 (zc (S.1 6) (S.1 13) 0 0 8)) 14 (zc (S.1 7) (S.1 14) 0 0 4)) 8 6 (zF S 1 6)) 8 7 (zF S 1 7))) rfl ?_
  refine g_getf rfl rfl (rd_o1 _) rfl ?_
  show eG _ 31 110 [some (.ref 8), some (.ref 1)] [.int (zI (zF S 1 8)), .ref 8] (rd (wF (wF (wR (wR (wR (wR (wR (wR S 9 (zc (S.1 2) (S.1 9) 0 0 8)) 10 (zc (S.1 3) (S.1 10) 0 0 8)) 11 (zc (S.1 4) (S.1 11) 0 0 8)) 12 (zc (S.1 5) (S.1 12) 0 0 8)) 13 (zc (S.1 6) (S.1 13) 0 0 8)) 14 (zc (S.1 7) (S.1 14) 0 0 4)) 8 6 (zF S 1 6)) 8 7 (zF S 1 7))) _
  refine s_putf rfl rfl (rd_o8 _) rfl rfl rfl rfl rfl (rw_o8_8 _ _) ?_
  show eG _ 31 113 [some (.ref 8), some (.ref 1)] [] (rd (wF (wF (wF (wR (wR (wR (wR (wR (wR S 9 (zc (S.1 2) (S.1 9) 0 0 8)) 10 (zc (S.1 3) (S.1 10) 0 0 8)) 11 (zc (S.1 4) (S.1 11) 0 0 8)) 12 (zc (S.1 5) (S.1 12) 0 0 8)) 13 (zc (S.1 6) (S.1 13) 0 0 8)) 14 (zc (S.1 7) (S.1 14) 0 0 4)) 8 6 (zF S 1 6)) 8 7 (zF S 1 7)) 8 8 (zF S 1 8))) _
  refine g_run 2 115 [some (.ref 8), some (.ref 1)] [.ref 1, .ref 8] (rd (wF (wF (wF (wR (wR (wR (wR (wR (wR S 9 (zc (S.1 2) (S.1 9) 0 0 8)) 10 (zc (S.1 3) (S.1 10) 0 0 8)) 11 (zc (S.1 4) (S.1 11) 0 0 8)) 12 (zc (S.1 5) (S.1 12) 0 0 8)) 13 (zc (S.1 6) (S.1 13) 0 0 8)) 14 (zc (S.1 7) (S.1 14) 0 0 4)) 8 6 (zF S 1 6)) 8 7 (zF S 1 7)) 8 8 (zF S 1 8))) rfl ?_
  refine g_getf rfl rfl (rd_o1 _) rfl ?_
  show eG _ 31 118 [some (.ref 8), some (.ref 1)] [.int (zI (zF S 1 9)), .ref 8] (rd (wF (wF (wF (wR (wR (wR (wR (wR (wR S 9 (zc (S.1 2) (S.1 9) 0 0 8)) 10 (zc (S.1 3) (S.1 10) 0 0 8)) 11 (zc (S.1 4) (S.1 11) 0 0 8)) 12 (zc (S.1 5) (S.1 12) 0 0 8)) 13 (zc (S.1 6) (S.1 13) 0 0 8)) 14 (zc (S.1 7) (S.1 14) 0 0 4)) 8 6 (zF S 1 6)) 8 7 (zF S 1 7)) 8 8 (zF S 1 8))) _
  refine s_putf rfl rfl (rd_o8 _) rfl rfl rfl rfl rfl (rw_o8_9 _ _) ?_
  show eG _ 31 121 [some (.ref 8), some (.ref 1)] [] (rd (wF (wF (wF (wF (wR (wR (wR (wR (wR (wR S 9 (zc (S.1 2) (S.1 9) 0 0 8)) 10 (zc (S.1 3) (S.1 10) 0 0 8)) 11 (zc (S.1 4) (S.1 11) 0 0 8)) 12 (zc (S.1 5) (S.1 12) 0 0 8)) 13 (zc (S.1 6) (S.1 13) 0 0 8)) 14 (zc (S.1 7) (S.1 14) 0 0 4)) 8 6 (zF S 1 6)) 8 7 (zF S 1 7)) 8 8 (zF S 1 8)) 8 9 (zF S 1 9))) _
  refine g_run 2 123 [some (.ref 8), some (.ref 1)] [.ref 1, .ref 8] (rd (wF (wF (wF (wF (wR (wR (wR (wR (wR (wR S 9 (zc (S.1 2) (S.1 9) 0 0 8)) 10 (zc (S.1 3) (S.1 10) 0 0 8)) 11 (zc (S.1 4) (S.1 11) 0 0 8)) 12 (zc (S.1 5) (S.1 12) 0 0 8)) 13 (zc (S.1 6) (S.1 13) 0 0 8)) 14 (zc (S.1 7) (S.1 14) 0 0 4)) 8 6 (zF S 1 6)) 8 7 (zF S 1 7)) 8 8 (zF S 1 8)) 8 9 (zF S 1 9))) rfl ?_
  refine g_getf rfl rfl (rd_o1 _) rfl ?_
  show eG _ 31 126 [some (.ref 8), some (.ref 1)] [.int (zI (zF S 1 10)), .ref 8] (rd (wF (wF (wF (wF (wR (wR (wR (wR (wR (wR S 9 (zc (S.1 2) (S.1 9) 0 0 8)) 10 (zc (S.1 3) (S.1 10) 0 0 8)) 11 (zc (S.1 4) (S.1 11) 0 0 8)) 12 (zc (S.1 5) (S.1 12) 0 0 8)) 13 (zc (S.1 6) (S.1 13) 0 0 8)) 14 (zc (S.1 7) (S.1 14) 0 0 4)) 8 6 (zF S 1 6)) 8 7 (zF S 1 7)) 8 8 (zF S 1 8)) 8 9 (zF S 1 9))) _
  refine s_putf rfl rfl (rd_o8 _) rfl rfl rfl rfl rfl (rw_o8_10 _ _) ?_
  show eG _ 31 129 [some (.ref 8), some (.ref 1)] [] (rd (wF (wF (wF (wF (wF (wR (wR (wR (wR (wR (wR S 9 (zc (S.1 2) (S.1 9) 0 0 8)) 10 (zc (S.1 3) (S.1 10) 0 0 8)) 11 (zc (S.1 4) (S.1 11) 0 0 8)) 12 (zc (S.1 5) (S.1 12) 0 0 8)) 13 (zc (S.1 6) (S.1 13) 0 0 8)) 14 (zc (S.1 7) (S.1 14) 0 0 4)) 8 6 (zF S 1 6)) 8 7 (zF S 1 7)) 8 8 (zF S 1 8)) 8 9 (zF S 1 9)) 8 10 (zF S 1 10))) _
  refine g_run 2 131 [some (.ref 8), some (.ref 1)] [.ref 1, .ref 8] (rd (wF (wF (wF (wF (wF (wR (wR (wR (wR (wR (wR S 9 (zc (S.1 2) (S.1 9) 0 0 8)) 10 (zc (S.1 3) (S.1 10) 0 0 8)) 11 (zc (S.1 4) (S.1 11) 0 0 8)) 12 (zc (S.1 5) (S.1 12) 0 0 8)) 13 (zc (S.1 6) (S.1 13) 0 0 8)) 14 (zc (S.1 7) (S.1 14) 0 0 4)) 8 6 (zF S 1 6)) 8 7 (zF S 1 7)) 8 8 (zF S 1 8)) 8 9 (zF S 1 9)) 8 10 (zF S 1 10))) rfl ?_
  refine g_getf rfl rfl (rd_o1 _) rfl ?_
  show eG _ 31 134 [some (.ref 8), some (.ref 1)] [.int (zI (zF S 1 11)), .ref 8] (rd (wF (wF (wF (wF (wF (wR (wR (wR (wR (wR (wR S 9 (zc (S.1 2) (S.1 9) 0 0 8)) 10 (zc (S.1 3) (S.1 10) 0 0 8)) 11 (zc (S.1 4) (S.1 11) 0 0 8)) 12 (zc (S.1 5) (S.1 12) 0 0 8)) 13 (zc (S.1 6) (S.1 13) 0 0 8)) 14 (zc (S.1 7) (S.1 14) 0 0 4)) 8 6 (zF S 1 6)) 8 7 (zF S 1 7)) 8 8 (zF S 1 8)) 8 9 (zF S 1 9)) 8 10 (zF S 1 10))) _
  refine s_putf rfl rfl (rd_o8 _) rfl rfl rfl rfl rfl (rw_o8_11 _ _) ?_
  show eG _ 31 137 [some (.ref 8), some (.ref 1)] [] (rd (wF (wF (wF (wF (wF (wF (wR (wR (wR (wR (wR (wR S 9 (zc (S.1 2) (S.1 9) 0 0 8)) 10 (zc (S.1 3) (S.1 10) 0 0 8)) 11 (zc (S.1 4) (S.1 11) 0 0 8)) 12 (zc (S.1 5) (S.1 12) 0 0 8)) 13 (zc (S.1 6) (S.1 13) 0 0 8)) 14 (zc (S.1 7) (S.1 14) 0 0 4)) 8 6 (zF S 1 6)) 8 7 (zF S 1 7)) 8 8 (zF S 1 8)) 8 9 (zF S 1 9)) 8 10 (zF S 1 10)) 8 11 (zF S 1 11))) _
  cases h
  exact g_retv rfl rfl rfl
def fD_image (n : Nat) (S : ZS) : Option (Int × ZS) := (fT_takeOver_8_1 n S).bind fun z1 => gB 1 (some (1, wF z1 0 8 1))
set_option maxRecDepth 100000 in
set_option maxHeartbeats 4000000 in
theorem sD_image (o : eO) (n : Nat) (S : ZS) {w : Int × ZS} (h : fD_image n S = some w) : eG o 104 0 (eEnt 104 [.ref 0]) [] (rd S) (rv (some (.int (zI w.1))) (rd w.2)) := by
  unfold fD_image at h
  show eG o 104 0 [some (.ref 0)] [] (rd S) _
  refine g_run 1 1 [some (.ref 0)] [.ref 0] (rd S) rfl ?_
  refine g_getf rfl rfl (rd_o0 _) rfl ?_
  show eG _ 104 4 [some (.ref 0)] [.ref 8] (rd S) _
  refine g_run 1 5 [some (.ref 0)] [.ref 0, .ref 8] (rd S) rfl ?_
  refine g_getf rfl rfl (rd_o0 _) rfl ?_
  show eG _ 104 8 [some (.ref 0)] [.ref 1, .ref 8] (rd S) _
  refine s_vir (fun _ => none) (fun z => rd z) rfl rfl rfl (rd_o8 _) rfl rfl (fun z hz => sT_takeOver_8_1 o n S hz) rfl h (fun z1 h => ?_)
  show eG _ 104 11 [some (.ref 0)] [] (rd z1) _
  refine g_run 2 13 [some (.ref 0)] [.int (zI 1), .ref 0] (rd z1) rfl ?_
  refine s_putb rfl rfl (rd_o0 _) rfl rfl rfl rfl (rw_o0_8 _ _) h (fun h => ?_)
  show eG _ 104 16 [some (.ref 0)] [] (rd (wF z1 0 8 1)) _
  refine g_run 1 17 [some (.ref 0)] [.int (zI 1)] (rd (wF z1 0 8 1)) rfl ?_
  cases h
  exact s_ret rfl rfl rfl
def fT_takeOver_1_8 (n : Nat) (S : ZS) : Option (ZS) := gY 0 0 8 8 8 (gY 0 0 8 8 8 (gY 0 0 8 8 8 (gY 0 0 8 8 8 (gY 0 0 8 8 8 (gY 0 0 4 4 4 (some (wF (wF (wF (wF (wF (wF (wR (wR (wR (wR (wR (wR S 2 (zc (S.1 9) (S.1 2) 0 0 8)) 3 (zc (S.1 10) (S.1 3) 0 0 8)) 4 (zc (S.1 11) (S.1 4) 0 0 8)) 5 (zc (S.1 12) (S.1 5) 0 0 8)) 6 (zc (S.1 13) (S.1 6) 0 0 8)) 7 (zc (S.1 14) (S.1 7) 0 0 4)) 1 6 (zF S 8 6)) 1 7 (zF S 8 7)) 1 8 (zF S 8 8)) 1 9 (zF S 8 9)) 1 10 (zF S 8 10)) 1 11 (zF S 8 11))))))))
set_option maxRecDepth 100000 in
set_option maxHeartbeats 4000000 in
theorem sT_takeOver_1_8 (o : eO) (n : Nat) (S : ZS) {w : ZS} (h : fT_takeOver_1_8 n S = some w) : eG o 31 0 (eEnt 31 [.ref 1, .ref 8]) [] (rd S) (rv (none) (rd w)) := by
  unfold fT_takeOver_1_8 at h
  show eG o 31 0 [some (.ref 1), some (.ref 8)] [] (rd S) _
  refine g_run 1 1 [some (.ref 1), some (.ref 8)] [.ref 8] (rd S) rfl ?_
  refine g_getf rfl rfl (rd_o8 _) rfl ?_
  show eG _ 31 4 [some (.ref 1), some (.ref 8)] [.ref 9] (rd S) _
  refine g_run 2 6 [some (.ref 1), some (.ref 8)] [.ref 1, .int (zI 0), .ref 9] (rd S) rfl ?_
  refine g_getf rfl rfl (rd_o1 _) rfl ?_
  show eG _ 31 9 [some (.ref 1), some (.ref 8)] [.ref 2, .int (zI 0), .ref 9] (rd S) _
  refine g_run 2 12 [some (.ref 1), some (.ref 8)] [.int (zI 8), .int (zI 0), .ref 2, .int (zI 0), .ref 9] (rd S) rfl ?_
  refine s_cpy rfl rfl (rd_a9 _) (rd_a2 _) rfl (rw_a2 _ _) h (fun h => ?_)
  show eG _ 31 15 [some (.ref 1), some (.ref 8)] [] (rd (wR S 2 (zc (S.1 9) (S.1 2) 0 0 8))) _
  refine g_run 1 16 [some (.ref 1), some (.ref 8)] [.ref 8] (rd (wR S 2 (zc (S.1 9) (S.1 2) 0 0 8))) rfl ?_
  refine g_getf rfl rfl (rd_o8 _) rfl ?_
  show eG _ 31 19 [some (.ref 1), some (.ref 8)] [.ref 10] (rd (wR S 2 (zc (S.1 9) (S.1 2) 0 0 8))) _
  refine g_run 2 21 [some (.ref 1), some (.ref 8)] [.ref 1, .int (zI 0), .ref 10] (rd (wR S 2 (zc (S.1 9) (S.1 2) 0 0 8))) rfl ?_
  refine g_getf rfl rfl (rd_o1 _) rfl ?_
  show eG _ 31 24 [some (.ref 1), some (.ref 8)] [.ref 3, .int (zI 0), .ref 10] (rd (wR S 2 (zc (S.1 9) (S.1 2) 0 0 8))) _
  refine g_run 2 27 [some (.ref 1), some (.ref 8)] [.int (zI 8), .int (zI 0), .ref 3, .int (zI 0), .ref 10] (rd (wR S 2 (zc (S.1 9) (S.1 2) 0 0 8))) rfl ?_
  refine s_cpy rfl rfl (rd_a10 _) (rd_a3 _) rfl (rw_a3 _ _) h (fun h => ?_)
  show eG _ 31 30 [some (.ref 1), some (.ref 8)] [] (rd (wR (wR S 2 (zc (S.1 9) (S.1 2) 0 0 8)) 3 (zc (S.1 10) (S.1 3) 0 0 8))) _
  refine g_run 1 31 [some (.ref 1), some (.ref 8)] [.ref 8] (rd (wR (wR S 2 (zc (S.1 9) (S.1 2) 0 0 8)) 3 (zc (S.1 10) (S.1 3) 0 0 8))) rfl ?_
  refine g_getf rfl rfl (rd_o8 _) rfl ?_
  show eG _ 31 34 [some (.ref 1), some (.ref 8)] [.ref 11] (rd (wR (wR S 2 (zc (S.1 9) (S.1 2) 0 0 8)) 3 (zc (S.1 10) (S.1 3) 0 0 8))) _
  refine g_run 2 36 [some (.ref 1), some (.ref 8)] [.ref 1, .int (zI 0), .ref 11] (rd (wR (wR S 2 (zc (S.1 9) (S.1 2) 0 0 8)) 3 (zc (S.1 10) (S.1 3) 0 0 8))) rfl ?_
  refine g_getf rfl rfl (rd_o1 _) rfl ?_
  show eG _ 31 39 [some (.ref 1), some (.ref 8)] [.ref 4, .int (zI 0), .ref 11] (rd (wR (wR S 2 (zc (S.1 9) (S.1 2) 0 0 8)) 3 (zc (S.1 10) (S.1 3) 0 0 8))) _
  refine g_run 2 42 [some (.ref 1), some (.ref 8)] [.int (zI 8), .int (zI 0), .ref 4, .int (zI 0), .ref 11] (rd (wR (wR S 2 (zc (S.1 9) (S.1 2) 0 0 8)) 3 (zc (S.1 10) (S.1 3) 0 0 8))) rfl ?_
  refine s_cpy rfl rfl (rd_a11 _) (rd_a4 _) rfl (rw_a4 _ _) h (fun h => ?_)
  show eG _ 31 45 [some (.ref 1), some (.ref 8)] [] (rd (wR (wR (wR S 2 (zc (S.1 9) (S.1 2) 0 0 8)) 3 (zc (S.1 10) (S.1 3) 0 0 8)) 4 (zc (S.1 11) (S.1 4) 0 0 8))) _
  refine g_run 1 46 [some (.ref 1), some (.ref 8)] [.ref 8] (rd (wR (wR (wR S 2 (zc (S.1 9) (S.1 2) 0 0 8)) 3 (zc (S.1 10) (S.1 3) 0 0 8)) 4 (zc (S.1 11) (S.1 4) 0 0 8))) rfl ?_
  refine g_getf rfl rfl (rd_o8 _) rfl ?_
  show eG _ 31 49 [some (.ref 1), some (.ref 8)] [.ref 12] (rd (wR (wR (wR S 2 (zc (S.1 9) (S.1 2) 0 0 8)) 3 (zc (S.1 10) (S.1 3) 0 0 8)) 4 (zc (S.1 11) (S.1 4) 0 0 8))) _
  refine g_run 2 51 [some (.ref 1), some (.ref 8)] [.ref 1, .int (zI 0), .ref 12] (rd (wR (wR (wR S 2 (zc (S.1 9) (S.1 2) 0 0 8)) 3 (zc (S.1 10) (S.1 3) 0 0 8)) 4 (zc (S.1 11) (S.1 4) 0 0 8))) rfl ?_
  refine g_getf rfl rfl (rd_o1 _) rfl ?_
  show eG _ 31 54 [some (.ref 1), some (.ref 8)] [.ref 5, .int (zI 0), .ref 12] (rd (wR (wR (wR S 2 (zc (S.1 9) (S.1 2) 0 0 8)) 3 (zc (S.1 10) (S.1 3) 0 0 8)) 4 (zc (S.1 11) (S.1 4) 0 0 8))) _
  refine g_run 2 57 [some (.ref 1), some (.ref 8)] [.int (zI 8), .int (zI 0), .ref 5, .int (zI 0), .ref 12] (rd (wR (wR (wR S 2 (zc (S.1 9) (S.1 2) 0 0 8)) 3 (zc (S.1 10) (S.1 3) 0 0 8)) 4 (zc (S.1 11) (S.1 4) 0 0 8))) rfl ?_
  refine s_cpy rfl rfl (rd_a12 _) (rd_a5 _) rfl (rw_a5 _ _) h (fun h => ?_)
  show eG _ 31 60 [some (.ref 1), some (.ref 8)] [] (rd (wR (wR (wR (wR S 2 (zc (S.1 9) (S.1 2) 0 0 8)) 3 (zc (S.1 10) (S.1 3) 0 0 8)) 4 (zc (S.1 11) (S.1 4) 0 0 8)) 5 (zc (S.1 12) (S.1 5) 0 0 8))) _
  refine g_run 1 61 [some (.ref 1), some (.ref 8)] [.ref 8] (rd (wR (wR (wR (wR S 2 (zc (S.1 9) (S.1 2) 0 0 8)) 3 (zc (S.1 10) (S.1 3) 0 0 8)) 4 (zc (S.1 11) (S.1 4) 0 0 8)) 5 (zc (S.1 12) (S.1 5) 0 0 8))) rfl ?_
  refine g_getf rfl rfl (rd_o8 _) rfl ?_
  show eG _ 31 64 [some (.ref 1), some (.ref 8)] [.ref 13] (rd (wR (wR (wR (wR S 2 (zc (S.1 9) (S.1 2) 0 0 8)) 3 (zc (S.1 10) (S.1 3) 0 0 8)) 4 (zc (S.1 11) (S.1 4) 0 0 8)) 5 (zc (S.1 12) (S.1 5) 0 0 8))) _
  refine g_run 2 66 [some (.ref 1), some (.ref 8)] [.ref 1, .int (zI 0), .ref 13] (rd (wR (wR (wR (wR S 2 (zc (S.1 9) (S.1 2) 0 0 8)) 3 (zc (S.1 10) (S.1 3) 0 0 8)) 4 (zc (S.1 11) (S.1 4) 0 0 8)) 5 (zc (S.1 12) (S.1 5) 0 0 8))) rfl ?_
  refine g_getf rfl rfl (rd_o1 _) rfl ?_
  show eG _ 31 69 [some (.ref 1), some (.ref 8)] [.ref 6, .int (zI 0), .ref 13] (rd (wR (wR (wR (wR S 2 (zc (S.1 9) (S.1 2) 0 0 8)) 3 (zc (S.1 10) (S.1 3) 0 0 8)) 4 (zc (S.1 11) (S.1 4) 0 0 8)) 5 (zc (S.1 12) (S.1 5) 0 0 8))) _
  refine g_run 2 72 [some (.ref 1), some (.ref 8)] [.int (zI 8), .int (zI 0), .ref 6, .int (zI 0), .ref 13] (rd (wR (wR (wR (wR S 2 (zc (S.1 9) (S.1 2) 0 0 8)) 3 (zc (S.1 10) (S.1 3) 0 0 8)) 4 (zc (S.1 11) (S.1 4) 0 0 8)) 5 (zc (S.1 12) (S.1 5) 0 0 8))) rfl ?_
  refine s_cpy rfl rfl (rd_a13 _) (rd_a6 _) rfl (rw_a6 _ _) h (fun h => ?_)
  show eG _ 31 75 [some (.ref 1), some (.ref 8)] [] (rd (wR (wR (wR (wR (wR S 2 (zc (S.1 9) (S.1 2) 0 0 8)) 3 (zc (S.1 10) (S.1 3) 0 0 8)) 4 (zc (S.1 11) (S.1 4) 0 0 8)) 5 (zc (S.1 12) (S.1 5) 0 0 8)) 6 (zc (S.1 13) (S.1 6) 0 0 8))) _
  refine g_run 1 76 [some (.ref 1), some (.ref 8)] [.ref 8] (rd (wR (wR (wR (wR (wR S 2 (zc (S.1 9) (S.1 2) 0 0 8)) 3 (zc (S.1 10) (S.1 3) 0 0 8)) 4 (zc (S.1 11) (S.1 4) 0 0 8)) 5 (zc (S.1 12) (S.1 5) 0 0 8)) 6 (zc (S.1 13) (S.1 6) 0 0 8))) rfl ?_
  refine g_getf rfl rfl (rd_o8 _) rfl ?_
  show eG _ 31 79 [some (.ref 1), some (.ref 8)] [.ref 14] (rd (wR (wR (wR (wR (wR S 2 (zc (S.1 9) (S.1 2) 0 0 8)) 3 (zc (S.1 10) (S.1 3) 0 0 8)) 4 (zc (S.1 11) (S.1 4) 0 0 8)) 5 (zc (S.1 12) (S.1 5) 0 0 8)) 6 (zc (S.1 13) (S.1 6) 0 0 8))) _
  refine g_run 2 81 [some (.ref 1), some (.ref 8)] [.ref 1, .int (zI 0), .ref 14] (rd (wR (wR (wR (wR (wR S 2 (zc (S.1 9) (S.1 2) 0 0 8)) 3 (zc (S.1 10) (S.1 3) 0 0 8)) 4 (zc (S.1 11) (S.1 4) 0 0 8)) 5 (zc (S.1 12) (S.1 5) 0 0 8)) 6 (zc (S.1 13) (S.1 6) 0 0 8))) rfl ?_
  refine g_getf rfl rfl (rd_o1 _) rfl ?_
  show eG _ 31 84 [some (.ref 1), some (.ref 8)] [.ref 7, .int (zI 0), .ref 14] (rd (wR (wR (wR (wR (wR S 2 (zc (S.1 9) (S.1 2) 0 0 8)) 3 (zc (S.1 10) (S.1 3) 0 0 8)) 4 (zc (S.1 11) (S.1 4) 0 0 8)) 5 (zc (S.1 12) (S.1 5) 0 0 8)) 6 (zc (S.1 13) (S.1 6) 0 0 8))) _
  refine g_run 2 86 [some (.ref 1), some (.ref 8)] [.int (zI 4), .int (zI 0), .ref 7, .int (zI 0), .ref 14] (rd (wR (wR (wR (wR (wR S 2 (zc (S.1 9) (S.1 2) 0 0 8)) 3 (zc (S.1 10) (S.1 3) 0 0 8)) 4 (zc (S.1 11) (S.1 4) 0 0 8)) 5 (zc (S.1 12) (S.1 5) 0 0 8)) 6 (zc (S.1 13) (S.1 6) 0 0 8))) rfl ?_
  refine s_cpy rfl rfl (rd_a14 _) (rd_a7 _) rfl (rw_a7 _ _) h (fun h => ?_)
  show eG _ 31 89 [some (.ref 1), some (.ref 8)] [] (rd (wR (wR (wR (wR (wR (wR S 2 (zc (S.1 9) (S.1 2) 0 0 8)) 3 (zc (S.1 10) (S.1 3) 0 0 8)) 4 (zc (S.1 11) (S.1 4) 0 0 8)) 5 (zc (S.1 12) (S.1 5) 0 0 8)) 6 (zc (S.1 13) (S.1 6) 0 0 8)) 7 (zc (S.1 14) (S.1 7) 0 0 4))) _
  refine g_run 2 91 [some (.ref 1), some (.ref 8)] [.ref 8, .ref 1] (rd (wR (wR (wR (wR (wR (wR S 2 (zc (S.1 9) (S.1 2) 0 0 8)) 3 (zc (S.1 10) (S.1 3) 0 0 8)) 4 (zc (S.1 11) (S.1 4) 0 0 8)) 5 (zc (S.1 12) (S.1 5) 0 0 8)) 6 (zc (S.1 13) (S.1 6) 0 0 8)) 7 (zc (S.1 14) (S.1 7) 0 0 4))) rfl ?_
  refine g_getf rfl rfl (rd_o8 _) rfl ?_
  show eG _ 31 94 [some (.ref 1), some (.ref 8)] [.int (zI (zF S 8 6)), .ref 1] (rd (wR (wR (wR (wR (wR (wR S 2 (zc (S.1 9) (S.1 2) 0 0 8)) 3 (zc (S.1 10) (S.1 3) 0 0 8)) 4 (zc (S.1 11) (S.1 4) 0 0 8)) 5 (zc (S.1 12) (S.1 5) 0 0 8)) 6 (zc (S.1 13) (S.1 6) 0 0 8)) 7 (zc (S.1 14) (S.1 7) 0 0 4))) _
  refine s_putf rfl rfl (rd_o1 _) rfl rfl rfl rfl rfl (rw_o1_6 _ _) ?_
  show eG _ 31 97 [some (.ref 1), some (.ref 8)] [] (rd (wF (wR (wR (wR (wR (wR (wR S 2 (zc (S.1 9) (S.1 2) 0 0 8)) 3 (zc (S.1 10) (S.1 3) 0 0 8)) 4 (zc (S.1 11) (S.1 4) 0 0 8)) 5 (zc (S.1 12) (S.1 5) 0 0 8)) 6 (zc (S.1 13) (S.1 6) 0 0 8)) 7 (zc (S.1 14) (S.1 7) 0 0 4)) 1 6 (zF S 8 6))) _
  refine g_run 2 99 [some (.ref 1), some (.ref 8)] [.ref 8, .ref 1] (rd (wF (wR (wR (wR (wR (wR (wR S 2 (zc (S.1 9) (S.1 2) 0 0 8)) 3 (zc (S.1 10) (S.1 3) 0 0 8)) 4 (zc (S.1 11) (S.1 4) 0 0 8)) 5 (zc (S.1 12) (S.1 5) 0 0 8)) 6 (zc (S.1 13) (S.1 6) 0 0 8)) 7 (zc (S.1 14) (S.1 7) 0 0 4)) 1 6 (zF S 8 6))) rfl ?_
  refine g_getf rfl rfl (rd_o8 _) rfl ?_
  show eG _ 31 102 [some (.ref 1), some (.ref 8)] [.int (zI (zF S 8 7)), .ref 1] (rd (wF (wR (wR (wR (wR (wR (wR S 2 (zc (S.1 9) (S.1 2) 0 0 8)) 3 (zc (S.1 10) (S.1 3) 0 0 8)) 4 (zc (S.1 11) (S.1 4) 0 0 8)) 5 (zc (S.1 12) (S.1 5) 0 0 8)) 6 (zc (S.1 13) (S.1 6) 0 0 8)) 7 (zc (S.1 14) (S.1 7) 0 0 4)) 1 6 (zF S 8 6))) _
  refine s_putf rfl rfl (rd_o1 _) rfl rfl rfl rfl rfl (rw_o1_7 _ _) ?_
  show eG _ 31 105 [some (.ref 1), some (.ref 8)] [] (rd (wF (wF (wR (wR (wR (wR (wR (wR S 2 (zc (S.1 9) (S.1 2) 0 0 8)) 3 (zc (S.1 10) (S.1 3) 0 0 8)) 4 (zc (S.1 11) (S.1 4) 0 0 8)) 5 (zc (S.1 12) (S.1 5) 0 0 8)) 6 (zc (S.1 13) (S.1 6) 0 0 8)) 7 (zc (S.1 14) (S.1 7) 0 0 4)) 1 6 (zF S 8 6)) 1 7 (zF S 8 7))) _
  refine g_run 2 107 [some (.ref 1), some (.ref 8)] [.ref 8, .ref 1] (rd (wF (wF (wR (wR (wR (wR (wR (wR S 2 (zc (S.1 9) (S.1 2) 0 0 8)) 3 (zc (S.1 10) (S.1 3) 0 0 8)) 4 (zc (S.1 11) (S.1 4) 0 0 8)) 5 (zc (S.1 12) (S.1 5) 0 0 8)) 6 (zc (S.1 13) (S.1 6) 0 0 8)) 7 (zc (S.1 14) (S.1 7) 0 0 4)) 1 6 (zF S 8 6)) 1 7 (zF S 8 7))) rfl ?_
  refine g_getf rfl rfl (rd_o8 _) rfl ?_
  show eG _ 31 110 [some (.ref 1), some (.ref 8)] [.int (zI (zF S 8 8)), .ref 1] (rd (wF (wF (wR (wR (wR (wR (wR (wR S 2 (zc (S.1 9) (S.1 2) 0 0 8)) 3 (zc (S.1 10) (S.1 3) 0 0 8)) 4 (zc (S.1 11) (S.1 4) 0 0 8)) 5 (zc (S.1 12) (S.1 5) 0 0 8)) 6 (zc (S.1 13) (S.1 6) 0 0 8)) 7 (zc (S.1 14) (S.1 7) 0 0 4)) 1 6 (zF S 8 6)) 1 7 (zF S 8 7))) _
  refine s_putf rfl rfl (rd_o1 _) rfl rfl rfl rfl rfl (rw_o1_8 _ _) ?_
  show eG _ 31 113 [some (.ref 1), some (.ref 8)] [] (rd (wF (wF (wF (wR (wR (wR (wR (wR (wR S 2 (zc (S.1 9) (S.1 2) 0 0 8)) 3 (zc (S.1 10) (S.1 3) 0 0 8)) 4 (zc (S.1 11) (S.1 4) 0 0 8)) 5 (zc (S.1 12) (S.1 5) 0 0 8)) 6 (zc (S.1 13) (S.1 6) 0 0 8)) 7 (zc (S.1 14) (S.1 7) 0 0 4)) 1 6 (zF S 8 6)) 1 7 (zF S 8 7)) 1 8 (zF S 8 8))) _
  refine g_run 2 115 [some (.ref 1), some (.ref 8)] [.ref 8, .ref 1] (rd (wF (wF (wF (wR (wR (wR (wR (wR (wR S 2 (zc (S.1 9) (S.1 2) 0 0 8)) 3 (zc (S.1 10) (S.1 3) 0 0 8)) 4 (zc (S.1 11) (S.1 4) 0 0 8)) 5 (zc (S.1 12) (S.1 5) 0 0 8)) 6 (zc (S.1 13) (S.1 6) 0 0 8)) 7 (zc (S.1 14) (S.1 7) 0 0 4)) 1 6 (zF S 8 6)) 1 7 (zF S 8 7)) 1 8 (zF S 8 8))) rfl ?_
  refine g_getf rfl rfl (rd_o8 _) rfl ?_
  show eG _ 31 118 [some (.ref 1), some (.ref 8)] [.int (zI (zF S 8 9)), .ref 1] (rd (wF (wF (wF (wR (wR (wR (wR (wR (wR S 2 (zc (S.1 9) (S.1 2) 0 0 8)) 3 (zc (S.1 10) (S.1 3) 0 0 8)) 4 (zc (S.1 11) (S.1 4) 0 0 8)) 5 (zc (S.1 12) (S.1 5) 0 0 8)) 6 (zc (S.1 13) (S.1 6) 0 0 8)) 7 (zc (S.1 14) (S.1 7) 0 0 4)) 1 6 (zF S 8 6)) 1 7 (zF S 8 7)) 1 8 (zF S 8 8))) _
  refine s_putf rfl rfl (rd_o1 _) rfl rfl rfl rfl rfl (rw_o1_9 _ _) ?_
  show eG _ 31 121 [some (.ref 1), some (.ref 8)] [] (rd (wF (wF (wF (wF (wR (wR (wR (wR (wR (wR S 2 (zc (S.1 9) (S.1 2) 0 0 8)) 3 (zc (S.1 10) (S.1 3) 0 0 8)) 4 (zc (S.1 11) (S.1 4) 0 0 8)) 5 (zc (S.1 12) (S.1 5) 0 0 8)) 6 (zc (S.1 13) (S.1 6) 0 0 8)) 7 (zc (S.1 14) (S.1 7) 0 0 4)) 1 6 (zF S 8 6)) 1 7 (zF S 8 7)) 1 8 (zF S 8 8)) 1 9 (zF S 8 9))) _
  refine g_run 2 123 [some (.ref 1), some (.ref 8)] [.ref 8, .ref 1] (rd (wF (wF (wF (wF (wR (wR (wR (wR (wR (wR S 2 (zc (S.1 9) (S.1 2) 0 0 8)) 3 (zc (S.1 10) (S.1 3) 0 0 8)) 4 (zc (S.1 11) (S.1 4) 0 0 8)) 5 (zc (S.1 12) (S.1 5) 0 0 8)) 6 (zc (S.1 13) (S.1 6) 0 0 8)) 7 (zc (S.1 14) (S.1 7) 0 0 4)) 1 6 (zF S 8 6)) 1 7 (zF S 8 7)) 1 8 (zF S 8 8)) 1 9 (zF S 8 9))) rfl ?_
  refine g_getf rfl rfl (rd_o8 _) rfl ?_
  show eG _ 31 126 [some (.ref 1), some (.ref 8)] [.int (zI (zF S 8 10)), .ref 1] (rd (wF (wF (wF (wF (wR (wR (wR (wR (wR (wR S 2 (zc (S.1 9) (S.1 2) 0 0 8)) 3 (zc (S.1 10) (S.1 3) 0 0 8)) 4 (zc (S.1 11) (S.1 4) 0 0 8)) 5 (zc (S.1 12) (S.1 5) 0 0 8)) 6 (zc (S.1 13) (S.1 6) 0 0 8)) 7 (zc (S.1 14) (S.1 7) 0 0 4)) 1 6 (zF S 8 6)) 1 7 (zF S 8 7)) 1 8 (zF S 8 8)) 1 9 (zF S 8 9))) _
  refine s_putf rfl rfl (rd_o1 _) rfl rfl rfl rfl rfl (rw_o1_10 _ _) ?_
  show eG _ 31 129 [some (.ref 1), some (.ref 8)] [] (rd (wF (wF (wF (wF (wF (wR (wR (wR (wR (wR (wR S 2 (zc (S.1 9) (S.1 2) 0 0 8)) 3 (zc (S.1 10) (S.1 3) 0 0 8)) 4 (zc (S.1 11) (S.1 4) 0 0 8)) 5 (zc (S.1 12) (S.1 5) 0 0 8)) 6 (zc (S.1 13) (S.1 6) 0 0 8)) 7 (zc (S.1 14) (S.1 7) 0 0 4)) 1 6 (zF S 8 6)) 1 7 (zF S 8 7)) 1 8 (zF S 8 8)) 1 9 (zF S 8 9)) 1 10 (zF S 8 10))) _
  refine g_run 2 131 [some (.ref 1), some (.ref 8)] [.ref 8, .ref 1] (rd (wF (wF (wF (wF (wF (wR (wR (wR (wR (wR (wR S 2 (zc (S.1 9) (S.1 2) 0 0 8)) 3 (zc (S.1 10) (S.1 3) 0 0 8)) 4 (zc (S.1 11) (S.1 4) 0 0 8)) 5 (zc (S.1 12) (S.1 5) 0 0 8)) 6 (zc (S.1 13) (S.1 6) 0 0 8)) 7 (zc (S.1 14) (S.1 7) 0 0 4)) 1 6 (zF S 8 6)) 1 7 (zF S 8 7)) 1 8 (zF S 8 8)) 1 9 (zF S 8 9)) 1 10 (zF S 8 10))) rfl ?_
  refine g_getf rfl rfl (rd_o8 _) rfl ?_
  show eG _ 31 134 [some (.ref 1), some (.ref 8)] [.int (zI (zF S 8 11)), .ref 1] (rd (wF (wF (wF (wF (wF (wR (wR (wR (wR (wR (wR S 2 (zc (S.1 9) (S.1 2) 0 0 8)) 3 (zc (S.1 10) (S.1 3) 0 0 8)) 4 (zc (S.1 11) (S.1 4) 0 0 8)) 5 (zc (S.1 12) (S.1 5) 0 0 8)) 6 (zc (S.1 13) (S.1 6) 0 0 8)) 7 (zc (S.1 14) (S.1 7) 0 0 4)) 1 6 (zF S 8 6)) 1 7 (zF S 8 7)) 1 8 (zF S 8 8)) 1 9 (zF S 8 9)) 1 10 (zF S 8 10))) _
  refine s_putf rfl rfl (rd_o1 _) rfl rfl rfl rfl rfl (rw_o1_11 _ _) ?_
  show eG _ 31 137 [some (.ref 1), some (.ref 8)] [] (rd (wF (wF (wF (wF (wF (wF (wR (wR (wR (wR (wR (wR S 2 (zc (S.1 9) (S.1 2) 0 0 8)) 3 (zc (S.1 10) (S.1 3) 0 0 8)) 4 (zc (S.1 11) (S.1 4) 0 0 8)) 5 (zc (S.1 12) (S.1 5) 0 0 8)) 6 (zc (S.1 13) (S.1 6) 0 0 8)) 7 (zc (S.1 14) (S.1 7) 0 0 4)) 1 6 (zF S 8 6)) 1 7 (zF S 8 7)) 1 8 (zF S 8 8)) 1 9 (zF S 8 9)) 1 10 (zF S 8 10)) 1 11 (zF S 8 11))) _
  cases h
  exact g_retv rfl rfl rfl
