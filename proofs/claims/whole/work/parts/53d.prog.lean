def fW_sumUp_1 : Nat → ZS → Int → Int → Option (ZS)
  | 0, _, _, _ => none
  | n + 1, S, l2, l3 => gC l3 (zF S 1 6) (if l3 < (zF S 1 6) then gC (zand (zshr l2 l3) 1) 1 (if (zand (zshr l2 l3) 1) = 1 then gX l2 256 (gX l3 8 (gX l2 256 (gX l2 256 ((fT_givenByGoing n (wA S 25 l2 ((zA S 25 l2) + (zA S 3 l3))) 1 l3).bind fun z1 => gX l2 256 (gX l2 256 ((fT_givenByComing n (wA (wA S 25 l2 ((zA S 25 l2) + (zA S 3 l3))) 26 l2 ((zA S 26 l2) + z1)) 1 l3).bind fun z2 => gX l2 256 (fW_sumUp_1 n (wA (wA (wA S 25 l2 ((zA S 25 l2) + (zA S 3 l3))) 26 l2 ((zA S 26 l2) + z1)) 27 l2 ((zA S 27 l2) + z2)) l2 (l3 + 1)))))))) else fW_sumUp_1 n S l2 (l3 + 1)) else some S)
set_option maxRecDepth 100000 in
set_option maxHeartbeats 4000000 in
theorem sW_sumUp_1 (o : eO) : ∀ (n : Nat) (S : ZS) (l2 l3 : Int) {w : ZS} {r : eP} (h : fW_sumUp_1 n S l2 l3 = some w) (hk : eG o 63 89 [none, none, none, none] [] (rd w) r), eG o 63 23 [some (.ref 24), some (.ref 1), some (.int (zI l2)), some (.int (zI l3))] [] (rd S) r := by
  intro n
  induction n with
  | zero => intro S l2 l3 w r h hk; unfold fW_sumUp_1 at h; cases h
  | succ n ih =>
    intro S l2 l3 w r h hk
    unfold fW_sumUp_1 at h
    refine g_run 2 25 [some (.ref 24), some (.ref 1), some (.int (zI l2)), some (.int (zI l3))] [.ref 1, .int (zI l3)] (rd S) rfl ?_
    refine g_getf rfl rfl (rd_o1 _) rfl ?_
    show eG _ 63 28 [some (.ref 24), some (.ref 1), some (.int (zI l2)), some (.int (zI l3))] [.int (zI (zF S 1 6)), .int (zI l3)] (rd S) _
    refine s_icmp_ge rfl h (fun h => ?_) (fun h => ?_)
    · show eG _ 63 89 [some (.ref 24), some (.ref 1), some (.int (zI l2)), some (.int (zI l3))] [] (rd S) _
      refine g_fgt [true, true, true, true] ?_
      show eG _ 63 89 [none, none, none, none] [] (rd S) _
      cases h
      exact hk
    · show eG _ 63 31 [some (.ref 24), some (.ref 1), some (.int (zI l2)), some (.int (zI l3))] [] (rd S) _
      refine g_run 2 33 [some (.ref 24), some (.ref 1), some (.int (zI l2)), some (.int (zI l3))] [.int (zI l3), .int (zI l2)] (rd S) rfl ?_
      refine s_ishr rfl ?_
      refine g_run 1 35 [some (.ref 24), some (.ref 1), some (.int (zI l2)), some (.int (zI l3))] [.int (zI 1), .int (zI (zshr l2 l3))] (rd S) rfl ?_
      refine s_iand rfl ?_
      refine g_run 1 37 [some (.ref 24), some (.ref 1), some (.int (zI l2)), some (.int (zI l3))] [.int (zI 1), .int (zI (zand (zshr l2 l3) 1))] (rd S) rfl ?_
      refine s_icmp_ne rfl h (fun h => ?_) (fun h => ?_)
      · show eG _ 63 83 [some (.ref 24), some (.ref 1), some (.int (zI l2)), some (.int (zI l3))] [] (rd S) _
        refine s_iinc (L' := [some (.ref 24), some (.ref 1), some (.int (zI l2)), some (.int (zI (l3 + 1)))]) rfl rfl rfl ?_
        refine g_run 1 23 [some (.ref 24), some (.ref 1), some (.int (zI l2)), some (.int (zI (l3 + 1)))] [] (rd S) rfl ?_
        exact ih S l2 (l3 + 1) h hk
      · show eG _ 63 40 [some (.ref 24), some (.ref 1), some (.int (zI l2)), some (.int (zI l3))] [] (rd S) _
        refine g_run 1 41 [some (.ref 24), some (.ref 1), some (.int (zI l2)), some (.int (zI l3))] [.ref 24] (rd S) rfl ?_
        refine g_getf rfl rfl (rd_o24 _) rfl ?_
        show eG _ 63 44 [some (.ref 24), some (.ref 1), some (.int (zI l2)), some (.int (zI l3))] [.ref 25] (rd S) _
        refine g_run 2 46 [some (.ref 24), some (.ref 1), some (.int (zI l2)), some (.int (zI l3))] [.int (zI l2), .ref 25, .int (zI l2), .ref 25] (rd S) rfl ?_
        refine s_iald rfl (rd_a25 _) h (fun h => ?_)
        show eG _ 63 47 [some (.ref 24), some (.ref 1), some (.int (zI l2)), some (.int (zI l3))] [.int (zI (zA S 25 l2)), .int (zI l2), .ref 25] (rd S) _
        refine g_run 1 48 [some (.ref 24), some (.ref 1), some (.int (zI l2)), some (.int (zI l3))] [.ref 1, .int (zI (zA S 25 l2)), .int (zI l2), .ref 25] (rd S) rfl ?_
        refine g_getf rfl rfl (rd_o1 _) rfl ?_
        show eG _ 63 51 [some (.ref 24), some (.ref 1), some (.int (zI l2)), some (.int (zI l3))] [.ref 3, .int (zI (zA S 25 l2)), .int (zI l2), .ref 25] (rd S) _
        refine g_run 1 52 [some (.ref 24), some (.ref 1), some (.int (zI l2)), some (.int (zI l3))] [.int (zI l3), .ref 3, .int (zI (zA S 25 l2)), .int (zI l2), .ref 25] (rd S) rfl ?_
        refine s_iald rfl (rd_a3 _) h (fun h => ?_)
        show eG _ 63 53 [some (.ref 24), some (.ref 1), some (.int (zI l2)), some (.int (zI l3))] [.int (zI (zA S 3 l3)), .int (zI (zA S 25 l2)), .int (zI l2), .ref 25] (rd S) _
        refine s_iadd rfl ?_
        refine s_iast rfl (rd_a25 _) (rw_a25 _ _) h (fun h => ?_)
        show eG _ 63 55 [some (.ref 24), some (.ref 1), some (.int (zI l2)), some (.int (zI l3))] [] (rd (wA S 25 l2 ((zA S 25 l2) + (zA S 3 l3)))) _
        refine g_run 1 56 [some (.ref 24), some (.ref 1), some (.int (zI l2)), some (.int (zI l3))] [.ref 24] (rd (wA S 25 l2 ((zA S 25 l2) + (zA S 3 l3)))) rfl ?_
        refine g_getf rfl rfl (rd_o24 _) rfl ?_
        show eG _ 63 59 [some (.ref 24), some (.ref 1), some (.int (zI l2)), some (.int (zI l3))] [.ref 26] (rd (wA S 25 l2 ((zA S 25 l2) + (zA S 3 l3)))) _
        refine g_run 2 61 [some (.ref 24), some (.ref 1), some (.int (zI l2)), some (.int (zI l3))] [.int (zI l2), .ref 26, .int (zI l2), .ref 26] (rd (wA S 25 l2 ((zA S 25 l2) + (zA S 3 l3)))) rfl ?_
        refine s_iald rfl (rd_a26 _) h (fun h => ?_)
        show eG _ 63 62 [some (.ref 24), some (.ref 1), some (.int (zI l2)), some (.int (zI l3))] [.int (zI (zA S 26 l2)), .int (zI l2), .ref 26] (rd (wA S 25 l2 ((zA S 25 l2) + (zA S 3 l3)))) _
        refine g_run 2 64 [some (.ref 24), some (.ref 1), some (.int (zI l2)), some (.int (zI l3))] [.int (zI l3), .ref 1, .int (zI (zA S 26 l2)), .int (zI l2), .ref 26] (rd (wA S 25 l2 ((zA S 25 l2) + (zA S 3 l3)))) rfl ?_
        refine s_vir (fun z => some (.int (zI z))) (fun _ => rd (wA S 25 l2 ((zA S 25 l2) + (zA S 3 l3)))) rfl rfl rfl (rd_o1 _) rfl rfl (fun z hz => sT_givenByGoing o n (wA S 25 l2 ((zA S 25 l2) + (zA S 3 l3))) 1 (Or.inl rfl) l3 hz) rfl h (fun z1 h => ?_)
        show eG _ 63 67 [some (.ref 24), some (.ref 1), some (.int (zI l2)), some (.int (zI l3))] [.int (zI z1), .int (zI (zA S 26 l2)), .int (zI l2), .ref 26] (rd (wA S 25 l2 ((zA S 25 l2) + (zA S 3 l3)))) _
        refine s_iadd rfl ?_
        refine s_iast rfl (rd_a26 _) (rw_a26 _ _) h (fun h => ?_)
        show eG _ 63 69 [some (.ref 24), some (.ref 1), some (.int (zI l2)), some (.int (zI l3))] [] (rd (wA (wA S 25 l2 ((zA S 25 l2) + (zA S 3 l3))) 26 l2 ((zA S 26 l2) + z1))) _
        refine g_run 1 70 [some (.ref 24), some (.ref 1), some (.int (zI l2)), some (.int (zI l3))] [.ref 24] (rd (wA (wA S 25 l2 ((zA S 25 l2) + (zA S 3 l3))) 26 l2 ((zA S 26 l2) + z1))) rfl ?_
        refine g_getf rfl rfl (rd_o24 _) rfl ?_
        show eG _ 63 73 [some (.ref 24), some (.ref 1), some (.int (zI l2)), some (.int (zI l3))] [.ref 27] (rd (wA (wA S 25 l2 ((zA S 25 l2) + (zA S 3 l3))) 26 l2 ((zA S 26 l2) + z1))) _
        refine g_run 2 75 [some (.ref 24), some (.ref 1), some (.int (zI l2)), some (.int (zI l3))] [.int (zI l2), .ref 27, .int (zI l2), .ref 27] (rd (wA (wA S 25 l2 ((zA S 25 l2) + (zA S 3 l3))) 26 l2 ((zA S 26 l2) + z1))) rfl ?_
        refine s_iald rfl (rd_a27 _) h (fun h => ?_)
        show eG _ 63 76 [some (.ref 24), some (.ref 1), some (.int (zI l2)), some (.int (zI l3))] [.int (zI (zA S 27 l2)), .int (zI l2), .ref 27] (rd (wA (wA S 25 l2 ((zA S 25 l2) + (zA S 3 l3))) 26 l2 ((zA S 26 l2) + z1))) _
        refine g_run 2 78 [some (.ref 24), some (.ref 1), some (.int (zI l2)), some (.int (zI l3))] [.int (zI l3), .ref 1, .int (zI (zA S 27 l2)), .int (zI l2), .ref 27] (rd (wA (wA S 25 l2 ((zA S 25 l2) + (zA S 3 l3))) 26 l2 ((zA S 26 l2) + z1))) rfl ?_
        refine s_vir (fun z => some (.int (zI z))) (fun _ => rd (wA (wA S 25 l2 ((zA S 25 l2) + (zA S 3 l3))) 26 l2 ((zA S 26 l2) + z1))) rfl rfl rfl (rd_o1 _) rfl rfl (fun z hz => sT_givenByComing o n (wA (wA S 25 l2 ((zA S 25 l2) + (zA S 3 l3))) 26 l2 ((zA S 26 l2) + z1)) 1 (Or.inl rfl) l3 hz) rfl h (fun z2 h => ?_)
        show eG _ 63 81 [some (.ref 24), some (.ref 1), some (.int (zI l2)), some (.int (zI l3))] [.int (zI z2), .int (zI (zA S 27 l2)), .int (zI l2), .ref 27] (rd (wA (wA S 25 l2 ((zA S 25 l2) + (zA S 3 l3))) 26 l2 ((zA S 26 l2) + z1))) _
        refine s_iadd rfl ?_
        refine s_iast rfl (rd_a27 _) (rw_a27 _ _) h (fun h => ?_)
        show eG _ 63 83 [some (.ref 24), some (.ref 1), some (.int (zI l2)), some (.int (zI l3))] [] (rd (wA (wA (wA S 25 l2 ((zA S 25 l2) + (zA S 3 l3))) 26 l2 ((zA S 26 l2) + z1)) 27 l2 ((zA S 27 l2) + z2))) _
        refine s_iinc (L' := [some (.ref 24), some (.ref 1), some (.int (zI l2)), some (.int (zI (l3 + 1)))]) rfl rfl rfl ?_
        refine g_run 1 23 [some (.ref 24), some (.ref 1), some (.int (zI l2)), some (.int (zI (l3 + 1)))] [] (rd (wA (wA (wA S 25 l2 ((zA S 25 l2) + (zA S 3 l3))) 26 l2 ((zA S 26 l2) + z1)) 27 l2 ((zA S 27 l2) + z2))) rfl ?_
        exact ih (wA (wA (wA S 25 l2 ((zA S 25 l2) + (zA S 3 l3))) 26 l2 ((zA S 26 l2) + z1)) 27 l2 ((zA S 27 l2) + z2)) l2 (l3 + 1) h hk
def fW_sumUp (n : Nat) (S : ZS) (l2 : Int) : Option (ZS) := gX l2 256 (gX l2 256 (gX l2 256 ((fW_sumUp_1 n (wA (wA (wA S 25 l2 0) 26 l2 0) 27 l2 0) l2 0).bind fun z1 => some z1)))
set_option maxRecDepth 100000 in
set_option maxHeartbeats 4000000 in
theorem sW_sumUp (o : eO) (n : Nat) (S : ZS) (l2 : Int) {w : ZS} (h : fW_sumUp n S l2 = some w) : eG o 63 0 (eEnt 63 [.ref 24, .ref 1, .int (zI l2)]) [] (rd S) (rv (none) (rd w)) := by
  unfold fW_sumUp at h
  show eG o 63 0 [some (.ref 24), some (.ref 1), some (.int (zI l2)), none] [] (rd S) _
  refine g_run 1 1 [some (.ref 24), some (.ref 1), some (.int (zI l2)), none] [.ref 24] (rd S) rfl ?_
  refine g_getf rfl rfl (rd_o24 _) rfl ?_
  show eG _ 63 4 [some (.ref 24), some (.ref 1), some (.int (zI l2)), none] [.ref 25] (rd S) _
  refine g_run 2 6 [some (.ref 24), some (.ref 1), some (.int (zI l2)), none] [.int (zI 0), .int (zI l2), .ref 25] (rd S) rfl ?_
  refine s_iast rfl (rd_a25 _) (rw_a25 _ _) h (fun h => ?_)
  show eG _ 63 7 [some (.ref 24), some (.ref 1), some (.int (zI l2)), none] [] (rd (wA S 25 l2 0)) _
  refine g_run 1 8 [some (.ref 24), some (.ref 1), some (.int (zI l2)), none] [.ref 24] (rd (wA S 25 l2 0)) rfl ?_
  refine g_getf rfl rfl (rd_o24 _) rfl ?_
  show eG _ 63 11 [some (.ref 24), some (.ref 1), some (.int (zI l2)), none] [.ref 26] (rd (wA S 25 l2 0)) _
  refine g_run 2 13 [some (.ref 24), some (.ref 1), some (.int (zI l2)), none] [.int (zI 0), .int (zI l2), .ref 26] (rd (wA S 25 l2 0)) rfl ?_
  refine s_iast rfl (rd_a26 _) (rw_a26 _ _) h (fun h => ?_)
  show eG _ 63 14 [some (.ref 24), some (.ref 1), some (.int (zI l2)), none] [] (rd (wA (wA S 25 l2 0) 26 l2 0)) _
  refine g_run 1 15 [some (.ref 24), some (.ref 1), some (.int (zI l2)), none] [.ref 24] (rd (wA (wA S 25 l2 0) 26 l2 0)) rfl ?_
  refine g_getf rfl rfl (rd_o24 _) rfl ?_
  show eG _ 63 18 [some (.ref 24), some (.ref 1), some (.int (zI l2)), none] [.ref 27] (rd (wA (wA S 25 l2 0) 26 l2 0)) _
  refine g_run 2 20 [some (.ref 24), some (.ref 1), some (.int (zI l2)), none] [.int (zI 0), .int (zI l2), .ref 27] (rd (wA (wA S 25 l2 0) 26 l2 0)) rfl ?_
  refine s_iast rfl (rd_a27 _) (rw_a27 _ _) h (fun h => ?_)
  show eG _ 63 21 [some (.ref 24), some (.ref 1), some (.int (zI l2)), none] [] (rd (wA (wA (wA S 25 l2 0) 26 l2 0) 27 l2 0)) _
  refine g_run 2 23 [some (.ref 24), some (.ref 1), some (.int (zI l2)), some (.int (zI 0))] [] (rd (wA (wA (wA S 25 l2 0) 26 l2 0) 27 l2 0)) rfl ?_
  obtain ⟨z1, h1, h⟩ := zB_inv h
  refine sW_sumUp_1 o n (wA (wA (wA S 25 l2 0) 26 l2 0) 27 l2 0) l2 0 h1 ?_
  show eG _ 63 89 [none, none, none, none] [] (rd z1) _
  cases h
  exact g_retv rfl rfl rfl
def fW_table_1 : Nat → ZS → Int → Option (ZS)
  | 0, _, _ => none
  | n + 1, S, l2 => (fT_all n S 1).bind fun z1 => gC l2 z1 (if z1 < l2 then some S else (fW_sumUp n S l2).bind fun z2 => (fT_isFirm n z2 1 l2).bind fun z3 => gB z3 (gX l2 256 ((fT_isEveryoneDry n (wA z2 28 l2 z3) 1 l2).bind fun z4 => gB z4 (gX l2 256 (fW_table_1 n (wA (wA z2 28 l2 z3) 29 l2 z4) (l2 + 1))))))
set_option maxRecDepth 100000 in
set_option maxHeartbeats 4000000 in
theorem sW_table_1 (o : eO) : ∀ (n : Nat) (S : ZS) (l2 : Int) {w : ZS} {r : eP} (h : fW_table_1 n S l2 = some w) (hk : eG o 62 52 [some (.ref 24), none, none] [] (rd w) r), eG o 62 10 [some (.ref 24), some (.ref 1), some (.int (zI l2))] [] (rd S) r := by
  intro n
  induction n with
  | zero => intro S l2 w r h hk; unfold fW_table_1 at h; cases h
  | succ n ih =>
    intro S l2 w r h hk
    unfold fW_table_1 at h
    refine g_run 2 12 [some (.ref 24), some (.ref 1), some (.int (zI l2))] [.ref 1, .int (zI l2)] (rd S) rfl ?_
    refine s_vir (fun z => some (.int (zI z))) (fun _ => rd S) rfl rfl rfl (rd_o1 _) rfl rfl (fun z hz => sT_all o n S 1 (Or.inl rfl) hz) rfl h (fun z1 h => ?_)
    show eG _ 62 15 [some (.ref 24), some (.ref 1), some (.int (zI l2))] [.int (zI z1), .int (zI l2)] (rd S) _
    refine s_icmp_gt rfl h (fun h => ?_) (fun h => ?_)
    · show eG _ 62 52 [some (.ref 24), some (.ref 1), some (.int (zI l2))] [] (rd S) _
      refine g_fgt [false, true, true] ?_
      show eG _ 62 52 [some (.ref 24), none, none] [] (rd S) _
      cases h
      exact hk
    · show eG _ 62 18 [some (.ref 24), some (.ref 1), some (.int (zI l2))] [] (rd S) _
      refine g_run 3 21 [some (.ref 24), some (.ref 1), some (.int (zI l2))] [.int (zI l2), .ref 1, .ref 24] (rd S) rfl ?_
      refine s_vir (fun _ => none) (fun z => rd z) rfl rfl rfl (rd_o24 _) rfl rfl (fun z hz => sW_sumUp o n S l2 hz) rfl h (fun z2 h => ?_)
      show eG _ 62 24 [some (.ref 24), some (.ref 1), some (.int (zI l2))] [] (rd z2) _
      refine g_run 1 25 [some (.ref 24), some (.ref 1), some (.int (zI l2))] [.ref 24] (rd z2) rfl ?_
      refine g_getf rfl rfl (rd_o24 _) rfl ?_
      show eG _ 62 28 [some (.ref 24), some (.ref 1), some (.int (zI l2))] [.ref 28] (rd z2) _
      refine g_run 3 31 [some (.ref 24), some (.ref 1), some (.int (zI l2))] [.int (zI l2), .ref 1, .int (zI l2), .ref 28] (rd z2) rfl ?_
      refine s_vir (fun z => some (.int (zI z))) (fun _ => rd z2) rfl rfl rfl (rd_o1 _) rfl rfl (fun z hz => sT_isFirm o n z2 1 (Or.inl rfl) l2 hz) rfl h (fun z3 h => ?_)
      show eG _ 62 34 [some (.ref 24), some (.ref 1), some (.int (zI l2))] [.int (zI z3), .int (zI l2), .ref 28] (rd z2) _
      refine s_bast rfl (rd_a28 _) (rw_a28 _ _) h (fun h => ?_)
      show eG _ 62 35 [some (.ref 24), some (.ref 1), some (.int (zI l2))] [] (rd (wA z2 28 l2 z3)) _
      refine g_run 1 36 [some (.ref 24), some (.ref 1), some (.int (zI l2))] [.ref 24] (rd (wA z2 28 l2 z3)) rfl ?_
      refine g_getf rfl rfl (rd_o24 _) rfl ?_
      show eG _ 62 39 [some (.ref 24), some (.ref 1), some (.int (zI l2))] [.ref 29] (rd (wA z2 28 l2 z3)) _
      refine g_run 3 42 [some (.ref 24), some (.ref 1), some (.int (zI l2))] [.int (zI l2), .ref 1, .int (zI l2), .ref 29] (rd (wA z2 28 l2 z3)) rfl ?_
      refine s_vir (fun z => some (.int (zI z))) (fun _ => rd (wA z2 28 l2 z3)) rfl rfl rfl (rd_o1 _) rfl rfl (fun z hz => sT_isEveryoneDry o n (wA z2 28 l2 z3) 1 (Or.inl rfl) l2 hz) rfl h (fun z4 h => ?_)
      show eG _ 62 45 [some (.ref 24), some (.ref 1), some (.int (zI l2))] [.int (zI z4), .int (zI l2), .ref 29] (rd (wA z2 28 l2 z3)) _
      refine s_bast rfl (rd_a29 _) (rw_a29 _ _) h (fun h => ?_)
      show eG _ 62 46 [some (.ref 24), some (.ref 1), some (.int (zI l2))] [] (rd (wA (wA z2 28 l2 z3) 29 l2 z4)) _
      refine s_iinc (L' := [some (.ref 24), some (.ref 1), some (.int (zI (l2 + 1)))]) rfl rfl rfl ?_
      refine g_run 1 10 [some (.ref 24), some (.ref 1), some (.int (zI (l2 + 1)))] [] (rd (wA (wA z2 28 l2 z3) 29 l2 z4)) rfl ?_
      exact ih (wA (wA z2 28 l2 z3) 29 l2 z4) (l2 + 1) h hk
def fW_table (n : Nat) (S : ZS) : Option (ZS) := gC (zF S 24 14) 0 (if (zF S 24 14) = 0 then (fW_table_1 n S 0).bind fun z1 => gB 1 (some (wF z1 24 14 1)) else some S)
set_option maxRecDepth 100000 in
set_option maxHeartbeats 4000000 in
theorem sW_table (o : eO) (n : Nat) (S : ZS) {w : ZS} (h : fW_table n S = some w) : eG o 62 0 (eEnt 62 [.ref 24, .ref 1]) [] (rd S) (rv (none) (rd w)) := by
  unfold fW_table at h
  show eG o 62 0 [some (.ref 24), some (.ref 1), none] [] (rd S) _
  refine g_run 1 1 [some (.ref 24), some (.ref 1), none] [.ref 24] (rd S) rfl ?_
  refine g_getf rfl rfl (rd_o24 _) rfl ?_
  show eG _ 62 4 [some (.ref 24), some (.ref 1), none] [.int (zI (zF S 24 14))] (rd S) _
  refine s_if_eq rfl h (fun h => ?_) (fun h => ?_)
  · show eG _ 62 8 [some (.ref 24), some (.ref 1), none] [] (rd S) _
    refine g_run 2 10 [some (.ref 24), some (.ref 1), some (.int (zI 0))] [] (rd S) rfl ?_
    obtain ⟨z1, h1, h⟩ := zB_inv h
    refine sW_table_1 o n S 0 h1 ?_
    show eG _ 62 52 [some (.ref 24), none, none] [] (rd z1) _
    refine g_run 2 54 [some (.ref 24), none, none] [.int (zI 1), .ref 24] (rd z1) rfl ?_
    refine s_putb rfl rfl (rd_o24 _) rfl rfl rfl rfl (rw_o24_14 _ _) h (fun h => ?_)
    show eG _ 62 57 [some (.ref 24), none, none] [] (rd (wF z1 24 14 1)) _
    cases h
    exact g_retv rfl rfl rfl
  · show eG _ 62 7 [some (.ref 24), some (.ref 1), none] [] (rd S) _
    cases h
    exact g_retv rfl rfl rfl
def fW_listMoves_1 : Nat → ZS → Int → Int → Option (ZS)
  | 0, _, _, _ => none
  | n + 1, S, l2, l3 => (fT_all n S 1).bind fun z1 => gC l3 z1 (if z1 < l3 then some S else gC (zand l3 (zxor l2 (-1))) 0 (if (zand l3 (zxor l2 (-1))) = 0 then gX l3 256 (gC (zA S 25 l3) (zF S 1 11) (if (zF S 1 11) < (zA S 25 l3) then fW_listMoves_1 n S l2 (l3 + 1) else gX (zF S 24 11) 256 (fW_listMoves_1 n (wF (wA S 30 (zF S 24 11) l3) 24 11 ((zF S 24 11) + 1)) l2 (l3 + 1)))) else fW_listMoves_1 n S l2 (l3 + 1)))
set_option maxRecDepth 100000 in
set_option maxHeartbeats 4000000 in
theorem sW_listMoves_1 (o : eO) : ∀ (n : Nat) (S : ZS) (l2 l3 : Int) {w : ZS} {r : eP} (h : fW_listMoves_1 n S l2 l3 = some w) (hk : eG o 64 62 [none, none, none, none] [] (rd w) r), eG o 64 7 [some (.ref 24), some (.ref 1), some (.int (zI l2)), some (.int (zI l3))] [] (rd S) r := by
  intro n
  induction n with
  | zero => intro S l2 l3 w r h hk; unfold fW_listMoves_1 at h; cases h
  | succ n ih =>
    intro S l2 l3 w r h hk
    unfold fW_listMoves_1 at h
    refine g_run 2 9 [some (.ref 24), some (.ref 1), some (.int (zI l2)), some (.int (zI l3))] [.ref 1, .int (zI l3)] (rd S) rfl ?_
    refine s_vir (fun z => some (.int (zI z))) (fun _ => rd S) rfl rfl rfl (rd_o1 _) rfl rfl (fun z hz => sT_all o n S 1 (Or.inl rfl) hz) rfl h (fun z1 h => ?_)
    show eG _ 64 12 [some (.ref 24), some (.ref 1), some (.int (zI l2)), some (.int (zI l3))] [.int (zI z1), .int (zI l3)] (rd S) _
    refine s_icmp_gt rfl h (fun h => ?_) (fun h => ?_)
    · show eG _ 64 62 [some (.ref 24), some (.ref 1), some (.int (zI l2)), some (.int (zI l3))] [] (rd S) _
      refine g_fgt [true, true, true, true] ?_
      show eG _ 64 62 [none, none, none, none] [] (rd S) _
      cases h
      exact hk
    · show eG _ 64 15 [some (.ref 24), some (.ref 1), some (.int (zI l2)), some (.int (zI l3))] [] (rd S) _
      refine g_run 3 18 [some (.ref 24), some (.ref 1), some (.int (zI l2)), some (.int (zI l3))] [.int (zI (-1)), .int (zI l2), .int (zI l3)] (rd S) rfl ?_
      refine s_ixor rfl ?_
      refine s_iand rfl ?_
      refine s_if_ne rfl h (fun h => ?_) (fun h => ?_)
      · show eG _ 64 56 [some (.ref 24), some (.ref 1), some (.int (zI l2)), some (.int (zI l3))] [] (rd S) _
        refine s_iinc (L' := [some (.ref 24), some (.ref 1), some (.int (zI l2)), some (.int (zI (l3 + 1)))]) rfl rfl rfl ?_
        refine g_run 1 7 [some (.ref 24), some (.ref 1), some (.int (zI l2)), some (.int (zI (l3 + 1)))] [] (rd S) rfl ?_
        exact ih S l2 (l3 + 1) h hk
      · show eG _ 64 23 [some (.ref 24), some (.ref 1), some (.int (zI l2)), some (.int (zI l3))] [] (rd S) _
        refine g_run 1 24 [some (.ref 24), some (.ref 1), some (.int (zI l2)), some (.int (zI l3))] [.ref 24] (rd S) rfl ?_
        refine g_getf rfl rfl (rd_o24 _) rfl ?_
        show eG _ 64 27 [some (.ref 24), some (.ref 1), some (.int (zI l2)), some (.int (zI l3))] [.ref 25] (rd S) _
        refine g_run 1 28 [some (.ref 24), some (.ref 1), some (.int (zI l2)), some (.int (zI l3))] [.int (zI l3), .ref 25] (rd S) rfl ?_
        refine s_iald rfl (rd_a25 _) h (fun h => ?_)
        show eG _ 64 29 [some (.ref 24), some (.ref 1), some (.int (zI l2)), some (.int (zI l3))] [.int (zI (zA S 25 l3))] (rd S) _
        refine g_run 1 30 [some (.ref 24), some (.ref 1), some (.int (zI l2)), some (.int (zI l3))] [.ref 1, .int (zI (zA S 25 l3))] (rd S) rfl ?_
        refine g_getf rfl rfl (rd_o1 _) rfl ?_
        show eG _ 64 33 [some (.ref 24), some (.ref 1), some (.int (zI l2)), some (.int (zI l3))] [.int (zI (zF S 1 11)), .int (zI (zA S 25 l3))] (rd S) _
        refine s_icmp_gt rfl h (fun h => ?_) (fun h => ?_)
        · show eG _ 64 56 [some (.ref 24), some (.ref 1), some (.int (zI l2)), some (.int (zI l3))] [] (rd S) _
          refine s_iinc (L' := [some (.ref 24), some (.ref 1), some (.int (zI l2)), some (.int (zI (l3 + 1)))]) rfl rfl rfl ?_
          refine g_run 1 7 [some (.ref 24), some (.ref 1), some (.int (zI l2)), some (.int (zI (l3 + 1)))] [] (rd S) rfl ?_
          exact ih S l2 (l3 + 1) h hk
        · show eG _ 64 36 [some (.ref 24), some (.ref 1), some (.int (zI l2)), some (.int (zI l3))] [] (rd S) _
          refine g_run 1 37 [some (.ref 24), some (.ref 1), some (.int (zI l2)), some (.int (zI l3))] [.ref 24] (rd S) rfl ?_
          refine g_getf rfl rfl (rd_o24 _) rfl ?_
          show eG _ 64 40 [some (.ref 24), some (.ref 1), some (.int (zI l2)), some (.int (zI l3))] [.ref 30] (rd S) _
          refine g_run 1 41 [some (.ref 24), some (.ref 1), some (.int (zI l2)), some (.int (zI l3))] [.ref 24, .ref 30] (rd S) rfl ?_
          refine g_getf rfl rfl (rd_o24 _) rfl ?_
          show eG _ 64 44 [some (.ref 24), some (.ref 1), some (.int (zI l2)), some (.int (zI l3))] [.int (zI (zF S 24 11)), .ref 30] (rd S) _
          refine g_run 1 45 [some (.ref 24), some (.ref 1), some (.int (zI l2)), some (.int (zI l3))] [.int (zI l3), .int (zI (zF S 24 11)), .ref 30] (rd S) rfl ?_
          refine s_iast rfl (rd_a30 _) (rw_a30 _ _) h (fun h => ?_)
          show eG _ 64 46 [some (.ref 24), some (.ref 1), some (.int (zI l2)), some (.int (zI l3))] [] (rd (wA S 30 (zF S 24 11) l3)) _
          refine g_run 2 48 [some (.ref 24), some (.ref 1), some (.int (zI l2)), some (.int (zI l3))] [.ref 24, .ref 24] (rd (wA S 30 (zF S 24 11) l3)) rfl ?_
          refine g_getf rfl rfl (rd_o24 _) rfl ?_
          show eG _ 64 51 [some (.ref 24), some (.ref 1), some (.int (zI l2)), some (.int (zI l3))] [.int (zI (zF S 24 11)), .ref 24] (rd (wA S 30 (zF S 24 11) l3)) _
          refine g_run 1 52 [some (.ref 24), some (.ref 1), some (.int (zI l2)), some (.int (zI l3))] [.int (zI 1), .int (zI (zF S 24 11)), .ref 24] (rd (wA S 30 (zF S 24 11) l3)) rfl ?_
          refine s_iadd rfl ?_
          refine s_putf rfl rfl (rd_o24 _) rfl rfl rfl rfl rfl (rw_o24_11 _ _) ?_
          show eG _ 64 56 [some (.ref 24), some (.ref 1), some (.int (zI l2)), some (.int (zI l3))] [] (rd (wF (wA S 30 (zF S 24 11) l3) 24 11 ((zF S 24 11) + 1))) _
          refine s_iinc (L' := [some (.ref 24), some (.ref 1), some (.int (zI l2)), some (.int (zI (l3 + 1)))]) rfl rfl rfl ?_
          refine g_run 1 7 [some (.ref 24), some (.ref 1), some (.int (zI l2)), some (.int (zI (l3 + 1)))] [] (rd (wF (wA S 30 (zF S 24 11) l3) 24 11 ((zF S 24 11) + 1))) rfl ?_
          exact ih (wF (wA S 30 (zF S 24 11) l3) 24 11 ((zF S 24 11) + 1)) l2 (l3 + 1) h hk
def fW_listMoves (n : Nat) (S : ZS) (l2 : Int) : Option (ZS) := (fW_listMoves_1 n (wF S 24 11 0) l2 1).bind fun z1 => some z1
set_option maxRecDepth 100000 in
set_option maxHeartbeats 4000000 in
theorem sW_listMoves (o : eO) (n : Nat) (S : ZS) (l2 : Int) {w : ZS} (h : fW_listMoves n S l2 = some w) : eG o 64 0 (eEnt 64 [.ref 24, .ref 1, .int (zI l2)]) [] (rd S) (rv (none) (rd w)) := by
  unfold fW_listMoves at h
  show eG o 64 0 [some (.ref 24), some (.ref 1), some (.int (zI l2)), none] [] (rd S) _
  refine g_run 2 2 [some (.ref 24), some (.ref 1), some (.int (zI l2)), none] [.int (zI 0), .ref 24] (rd S) rfl ?_
  refine s_putf rfl rfl (rd_o24 _) rfl rfl rfl rfl rfl (rw_o24_11 _ _) ?_
  show eG _ 64 5 [some (.ref 24), some (.ref 1), some (.int (zI l2)), none] [] (rd (wF S 24 11 0)) _
  refine g_run 2 7 [some (.ref 24), some (.ref 1), some (.int (zI l2)), some (.int (zI 1))] [] (rd (wF S 24 11 0)) rfl ?_
  obtain ⟨z1, h1, h⟩ := zB_inv h
  refine sW_listMoves_1 o n (wF S 24 11 0) l2 1 h1 ?_
  show eG _ 64 62 [none, none, none, none] [] (rd z1) _
  cases h
  exact g_retv rfl rfl rfl
def fA_rangeCheck (n : Nat) (S : ZS) (l0 l1 l2 : Int) : Option (Unit) := gC l1 l2 (if l2 < l1 then none else gC l1 0 (if l1 < 0 then none else gC l2 l0 (if l0 < l2 then none else some ())))
set_option maxRecDepth 100000 in
set_option maxHeartbeats 4000000 in
theorem sA_rangeCheck (o : eO) (n : Nat) (S : ZS) (l0 l1 l2 : Int) {w : Unit} (h : fA_rangeCheck n S l0 l1 l2 = some w) : eG o 66 0 (eEnt 66 [.int (zI l0), .int (zI l1), .int (zI l2)]) [] (rd S) (rv (none) (rd S)) := by
  unfold fA_rangeCheck at h
  show eG o 66 0 [some (.int (zI l0)), some (.int (zI l1)), some (.int (zI l2))] [] (rd S) _
  refine g_run 2 2 [some (.int (zI l0)), some (.int (zI l1)), some (.int (zI l2))] [.int (zI l2), .int (zI l1)] (rd S) rfl ?_
  refine s_icmp_le rfl h (fun h => ?_) (fun h => ?_)
  · show eG _ 66 46 [some (.int (zI l0)), some (.int (zI l1)), some (.int (zI l2))] [] (rd S) _
    refine g_run 1 47 [some (.int (zI l0)), some (.int (zI l1)), some (.int (zI l2))] [.int (zI l1)] (rd S) rfl ?_
    refine s_if_ge rfl h (fun h => ?_) (fun h => ?_)
    · show eG _ 66 59 [some (.int (zI l0)), some (.int (zI l1)), some (.int (zI l2))] [] (rd S) _
      refine g_run 2 61 [some (.int (zI l0)), some (.int (zI l1)), some (.int (zI l2))] [.int (zI l0), .int (zI l2)] (rd S) rfl ?_
      refine s_icmp_le rfl h (fun h => ?_) (fun h => ?_)
      · show eG _ 66 73 [some (.int (zI l0)), some (.int (zI l1)), some (.int (zI l2))] [] (rd S) _
        cases h
        exact g_retv rfl rfl rfl
      · show eG _ 66 64 [some (.int (zI l0)), some (.int (zI l1)), some (.int (zI l2))] [] (rd S) _
        cases h
    · show eG _ 66 50 [some (.int (zI l0)), some (.int (zI l1)), some (.int (zI l2))] [] (rd S) _
      cases h
  · show eG _ 66 5 [some (.int (zI l0)), some (.int (zI l1)), some (.int (zI l2))] [] (rd S) _
    cases h
def fA_fill_nd_1 : Nat → ZS → Int → Int → Int → Option (ZS)
  | 0, _, _, _, _ => none
  | n + 1, S, l2, l3, l4 => gC l4 l2 (if l4 < l2 then gX l4 (nn S) (fA_fill_nd_1 n (wA S 31 l4 l3) l2 l3 (l4 + 1)) else some S)
set_option maxRecDepth 100000 in
set_option maxHeartbeats 4000000 in
theorem sA_fill_nd_1 (o : eO) : ∀ (n : Nat) (S : ZS) (l2 l3 l4 : Int) {w : ZS} {r : eP} (h : fA_fill_nd_1 n S l2 l3 l4 = some w) (hk : eG o 65 27 [none, none, none, none, none] [] (rd w) r), eG o 65 10 [some (.ref (nd S)), none, some (.int (zI l2)), some (.int (zI l3)), some (.int (zI l4))] [] (rd S) r := by
  intro n
  induction n with
  | zero => intro S l2 l3 l4 w r h hk; unfold fA_fill_nd_1 at h; cases h
  | succ n ih =>
    intro S l2 l3 l4 w r h hk
    unfold fA_fill_nd_1 at h
    refine g_run 2 13 [some (.ref (nd S)), none, some (.int (zI l2)), some (.int (zI l3)), some (.int (zI l4))] [.int (zI l2), .int (zI l4)] (rd S) rfl ?_
    refine s_icmp_ge rfl h (fun h => ?_) (fun h => ?_)
    · show eG _ 65 27 [some (.ref (nd S)), none, some (.int (zI l2)), some (.int (zI l3)), some (.int (zI l4))] [] (rd S) _
      refine g_fgt [true, true, true, true, true] ?_
      show eG _ 65 27 [none, none, none, none, none] [] (rd S) _
      cases h
      exact hk
    · show eG _ 65 16 [some (.ref (nd S)), none, some (.int (zI l2)), some (.int (zI l3)), some (.int (zI l4))] [] (rd S) _
      refine g_run 3 20 [some (.ref (nd S)), none, some (.int (zI l2)), some (.int (zI l3)), some (.int (zI l4))] [.int (zI l3), .int (zI l4), .ref (nd S)] (rd S) rfl ?_
      refine s_iast rfl (rd_nd _) (rw_nd _ _) h (fun h => ?_)
      show eG _ 65 21 [some (.ref (nd S)), none, some (.int (zI l2)), some (.int (zI l3)), some (.int (zI l4))] [] (rd (wA S 31 l4 l3)) _
      refine s_iinc (L' := [some (.ref (nd S)), none, some (.int (zI l2)), some (.int (zI l3)), some (.int (zI (l4 + 1)))]) rfl rfl rfl ?_
      refine g_run 1 10 [some (.ref (nd S)), none, some (.int (zI l2)), some (.int (zI l3)), some (.int (zI (l4 + 1)))] [] (rd (wA S 31 l4 l3)) rfl ?_
      exact ih (wA S 31 l4 l3) l2 l3 (l4 + 1) h hk
def fA_fill_nd (n : Nat) (S : ZS) (l1 l2 l3 : Int) : Option (ZS) := (fA_rangeCheck n S (((nn S) : Nat) : Int) l1 l2).bind fun z1 => (fA_fill_nd_1 n S l2 l3 l1).bind fun z2 => some z2
set_option maxRecDepth 100000 in
set_option maxHeartbeats 4000000 in
theorem sA_fill_nd (o : eO) (n : Nat) (S : ZS) (l1 l2 l3 : Int) {w : ZS} (h : fA_fill_nd n S l1 l2 l3 = some w) : eG o 65 0 (eEnt 65 [.ref (nd S), .int (zI l1), .int (zI l2), .int (zI l3)]) [] (rd S) (rv (none) (rd w)) := by
  unfold fA_fill_nd at h
  show eG o 65 0 [some (.ref (nd S)), some (.int (zI l1)), some (.int (zI l2)), some (.int (zI l3)), none] [] (rd S) _
  refine g_run 1 1 [some (.ref (nd S)), some (.int (zI l1)), some (.int (zI l2)), some (.int (zI l3)), none] [.ref (nd S)] (rd S) rfl ?_
  refine s_alen rfl (rd_nd _) rfl ?_
  show eG _ 65 2 [some (.ref (nd S)), some (.int (zI l1)), some (.int (zI l2)), some (.int (zI l3)), none] [.int (zI (((nn S) : Nat) : Int))] (rd S) _
  refine g_run 2 4 [some (.ref (nd S)), some (.int (zI l1)), some (.int (zI l2)), some (.int (zI l3)), none] [.int (zI l2), .int (zI l1), .int (zI (((nn S) : Nat) : Int))] (rd S) rfl ?_
  refine s_sta (fun _ => none) (fun _ => rd S) rfl rfl rfl rfl rfl rfl rfl (fun z hz => sA_rangeCheck o n S (((nn S) : Nat) : Int) l1 l2 hz) rfl h (fun z1 h => ?_)
  show eG _ 65 7 [some (.ref (nd S)), some (.int (zI l1)), some (.int (zI l2)), some (.int (zI l3)), none] [] (rd S) _
  refine g_run 2 10 [some (.ref (nd S)), some (.int (zI l1)), some (.int (zI l2)), some (.int (zI l3)), some (.int (zI l1))] [] (rd S) rfl ?_
  refine g_fgt [false, true, false, false, false] ?_
  show eG _ 65 10 [some (.ref (nd S)), none, some (.int (zI l2)), some (.int (zI l3)), some (.int (zI l1))] [] (rd S) _
  obtain ⟨z2, h1, h⟩ := zB_inv h
  refine sA_fill_nd_1 o n S l2 l3 l1 h1 ?_
  show eG _ 65 27 [none, none, none, none, none] [] (rd z2) _
  cases h
  exact g_retv rfl rfl rfl
def fW_given (n : Nat) (S : ZS) (l1 l2 : Int) : Option (Int) := gX (zand l1 (zxor l2 (-1))) 256 (gX (zand l2 (zxor l1 (-1))) 256 (some ((zA S 26 (zand l1 (zxor l2 (-1)))) + (zA S 27 (zand l2 (zxor l1 (-1)))))))
set_option maxRecDepth 100000 in
set_option maxHeartbeats 4000000 in
theorem sW_given (o : eO) (n : Nat) (S : ZS) (l1 l2 : Int) {w : Int} (h : fW_given n S l1 l2 = some w) : eG o 70 0 (eEnt 70 [.ref 24, .int (zI l1), .int (zI l2)]) [] (rd S) (rv (some (.int (zI w))) (rd S)) := by
  unfold fW_given at h
  show eG o 70 0 [some (.ref 24), some (.int (zI l1)), some (.int (zI l2))] [] (rd S) _
  refine g_run 1 1 [some (.ref 24), some (.int (zI l1)), some (.int (zI l2))] [.ref 24] (rd S) rfl ?_
  refine g_getf rfl rfl (rd_o24 _) rfl ?_
  show eG _ 70 4 [some (.ref 24), some (.int (zI l1)), some (.int (zI l2))] [.ref 26] (rd S) _
  refine g_run 3 7 [some (.ref 24), some (.int (zI l1)), some (.int (zI l2))] [.int (zI (-1)), .int (zI l2), .int (zI l1), .ref 26] (rd S) rfl ?_
  refine s_ixor rfl ?_
  refine s_iand rfl ?_
  refine s_iald rfl (rd_a26 _) h (fun h => ?_)
  show eG _ 70 10 [some (.ref 24), some (.int (zI l1)), some (.int (zI l2))] [.int (zI (zA S 26 (zand l1 (zxor l2 (-1)))))] (rd S) _
  refine g_run 1 11 [some (.ref 24), some (.int (zI l1)), some (.int (zI l2))] [.ref 24, .int (zI (zA S 26 (zand l1 (zxor l2 (-1)))))] (rd S) rfl ?_
  refine g_getf rfl rfl (rd_o24 _) rfl ?_
  show eG _ 70 14 [some (.ref 24), some (.int (zI l1)), some (.int (zI l2))] [.ref 27, .int (zI (zA S 26 (zand l1 (zxor l2 (-1)))))] (rd S) _
  refine g_run 3 17 [some (.ref 24), some (.int (zI l1)), some (.int (zI l2))] [.int (zI (-1)), .int (zI l1), .int (zI l2), .ref 27, .int (zI (zA S 26 (zand l1 (zxor l2 (-1)))))] (rd S) rfl ?_
  refine s_ixor rfl ?_
  refine s_iand rfl ?_
  refine s_iald rfl (rd_a27 _) h (fun h => ?_)
  show eG _ 70 20 [some (.ref 24), some (.int (zI l1)), some (.int (zI l2))] [.int (zI (zA S 27 (zand l2 (zxor l1 (-1))))), .int (zI (zA S 26 (zand l1 (zxor l2 (-1)))))] (rd S) _
  refine s_iadd rfl ?_
  cases h
  exact s_ret rfl rfl rfl
def fW_growFrom_1 : Nat → ZS → Int → Int → Int → Int → Int → Option (Int × ZS)
  | 0, _, _, _, _, _, _ => none
  | n + 1, S, l1, l2, l3, l4, l5 => gC l5 (zF S 24 11) (if l5 < (zF S 24 11) then gX l5 256 (gX (zxor l1 (zA S 30 l5)) 256 (gC (zA S 28 (zxor l1 (zA S 30 l5))) 0 (if (zA S 28 (zxor l1 (zA S 30 l5))) = 0 then fW_growFrom_1 n S l1 l2 l3 l4 (l5 + 1) else gX (zand (zxor l1 (zA S 30 l5)) l1) 256 (gC (zA S 29 (zand (zxor l1 (zA S 30 l5)) l1)) 0 (if (zA S 29 (zand (zxor l1 (zA S 30 l5)) l1)) = 0 then fW_growFrom_1 n S l1 l2 l3 l4 (l5 + 1) else (fW_given n S (zxor l1 (zA S 30 l5)) l1).bind fun z1 => gC 0 (l2 - z1) (gX (l3 + (zxor l1 (zA S 30 l5))) (nn S) (gC (max 0 (l2 - z1)) (zA S 31 (l3 + (zxor l1 (zA S 30 l5)))) (if (max 0 (l2 - z1)) < (zA S 31 (l3 + (zxor l1 (zA S 30 l5)))) then gX (l3 + (zxor l1 (zA S 30 l5))) (nn S) (fW_growFrom_1 n (wA S 31 (l3 + (zxor l1 (zA S 30 l5))) (max 0 (l2 - z1))) l1 l2 l3 1 (l5 + 1)) else fW_growFrom_1 n S l1 l2 l3 l4 (l5 + 1))))))))) else some (l4, S))
set_option maxRecDepth 100000 in
set_option maxHeartbeats 4000000 in
theorem sW_growFrom_1 (o : eO) : ∀ (n : Nat) (S : ZS) (l1 l2 l3 l4 l5 : Int) {w : Int × ZS} {r : eP} (h : fW_growFrom_1 n S l1 l2 l3 l4 l5 = some w) (hk : eG o 69 97 [none, none, none, none, some (.int (zI w.1)), none, none, none] [] (rd w.2) r), eG o 69 6 [some (.ref 24), some (.int (zI l1)), some (.int (zI l2)), some (.int (zI l3)), some (.int (zI l4)), some (.int (zI l5)), none, none] [] (rd S) r := by
  intro n
  induction n with
  | zero => intro S l1 l2 l3 l4 l5 w r h hk; unfold fW_growFrom_1 at h; cases h
  | succ n ih =>
    intro S l1 l2 l3 l4 l5 w r h hk
    unfold fW_growFrom_1 at h
    refine g_run 2 9 [some (.ref 24), some (.int (zI l1)), some (.int (zI l2)), some (.int (zI l3)), some (.int (zI l4)), some (.int (zI l5)), none, none] [.ref 24, .int (zI l5)] (rd S) rfl ?_
    refine g_getf rfl rfl (rd_o24 _) rfl ?_
    show eG _ 69 12 [some (.ref 24), some (.int (zI l1)), some (.int (zI l2)), some (.int (zI l3)), some (.int (zI l4)), some (.int (zI l5)), none, none] [.int (zI (zF S 24 11)), .int (zI l5)] (rd S) _
    refine s_icmp_ge rfl h (fun h => ?_) (fun h => ?_)
    · show eG _ 69 97 [some (.ref 24), some (.int (zI l1)), some (.int (zI l2)), some (.int (zI l3)), some (.int (zI l4)), some (.int (zI l5)), none, none] [] (rd S) _
      refine g_fgt [true, true, true, true, false, true, true, true] ?_
      show eG _ 69 97 [none, none, none, none, some (.int (zI l4)), none, none, none] [] (rd S) _
      cases h
      exact hk
    · show eG _ 69 15 [some (.ref 24), some (.int (zI l1)), some (.int (zI l2)), some (.int (zI l3)), some (.int (zI l4)), some (.int (zI l5)), none, none] [] (rd S) _
      refine g_run 2 17 [some (.ref 24), some (.int (zI l1)), some (.int (zI l2)), some (.int (zI l3)), some (.int (zI l4)), some (.int (zI l5)), none, none] [.ref 24, .int (zI l1)] (rd S) rfl ?_
      refine g_getf rfl rfl (rd_o24 _) rfl ?_
      show eG _ 69 20 [some (.ref 24), some (.int (zI l1)), some (.int (zI l2)), some (.int (zI l3)), some (.int (zI l4)), some (.int (zI l5)), none, none] [.ref 30, .int (zI l1)] (rd S) _
      refine g_run 1 22 [some (.ref 24), some (.int (zI l1)), some (.int (zI l2)), some (.int (zI l3)), some (.int (zI l4)), some (.int (zI l5)), none, none] [.int (zI l5), .ref 30, .int (zI l1)] (rd S) rfl ?_
      refine s_iald rfl (rd_a30 _) h (fun h => ?_)
      show eG _ 69 23 [some (.ref 24), some (.int (zI l1)), some (.int (zI l2)), some (.int (zI l3)), some (.int (zI l4)), some (.int (zI l5)), none, none] [.int (zI (zA S 30 l5)), .int (zI l1)] (rd S) _
      refine s_ixor rfl ?_
      refine g_run 2 27 [some (.ref 24), some (.int (zI l1)), some (.int (zI l2)), some (.int (zI l3)), some (.int (zI l4)), some (.int (zI l5)), some (.int (zI (zxor l1 (zA S 30 l5)))), none] [.ref 24] (rd S) rfl ?_
      refine g_getf rfl rfl (rd_o24 _) rfl ?_
      show eG _ 69 30 [some (.ref 24), some (.int (zI l1)), some (.int (zI l2)), some (.int (zI l3)), some (.int (zI l4)), some (.int (zI l5)), some (.int (zI (zxor l1 (zA S 30 l5)))), none] [.ref 28] (rd S) _
      refine g_run 1 32 [some (.ref 24), some (.int (zI l1)), some (.int (zI l2)), some (.int (zI l3)), some (.int (zI l4)), some (.int (zI l5)), some (.int (zI (zxor l1 (zA S 30 l5)))), none] [.int (zI (zxor l1 (zA S 30 l5))), .ref 28] (rd S) rfl ?_
      refine s_bald rfl (rd_a28 _) h (fun h => ?_)
      show eG _ 69 33 [some (.ref 24), some (.int (zI l1)), some (.int (zI l2)), some (.int (zI l3)), some (.int (zI l4)), some (.int (zI l5)), some (.int (zI (zxor l1 (zA S 30 l5)))), none] [.int (zI (zA S 28 (zxor l1 (zA S 30 l5))))] (rd S) _
      refine s_if_eq rfl h (fun h => ?_) (fun h => ?_)
      · show eG _ 69 91 [some (.ref 24), some (.int (zI l1)), some (.int (zI l2)), some (.int (zI l3)), some (.int (zI l4)), some (.int (zI l5)), some (.int (zI (zxor l1 (zA S 30 l5)))), none] [] (rd S) _
        refine s_iinc (L' := [some (.ref 24), some (.int (zI l1)), some (.int (zI l2)), some (.int (zI l3)), some (.int (zI l4)), some (.int (zI (l5 + 1))), some (.int (zI (zxor l1 (zA S 30 l5)))), none]) rfl rfl rfl ?_
        refine g_run 1 6 [some (.ref 24), some (.int (zI l1)), some (.int (zI l2)), some (.int (zI l3)), some (.int (zI l4)), some (.int (zI (l5 + 1))), some (.int (zI (zxor l1 (zA S 30 l5)))), none] [] (rd S) rfl ?_
        refine g_fgt [false, false, false, false, false, false, true, true] ?_
        show eG _ 69 6 [some (.ref 24), some (.int (zI l1)), some (.int (zI l2)), some (.int (zI l3)), some (.int (zI l4)), some (.int (zI (l5 + 1))), none, none] [] (rd S) _
        exact ih S l1 l2 l3 l4 (l5 + 1) h hk
      · show eG _ 69 36 [some (.ref 24), some (.int (zI l1)), some (.int (zI l2)), some (.int (zI l3)), some (.int (zI l4)), some (.int (zI l5)), some (.int (zI (zxor l1 (zA S 30 l5)))), none] [] (rd S) _
        refine g_run 1 37 [some (.ref 24), some (.int (zI l1)), some (.int (zI l2)), some (.int (zI l3)), some (.int (zI l4)), some (.int (zI l5)), some (.int (zI (zxor l1 (zA S 30 l5)))), none] [.ref 24] (rd S) rfl ?_
        refine g_getf rfl rfl (rd_o24 _) rfl ?_
        show eG _ 69 40 [some (.ref 24), some (.int (zI l1)), some (.int (zI l2)), some (.int (zI l3)), some (.int (zI l4)), some (.int (zI l5)), some (.int (zI (zxor l1 (zA S 30 l5)))), none] [.ref 29] (rd S) _
        refine g_run 2 43 [some (.ref 24), some (.int (zI l1)), some (.int (zI l2)), some (.int (zI l3)), some (.int (zI l4)), some (.int (zI l5)), some (.int (zI (zxor l1 (zA S 30 l5)))), none] [.int (zI l1), .int (zI (zxor l1 (zA S 30 l5))), .ref 29] (rd S) rfl ?_
        refine s_iand rfl ?_
        refine s_bald rfl (rd_a29 _) h (fun h => ?_)
        show eG _ 69 45 [some (.ref 24), some (.int (zI l1)), some (.int (zI l2)), some (.int (zI l3)), some (.int (zI l4)), some (.int (zI l5)), some (.int (zI (zxor l1 (zA S 30 l5)))), none] [.int (zI (zA S 29 (zand (zxor l1 (zA S 30 l5)) l1)))] (rd S) _
        refine s_if_eq rfl h (fun h => ?_) (fun h => ?_)
        · show eG _ 69 91 [some (.ref 24), some (.int (zI l1)), some (.int (zI l2)), some (.int (zI l3)), some (.int (zI l4)), some (.int (zI l5)), some (.int (zI (zxor l1 (zA S 30 l5)))), none] [] (rd S) _
          refine s_iinc (L' := [some (.ref 24), some (.int (zI l1)), some (.int (zI l2)), some (.int (zI l3)), some (.int (zI l4)), some (.int (zI (l5 + 1))), some (.int (zI (zxor l1 (zA S 30 l5)))), none]) rfl rfl rfl ?_
          refine g_run 1 6 [some (.ref 24), some (.int (zI l1)), some (.int (zI l2)), some (.int (zI l3)), some (.int (zI l4)), some (.int (zI (l5 + 1))), some (.int (zI (zxor l1 (zA S 30 l5)))), none] [] (rd S) rfl ?_
          refine g_fgt [false, false, false, false, false, false, true, true] ?_
          show eG _ 69 6 [some (.ref 24), some (.int (zI l1)), some (.int (zI l2)), some (.int (zI l3)), some (.int (zI l4)), some (.int (zI (l5 + 1))), none, none] [] (rd S) _
          exact ih S l1 l2 l3 l4 (l5 + 1) h hk
        · show eG _ 69 48 [some (.ref 24), some (.int (zI l1)), some (.int (zI l2)), some (.int (zI l3)), some (.int (zI l4)), some (.int (zI l5)), some (.int (zI (zxor l1 (zA S 30 l5)))), none] [] (rd S) _
          refine g_run 5 54 [some (.ref 24), some (.int (zI l1)), some (.int (zI l2)), some (.int (zI l3)), some (.int (zI l4)), some (.int (zI l5)), some (.int (zI (zxor l1 (zA S 30 l5)))), none] [.int (zI l1), .int (zI (zxor l1 (zA S 30 l5))), .ref 24, .int (zI l2), .int (zI 0)] (rd S) rfl ?_
          refine s_vir (fun z => some (.int (zI z))) (fun _ => rd S) rfl rfl rfl (rd_o24 _) rfl rfl (fun z hz => sW_given o n S (zxor l1 (zA S 30 l5)) l1 hz) rfl h (fun z1 h => ?_)
          show eG _ 69 57 [some (.ref 24), some (.int (zI l1)), some (.int (zI l2)), some (.int (zI l3)), some (.int (zI l4)), some (.int (zI l5)), some (.int (zI (zxor l1 (zA S 30 l5)))), none] [.int (zI z1), .int (zI l2), .int (zI 0)] (rd S) _
          refine s_isub rfl ?_
          refine s_max rfl rfl rfl rfl h (fun h => ?_)
          refine g_run 3 66 [some (.ref 24), some (.int (zI l1)), some (.int (zI l2)), some (.int (zI l3)), some (.int (zI l4)), some (.int (zI l5)), some (.int (zI (zxor l1 (zA S 30 l5)))), some (.int (zI (max 0 (l2 - z1))))] [.ref 24, .int (zI (max 0 (l2 - z1)))] (rd S) rfl ?_
          refine g_getf rfl rfl (rd_o24 _) rfl ?_
          show eG _ 69 69 [some (.ref 24), some (.int (zI l1)), some (.int (zI l2)), some (.int (zI l3)), some (.int (zI l4)), some (.int (zI l5)), some (.int (zI (zxor l1 (zA S 30 l5)))), some (.int (zI (max 0 (l2 - z1))))] [.ref (nd S), .int (zI (max 0 (l2 - z1)))] (rd S) _
          refine g_run 2 72 [some (.ref 24), some (.int (zI l1)), some (.int (zI l2)), some (.int (zI l3)), some (.int (zI l4)), some (.int (zI l5)), some (.int (zI (zxor l1 (zA S 30 l5)))), some (.int (zI (max 0 (l2 - z1))))] [.int (zI (zxor l1 (zA S 30 l5))), .int (zI l3), .ref (nd S), .int (zI (max 0 (l2 - z1)))] (rd S) rfl ?_
          refine s_iadd rfl ?_
          refine s_iald rfl (rd_nd _) h (fun h => ?_)
          show eG _ 69 74 [some (.ref 24), some (.int (zI l1)), some (.int (zI l2)), some (.int (zI l3)), some (.int (zI l4)), some (.int (zI l5)), some (.int (zI (zxor l1 (zA S 30 l5)))), some (.int (zI (max 0 (l2 - z1))))] [.int (zI (zA S 31 (l3 + (zxor l1 (zA S 30 l5))))), .int (zI (max 0 (l2 - z1)))] (rd S) _
          refine s_icmp_ge rfl h (fun h => ?_) (fun h => ?_)
          · show eG _ 69 91 [some (.ref 24), some (.int (zI l1)), some (.int (zI l2)), some (.int (zI l3)), some (.int (zI l4)), some (.int (zI l5)), some (.int (zI (zxor l1 (zA S 30 l5)))), some (.int (zI (max 0 (l2 - z1))))] [] (rd S) _
            refine s_iinc (L' := [some (.ref 24), some (.int (zI l1)), some (.int (zI l2)), some (.int (zI l3)), some (.int (zI l4)), some (.int (zI (l5 + 1))), some (.int (zI (zxor l1 (zA S 30 l5)))), some (.int (zI (max 0 (l2 - z1))))]) rfl rfl rfl ?_
            refine g_run 1 6 [some (.ref 24), some (.int (zI l1)), some (.int (zI l2)), some (.int (zI l3)), some (.int (zI l4)), some (.int (zI (l5 + 1))), some (.int (zI (zxor l1 (zA S 30 l5)))), some (.int (zI (max 0 (l2 - z1))))] [] (rd S) rfl ?_
            refine g_fgt [false, false, false, false, false, false, true, true] ?_
            show eG _ 69 6 [some (.ref 24), some (.int (zI l1)), some (.int (zI l2)), some (.int (zI l3)), some (.int (zI l4)), some (.int (zI (l5 + 1))), none, none] [] (rd S) _
            exact ih S l1 l2 l3 l4 (l5 + 1) h hk
          · show eG _ 69 77 [some (.ref 24), some (.int (zI l1)), some (.int (zI l2)), some (.int (zI l3)), some (.int (zI l4)), some (.int (zI l5)), some (.int (zI (zxor l1 (zA S 30 l5)))), some (.int (zI (max 0 (l2 - z1))))] [] (rd S) _
            refine g_run 1 78 [some (.ref 24), some (.int (zI l1)), some (.int (zI l2)), some (.int (zI l3)), some (.int (zI l4)), some (.int (zI l5)), some (.int (zI (zxor l1 (zA S 30 l5)))), some (.int (zI (max 0 (l2 - z1))))] [.ref 24] (rd S) rfl ?_
            refine g_getf rfl rfl (rd_o24 _) rfl ?_
            show eG _ 69 81 [some (.ref 24), some (.int (zI l1)), some (.int (zI l2)), some (.int (zI l3)), some (.int (zI l4)), some (.int (zI l5)), some (.int (zI (zxor l1 (zA S 30 l5)))), some (.int (zI (max 0 (l2 - z1))))] [.ref (nd S)] (rd S) _
            refine g_run 2 84 [some (.ref 24), some (.int (zI l1)), some (.int (zI l2)), some (.int (zI l3)), some (.int (zI l4)), some (.int (zI l5)), some (.int (zI (zxor l1 (zA S 30 l5)))), some (.int (zI (max 0 (l2 - z1))))] [.int (zI (zxor l1 (zA S 30 l5))), .int (zI l3), .ref (nd S)] (rd S) rfl ?_
            refine s_iadd rfl ?_
            refine g_run 1 87 [some (.ref 24), some (.int (zI l1)), some (.int (zI l2)), some (.int (zI l3)), some (.int (zI l4)), some (.int (zI l5)), some (.int (zI (zxor l1 (zA S 30 l5)))), some (.int (zI (max 0 (l2 - z1))))] [.int (zI (max 0 (l2 - z1))), .int (zI (l3 + (zxor l1 (zA S 30 l5)))), .ref (nd S)] (rd S) rfl ?_
            refine s_iast rfl (rd_nd _) (rw_nd _ _) h (fun h => ?_)
            show eG _ 69 88 [some (.ref 24), some (.int (zI l1)), some (.int (zI l2)), some (.int (zI l3)), some (.int (zI l4)), some (.int (zI l5)), some (.int (zI (zxor l1 (zA S 30 l5)))), some (.int (zI (max 0 (l2 - z1))))] [] (rd (wA S 31 (l3 + (zxor l1 (zA S 30 l5))) (max 0 (l2 - z1)))) _
            refine g_run 2 91 [some (.ref 24), some (.int (zI l1)), some (.int (zI l2)), some (.int (zI l3)), some (.int (zI 1)), some (.int (zI l5)), some (.int (zI (zxor l1 (zA S 30 l5)))), some (.int (zI (max 0 (l2 - z1))))] [] (rd (wA S 31 (l3 + (zxor l1 (zA S 30 l5))) (max 0 (l2 - z1)))) rfl ?_
            refine s_iinc (L' := [some (.ref 24), some (.int (zI l1)), some (.int (zI l2)), some (.int (zI l3)), some (.int (zI 1)), some (.int (zI (l5 + 1))), some (.int (zI (zxor l1 (zA S 30 l5)))), some (.int (zI (max 0 (l2 - z1))))]) rfl rfl rfl ?_
            refine g_run 1 6 [some (.ref 24), some (.int (zI l1)), some (.int (zI l2)), some (.int (zI l3)), some (.int (zI 1)), some (.int (zI (l5 + 1))), some (.int (zI (zxor l1 (zA S 30 l5)))), some (.int (zI (max 0 (l2 - z1))))] [] (rd (wA S 31 (l3 + (zxor l1 (zA S 30 l5))) (max 0 (l2 - z1)))) rfl ?_
            refine g_fgt [false, false, false, false, false, false, true, true] ?_
            show eG _ 69 6 [some (.ref 24), some (.int (zI l1)), some (.int (zI l2)), some (.int (zI l3)), some (.int (zI 1)), some (.int (zI (l5 + 1))), none, none] [] (rd (wA S 31 (l3 + (zxor l1 (zA S 30 l5))) (max 0 (l2 - z1)))) _
            exact ih (wA S 31 (l3 + (zxor l1 (zA S 30 l5))) (max 0 (l2 - z1))) l1 l2 l3 1 (l5 + 1) h hk
def fW_growFrom (n : Nat) (S : ZS) (l1 l2 l3 : Int) : Option (Int × ZS) := (fW_growFrom_1 n S l1 l2 l3 0 0).bind fun z1 => gB z1.1 (some (z1.1, z1.2))
set_option maxRecDepth 100000 in
set_option maxHeartbeats 4000000 in
theorem sW_growFrom (o : eO) (n : Nat) (S : ZS) (l1 l2 l3 : Int) {w : Int × ZS} (h : fW_growFrom n S l1 l2 l3 = some w) : eG o 69 0 (eEnt 69 [.ref 24, .int (zI l1), .int (zI l2), .int (zI l3)]) [] (rd S) (rv (some (.int (zI w.1))) (rd w.2)) := by
  unfold fW_growFrom at h
  show eG o 69 0 [some (.ref 24), some (.int (zI l1)), some (.int (zI l2)), some (.int (zI l3)), none, none, none, none] [] (rd S) _
  refine g_run 4 6 [some (.ref 24), some (.int (zI l1)), some (.int (zI l2)), some (.int (zI l3)), some (.int (zI 0)), some (.int (zI 0)), none, none] [] (rd S) rfl ?_
  obtain ⟨z1, h1, h⟩ := zB_inv h
  refine sW_growFrom_1 o n S l1 l2 l3 0 0 h1 ?_
  show eG _ 69 97 [none, none, none, none, some (.int (zI z1.1)), none, none, none] [] (rd z1.2) _
  refine g_run 1 99 [none, none, none, none, some (.int (zI z1.1)), none, none, none] [.int (zI z1.1)] (rd z1.2) rfl ?_
  exact s_retB rfl rfl h (fun h => by cases h; exact rfl)
def fW_growRow_1 : Nat → ZS → Int → Int → Int → Int → Int → Option (Int × ZS)
  | 0, _, _, _, _, _, _ => none
  | n + 1, S, l1, l2, l3, l4, l5 => gC l5 l1 (if l1 < l5 then some (l4, S) else (gC (zF S 24 12) 0 (if (zF S 24 12) = 0 then some 1000 else gX ((l2 - 256) + l5) (nn S) (some (zA S 31 ((l2 - 256) + l5))))).bind fun z1 => gX (l2 + l5) (nn S) (gC (zA S 31 (l2 + l5)) z1 (if (zA S 31 (l2 + l5)) < z1 then gX (l2 + l5) (nn S) ((fW_growFrom n S l5 (zA S 31 (l2 + l5)) l3).bind fun z2 => gC z2.1 0 (if z2.1 = 0 then fW_growRow_1 n z2.2 l1 l2 l3 l4 (l5 + 1) else fW_growRow_1 n z2.2 l1 l2 l3 1 (l5 + 1))) else fW_growRow_1 n S l1 l2 l3 l4 (l5 + 1))))
set_option maxRecDepth 100000 in
set_option maxHeartbeats 4000000 in
theorem sW_growRow_1 (o : eO) : ∀ (n : Nat) (S : ZS) (l1 l2 l3 l4 l5 : Int) {w : Int × ZS} {r : eP} (h : fW_growRow_1 n S l1 l2 l3 l4 l5 = some w) (hk : eG o 67 144 [some (.ref 24), none, none, none, some (.int (zI w.1)), none, none] [] (rd w.2) r), eG o 67 68 [some (.ref 24), some (.int (zI l1)), some (.int (zI l2)), some (.int (zI l3)), some (.int (zI l4)), some (.int (zI l5)), none] [] (rd S) r := by
  intro n
  induction n with
  | zero => intro S l1 l2 l3 l4 l5 w r h hk; unfold fW_growRow_1 at h; cases h
  | succ n ih =>
    intro S l1 l2 l3 l4 l5 w r h hk
    unfold fW_growRow_1 at h
    refine g_run 2 71 [some (.ref 24), some (.int (zI l1)), some (.int (zI l2)), some (.int (zI l3)), some (.int (zI l4)), some (.int (zI l5)), none] [.int (zI l1), .int (zI l5)] (rd S) rfl ?_
    refine s_icmp_gt rfl h (fun h => ?_) (fun h => ?_)
    · show eG _ 67 144 [some (.ref 24), some (.int (zI l1)), some (.int (zI l2)), some (.int (zI l3)), some (.int (zI l4)), some (.int (zI l5)), none] [] (rd S) _
      refine g_fgt [false, true, true, true, false, true, true] ?_
      show eG _ 67 144 [some (.ref 24), none, none, none, some (.int (zI l4)), none, none] [] (rd S) _
      cases h
      exact hk
    · show eG _ 67 74 [some (.ref 24), some (.int (zI l1)), some (.int (zI l2)), some (.int (zI l3)), some (.int (zI l4)), some (.int (zI l5)), none] [] (rd S) _
      refine g_run 1 75 [some (.ref 24), some (.int (zI l1)), some (.int (zI l2)), some (.int (zI l3)), some (.int (zI l4)), some (.int (zI l5)), none] [.ref 24] (rd S) rfl ?_
      refine g_getf rfl rfl (rd_o24 _) rfl ?_
      show eG _ 67 78 [some (.ref 24), some (.int (zI l1)), some (.int (zI l2)), some (.int (zI l3)), some (.int (zI l4)), some (.int (zI l5)), none] [.int (zI (zF S 24 12))] (rd S) _
      refine s_join (α := Int) (fun z => eG o 67 100 [some (.ref 24), some (.int (zI l1)), some (.int (zI l2)), some (.int (zI l3)), some (.int (zI l4)), some (.int (zI l5)), none] [.int (zI z)] (rd S) r) h (fun z1 h => ?_) (fun z1 h j => ?_)
      · show eG _ 67 100 [some (.ref 24), some (.int (zI l1)), some (.int (zI l2)), some (.int (zI l3)), some (.int (zI l4)), some (.int (zI l5)), none] [.int (zI z1)] (rd S) _
        refine g_run 2 103 [some (.ref 24), some (.int (zI l1)), some (.int (zI l2)), some (.int (zI l3)), some (.int (zI l4)), some (.int (zI l5)), some (.int (zI z1))] [.ref 24] (rd S) rfl ?_
        refine g_getf rfl rfl (rd_o24 _) rfl ?_
        show eG _ 67 106 [some (.ref 24), some (.int (zI l1)), some (.int (zI l2)), some (.int (zI l3)), some (.int (zI l4)), some (.int (zI l5)), some (.int (zI z1))] [.ref (nd S)] (rd S) _
        refine g_run 2 109 [some (.ref 24), some (.int (zI l1)), some (.int (zI l2)), some (.int (zI l3)), some (.int (zI l4)), some (.int (zI l5)), some (.int (zI z1))] [.int (zI l5), .int (zI l2), .ref (nd S)] (rd S) rfl ?_
        refine s_iadd rfl ?_
        refine s_iald rfl (rd_nd _) h (fun h => ?_)
        show eG _ 67 111 [some (.ref 24), some (.int (zI l1)), some (.int (zI l2)), some (.int (zI l3)), some (.int (zI l4)), some (.int (zI l5)), some (.int (zI z1))] [.int (zI (zA S 31 (l2 + l5)))] (rd S) _
        refine g_run 1 113 [some (.ref 24), some (.int (zI l1)), some (.int (zI l2)), some (.int (zI l3)), some (.int (zI l4)), some (.int (zI l5)), some (.int (zI z1))] [.int (zI z1), .int (zI (zA S 31 (l2 + l5)))] (rd S) rfl ?_
        refine s_icmp_ge rfl h (fun h => ?_) (fun h => ?_)
        · show eG _ 67 138 [some (.ref 24), some (.int (zI l1)), some (.int (zI l2)), some (.int (zI l3)), some (.int (zI l4)), some (.int (zI l5)), some (.int (zI z1))] [] (rd S) _
          refine s_iinc (L' := [some (.ref 24), some (.int (zI l1)), some (.int (zI l2)), some (.int (zI l3)), some (.int (zI l4)), some (.int (zI (l5 + 1))), some (.int (zI z1))]) rfl rfl rfl ?_
          refine g_run 1 68 [some (.ref 24), some (.int (zI l1)), some (.int (zI l2)), some (.int (zI l3)), some (.int (zI l4)), some (.int (zI (l5 + 1))), some (.int (zI z1))] [] (rd S) rfl ?_
          refine g_fgt [false, false, false, false, false, false, true] ?_
          show eG _ 67 68 [some (.ref 24), some (.int (zI l1)), some (.int (zI l2)), some (.int (zI l3)), some (.int (zI l4)), some (.int (zI (l5 + 1))), none] [] (rd S) _
          exact ih S l1 l2 l3 l4 (l5 + 1) h hk
        · show eG _ 67 116 [some (.ref 24), some (.int (zI l1)), some (.int (zI l2)), some (.int (zI l3)), some (.int (zI l4)), some (.int (zI l5)), some (.int (zI z1))] [] (rd S) _
          refine g_run 3 120 [some (.ref 24), some (.int (zI l1)), some (.int (zI l2)), some (.int (zI l3)), some (.int (zI l4)), some (.int (zI l5)), some (.int (zI z1))] [.ref 24, .int (zI l5), .ref 24] (rd S) rfl ?_
          refine g_getf rfl rfl (rd_o24 _) rfl ?_
          show eG _ 67 123 [some (.ref 24), some (.int (zI l1)), some (.int (zI l2)), some (.int (zI l3)), some (.int (zI l4)), some (.int (zI l5)), some (.int (zI z1))] [.ref (nd S), .int (zI l5), .ref 24] (rd S) _
          refine g_run 2 126 [some (.ref 24), some (.int (zI l1)), some (.int (zI l2)), some (.int (zI l3)), some (.int (zI l4)), some (.int (zI l5)), some (.int (zI z1))] [.int (zI l5), .int (zI l2), .ref (nd S), .int (zI l5), .ref 24] (rd S) rfl ?_
          refine s_iadd rfl ?_
          refine s_iald rfl (rd_nd _) h (fun h => ?_)
          show eG _ 67 128 [some (.ref 24), some (.int (zI l1)), some (.int (zI l2)), some (.int (zI l3)), some (.int (zI l4)), some (.int (zI l5)), some (.int (zI z1))] [.int (zI (zA S 31 (l2 + l5))), .int (zI l5), .ref 24] (rd S) _
          refine g_run 1 129 [some (.ref 24), some (.int (zI l1)), some (.int (zI l2)), some (.int (zI l3)), some (.int (zI l4)), some (.int (zI l5)), some (.int (zI z1))] [.int (zI l3), .int (zI (zA S 31 (l2 + l5))), .int (zI l5), .ref 24] (rd S) rfl ?_
          refine s_vir (fun z => some (.int (zI z.1))) (fun z => rd z.2) rfl rfl rfl (rd_o24 _) rfl rfl (fun z hz => sW_growFrom o n S l5 (zA S 31 (l2 + l5)) l3 hz) rfl h (fun z2 h => ?_)
          show eG _ 67 132 [some (.ref 24), some (.int (zI l1)), some (.int (zI l2)), some (.int (zI l3)), some (.int (zI l4)), some (.int (zI l5)), some (.int (zI z1))] [.int (zI z2.1)] (rd z2.2) _
          refine s_if_eq rfl h (fun h => ?_) (fun h => ?_)
          · show eG _ 67 138 [some (.ref 24), some (.int (zI l1)), some (.int (zI l2)), some (.int (zI l3)), some (.int (zI l4)), some (.int (zI l5)), some (.int (zI z1))] [] (rd z2.2) _
            refine s_iinc (L' := [some (.ref 24), some (.int (zI l1)), some (.int (zI l2)), some (.int (zI l3)), some (.int (zI l4)), some (.int (zI (l5 + 1))), some (.int (zI z1))]) rfl rfl rfl ?_
            refine g_run 1 68 [some (.ref 24), some (.int (zI l1)), some (.int (zI l2)), some (.int (zI l3)), some (.int (zI l4)), some (.int (zI (l5 + 1))), some (.int (zI z1))] [] (rd z2.2) rfl ?_
            refine g_fgt [false, false, false, false, false, false, true] ?_
            show eG _ 67 68 [some (.ref 24), some (.int (zI l1)), some (.int (zI l2)), some (.int (zI l3)), some (.int (zI l4)), some (.int (zI (l5 + 1))), none] [] (rd z2.2) _
            exact ih z2.2 l1 l2 l3 l4 (l5 + 1) h hk
          · show eG _ 67 135 [some (.ref 24), some (.int (zI l1)), some (.int (zI l2)), some (.int (zI l3)), some (.int (zI l4)), some (.int (zI l5)), some (.int (zI z1))] [] (rd z2.2) _
            refine g_run 2 138 [some (.ref 24), some (.int (zI l1)), some (.int (zI l2)), some (.int (zI l3)), some (.int (zI 1)), some (.int (zI l5)), some (.int (zI z1))] [] (rd z2.2) rfl ?_
            refine s_iinc (L' := [some (.ref 24), some (.int (zI l1)), some (.int (zI l2)), some (.int (zI l3)), some (.int (zI 1)), some (.int (zI (l5 + 1))), some (.int (zI z1))]) rfl rfl rfl ?_
            refine g_run 1 68 [some (.ref 24), some (.int (zI l1)), some (.int (zI l2)), some (.int (zI l3)), some (.int (zI 1)), some (.int (zI (l5 + 1))), some (.int (zI z1))] [] (rd z2.2) rfl ?_
            refine g_fgt [false, false, false, false, false, false, true] ?_
            show eG _ 67 68 [some (.ref 24), some (.int (zI l1)), some (.int (zI l2)), some (.int (zI l3)), some (.int (zI 1)), some (.int (zI (l5 + 1))), none] [] (rd z2.2) _
            exact ih z2.2 l1 l2 l3 1 (l5 + 1) h hk
      · skip
        refine s_if_ne rfl h (fun h => ?_) (fun h => ?_)
        · show eG _ 67 87 [some (.ref 24), some (.int (zI l1)), some (.int (zI l2)), some (.int (zI l3)), some (.int (zI l4)), some (.int (zI l5)), none] [] (rd S) _
          refine g_run 1 88 [some (.ref 24), some (.int (zI l1)), some (.int (zI l2)), some (.int (zI l3)), some (.int (zI l4)), some (.int (zI l5)), none] [.ref 24] (rd S) rfl ?_
          refine g_getf rfl rfl (rd_o24 _) rfl ?_
          show eG _ 67 91 [some (.ref 24), some (.int (zI l1)), some (.int (zI l2)), some (.int (zI l3)), some (.int (zI l4)), some (.int (zI l5)), none] [.ref (nd S)] (rd S) _
          refine g_run 2 95 [some (.ref 24), some (.int (zI l1)), some (.int (zI l2)), some (.int (zI l3)), some (.int (zI l4)), some (.int (zI l5)), none] [.int (zI 256), .int (zI l2), .ref (nd S)] (rd S) rfl ?_
          refine s_isub rfl ?_
          refine g_run 1 98 [some (.ref 24), some (.int (zI l1)), some (.int (zI l2)), some (.int (zI l3)), some (.int (zI l4)), some (.int (zI l5)), none] [.int (zI l5), .int (zI (l2 - 256)), .ref (nd S)] (rd S) rfl ?_
          refine s_iadd rfl ?_
          refine s_iald rfl (rd_nd _) h (fun h => ?_)
          show eG _ 67 100 [some (.ref 24), some (.int (zI l1)), some (.int (zI l2)), some (.int (zI l3)), some (.int (zI l4)), some (.int (zI l5)), none] [.int (zI (zA S 31 ((l2 - 256) + l5)))] (rd S) _
          cases h
          exact j
        · show eG _ 67 81 [some (.ref 24), some (.int (zI l1)), some (.int (zI l2)), some (.int (zI l3)), some (.int (zI l4)), some (.int (zI l5)), none] [] (rd S) _
          refine g_run 2 100 [some (.ref 24), some (.int (zI l1)), some (.int (zI l2)), some (.int (zI l3)), some (.int (zI l4)), some (.int (zI l5)), none] [.int (zI 1000)] (rd S) rfl ?_
          cases h
          exact j
def fW_growRow (n : Nat) (S : ZS) (l1 : Int) : Option (Int × ZS) := (gC ((((zF S 24 12) * 256) + 256) + 256) (((nn S) : Nat) : Int) (if (((nn S) : Nat) : Int) < ((((zF S 24 12) * 256) + 256) + 256) then gG S (2 * (((nn S) : Nat) : Int)) (some (wN S)) else some S)).bind fun z1 => gY ((zF S 24 12) * 256) (((zF S 24 12) * 256) + 256) 256 (nn z1) (nn z1) ((fW_growRow_1 n (wR z1 31 (zc (z1.1 31) (z1.1 31) ((zF S 24 12) * 256) (((zF S 24 12) * 256) + 256) 256)) l1 ((zF S 24 12) * 256) (((zF S 24 12) * 256) + 256) 0 0).bind fun z2 => gB z2.1 (some (z2.1, wF z2.2 24 12 ((zF z2.2 24 12) + 1))))
set_option maxRecDepth 100000 in
set_option maxHeartbeats 4000000 in
theorem sW_growRow (o : eO) (n : Nat) (S : ZS) (l1 : Int) {w : Int × ZS} (h : fW_growRow n S l1 = some w) : eG o 67 0 (eEnt 67 [.ref 24, .int (zI l1)]) [] (rd S) (rv (some (.int (zI w.1))) (rd w.2)) := by
  unfold fW_growRow at h
  show eG o 67 0 [some (.ref 24), some (.int (zI l1)), none, none, none, none, none] [] (rd S) _
  refine g_run 1 1 [some (.ref 24), some (.int (zI l1)), none, none, none, none, none] [.ref 24] (rd S) rfl ?_
  refine g_getf rfl rfl (rd_o24 _) rfl ?_
  show eG _ 67 4 [some (.ref 24), some (.int (zI l1)), none, none, none, none, none] [.int (zI (zF S 24 12))] (rd S) _
  refine g_run 1 7 [some (.ref 24), some (.int (zI l1)), none, none, none, none, none] [.int (zI 256), .int (zI (zF S 24 12))] (rd S) rfl ?_
  refine s_imul rfl ?_
  refine g_run 3 13 [some (.ref 24), some (.int (zI l1)), some (.int (zI ((zF S 24 12) * 256))), none, none, none, none] [.int (zI 256), .int (zI ((zF S 24 12) * 256))] (rd S) rfl ?_
  refine s_iadd rfl ?_
  refine g_run 3 19 [some (.ref 24), some (.int (zI l1)), some (.int (zI ((zF S 24 12) * 256))), some (.int (zI (((zF S 24 12) * 256) + 256))), none, none, none] [.int (zI 256), .int (zI (((zF S 24 12) * 256) + 256))] (rd S) rfl ?_
  refine s_iadd rfl ?_
  refine g_run 1 21 [some (.ref 24), some (.int (zI l1)), some (.int (zI ((zF S 24 12) * 256))), some (.int (zI (((zF S 24 12) * 256) + 256))), none, none, none] [.ref 24, .int (zI ((((zF S 24 12) * 256) + 256) + 256))] (rd S) rfl ?_
  refine g_getf rfl rfl (rd_o24 _) rfl ?_
  show eG _ 67 24 [some (.ref 24), some (.int (zI l1)), some (.int (zI ((zF S 24 12) * 256))), some (.int (zI (((zF S 24 12) * 256) + 256))), none, none, none] [.ref (nd S), .int (zI ((((zF S 24 12) * 256) + 256) + 256))] (rd S) _
  refine s_alen rfl (rd_nd _) rfl ?_
  show eG _ 67 25 [some (.ref 24), some (.int (zI l1)), some (.int (zI ((zF S 24 12) * 256))), some (.int (zI (((zF S 24 12) * 256) + 256))), none, none, none] [.int (zI (((nn S) : Nat) : Int)), .int (zI ((((zF S 24 12) * 256) + 256) + 256))] (rd S) _
  refine s_join (α := ZS) (fun z => eG o 67 46 [some (.ref 24), some (.int (zI l1)), some (.int (zI ((zF S 24 12) * 256))), some (.int (zI (((zF S 24 12) * 256) + 256))), none, none, none] [] (rd z) (rv (some (.int (zI w.1))) (rd w.2))) h (fun z1 h => ?_) (fun z1 h j => ?_)
  · show eG _ 67 46 [some (.ref 24), some (.int (zI l1)), some (.int (zI ((zF S 24 12) * 256))), some (.int (zI (((zF S 24 12) * 256) + 256))), none, none, none] [] (rd z1) _
    refine g_run 1 47 [some (.ref 24), some (.int (zI l1)), some (.int (zI ((zF S 24 12) * 256))), some (.int (zI (((zF S 24 12) * 256) + 256))), none, none, none] [.ref 24] (rd z1) rfl ?_
    refine g_getf rfl rfl (rd_o24 _) rfl ?_
    show eG _ 67 50 [some (.ref 24), some (.int (zI l1)), some (.int (zI ((zF S 24 12) * 256))), some (.int (zI (((zF S 24 12) * 256) + 256))), none, none, none] [.ref (nd z1)] (rd z1) _
    refine g_run 2 52 [some (.ref 24), some (.int (zI l1)), some (.int (zI ((zF S 24 12) * 256))), some (.int (zI (((zF S 24 12) * 256) + 256))), none, none, none] [.ref 24, .int (zI ((zF S 24 12) * 256)), .ref (nd z1)] (rd z1) rfl ?_
    refine g_getf rfl rfl (rd_o24 _) rfl ?_
    show eG _ 67 55 [some (.ref 24), some (.int (zI l1)), some (.int (zI ((zF S 24 12) * 256))), some (.int (zI (((zF S 24 12) * 256) + 256))), none, none, none] [.ref (nd z1), .int (zI ((zF S 24 12) * 256)), .ref (nd z1)] (rd z1) _
    refine g_run 2 59 [some (.ref 24), some (.int (zI l1)), some (.int (zI ((zF S 24 12) * 256))), some (.int (zI (((zF S 24 12) * 256) + 256))), none, none, none] [.int (zI 256), .int (zI (((zF S 24 12) * 256) + 256)), .ref (nd z1), .int (zI ((zF S 24 12) * 256)), .ref (nd z1)] (rd z1) rfl ?_
    refine s_cpy rfl rfl (rd_nd _) (rd_nd _) rfl (rw_nd _ _) h (fun h => ?_)
    show eG _ 67 62 [some (.ref 24), some (.int (zI l1)), some (.int (zI ((zF S 24 12) * 256))), some (.int (zI (((zF S 24 12) * 256) + 256))), none, none, none] [] (rd (wR z1 31 (zc (z1.1 31) (z1.1 31) ((zF S 24 12) * 256) (((zF S 24 12) * 256) + 256) 256))) _
    refine g_run 4 68 [some (.ref 24), some (.int (zI l1)), some (.int (zI ((zF S 24 12) * 256))), some (.int (zI (((zF S 24 12) * 256) + 256))), some (.int (zI 0)), some (.int (zI 0)), none] [] (rd (wR z1 31 (zc (z1.1 31) (z1.1 31) ((zF S 24 12) * 256) (((zF S 24 12) * 256) + 256) 256))) rfl ?_
    obtain ⟨z2, h1, h⟩ := zB_inv h
    refine sW_growRow_1 o n (wR z1 31 (zc (z1.1 31) (z1.1 31) ((zF S 24 12) * 256) (((zF S 24 12) * 256) + 256) 256)) l1 ((zF S 24 12) * 256) (((zF S 24 12) * 256) + 256) 0 0 h1 ?_
    show eG _ 67 144 [some (.ref 24), none, none, none, some (.int (zI z2.1)), none, none] [] (rd z2.2) _
    refine g_run 2 146 [some (.ref 24), none, none, none, some (.int (zI z2.1)), none, none] [.ref 24, .ref 24] (rd z2.2) rfl ?_
    refine g_getf rfl rfl (rd_o24 _) rfl ?_
    show eG _ 67 149 [some (.ref 24), none, none, none, some (.int (zI z2.1)), none, none] [.int (zI (zF z2.2 24 12)), .ref 24] (rd z2.2) _
    refine g_run 1 150 [some (.ref 24), none, none, none, some (.int (zI z2.1)), none, none] [.int (zI 1), .int (zI (zF z2.2 24 12)), .ref 24] (rd z2.2) rfl ?_
    refine s_iadd rfl ?_
    refine s_putf rfl rfl (rd_o24 _) rfl rfl rfl rfl rfl (rw_o24_12 _ _) ?_
    show eG _ 67 154 [some (.ref 24), none, none, none, some (.int (zI z2.1)), none, none] [] (rd (wF z2.2 24 12 ((zF z2.2 24 12) + 1))) _
    refine g_run 1 156 [some (.ref 24), none, none, none, some (.int (zI z2.1)), none, none] [.int (zI z2.1)] (rd (wF z2.2 24 12 ((zF z2.2 24 12) + 1))) rfl ?_
    exact s_retB rfl rfl h (fun h => by cases h; exact rfl)
  · skip
    refine s_icmp_le rfl h (fun h => ?_) (fun h => ?_)
    · show eG _ 67 46 [some (.ref 24), some (.int (zI l1)), some (.int (zI ((zF S 24 12) * 256))), some (.int (zI (((zF S 24 12) * 256) + 256))), none, none, none] [] (rd S) _
      cases h
      exact j
    · show eG _ 67 28 [some (.ref 24), some (.int (zI l1)), some (.int (zI ((zF S 24 12) * 256))), some (.int (zI (((zF S 24 12) * 256) + 256))), none, none, none] [] (rd S) _
      refine g_run 2 30 [some (.ref 24), some (.int (zI l1)), some (.int (zI ((zF S 24 12) * 256))), some (.int (zI (((zF S 24 12) * 256) + 256))), none, none, none] [.ref 24, .ref 24] (rd S) rfl ?_
      refine g_getf rfl rfl (rd_o24 _) rfl ?_
      show eG _ 67 33 [some (.ref 24), some (.int (zI l1)), some (.int (zI ((zF S 24 12) * 256))), some (.int (zI (((zF S 24 12) * 256) + 256))), none, none, none] [.ref (nd S), .ref 24] (rd S) _
      refine g_run 2 35 [some (.ref 24), some (.int (zI l1)), some (.int (zI ((zF S 24 12) * 256))), some (.int (zI (((zF S 24 12) * 256) + 256))), none, none, none] [.ref 24, .int (zI 2), .ref (nd S), .ref 24] (rd S) rfl ?_
      refine g_getf rfl rfl (rd_o24 _) rfl ?_
      show eG _ 67 38 [some (.ref 24), some (.int (zI l1)), some (.int (zI ((zF S 24 12) * 256))), some (.int (zI (((zF S 24 12) * 256) + 256))), none, none, none] [.ref (nd S), .int (zI 2), .ref (nd S), .ref 24] (rd S) _
      refine s_alen rfl (rd_nd _) rfl ?_
      show eG _ 67 39 [some (.ref 24), some (.int (zI l1)), some (.int (zI ((zF S 24 12) * 256))), some (.int (zI (((zF S 24 12) * 256) + 256))), none, none, none] [.int (zI (((nn S) : Nat) : Int)), .int (zI 2), .ref (nd S), .ref 24] (rd S) _
      refine s_imul rfl ?_
      refine s_regrow rfl h (fun h => ?_)
      show eG _ 67 46 [some (.ref 24), some (.int (zI l1)), some (.int (zI ((zF S 24 12) * 256))), some (.int (zI (((zF S 24 12) * 256) + 256))), none, none, none] [] (rd (wN S)) _
      cases h
      exact j
def fW_seek_1 : Nat → ZS → Int → Int → Option (ZS)
  | 0, _, _, _ => none
  | n + 1, S, l3, l4 => gC l4 255 (if l4 < 255 then gC l3 0 (if l3 = 0 then some S else gX ((l4 * 256) + (zF S 1 8)) (nn S) (gC (zA S 31 ((l4 * 256) + (zF S 1 8))) (zF S 1 10) (if (zF S 1 10) < (zA S 31 ((l4 * 256) + (zF S 1 8))) then (fT_all n S 1).bind fun z1 => (fW_growRow n S z1).bind fun z2 => fW_seek_1 n z2.2 z2.1 (l4 + 1) else some S))) else some S)
set_option maxRecDepth 100000 in
set_option maxHeartbeats 4000000 in
theorem sW_seek_1 (o : eO) : ∀ (n : Nat) (S : ZS) (l3 l4 : Int) {w : ZS} {r : eP} (h : fW_seek_1 n S l3 l4 = some w) (hk : eG o 61 127 [some (.ref 24), some (.ref 1), none, none, none] [] (rd w) r), eG o 61 77 [some (.ref 24), some (.ref 1), none, some (.int (zI l3)), some (.int (zI l4))] [] (rd S) r := by
  intro n
  induction n with
  | zero => intro S l3 l4 w r h hk; unfold fW_seek_1 at h; cases h
  | succ n ih =>
    intro S l3 l4 w r h hk
    unfold fW_seek_1 at h
    refine g_run 2 82 [some (.ref 24), some (.ref 1), none, some (.int (zI l3)), some (.int (zI l4))] [.int (zI 255), .int (zI l4)] (rd S) rfl ?_
    refine s_icmp_ge rfl h (fun h => ?_) (fun h => ?_)
    · show eG _ 61 127 [some (.ref 24), some (.ref 1), none, some (.int (zI l3)), some (.int (zI l4))] [] (rd S) _
      refine g_fgt [false, false, true, true, true] ?_
      show eG _ 61 127 [some (.ref 24), some (.ref 1), none, none, none] [] (rd S) _
      cases h
      exact hk
    · show eG _ 61 85 [some (.ref 24), some (.ref 1), none, some (.int (zI l3)), some (.int (zI l4))] [] (rd S) _
      refine g_run 1 86 [some (.ref 24), some (.ref 1), none, some (.int (zI l3)), some (.int (zI l4))] [.int (zI l3)] (rd S) rfl ?_
      refine s_if_eq rfl h (fun h => ?_) (fun h => ?_)
      · show eG _ 61 127 [some (.ref 24), some (.ref 1), none, some (.int (zI l3)), some (.int (zI l4))] [] (rd S) _
        refine g_fgt [false, false, true, true, true] ?_
        show eG _ 61 127 [some (.ref 24), some (.ref 1), none, none, none] [] (rd S) _
        cases h
        exact hk
      · show eG _ 61 89 [some (.ref 24), some (.ref 1), none, some (.int (zI l3)), some (.int (zI l4))] [] (rd S) _
        refine g_run 1 90 [some (.ref 24), some (.ref 1), none, some (.int (zI l3)), some (.int (zI l4))] [.ref 24] (rd S) rfl ?_
        refine g_getf rfl rfl (rd_o24 _) rfl ?_
        show eG _ 61 93 [some (.ref 24), some (.ref 1), none, some (.int (zI l3)), some (.int (zI l4))] [.ref (nd S)] (rd S) _
        refine g_run 2 98 [some (.ref 24), some (.ref 1), none, some (.int (zI l3)), some (.int (zI l4))] [.int (zI 256), .int (zI l4), .ref (nd S)] (rd S) rfl ?_
        refine s_imul rfl ?_
        refine g_run 1 100 [some (.ref 24), some (.ref 1), none, some (.int (zI l3)), some (.int (zI l4))] [.ref 1, .int (zI (l4 * 256)), .ref (nd S)] (rd S) rfl ?_
        refine g_getf rfl rfl (rd_o1 _) rfl ?_
        show eG _ 61 103 [some (.ref 24), some (.ref 1), none, some (.int (zI l3)), some (.int (zI l4))] [.int (zI (zF S 1 8)), .int (zI (l4 * 256)), .ref (nd S)] (rd S) _
        refine s_iadd rfl ?_
        refine s_iald rfl (rd_nd _) h (fun h => ?_)
        show eG _ 61 105 [some (.ref 24), some (.ref 1), none, some (.int (zI l3)), some (.int (zI l4))] [.int (zI (zA S 31 ((l4 * 256) + (zF S 1 8))))] (rd S) _
        refine g_run 1 106 [some (.ref 24), some (.ref 1), none, some (.int (zI l3)), some (.int (zI l4))] [.ref 1, .int (zI (zA S 31 ((l4 * 256) + (zF S 1 8))))] (rd S) rfl ?_
        refine g_getf rfl rfl (rd_o1 _) rfl ?_
        show eG _ 61 109 [some (.ref 24), some (.ref 1), none, some (.int (zI l3)), some (.int (zI l4))] [.int (zI (zF S 1 10)), .int (zI (zA S 31 ((l4 * 256) + (zF S 1 8))))] (rd S) _
        refine s_icmp_le rfl h (fun h => ?_) (fun h => ?_)
        · show eG _ 61 127 [some (.ref 24), some (.ref 1), none, some (.int (zI l3)), some (.int (zI l4))] [] (rd S) _
          refine g_fgt [false, false, true, true, true] ?_
          show eG _ 61 127 [some (.ref 24), some (.ref 1), none, none, none] [] (rd S) _
          cases h
          exact hk
        · show eG _ 61 112 [some (.ref 24), some (.ref 1), none, some (.int (zI l3)), some (.int (zI l4))] [] (rd S) _
          refine g_run 2 114 [some (.ref 24), some (.ref 1), none, some (.int (zI l3)), some (.int (zI l4))] [.ref 1, .ref 24] (rd S) rfl ?_
          refine s_vir (fun z => some (.int (zI z))) (fun _ => rd S) rfl rfl rfl (rd_o1 _) rfl rfl (fun z hz => sT_all o n S 1 (Or.inl rfl) hz) rfl h (fun z1 h => ?_)
          show eG _ 61 117 [some (.ref 24), some (.ref 1), none, some (.int (zI l3)), some (.int (zI l4))] [.int (zI z1), .ref 24] (rd S) _
          refine s_vir (fun z => some (.int (zI z.1))) (fun z => rd z.2) rfl rfl rfl (rd_o24 _) rfl rfl (fun z hz => sW_growRow o n S z1 hz) rfl h (fun z2 h => ?_)
          show eG _ 61 120 [some (.ref 24), some (.ref 1), none, some (.int (zI l3)), some (.int (zI l4))] [.int (zI z2.1)] (rd z2.2) _
          refine g_run 1 121 [some (.ref 24), some (.ref 1), none, some (.int (zI z2.1)), some (.int (zI l4))] [] (rd z2.2) rfl ?_
          refine s_iinc (L' := [some (.ref 24), some (.ref 1), none, some (.int (zI z2.1)), some (.int (zI (l4 + 1)))]) rfl rfl rfl ?_
          refine g_run 1 77 [some (.ref 24), some (.ref 1), none, some (.int (zI z2.1)), some (.int (zI (l4 + 1)))] [] (rd z2.2) rfl ?_
          exact ih z2.2 z2.1 (l4 + 1) h hk
def fW_seek (n : Nat) (S : ZS) (l2 : Int) : Option (Int × ZS) := (fW_table n S).bind fun z1 => (fW_listMoves n z1 l2).bind fun z2 => (fA_fill_nd n (wF z2 24 12 0) 0 256 1000).bind fun z3 => gX (zF z3 1 9) (nn z3) (gX (zF z3 1 9) 256 ((gC (zA z3 28 (zF z3 1 9)) 0 (if (zA z3 28 (zF z3 1 9)) = 0 then some 0 else gC (zand (zxor (zF z3 1 8) (zF z3 1 9)) (zxor l2 (-1))) 0 (if (zand (zxor (zF z3 1 8) (zF z3 1 9)) (zxor l2 (-1))) = 0 then some 1 else some 0))).bind fun z4 => (fW_seek_1 n (wA z3 31 (zF z3 1 9) 0) z4 0).bind fun z5 => gX (((zF z5 24 12) * 256) + (zF z5 1 8)) (nn z5) (gC (zA z5 31 (((zF z5 24 12) * 256) + (zF z5 1 8))) (zF z5 1 10) (if (zF z5 1 10) < (zA z5 31 (((zF z5 24 12) * 256) + (zF z5 1 8))) then gB 0 (some (0, z5)) else gB 1 (some (1, z5))))))
set_option maxRecDepth 100000 in
set_option maxHeartbeats 4000000 in
theorem sW_seek (o : eO) (n : Nat) (S : ZS) (l2 : Int) {w : Int × ZS} (h : fW_seek n S l2 = some w) : eG o 61 0 (eEnt 61 [.ref 24, .ref 1, .int (zI l2)]) [] (rd S) (rv (some (.int (zI w.1))) (rd w.2)) := by
  unfold fW_seek at h
  show eG o 61 0 [some (.ref 24), some (.ref 1), some (.int (zI l2)), none, none] [] (rd S) _
  refine g_run 2 2 [some (.ref 24), some (.ref 1), some (.int (zI l2)), none, none] [.ref 1, .ref 24] (rd S) rfl ?_
  refine s_vir (fun _ => none) (fun z => rd z) rfl rfl rfl (rd_o24 _) rfl rfl (fun z hz => sW_table o n S hz) rfl h (fun z1 h => ?_)
  show eG _ 61 5 [some (.ref 24), some (.ref 1), some (.int (zI l2)), none, none] [] (rd z1) _
  refine g_run 3 8 [some (.ref 24), some (.ref 1), some (.int (zI l2)), none, none] [.int (zI l2), .ref 1, .ref 24] (rd z1) rfl ?_
  refine s_vir (fun _ => none) (fun z => rd z) rfl rfl rfl (rd_o24 _) rfl rfl (fun z hz => sW_listMoves o n z1 l2 hz) rfl h (fun z2 h => ?_)
  show eG _ 61 11 [some (.ref 24), some (.ref 1), some (.int (zI l2)), none, none] [] (rd z2) _
  refine g_run 2 13 [some (.ref 24), some (.ref 1), some (.int (zI l2)), none, none] [.int (zI 0), .ref 24] (rd z2) rfl ?_
  refine s_putf rfl rfl (rd_o24 _) rfl rfl rfl rfl rfl (rw_o24_12 _ _) ?_
  show eG _ 61 16 [some (.ref 24), some (.ref 1), some (.int (zI l2)), none, none] [] (rd (wF z2 24 12 0)) _
  refine g_run 1 17 [some (.ref 24), some (.ref 1), some (.int (zI l2)), none, none] [.ref 24] (rd (wF z2 24 12 0)) rfl ?_
  refine g_getf rfl rfl (rd_o24 _) rfl ?_
  show eG _ 61 20 [some (.ref 24), some (.ref 1), some (.int (zI l2)), none, none] [.ref (nd z2)] (rd (wF z2 24 12 0)) _
  refine g_run 3 27 [some (.ref 24), some (.ref 1), some (.int (zI l2)), none, none] [.int (zI 1000), .int (zI 256), .int (zI 0), .ref (nd z2)] (rd (wF z2 24 12 0)) rfl ?_
  refine s_sta (fun _ => none) (fun z => rd z) rfl rfl rfl rfl rfl rfl rfl (fun z hz => sA_fill_nd o n (wF z2 24 12 0) 0 256 1000 hz) rfl h (fun z3 h => ?_)
  show eG _ 61 30 [some (.ref 24), some (.ref 1), some (.int (zI l2)), none, none] [] (rd z3) _
  refine g_run 1 31 [some (.ref 24), some (.ref 1), some (.int (zI l2)), none, none] [.ref 24] (rd z3) rfl ?_
  refine g_getf rfl rfl (rd_o24 _) rfl ?_
  show eG _ 61 34 [some (.ref 24), some (.ref 1), some (.int (zI l2)), none, none] [.ref (nd z3)] (rd z3) _
  refine g_run 1 35 [some (.ref 24), some (.ref 1), some (.int (zI l2)), none, none] [.ref 1, .ref (nd z3)] (rd z3) rfl ?_
  refine g_getf rfl rfl (rd_o1 _) rfl ?_
  show eG _ 61 38 [some (.ref 24), some (.ref 1), some (.int (zI l2)), none, none] [.int (zI (zF z3 1 9)), .ref (nd z3)] (rd z3) _
  refine g_run 1 39 [some (.ref 24), some (.ref 1), some (.int (zI l2)), none, none] [.int (zI 0), .int (zI (zF z3 1 9)), .ref (nd z3)] (rd z3) rfl ?_
  refine s_iast rfl (rd_nd _) (rw_nd _ _) h (fun h => ?_)
  show eG _ 61 40 [some (.ref 24), some (.ref 1), some (.int (zI l2)), none, none] [] (rd (wA z3 31 (zF z3 1 9) 0)) _
  refine g_run 1 41 [some (.ref 24), some (.ref 1), some (.int (zI l2)), none, none] [.ref 24] (rd (wA z3 31 (zF z3 1 9) 0)) rfl ?_
  refine g_getf rfl rfl (rd_o24 _) rfl ?_
  show eG _ 61 44 [some (.ref 24), some (.ref 1), some (.int (zI l2)), none, none] [.ref 28] (rd (wA z3 31 (zF z3 1 9) 0)) _
  refine g_run 1 45 [some (.ref 24), some (.ref 1), some (.int (zI l2)), none, none] [.ref 1, .ref 28] (rd (wA z3 31 (zF z3 1 9) 0)) rfl ?_
  refine g_getf rfl rfl (rd_o1 _) rfl ?_
  show eG _ 61 48 [some (.ref 24), some (.ref 1), some (.int (zI l2)), none, none] [.int (zI (zF z3 1 9)), .ref 28] (rd (wA z3 31 (zF z3 1 9) 0)) _
  refine s_bald rfl (rd_a28 _) h (fun h => ?_)
  show eG _ 61 49 [some (.ref 24), some (.ref 1), some (.int (zI l2)), none, none] [.int (zI (zA z3 28 (zF z3 1 9)))] (rd (wA z3 31 (zF z3 1 9) 0)) _
  refine s_join (α := Int) (fun z => eG o 61 73 [some (.ref 24), some (.ref 1), none, none, none] [.int (zI z)] (rd (wA z3 31 (zF z3 1 9) 0)) (rv (some (.int (zI w.1))) (rd w.2))) h (fun z4 h => ?_) (fun z4 h j => ?_)
  · show eG _ 61 73 [some (.ref 24), some (.ref 1), none, none, none] [.int (zI z4)] (rd (wA z3 31 (zF z3 1 9) 0)) _
    refine g_run 3 77 [some (.ref 24), some (.ref 1), none, some (.int (zI z4)), some (.int (zI 0))] [] (rd (wA z3 31 (zF z3 1 9) 0)) rfl ?_
    obtain ⟨z5, h1, h⟩ := zB_inv h
    refine sW_seek_1 o n (wA z3 31 (zF z3 1 9) 0) z4 0 h1 ?_
    show eG _ 61 127 [some (.ref 24), some (.ref 1), none, none, none] [] (rd z5) _
    refine g_run 1 128 [some (.ref 24), some (.ref 1), none, none, none] [.ref 24] (rd z5) rfl ?_
    refine g_getf rfl rfl (rd_o24 _) rfl ?_
    show eG _ 61 131 [some (.ref 24), some (.ref 1), none, none, none] [.ref (nd z5)] (rd z5) _
    refine g_run 1 132 [some (.ref 24), some (.ref 1), none, none, none] [.ref 24, .ref (nd z5)] (rd z5) rfl ?_
    refine g_getf rfl rfl (rd_o24 _) rfl ?_
    show eG _ 61 135 [some (.ref 24), some (.ref 1), none, none, none] [.int (zI (zF z5 24 12)), .ref (nd z5)] (rd z5) _
    refine g_run 1 138 [some (.ref 24), some (.ref 1), none, none, none] [.int (zI 256), .int (zI (zF z5 24 12)), .ref (nd z5)] (rd z5) rfl ?_
    refine s_imul rfl ?_
    refine g_run 1 140 [some (.ref 24), some (.ref 1), none, none, none] [.ref 1, .int (zI ((zF z5 24 12) * 256)), .ref (nd z5)] (rd z5) rfl ?_
    refine g_getf rfl rfl (rd_o1 _) rfl ?_
    show eG _ 61 143 [some (.ref 24), some (.ref 1), none, none, none] [.int (zI (zF z5 1 8)), .int (zI ((zF z5 24 12) * 256)), .ref (nd z5)] (rd z5) _
    refine s_iadd rfl ?_
    refine s_iald rfl (rd_nd _) h (fun h => ?_)
    show eG _ 61 145 [some (.ref 24), some (.ref 1), none, none, none] [.int (zI (zA z5 31 (((zF z5 24 12) * 256) + (zF z5 1 8))))] (rd z5) _
    refine g_run 1 146 [some (.ref 24), some (.ref 1), none, none, none] [.ref 1, .int (zI (zA z5 31 (((zF z5 24 12) * 256) + (zF z5 1 8))))] (rd z5) rfl ?_
    refine g_getf rfl rfl (rd_o1 _) rfl ?_
    show eG _ 61 149 [some (.ref 24), some (.ref 1), none, none, none] [.int (zI (zF z5 1 10)), .int (zI (zA z5 31 (((zF z5 24 12) * 256) + (zF z5 1 8))))] (rd z5) _
    refine s_icmp_gt rfl h (fun h => ?_) (fun h => ?_)
    · show eG _ 61 156 [some (.ref 24), some (.ref 1), none, none, none] [] (rd z5) _
      refine g_run 1 157 [some (.ref 24), some (.ref 1), none, none, none] [.int (zI 0)] (rd z5) rfl ?_
      exact s_retB rfl rfl h (fun h => by cases h; exact rfl)
    · show eG _ 61 152 [some (.ref 24), some (.ref 1), none, none, none] [] (rd z5) _
      refine g_run 2 157 [some (.ref 24), some (.ref 1), none, none, none] [.int (zI 1)] (rd z5) rfl ?_
      exact s_retB rfl rfl h (fun h => by cases h; exact rfl)
  · skip
    refine s_if_eq rfl h (fun h => ?_) (fun h => ?_)
    · show eG _ 61 72 [some (.ref 24), some (.ref 1), some (.int (zI l2)), none, none] [] (rd (wA z3 31 (zF z3 1 9) 0)) _
      refine g_run 1 73 [some (.ref 24), some (.ref 1), some (.int (zI l2)), none, none] [.int (zI 0)] (rd (wA z3 31 (zF z3 1 9) 0)) rfl ?_
      refine g_fgt [false, false, true, true, true] ?_
      show eG _ 61 73 [some (.ref 24), some (.ref 1), none, none, none] [.int (zI 0)] (rd (wA z3 31 (zF z3 1 9) 0)) _
      cases h
      exact j
    · show eG _ 61 52 [some (.ref 24), some (.ref 1), some (.int (zI l2)), none, none] [] (rd (wA z3 31 (zF z3 1 9) 0)) _
      refine g_run 1 53 [some (.ref 24), some (.ref 1), some (.int (zI l2)), none, none] [.ref 1] (rd (wA z3 31 (zF z3 1 9) 0)) rfl ?_
      refine g_getf rfl rfl (rd_o1 _) rfl ?_
      show eG _ 61 56 [some (.ref 24), some (.ref 1), some (.int (zI l2)), none, none] [.int (zI (zF z3 1 8))] (rd (wA z3 31 (zF z3 1 9) 0)) _
      refine g_run 1 57 [some (.ref 24), some (.ref 1), some (.int (zI l2)), none, none] [.ref 1, .int (zI (zF z3 1 8))] (rd (wA z3 31 (zF z3 1 9) 0)) rfl ?_
      refine g_getf rfl rfl (rd_o1 _) rfl ?_
      show eG _ 61 60 [some (.ref 24), some (.ref 1), some (.int (zI l2)), none, none] [.int (zI (zF z3 1 9)), .int (zI (zF z3 1 8))] (rd (wA z3 31 (zF z3 1 9) 0)) _
      refine s_ixor rfl ?_
      refine g_run 2 63 [some (.ref 24), some (.ref 1), some (.int (zI l2)), none, none] [.int (zI (-1)), .int (zI l2), .int (zI (zxor (zF z3 1 8) (zF z3 1 9)))] (rd (wA z3 31 (zF z3 1 9) 0)) rfl ?_
      refine s_ixor rfl ?_
      refine s_iand rfl ?_
      refine s_if_ne rfl h (fun h => ?_) (fun h => ?_)
      · show eG _ 61 72 [some (.ref 24), some (.ref 1), some (.int (zI l2)), none, none] [] (rd (wA z3 31 (zF z3 1 9) 0)) _
        refine g_run 1 73 [some (.ref 24), some (.ref 1), some (.int (zI l2)), none, none] [.int (zI 0)] (rd (wA z3 31 (zF z3 1 9) 0)) rfl ?_
        refine g_fgt [false, false, true, true, true] ?_
        show eG _ 61 73 [some (.ref 24), some (.ref 1), none, none, none] [.int (zI 0)] (rd (wA z3 31 (zF z3 1 9) 0)) _
        cases h
        exact j
      · show eG _ 61 68 [some (.ref 24), some (.ref 1), some (.int (zI l2)), none, none] [] (rd (wA z3 31 (zF z3 1 9) 0)) _
        refine g_run 2 73 [some (.ref 24), some (.ref 1), some (.int (zI l2)), none, none] [.int (zI 1)] (rd (wA z3 31 (zF z3 1 9) 0)) rfl ?_
        refine g_fgt [false, false, true, true, true] ?_
        show eG _ 61 73 [some (.ref 24), some (.ref 1), none, none, none] [.int (zI 1)] (rd (wA z3 31 (zF z3 1 9) 0)) _
        cases h
        exact j
def fW_leastStep_1 : Nat → ZS → Int → Int → Int → Int → Option ((Int) ⊕ (Unit))
  | 0, _, _, _, _, _ => none
  | n + 1, S, l2, l3, l4, l5 => (fT_all n S 1).bind fun z1 => gC l5 z1 (if z1 < l5 then some (.inr ()) else gX l5 256 (gC (zA S 28 l5) 0 (if (zA S 28 l5) = 0 then fW_leastStep_1 n S l2 l3 l4 (l5 + 1) else gX (zand l2 l5) 256 (gC (zA S 29 (zand l2 l5)) 0 (if (zA S 29 (zand l2 l5)) = 0 then fW_leastStep_1 n S l2 l3 l4 (l5 + 1) else gX (zxor l2 l5) 256 (gC (zA S 25 (zxor l2 l5)) (zF S 1 11) (if (zF S 1 11) < (zA S 25 (zxor l2 l5)) then fW_leastStep_1 n S l2 l3 l4 (l5 + 1) else (fW_given n S l2 l5).bind fun z2 => gC 999 (l3 + z2) (gX (l4 + l5) (nn S) (gC (min 999 (l3 + z2)) (zA S 31 (l4 + l5)) (if (min 999 (l3 + z2)) < (zA S 31 (l4 + l5)) then fW_leastStep_1 n S l2 l3 l4 (l5 + 1) else some (.inl l5)))))))))))
set_option maxRecDepth 100000 in
set_option maxHeartbeats 4000000 in
theorem sW_leastStep_1 (o : eO) : ∀ (n : Nat) (S : ZS) (l2 l3 l4 l5 : Int) {w : (Int) ⊕ (Unit)} {r : eP} (h : fW_leastStep_1 n S l2 l3 l4 l5 = some w) (hr : ∀ v, w = .inl v → r (some (.int (zI v)), rd S)) (hk : ∀ x, w = .inr x → eG o 72 91 [none, none, some (.int (zI l2)), none, none, none, none] [] (rd S) r), eG o 72 3 [some (.ref 24), some (.ref 1), some (.int (zI l2)), some (.int (zI l3)), some (.int (zI l4)), some (.int (zI l5)), none] [] (rd S) r := by
  intro n
  induction n with
  | zero => intro S l2 l3 l4 l5 w r h hr hk; unfold fW_leastStep_1 at h; cases h
  | succ n ih =>
    intro S l2 l3 l4 l5 w r h hr hk
    unfold fW_leastStep_1 at h
    refine g_run 2 6 [some (.ref 24), some (.ref 1), some (.int (zI l2)), some (.int (zI l3)), some (.int (zI l4)), some (.int (zI l5)), none] [.ref 1, .int (zI l5)] (rd S) rfl ?_
    refine s_vir (fun z => some (.int (zI z))) (fun _ => rd S) rfl rfl rfl (rd_o1 _) rfl rfl (fun z hz => sT_all o n S 1 (Or.inl rfl) hz) rfl h (fun z1 h => ?_)
    show eG _ 72 9 [some (.ref 24), some (.ref 1), some (.int (zI l2)), some (.int (zI l3)), some (.int (zI l4)), some (.int (zI l5)), none] [.int (zI z1), .int (zI l5)] (rd S) _
    refine s_icmp_gt rfl h (fun h => ?_) (fun h => ?_)
    · show eG _ 72 91 [some (.ref 24), some (.ref 1), some (.int (zI l2)), some (.int (zI l3)), some (.int (zI l4)), some (.int (zI l5)), none] [] (rd S) _
      refine g_fgt [true, true, false, true, true, true, true] ?_
      show eG _ 72 91 [none, none, some (.int (zI l2)), none, none, none, none] [] (rd S) _
      cases h
      exact hk _ rfl
    · show eG _ 72 12 [some (.ref 24), some (.ref 1), some (.int (zI l2)), some (.int (zI l3)), some (.int (zI l4)), some (.int (zI l5)), none] [] (rd S) _
      refine g_run 1 13 [some (.ref 24), some (.ref 1), some (.int (zI l2)), some (.int (zI l3)), some (.int (zI l4)), some (.int (zI l5)), none] [.ref 24] (rd S) rfl ?_
      refine g_getf rfl rfl (rd_o24 _) rfl ?_
      show eG _ 72 16 [some (.ref 24), some (.ref 1), some (.int (zI l2)), some (.int (zI l3)), some (.int (zI l4)), some (.int (zI l5)), none] [.ref 28] (rd S) _
      refine g_run 1 18 [some (.ref 24), some (.ref 1), some (.int (zI l2)), some (.int (zI l3)), some (.int (zI l4)), some (.int (zI l5)), none] [.int (zI l5), .ref 28] (rd S) rfl ?_
      refine s_bald rfl (rd_a28 _) h (fun h => ?_)
      show eG _ 72 19 [some (.ref 24), some (.ref 1), some (.int (zI l2)), some (.int (zI l3)), some (.int (zI l4)), some (.int (zI l5)), none] [.int (zI (zA S 28 l5))] (rd S) _
      refine s_if_eq rfl h (fun h => ?_) (fun h => ?_)
      · show eG _ 72 85 [some (.ref 24), some (.ref 1), some (.int (zI l2)), some (.int (zI l3)), some (.int (zI l4)), some (.int (zI l5)), none] [] (rd S) _
        refine s_iinc (L' := [some (.ref 24), some (.ref 1), some (.int (zI l2)), some (.int (zI l3)), some (.int (zI l4)), some (.int (zI (l5 + 1))), none]) rfl rfl rfl ?_
        refine g_run 1 3 [some (.ref 24), some (.ref 1), some (.int (zI l2)), some (.int (zI l3)), some (.int (zI l4)), some (.int (zI (l5 + 1))), none] [] (rd S) rfl ?_
        exact ih S l2 l3 l4 (l5 + 1) h hr hk
      · show eG _ 72 22 [some (.ref 24), some (.ref 1), some (.int (zI l2)), some (.int (zI l3)), some (.int (zI l4)), some (.int (zI l5)), none] [] (rd S) _
        refine g_run 1 23 [some (.ref 24), some (.ref 1), some (.int (zI l2)), some (.int (zI l3)), some (.int (zI l4)), some (.int (zI l5)), none] [.ref 24] (rd S) rfl ?_
        refine g_getf rfl rfl (rd_o24 _) rfl ?_
        show eG _ 72 26 [some (.ref 24), some (.ref 1), some (.int (zI l2)), some (.int (zI l3)), some (.int (zI l4)), some (.int (zI l5)), none] [.ref 29] (rd S) _
        refine g_run 2 29 [some (.ref 24), some (.ref 1), some (.int (zI l2)), some (.int (zI l3)), some (.int (zI l4)), some (.int (zI l5)), none] [.int (zI l5), .int (zI l2), .ref 29] (rd S) rfl ?_
        refine s_iand rfl ?_
        refine s_bald rfl (rd_a29 _) h (fun h => ?_)
        show eG _ 72 31 [some (.ref 24), some (.ref 1), some (.int (zI l2)), some (.int (zI l3)), some (.int (zI l4)), some (.int (zI l5)), none] [.int (zI (zA S 29 (zand l2 l5)))] (rd S) _
        refine s_if_eq rfl h (fun h => ?_) (fun h => ?_)
        · show eG _ 72 85 [some (.ref 24), some (.ref 1), some (.int (zI l2)), some (.int (zI l3)), some (.int (zI l4)), some (.int (zI l5)), none] [] (rd S) _
          refine s_iinc (L' := [some (.ref 24), some (.ref 1), some (.int (zI l2)), some (.int (zI l3)), some (.int (zI l4)), some (.int (zI (l5 + 1))), none]) rfl rfl rfl ?_
          refine g_run 1 3 [some (.ref 24), some (.ref 1), some (.int (zI l2)), some (.int (zI l3)), some (.int (zI l4)), some (.int (zI (l5 + 1))), none] [] (rd S) rfl ?_
          exact ih S l2 l3 l4 (l5 + 1) h hr hk
        · show eG _ 72 34 [some (.ref 24), some (.ref 1), some (.int (zI l2)), some (.int (zI l3)), some (.int (zI l4)), some (.int (zI l5)), none] [] (rd S) _
          refine g_run 1 35 [some (.ref 24), some (.ref 1), some (.int (zI l2)), some (.int (zI l3)), some (.int (zI l4)), some (.int (zI l5)), none] [.ref 24] (rd S) rfl ?_
          refine g_getf rfl rfl (rd_o24 _) rfl ?_
          show eG _ 72 38 [some (.ref 24), some (.ref 1), some (.int (zI l2)), some (.int (zI l3)), some (.int (zI l4)), some (.int (zI l5)), none] [.ref 25] (rd S) _
          refine g_run 2 41 [some (.ref 24), some (.ref 1), some (.int (zI l2)), some (.int (zI l3)), some (.int (zI l4)), some (.int (zI l5)), none] [.int (zI l5), .int (zI l2), .ref 25] (rd S) rfl ?_
          refine s_ixor rfl ?_
          refine s_iald rfl (rd_a25 _) h (fun h => ?_)
          show eG _ 72 43 [some (.ref 24), some (.ref 1), some (.int (zI l2)), some (.int (zI l3)), some (.int (zI l4)), some (.int (zI l5)), none] [.int (zI (zA S 25 (zxor l2 l5)))] (rd S) _
          refine g_run 1 44 [some (.ref 24), some (.ref 1), some (.int (zI l2)), some (.int (zI l3)), some (.int (zI l4)), some (.int (zI l5)), none] [.ref 1, .int (zI (zA S 25 (zxor l2 l5)))] (rd S) rfl ?_
          refine g_getf rfl rfl (rd_o1 _) rfl ?_
          show eG _ 72 47 [some (.ref 24), some (.ref 1), some (.int (zI l2)), some (.int (zI l3)), some (.int (zI l4)), some (.int (zI l5)), none] [.int (zI (zF S 1 11)), .int (zI (zA S 25 (zxor l2 l5)))] (rd S) _
          refine s_icmp_gt rfl h (fun h => ?_) (fun h => ?_)
          · show eG _ 72 85 [some (.ref 24), some (.ref 1), some (.int (zI l2)), some (.int (zI l3)), some (.int (zI l4)), some (.int (zI l5)), none] [] (rd S) _
            refine s_iinc (L' := [some (.ref 24), some (.ref 1), some (.int (zI l2)), some (.int (zI l3)), some (.int (zI l4)), some (.int (zI (l5 + 1))), none]) rfl rfl rfl ?_
            refine g_run 1 3 [some (.ref 24), some (.ref 1), some (.int (zI l2)), some (.int (zI l3)), some (.int (zI l4)), some (.int (zI (l5 + 1))), none] [] (rd S) rfl ?_
            exact ih S l2 l3 l4 (l5 + 1) h hr hk
          · show eG _ 72 50 [some (.ref 24), some (.ref 1), some (.int (zI l2)), some (.int (zI l3)), some (.int (zI l4)), some (.int (zI l5)), none] [] (rd S) _
            refine g_run 5 58 [some (.ref 24), some (.ref 1), some (.int (zI l2)), some (.int (zI l3)), some (.int (zI l4)), some (.int (zI l5)), none] [.int (zI l5), .int (zI l2), .ref 24, .int (zI l3), .int (zI 999)] (rd S) rfl ?_
            refine s_vir (fun z => some (.int (zI z))) (fun _ => rd S) rfl rfl rfl (rd_o24 _) rfl rfl (fun z hz => sW_given o n S l2 l5 hz) rfl h (fun z2 h => ?_)
            show eG _ 72 61 [some (.ref 24), some (.ref 1), some (.int (zI l2)), some (.int (zI l3)), some (.int (zI l4)), some (.int (zI l5)), none] [.int (zI z2), .int (zI l3), .int (zI 999)] (rd S) _
            refine s_iadd rfl ?_
            refine s_min rfl rfl rfl rfl h (fun h => ?_)
            refine g_run 3 70 [some (.ref 24), some (.ref 1), some (.int (zI l2)), some (.int (zI l3)), some (.int (zI l4)), some (.int (zI l5)), some (.int (zI (min 999 (l3 + z2))))] [.ref 24, .int (zI (min 999 (l3 + z2)))] (rd S) rfl ?_
            refine g_getf rfl rfl (rd_o24 _) rfl ?_
            show eG _ 72 73 [some (.ref 24), some (.ref 1), some (.int (zI l2)), some (.int (zI l3)), some (.int (zI l4)), some (.int (zI l5)), some (.int (zI (min 999 (l3 + z2))))] [.ref (nd S), .int (zI (min 999 (l3 + z2)))] (rd S) _
            refine g_run 2 77 [some (.ref 24), some (.ref 1), some (.int (zI l2)), some (.int (zI l3)), some (.int (zI l4)), some (.int (zI l5)), some (.int (zI (min 999 (l3 + z2))))] [.int (zI l5), .int (zI l4), .ref (nd S), .int (zI (min 999 (l3 + z2)))] (rd S) rfl ?_
            refine s_iadd rfl ?_
            refine s_iald rfl (rd_nd _) h (fun h => ?_)
            show eG _ 72 79 [some (.ref 24), some (.ref 1), some (.int (zI l2)), some (.int (zI l3)), some (.int (zI l4)), some (.int (zI l5)), some (.int (zI (min 999 (l3 + z2))))] [.int (zI (zA S 31 (l4 + l5))), .int (zI (min 999 (l3 + z2)))] (rd S) _
            refine s_icmp_lt rfl h (fun h => ?_) (fun h => ?_)
            · show eG _ 72 85 [some (.ref 24), some (.ref 1), some (.int (zI l2)), some (.int (zI l3)), some (.int (zI l4)), some (.int (zI l5)), some (.int (zI (min 999 (l3 + z2))))] [] (rd S) _
              refine s_iinc (L' := [some (.ref 24), some (.ref 1), some (.int (zI l2)), some (.int (zI l3)), some (.int (zI l4)), some (.int (zI (l5 + 1))), some (.int (zI (min 999 (l3 + z2))))]) rfl rfl rfl ?_
              refine g_run 1 3 [some (.ref 24), some (.ref 1), some (.int (zI l2)), some (.int (zI l3)), some (.int (zI l4)), some (.int (zI (l5 + 1))), some (.int (zI (min 999 (l3 + z2))))] [] (rd S) rfl ?_
              refine g_fgt [false, false, false, false, false, false, true] ?_
              show eG _ 72 3 [some (.ref 24), some (.ref 1), some (.int (zI l2)), some (.int (zI l3)), some (.int (zI l4)), some (.int (zI (l5 + 1))), none] [] (rd S) _
              exact ih S l2 l3 l4 (l5 + 1) h hr hk
            · show eG _ 72 82 [some (.ref 24), some (.ref 1), some (.int (zI l2)), some (.int (zI l3)), some (.int (zI l4)), some (.int (zI l5)), some (.int (zI (min 999 (l3 + z2))))] [] (rd S) _
              refine g_run 1 84 [some (.ref 24), some (.ref 1), some (.int (zI l2)), some (.int (zI l3)), some (.int (zI l4)), some (.int (zI l5)), some (.int (zI (min 999 (l3 + z2))))] [.int (zI l5)] (rd S) rfl ?_
              cases h
              exact s_ret rfl rfl (hr _ rfl)
def fW_leastStep (n : Nat) (S : ZS) (l2 l3 l4 : Int) : Option (Int) := zR (fW_leastStep_1 n S l2 l3 l4 0) fun z1 => some l2
set_option maxRecDepth 100000 in
set_option maxHeartbeats 4000000 in
theorem sW_leastStep (o : eO) (n : Nat) (S : ZS) (l2 l3 l4 : Int) {w : Int} (h : fW_leastStep n S l2 l3 l4 = some w) : eG o 72 0 (eEnt 72 [.ref 24, .ref 1, .int (zI l2), .int (zI l3), .int (zI l4)]) [] (rd S) (rv (some (.int (zI w))) (rd S)) := by
  unfold fW_leastStep at h
  show eG o 72 0 [some (.ref 24), some (.ref 1), some (.int (zI l2)), some (.int (zI l3)), some (.int (zI l4)), none, none] [] (rd S) _
  refine g_run 2 3 [some (.ref 24), some (.ref 1), some (.int (zI l2)), some (.int (zI l3)), some (.int (zI l4)), some (.int (zI 0)), none] [] (rd S) rfl ?_
  rcases zR_inv h with h1 | ⟨z1, h1, h⟩
  · exact sW_leastStep_1 o n S l2 l3 l4 0 h1 (fun v e => by cases e; rfl) (fun x e => by cases e)
  refine sW_leastStep_1 o n S l2 l3 l4 0 h1 (fun v e => by cases e) (fun x e => ?_)
  cases e
  show eG _ 72 91 [none, none, some (.int (zI l2)), none, none, none, none] [] (rd S) _
  refine g_run 1 92 [none, none, some (.int (zI l2)), none, none, none, none] [.int (zI l2)] (rd S) rfl ?_
  cases h
  exact s_ret rfl rfl rfl
