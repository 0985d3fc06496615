def fM_wrong_1 : Nat → ZS → Int → Int → Int → Int → Int → Int → Option (Int × ZS)
  | 0, _, _, _, _, _, _, _ => none
  | n + 1, S, l1, l3, l4, l5, l7, l8 => gC l8 l4 (if l8 < l4 then (fM_judge n S ((24 * l1) + l3) l4 l8).bind fun z1 => (gC z1.1 0 (if z1.1 < 0 then gC (zF z1.2 49 34) l5 (if (zF z1.2 49 34) = l5 then some 1 else some 0) else some 0)).bind fun z2 => gC z2 0 (if z2 = 0 then fM_wrong_1 n z1.2 l1 l3 l4 l5 (zor l7 0) (l8 + 1) else fM_wrong_1 n z1.2 l1 l3 l4 l5 (zor l7 (zshl 1 l8)) (l8 + 1)) else some (l7, S))
set_option maxRecDepth 100000 in
set_option maxHeartbeats 4000000 in
theorem sM_wrong_1 (o : eO) : ∀ (n : Nat) (S : ZS) (l1 l3 l4 l5 l7 l8 : Int) {w : Int × ZS} {r : eP} (h : fM_wrong_1 n S l1 l3 l4 l5 l7 l8 = some w) (hk : eG o 191 124 [none, none, none, none, none, none, none, some (.int (zI w.1)), none, none] [] (rd w.2) r), eG o 191 60 [some (.ref 49), some (.int (zI l1)), none, some (.int (zI l3)), some (.int (zI l4)), some (.int (zI l5)), none, some (.int (zI l7)), some (.int (zI l8)), none] [] (rd S) r := by
  intro n
  induction n with
  | zero => intro S l1 l3 l4 l5 l7 l8 w r h hk; unfold fM_wrong_1 at h; cases h
  | succ n ih =>
    intro S l1 l3 l4 l5 l7 l8 w r h hk
    unfold fM_wrong_1 at h
    refine g_run 2 64 [some (.ref 49), some (.int (zI l1)), none, some (.int (zI l3)), some (.int (zI l4)), some (.int (zI l5)), none, some (.int (zI l7)), some (.int (zI l8)), none] [.int (zI l4), .int (zI l8)] (rd S) rfl ?_
    refine s_icmp_ge rfl h (fun h => ?_) (fun h => ?_)
    · show eG _ 191 124 [some (.ref 49), some (.int (zI l1)), none, some (.int (zI l3)), some (.int (zI l4)), some (.int (zI l5)), none, some (.int (zI l7)), some (.int (zI l8)), none] [] (rd S) _
      refine g_fgt [true, true, true, true, true, true, true, false, true, true] ?_
      show eG _ 191 124 [none, none, none, none, none, none, none, some (.int (zI l7)), none, none] [] (rd S) _
      cases h
      exact hk
    · show eG _ 191 67 [some (.ref 49), some (.int (zI l1)), none, some (.int (zI l3)), some (.int (zI l4)), some (.int (zI l5)), none, some (.int (zI l7)), some (.int (zI l8)), none] [] (rd S) _
      refine g_run 3 71 [some (.ref 49), some (.int (zI l1)), none, some (.int (zI l3)), some (.int (zI l4)), some (.int (zI l5)), none, some (.int (zI l7)), some (.int (zI l8)), none] [.int (zI l1), .int (zI 24), .ref 49] (rd S) rfl ?_
      refine s_imul rfl ?_
      refine g_run 1 73 [some (.ref 49), some (.int (zI l1)), none, some (.int (zI l3)), some (.int (zI l4)), some (.int (zI l5)), none, some (.int (zI l7)), some (.int (zI l8)), none] [.int (zI l3), .int (zI (24 * l1)), .ref 49] (rd S) rfl ?_
      refine s_iadd rfl ?_
      refine g_run 2 78 [some (.ref 49), some (.int (zI l1)), none, some (.int (zI l3)), some (.int (zI l4)), some (.int (zI l5)), none, some (.int (zI l7)), some (.int (zI l8)), none] [.int (zI l8), .int (zI l4), .int (zI ((24 * l1) + l3)), .ref 49] (rd S) rfl ?_
      refine s_vir (fun z => some (.int (zI z.1))) (fun z => rd z.2) rfl rfl rfl (rd_o49 _) rfl rfl (fun z hz => sM_judge o n S ((24 * l1) + l3) l4 l8 hz) rfl h (fun z1 h => ?_)
      show eG _ 191 81 [some (.ref 49), some (.int (zI l1)), none, some (.int (zI l3)), some (.int (zI l4)), some (.int (zI l5)), none, some (.int (zI l7)), some (.int (zI l8)), none] [.int (zI z1.1)] (rd z1.2) _
      refine s_join (α := Int) (fun z => eG o 191 98 [some (.ref 49), some (.int (zI l1)), none, some (.int (zI l3)), some (.int (zI l4)), some (.int (zI l5)), none, some (.int (zI l7)), some (.int (zI l8)), none] [.int (zI z)] (rd z1.2) r) h (fun z2 h => ?_) (fun z2 h j => ?_)
      · show eG _ 191 98 [some (.ref 49), some (.int (zI l1)), none, some (.int (zI l3)), some (.int (zI l4)), some (.int (zI l5)), none, some (.int (zI l7)), some (.int (zI l8)), none] [.int (zI z2)] (rd z1.2) _
        refine g_run 3 104 [some (.ref 49), some (.int (zI l1)), none, some (.int (zI l3)), some (.int (zI l4)), some (.int (zI l5)), none, some (.int (zI l7)), some (.int (zI l8)), some (.int (zI z2))] [.int (zI z2), .int (zI l7)] (rd z1.2) rfl ?_
        refine s_if_eq rfl h (fun h => ?_) (fun h => ?_)
        · show eG _ 191 114 [some (.ref 49), some (.int (zI l1)), none, some (.int (zI l3)), some (.int (zI l4)), some (.int (zI l5)), none, some (.int (zI l7)), some (.int (zI l8)), some (.int (zI z2))] [.int (zI l7)] (rd z1.2) _
          refine g_run 1 115 [some (.ref 49), some (.int (zI l1)), none, some (.int (zI l3)), some (.int (zI l4)), some (.int (zI l5)), none, some (.int (zI l7)), some (.int (zI l8)), some (.int (zI z2))] [.int (zI 0), .int (zI l7)] (rd z1.2) rfl ?_
          refine s_ior rfl ?_
          refine g_run 1 118 [some (.ref 49), some (.int (zI l1)), none, some (.int (zI l3)), some (.int (zI l4)), some (.int (zI l5)), none, some (.int (zI (zor l7 0))), some (.int (zI l8)), some (.int (zI z2))] [] (rd z1.2) rfl ?_
          refine s_iinc (L' := [some (.ref 49), some (.int (zI l1)), none, some (.int (zI l3)), some (.int (zI l4)), some (.int (zI l5)), none, some (.int (zI (zor l7 0))), some (.int (zI (l8 + 1))), some (.int (zI z2))]) rfl rfl rfl ?_
          refine g_run 1 60 [some (.ref 49), some (.int (zI l1)), none, some (.int (zI l3)), some (.int (zI l4)), some (.int (zI l5)), none, some (.int (zI (zor l7 0))), some (.int (zI (l8 + 1))), some (.int (zI z2))] [] (rd z1.2) rfl ?_
          refine g_fgt [false, false, true, false, false, false, true, false, false, true] ?_
          show eG _ 191 60 [some (.ref 49), some (.int (zI l1)), none, some (.int (zI l3)), some (.int (zI l4)), some (.int (zI l5)), none, some (.int (zI (zor l7 0))), some (.int (zI (l8 + 1))), none] [] (rd z1.2) _
          exact ih z1.2 l1 l3 l4 l5 (zor l7 0) (l8 + 1) h hk
        · show eG _ 191 107 [some (.ref 49), some (.int (zI l1)), none, some (.int (zI l3)), some (.int (zI l4)), some (.int (zI l5)), none, some (.int (zI l7)), some (.int (zI l8)), some (.int (zI z2))] [.int (zI l7)] (rd z1.2) _
          refine g_run 2 110 [some (.ref 49), some (.int (zI l1)), none, some (.int (zI l3)), some (.int (zI l4)), some (.int (zI l5)), none, some (.int (zI l7)), some (.int (zI l8)), some (.int (zI z2))] [.int (zI l8), .int (zI 1), .int (zI l7)] (rd z1.2) rfl ?_
          refine s_ishl rfl ?_
          refine g_run 1 115 [some (.ref 49), some (.int (zI l1)), none, some (.int (zI l3)), some (.int (zI l4)), some (.int (zI l5)), none, some (.int (zI l7)), some (.int (zI l8)), some (.int (zI z2))] [.int (zI (zshl 1 l8)), .int (zI l7)] (rd z1.2) rfl ?_
          refine s_ior rfl ?_
          refine g_run 1 118 [some (.ref 49), some (.int (zI l1)), none, some (.int (zI l3)), some (.int (zI l4)), some (.int (zI l5)), none, some (.int (zI (zor l7 (zshl 1 l8)))), some (.int (zI l8)), some (.int (zI z2))] [] (rd z1.2) rfl ?_
          refine s_iinc (L' := [some (.ref 49), some (.int (zI l1)), none, some (.int (zI l3)), some (.int (zI l4)), some (.int (zI l5)), none, some (.int (zI (zor l7 (zshl 1 l8)))), some (.int (zI (l8 + 1))), some (.int (zI z2))]) rfl rfl rfl ?_
          refine g_run 1 60 [some (.ref 49), some (.int (zI l1)), none, some (.int (zI l3)), some (.int (zI l4)), some (.int (zI l5)), none, some (.int (zI (zor l7 (zshl 1 l8)))), some (.int (zI (l8 + 1))), some (.int (zI z2))] [] (rd z1.2) rfl ?_
          refine g_fgt [false, false, true, false, false, false, true, false, false, true] ?_
          show eG _ 191 60 [some (.ref 49), some (.int (zI l1)), none, some (.int (zI l3)), some (.int (zI l4)), some (.int (zI l5)), none, some (.int (zI (zor l7 (zshl 1 l8)))), some (.int (zI (l8 + 1))), none] [] (rd z1.2) _
          exact ih z1.2 l1 l3 l4 l5 (zor l7 (zshl 1 l8)) (l8 + 1) h hk
      · skip
        refine s_if_ge rfl h (fun h => ?_) (fun h => ?_)
        · show eG _ 191 97 [some (.ref 49), some (.int (zI l1)), none, some (.int (zI l3)), some (.int (zI l4)), some (.int (zI l5)), none, some (.int (zI l7)), some (.int (zI l8)), none] [] (rd z1.2) _
          refine g_run 1 98 [some (.ref 49), some (.int (zI l1)), none, some (.int (zI l3)), some (.int (zI l4)), some (.int (zI l5)), none, some (.int (zI l7)), some (.int (zI l8)), none] [.int (zI 0)] (rd z1.2) rfl ?_
          cases h
          exact j
        · show eG _ 191 84 [some (.ref 49), some (.int (zI l1)), none, some (.int (zI l3)), some (.int (zI l4)), some (.int (zI l5)), none, some (.int (zI l7)), some (.int (zI l8)), none] [] (rd z1.2) _
          refine g_run 1 85 [some (.ref 49), some (.int (zI l1)), none, some (.int (zI l3)), some (.int (zI l4)), some (.int (zI l5)), none, some (.int (zI l7)), some (.int (zI l8)), none] [.ref 49] (rd z1.2) rfl ?_
          refine g_getf rfl rfl (rd_o49 _) rfl ?_
          show eG _ 191 88 [some (.ref 49), some (.int (zI l1)), none, some (.int (zI l3)), some (.int (zI l4)), some (.int (zI l5)), none, some (.int (zI l7)), some (.int (zI l8)), none] [.int (zI (zF z1.2 49 34))] (rd z1.2) _
          refine g_run 1 90 [some (.ref 49), some (.int (zI l1)), none, some (.int (zI l3)), some (.int (zI l4)), some (.int (zI l5)), none, some (.int (zI l7)), some (.int (zI l8)), none] [.int (zI l5), .int (zI (zF z1.2 49 34))] (rd z1.2) rfl ?_
          refine s_icmp_ne rfl h (fun h => ?_) (fun h => ?_)
          · show eG _ 191 97 [some (.ref 49), some (.int (zI l1)), none, some (.int (zI l3)), some (.int (zI l4)), some (.int (zI l5)), none, some (.int (zI l7)), some (.int (zI l8)), none] [] (rd z1.2) _
            refine g_run 1 98 [some (.ref 49), some (.int (zI l1)), none, some (.int (zI l3)), some (.int (zI l4)), some (.int (zI l5)), none, some (.int (zI l7)), some (.int (zI l8)), none] [.int (zI 0)] (rd z1.2) rfl ?_
            cases h
            exact j
          · show eG _ 191 93 [some (.ref 49), some (.int (zI l1)), none, some (.int (zI l3)), some (.int (zI l4)), some (.int (zI l5)), none, some (.int (zI l7)), some (.int (zI l8)), none] [] (rd z1.2) _
            refine g_run 2 98 [some (.ref 49), some (.int (zI l1)), none, some (.int (zI l3)), some (.int (zI l4)), some (.int (zI l5)), none, some (.int (zI l7)), some (.int (zI l8)), none] [.int (zI 1)] (rd z1.2) rfl ?_
            cases h
            exact j
def fM_wrong (n : Nat) (S : ZS) (l1 l2 l3 l4 l5 : Int) : Option (Int × ZS) := (fM_isSheet n S l1 l2).bind fun z1 => gC z1 0 (if z1 = 0 then some (-1, S) else gC l4 0 ((fM_in n S l4 1 8).bind fun z2 => gC z2 0 (if z2 = 0 then some (-1, S) else gC l5 0 ((fM_isSet n S l5).bind fun z3 => gC z3 0 (if z3 = 0 then some (-1, S) else (fM_lacksRow n S l1 l2 l3 (2 * l4)).bind fun z4 => gC z4 0 (if z4 < 0 then some (z4, S) else (fM_wrong_1 n S l1 l3 l4 l5 0 0).bind fun z5 => some (z5.1, z5.2)))))))
set_option maxRecDepth 100000 in
set_option maxHeartbeats 4000000 in
theorem sM_wrong (o : eO) (n : Nat) (S : ZS) (l1 l2 l3 l4 l5 : Int) {w : Int × ZS} (h : fM_wrong n S l1 l2 l3 l4 l5 = some w) : eG o 191 0 (eEnt 191 [.ref 49, .int (zI l1), .int (zI l2), .int (zI l3), .int (zI l4), .int (zI l5)]) [] (rd S) (rv (some (.int (zI w.1))) (rd w.2)) := by
  unfold fM_wrong at h
  show eG o 191 0 [some (.ref 49), some (.int (zI l1)), some (.int (zI l2)), some (.int (zI l3)), some (.int (zI l4)), some (.int (zI l5)), none, none, none, none] [] (rd S) _
  refine g_run 2 2 [some (.ref 49), some (.int (zI l1)), some (.int (zI l2)), some (.int (zI l3)), some (.int (zI l4)), some (.int (zI l5)), none, none, none, none] [.int (zI l2), .int (zI l1)] (rd S) rfl ?_
  refine s_sta (fun z => some (.int (zI z))) (fun _ => rd S) rfl rfl rfl rfl rfl rfl rfl (fun z hz => sM_isSheet o n S l1 l2 hz) rfl h (fun z1 h => ?_)
  show eG _ 191 5 [some (.ref 49), some (.int (zI l1)), some (.int (zI l2)), some (.int (zI l3)), some (.int (zI l4)), some (.int (zI l5)), none, none, none, none] [.int (zI z1)] (rd S) _
  refine s_if_eq rfl h (fun h => ?_) (fun h => ?_)
  · show eG _ 191 31 [some (.ref 49), some (.int (zI l1)), some (.int (zI l2)), some (.int (zI l3)), some (.int (zI l4)), some (.int (zI l5)), none, none, none, none] [] (rd S) _
    refine g_run 1 32 [some (.ref 49), some (.int (zI l1)), some (.int (zI l2)), some (.int (zI l3)), some (.int (zI l4)), some (.int (zI l5)), none, none, none, none] [.int (zI (-1))] (rd S) rfl ?_
    cases h
    exact s_ret rfl rfl rfl
  · show eG _ 191 8 [some (.ref 49), some (.int (zI l1)), some (.int (zI l2)), some (.int (zI l3)), some (.int (zI l4)), some (.int (zI l5)), none, none, none, none] [] (rd S) _
    refine g_run 1 10 [some (.ref 49), some (.int (zI l1)), some (.int (zI l2)), some (.int (zI l3)), some (.int (zI l4)), some (.int (zI l5)), none, none, none, none] [.int (zI l4)] (rd S) rfl ?_
    refine s_i2l rfl h (fun h => ?_)
    refine g_run 2 15 [some (.ref 49), some (.int (zI l1)), some (.int (zI l2)), some (.int (zI l3)), some (.int (zI l4)), some (.int (zI l5)), none, none, none, none] [.long (zL 8), .long (zL 1), .long (zL l4)] (rd S) rfl ?_
    refine s_sta (fun z => some (.int (zI z))) (fun _ => rd S) rfl rfl rfl rfl rfl rfl rfl (fun z hz => sM_in o n S l4 1 8 hz) rfl h (fun z2 h => ?_)
    show eG _ 191 18 [some (.ref 49), some (.int (zI l1)), some (.int (zI l2)), some (.int (zI l3)), some (.int (zI l4)), some (.int (zI l5)), none, none, none, none] [.int (zI z2)] (rd S) _
    refine s_if_eq rfl h (fun h => ?_) (fun h => ?_)
    · show eG _ 191 31 [some (.ref 49), some (.int (zI l1)), some (.int (zI l2)), some (.int (zI l3)), some (.int (zI l4)), some (.int (zI l5)), none, none, none, none] [] (rd S) _
      refine g_run 1 32 [some (.ref 49), some (.int (zI l1)), some (.int (zI l2)), some (.int (zI l3)), some (.int (zI l4)), some (.int (zI l5)), none, none, none, none] [.int (zI (-1))] (rd S) rfl ?_
      cases h
      exact s_ret rfl rfl rfl
    · show eG _ 191 21 [some (.ref 49), some (.int (zI l1)), some (.int (zI l2)), some (.int (zI l3)), some (.int (zI l4)), some (.int (zI l5)), none, none, none, none] [] (rd S) _
      refine g_run 2 24 [some (.ref 49), some (.int (zI l1)), some (.int (zI l2)), some (.int (zI l3)), some (.int (zI l4)), some (.int (zI l5)), none, none, none, none] [.int (zI l5), .ref 49] (rd S) rfl ?_
      refine s_i2l rfl h (fun h => ?_)
      refine s_vir (fun z => some (.int (zI z))) (fun _ => rd S) rfl rfl rfl (rd_o49 _) rfl rfl (fun z hz => sM_isSet o n S l5 hz) rfl h (fun z3 h => ?_)
      show eG _ 191 28 [some (.ref 49), some (.int (zI l1)), some (.int (zI l2)), some (.int (zI l3)), some (.int (zI l4)), some (.int (zI l5)), none, none, none, none] [.int (zI z3)] (rd S) _
      refine s_if_ne rfl h (fun h => ?_) (fun h => ?_)
      · show eG _ 191 33 [some (.ref 49), some (.int (zI l1)), some (.int (zI l2)), some (.int (zI l3)), some (.int (zI l4)), some (.int (zI l5)), none, none, none, none] [] (rd S) _
        refine g_run 6 40 [some (.ref 49), some (.int (zI l1)), some (.int (zI l2)), some (.int (zI l3)), some (.int (zI l4)), some (.int (zI l5)), none, none, none, none] [.int (zI l4), .int (zI 2), .int (zI l3), .int (zI l2), .int (zI l1), .ref 49] (rd S) rfl ?_
        refine s_imul rfl ?_
        refine s_vir (fun z => some (.int (zI z))) (fun _ => rd S) rfl rfl rfl (rd_o49 _) rfl rfl (fun z hz => sM_lacksRow o n S l1 l2 l3 (2 * l4) hz) rfl h (fun z4 h => ?_)
        show eG _ 191 44 [some (.ref 49), some (.int (zI l1)), some (.int (zI l2)), some (.int (zI l3)), some (.int (zI l4)), some (.int (zI l5)), none, none, none, none] [.int (zI z4)] (rd S) _
        refine g_run 2 48 [some (.ref 49), some (.int (zI l1)), some (.int (zI l2)), some (.int (zI l3)), some (.int (zI l4)), some (.int (zI l5)), some (.int (zI z4)), none, none, none] [.int (zI z4)] (rd S) rfl ?_
        refine s_if_ge rfl h (fun h => ?_) (fun h => ?_)
        · show eG _ 191 54 [some (.ref 49), some (.int (zI l1)), some (.int (zI l2)), some (.int (zI l3)), some (.int (zI l4)), some (.int (zI l5)), some (.int (zI z4)), none, none, none] [] (rd S) _
          refine g_run 4 60 [some (.ref 49), some (.int (zI l1)), some (.int (zI l2)), some (.int (zI l3)), some (.int (zI l4)), some (.int (zI l5)), some (.int (zI z4)), some (.int (zI 0)), some (.int (zI 0)), none] [] (rd S) rfl ?_
          refine g_fgt [false, false, true, false, false, false, true, false, false, true] ?_
          show eG _ 191 60 [some (.ref 49), some (.int (zI l1)), none, some (.int (zI l3)), some (.int (zI l4)), some (.int (zI l5)), none, some (.int (zI 0)), some (.int (zI 0)), none] [] (rd S) _
          obtain ⟨z5, h1, h⟩ := zB_inv h
          refine sM_wrong_1 o n S l1 l3 l4 l5 0 0 h1 ?_
          show eG _ 191 124 [none, none, none, none, none, none, none, some (.int (zI z5.1)), none, none] [] (rd z5.2) _
          refine g_run 1 126 [none, none, none, none, none, none, none, some (.int (zI z5.1)), none, none] [.int (zI z5.1)] (rd z5.2) rfl ?_
          cases h
          exact s_ret rfl rfl rfl
        · show eG _ 191 51 [some (.ref 49), some (.int (zI l1)), some (.int (zI l2)), some (.int (zI l3)), some (.int (zI l4)), some (.int (zI l5)), some (.int (zI z4)), none, none, none] [] (rd S) _
          refine g_run 1 53 [some (.ref 49), some (.int (zI l1)), some (.int (zI l2)), some (.int (zI l3)), some (.int (zI l4)), some (.int (zI l5)), some (.int (zI z4)), none, none, none] [.int (zI z4)] (rd S) rfl ?_
          cases h
          exact s_ret rfl rfl rfl
      · show eG _ 191 31 [some (.ref 49), some (.int (zI l1)), some (.int (zI l2)), some (.int (zI l3)), some (.int (zI l4)), some (.int (zI l5)), none, none, none, none] [] (rd S) _
        refine g_run 1 32 [some (.ref 49), some (.int (zI l1)), some (.int (zI l2)), some (.int (zI l3)), some (.int (zI l4)), some (.int (zI l5)), none, none, none, none] [.int (zI (-1))] (rd S) rfl ?_
        cases h
        exact s_ret rfl rfl rfl
def fM_sheet_1 : Nat → ZS → Int → Int → Int → Option (ZS)
  | 0, _, _, _, _ => none
  | n + 1, S, l1, l3, l4 => gC l4 24 (if l4 < 24 then gX ((24 * l1) + l4) 96 (fM_sheet_1 n (wA S 72 ((24 * l1) + l4) 0) l1 l3 (l4 + 1)) else some S)
set_option maxRecDepth 100000 in
set_option maxHeartbeats 4000000 in
theorem sM_sheet_1 (o : eO) : ∀ (n : Nat) (S : ZS) (l1 l3 l4 : Int) {w : ZS} {r : eP} (h : fM_sheet_1 n S l1 l3 l4 = some w) (hk : eG o 183 66 [none, none, none, some (.int (zI l3)), none] [] (rd w) r), eG o 183 40 [some (.ref 49), some (.int (zI l1)), none, some (.int (zI l3)), some (.int (zI l4))] [] (rd S) r := by
  intro n
  induction n with
  | zero => intro S l1 l3 l4 w r h hk; unfold fM_sheet_1 at h; cases h
  | succ n ih =>
    intro S l1 l3 l4 w r h hk
    unfold fM_sheet_1 at h
    refine g_run 2 44 [some (.ref 49), some (.int (zI l1)), none, some (.int (zI l3)), some (.int (zI l4))] [.int (zI 24), .int (zI l4)] (rd S) rfl ?_
    refine s_icmp_ge rfl h (fun h => ?_) (fun h => ?_)
    · show eG _ 183 66 [some (.ref 49), some (.int (zI l1)), none, some (.int (zI l3)), some (.int (zI l4))] [] (rd S) _
      refine g_fgt [true, true, true, false, true] ?_
      show eG _ 183 66 [none, none, none, some (.int (zI l3)), none] [] (rd S) _
      cases h
      exact hk
    · show eG _ 183 47 [some (.ref 49), some (.int (zI l1)), none, some (.int (zI l3)), some (.int (zI l4))] [] (rd S) _
      refine g_run 1 48 [some (.ref 49), some (.int (zI l1)), none, some (.int (zI l3)), some (.int (zI l4))] [.ref 49] (rd S) rfl ?_
      refine g_getf rfl rfl (rd_o49 _) rfl ?_
      show eG _ 183 51 [some (.ref 49), some (.int (zI l1)), none, some (.int (zI l3)), some (.int (zI l4))] [.ref 72] (rd S) _
      refine g_run 2 54 [some (.ref 49), some (.int (zI l1)), none, some (.int (zI l3)), some (.int (zI l4))] [.int (zI l1), .int (zI 24), .ref 72] (rd S) rfl ?_
      refine s_imul rfl ?_
      refine g_run 1 57 [some (.ref 49), some (.int (zI l1)), none, some (.int (zI l3)), some (.int (zI l4))] [.int (zI l4), .int (zI (24 * l1)), .ref 72] (rd S) rfl ?_
      refine s_iadd rfl ?_
      refine g_run 1 59 [some (.ref 49), some (.int (zI l1)), none, some (.int (zI l3)), some (.int (zI l4))] [.long (zL 0), .int (zI ((24 * l1) + l4)), .ref 72] (rd S) rfl ?_
      refine s_last rfl (rd_a72 _) (rw_a72 _ _) h (fun h => ?_)
      show eG _ 183 60 [some (.ref 49), some (.int (zI l1)), none, some (.int (zI l3)), some (.int (zI l4))] [] (rd (wA S 72 ((24 * l1) + l4) 0)) _
      refine s_iinc (L' := [some (.ref 49), some (.int (zI l1)), none, some (.int (zI l3)), some (.int (zI (l4 + 1)))]) rfl rfl rfl ?_
      refine g_run 1 40 [some (.ref 49), some (.int (zI l1)), none, some (.int (zI l3)), some (.int (zI (l4 + 1)))] [] (rd (wA S 72 ((24 * l1) + l4) 0)) rfl ?_
      exact ih (wA S 72 ((24 * l1) + l4) 0) l1 l3 (l4 + 1) h hk
def fM_sheet (n : Nat) (S : ZS) (l1 l2 l3 : Int) : Option (Int × ZS) := (fM_isSheet n S l1 l2).bind fun z1 => gC z1 0 (if z1 = 0 then some (-1, S) else gC l3 24 (if 24 < l3 then some (-1, S) else gC l3 0 (if l3 < 0 then some (-14, S) else gX l1 4 (gX l1 4 ((fM_sheet_1 n (wA (wA S 70 l1 l2) 71 l1 l3) l1 l3 0).bind fun z2 => some (l3, z2))))))
set_option maxRecDepth 100000 in
set_option maxHeartbeats 4000000 in
theorem sM_sheet (o : eO) (n : Nat) (S : ZS) (l1 l2 l3 : Int) {w : Int × ZS} (h : fM_sheet n S l1 l2 l3 = some w) : eG o 183 0 (eEnt 183 [.ref 49, .int (zI l1), .int (zI l2), .int (zI l3)]) [] (rd S) (rv (some (.int (zI w.1))) (rd w.2)) := by
  unfold fM_sheet at h
  show eG o 183 0 [some (.ref 49), some (.int (zI l1)), some (.int (zI l2)), some (.int (zI l3)), none] [] (rd S) _
  refine g_run 2 2 [some (.ref 49), some (.int (zI l1)), some (.int (zI l2)), some (.int (zI l3)), none] [.int (zI l2), .int (zI l1)] (rd S) rfl ?_
  refine s_sta (fun z => some (.int (zI z))) (fun _ => rd S) rfl rfl rfl rfl rfl rfl rfl (fun z hz => sM_isSheet o n S l1 l2 hz) rfl h (fun z1 h => ?_)
  show eG _ 183 5 [some (.ref 49), some (.int (zI l1)), some (.int (zI l2)), some (.int (zI l3)), none] [.int (zI z1)] (rd S) _
  refine s_if_eq rfl h (fun h => ?_) (fun h => ?_)
  · show eG _ 183 14 [some (.ref 49), some (.int (zI l1)), some (.int (zI l2)), some (.int (zI l3)), none] [] (rd S) _
    refine g_run 1 15 [some (.ref 49), some (.int (zI l1)), some (.int (zI l2)), some (.int (zI l3)), none] [.int (zI (-1))] (rd S) rfl ?_
    cases h
    exact s_ret rfl rfl rfl
  · show eG _ 183 8 [some (.ref 49), some (.int (zI l1)), some (.int (zI l2)), some (.int (zI l3)), none] [] (rd S) _
    refine g_run 2 11 [some (.ref 49), some (.int (zI l1)), some (.int (zI l2)), some (.int (zI l3)), none] [.int (zI 24), .int (zI l3)] (rd S) rfl ?_
    refine s_icmp_le rfl h (fun h => ?_) (fun h => ?_)
    · show eG _ 183 16 [some (.ref 49), some (.int (zI l1)), some (.int (zI l2)), some (.int (zI l3)), none] [] (rd S) _
      refine g_run 1 17 [some (.ref 49), some (.int (zI l1)), some (.int (zI l2)), some (.int (zI l3)), none] [.int (zI l3)] (rd S) rfl ?_
      refine s_if_ge rfl h (fun h => ?_) (fun h => ?_)
      · show eG _ 183 23 [some (.ref 49), some (.int (zI l1)), some (.int (zI l2)), some (.int (zI l3)), none] [] (rd S) _
        refine g_run 1 24 [some (.ref 49), some (.int (zI l1)), some (.int (zI l2)), some (.int (zI l3)), none] [.ref 49] (rd S) rfl ?_
        refine g_getf rfl rfl (rd_o49 _) rfl ?_
        show eG _ 183 27 [some (.ref 49), some (.int (zI l1)), some (.int (zI l2)), some (.int (zI l3)), none] [.ref 70] (rd S) _
        refine g_run 2 29 [some (.ref 49), some (.int (zI l1)), some (.int (zI l2)), some (.int (zI l3)), none] [.int (zI l2), .int (zI l1), .ref 70] (rd S) rfl ?_
        refine s_iast rfl (rd_a70 _) (rw_a70 _ _) h (fun h => ?_)
        show eG _ 183 30 [some (.ref 49), some (.int (zI l1)), some (.int (zI l2)), some (.int (zI l3)), none] [] (rd (wA S 70 l1 l2)) _
        refine g_run 1 31 [some (.ref 49), some (.int (zI l1)), some (.int (zI l2)), some (.int (zI l3)), none] [.ref 49] (rd (wA S 70 l1 l2)) rfl ?_
        refine g_getf rfl rfl (rd_o49 _) rfl ?_
        show eG _ 183 34 [some (.ref 49), some (.int (zI l1)), some (.int (zI l2)), some (.int (zI l3)), none] [.ref 71] (rd (wA S 70 l1 l2)) _
        refine g_run 2 36 [some (.ref 49), some (.int (zI l1)), some (.int (zI l2)), some (.int (zI l3)), none] [.int (zI l3), .int (zI l1), .ref 71] (rd (wA S 70 l1 l2)) rfl ?_
        refine s_iast rfl (rd_a71 _) (rw_a71 _ _) h (fun h => ?_)
        show eG _ 183 37 [some (.ref 49), some (.int (zI l1)), some (.int (zI l2)), some (.int (zI l3)), none] [] (rd (wA (wA S 70 l1 l2) 71 l1 l3)) _
        refine g_run 2 40 [some (.ref 49), some (.int (zI l1)), some (.int (zI l2)), some (.int (zI l3)), some (.int (zI 0))] [] (rd (wA (wA S 70 l1 l2) 71 l1 l3)) rfl ?_
        refine g_fgt [false, false, true, false, false] ?_
        show eG _ 183 40 [some (.ref 49), some (.int (zI l1)), none, some (.int (zI l3)), some (.int (zI 0))] [] (rd (wA (wA S 70 l1 l2) 71 l1 l3)) _
        obtain ⟨z2, h1, h⟩ := zB_inv h
        refine sM_sheet_1 o n (wA (wA S 70 l1 l2) 71 l1 l3) l1 l3 0 h1 ?_
        show eG _ 183 66 [none, none, none, some (.int (zI l3)), none] [] (rd z2) _
        refine g_run 1 67 [none, none, none, some (.int (zI l3)), none] [.int (zI l3)] (rd z2) rfl ?_
        cases h
        exact s_ret rfl rfl rfl
      · show eG _ 183 20 [some (.ref 49), some (.int (zI l1)), some (.int (zI l2)), some (.int (zI l3)), none] [] (rd S) _
        refine g_run 1 22 [some (.ref 49), some (.int (zI l1)), some (.int (zI l2)), some (.int (zI l3)), none] [.int (zI (-14))] (rd S) rfl ?_
        cases h
        exact s_ret rfl rfl rfl
    · show eG _ 183 14 [some (.ref 49), some (.int (zI l1)), some (.int (zI l2)), some (.int (zI l3)), none] [] (rd S) _
      refine g_run 1 15 [some (.ref 49), some (.int (zI l1)), some (.int (zI l2)), some (.int (zI l3)), none] [.int (zI (-1))] (rd S) rfl ?_
      cases h
      exact s_ret rfl rfl rfl
def fM_drop (n : Nat) (S : ZS) (l1 : Int) : Option (Int × ZS) := gC l1 0 ((fM_in n S l1 0 3).bind fun z1 => gC z1 0 (if z1 = 0 then some (-1, S) else gX l1 4 (gC (zA S 70 l1) 0 (if (zA S 70 l1) < 0 then some (-11, S) else gX l1 4 (gX l1 4 (some (zA S 71 l1, wA S 70 l1 (-1))))))))
set_option maxRecDepth 100000 in
set_option maxHeartbeats 4000000 in
theorem sM_drop (o : eO) (n : Nat) (S : ZS) (l1 : Int) {w : Int × ZS} (h : fM_drop n S l1 = some w) : eG o 185 0 (eEnt 185 [.ref 49, .int (zI l1)]) [] (rd S) (rv (some (.int (zI w.1))) (rd w.2)) := by
  unfold fM_drop at h
  show eG o 185 0 [some (.ref 49), some (.int (zI l1))] [] (rd S) _
  refine g_run 1 1 [some (.ref 49), some (.int (zI l1))] [.int (zI l1)] (rd S) rfl ?_
  refine s_i2l rfl h (fun h => ?_)
  refine g_run 2 6 [some (.ref 49), some (.int (zI l1))] [.long (zL 3), .long (zL 0), .long (zL l1)] (rd S) rfl ?_
  refine s_sta (fun z => some (.int (zI z))) (fun _ => rd S) rfl rfl rfl rfl rfl rfl rfl (fun z hz => sM_in o n S l1 0 3 hz) rfl h (fun z1 h => ?_)
  show eG _ 185 9 [some (.ref 49), some (.int (zI l1))] [.int (zI z1)] (rd S) _
  refine s_if_ne rfl h (fun h => ?_) (fun h => ?_)
  · show eG _ 185 14 [some (.ref 49), some (.int (zI l1))] [] (rd S) _
    refine g_run 1 15 [some (.ref 49), some (.int (zI l1))] [.ref 49] (rd S) rfl ?_
    refine g_getf rfl rfl (rd_o49 _) rfl ?_
    show eG _ 185 18 [some (.ref 49), some (.int (zI l1))] [.ref 70] (rd S) _
    refine g_run 1 19 [some (.ref 49), some (.int (zI l1))] [.int (zI l1), .ref 70] (rd S) rfl ?_
    refine s_iald rfl (rd_a70 _) h (fun h => ?_)
    show eG _ 185 20 [some (.ref 49), some (.int (zI l1))] [.int (zI (zA S 70 l1))] (rd S) _
    refine s_if_ge rfl h (fun h => ?_) (fun h => ?_)
    · show eG _ 185 26 [some (.ref 49), some (.int (zI l1))] [] (rd S) _
      refine g_run 1 27 [some (.ref 49), some (.int (zI l1))] [.ref 49] (rd S) rfl ?_
      refine g_getf rfl rfl (rd_o49 _) rfl ?_
      show eG _ 185 30 [some (.ref 49), some (.int (zI l1))] [.ref 70] (rd S) _
      refine g_run 2 32 [some (.ref 49), some (.int (zI l1))] [.int (zI (-1)), .int (zI l1), .ref 70] (rd S) rfl ?_
      refine s_iast rfl (rd_a70 _) (rw_a70 _ _) h (fun h => ?_)
      show eG _ 185 33 [some (.ref 49), some (.int (zI l1))] [] (rd (wA S 70 l1 (-1))) _
      refine g_run 1 34 [some (.ref 49), some (.int (zI l1))] [.ref 49] (rd (wA S 70 l1 (-1))) rfl ?_
      refine g_getf rfl rfl (rd_o49 _) rfl ?_
      show eG _ 185 37 [some (.ref 49), some (.int (zI l1))] [.ref 71] (rd (wA S 70 l1 (-1))) _
      refine g_run 1 38 [some (.ref 49), some (.int (zI l1))] [.int (zI l1), .ref 71] (rd (wA S 70 l1 (-1))) rfl ?_
      refine s_iald rfl (rd_a71 _) h (fun h => ?_)
      show eG _ 185 39 [some (.ref 49), some (.int (zI l1))] [.int (zI (zA S 71 l1))] (rd (wA S 70 l1 (-1))) _
      cases h
      exact s_ret rfl rfl rfl
    · show eG _ 185 23 [some (.ref 49), some (.int (zI l1))] [] (rd S) _
      refine g_run 1 25 [some (.ref 49), some (.int (zI l1))] [.int (zI (-11))] (rd S) rfl ?_
      cases h
      exact s_ret rfl rfl rfl
  · show eG _ 185 12 [some (.ref 49), some (.int (zI l1))] [] (rd S) _
    refine g_run 1 13 [some (.ref 49), some (.int (zI l1))] [.int (zI (-1))] (rd S) rfl ?_
    cases h
    exact s_ret rfl rfl rfl
def fM_asLane (n : Nat) (S : ZS) (l0 l1 : Int) : Option (Int) := gC l0 0 (if l0 = 0 then some (zlshr (zlshl l1 48) 48) else gC l0 1 (if l0 = 1 then some (zlshr (zlshl l1 32) 32) else some l1))
set_option maxRecDepth 100000 in
set_option maxHeartbeats 4000000 in
theorem sM_asLane (o : eO) (n : Nat) (S : ZS) (l0 l1 : Int) {w : Int} (h : fM_asLane n S l0 l1 = some w) : eG o 188 0 (eEnt 188 [.int (zI l0), .long (zL l1)]) [] (rd S) (rv (some (.long (zL w))) (rd S)) := by
  unfold fM_asLane at h
  show eG o 188 0 [some (.int (zI l0)), some (.long (zL l1)), none] [] (rd S) _
  refine g_run 1 1 [some (.int (zI l0)), some (.long (zL l1)), none] [.int (zI l0)] (rd S) rfl ?_
  refine s_if_ne rfl h (fun h => ?_) (fun h => ?_)
  · show eG _ 188 14 [some (.int (zI l0)), some (.long (zL l1)), none] [] (rd S) _
    refine g_run 2 16 [some (.int (zI l0)), some (.long (zL l1)), none] [.int (zI 1), .int (zI l0)] (rd S) rfl ?_
    refine s_icmp_ne rfl h (fun h => ?_) (fun h => ?_)
    · show eG _ 188 29 [some (.int (zI l0)), some (.long (zL l1)), none] [] (rd S) _
      refine g_run 1 30 [some (.int (zI l0)), some (.long (zL l1)), none] [.long (zL l1)] (rd S) rfl ?_
      have e9 := Option.some.inj h; subst e9
      exact s_retL rfl rfl rfl
    · show eG _ 188 19 [some (.int (zI l0)), some (.long (zL l1)), none] [] (rd S) _
      refine g_run 2 22 [some (.int (zI l0)), some (.long (zL l1)), none] [.int (zI 32), .long (zL l1)] (rd S) rfl ?_
      refine s_lshl rfl ?_
      refine g_run 1 25 [some (.int (zI l0)), some (.long (zL l1)), none] [.int (zI 32), .long (zL (zlshl l1 32))] (rd S) rfl ?_
      refine s_lshr rfl ?_
      refine g_run 1 30 [some (.int (zI l0)), some (.long (zL l1)), none] [.long (zL (zlshr (zlshl l1 32) 32))] (rd S) rfl ?_
      have e9 := Option.some.inj h; subst e9
      exact s_retL rfl rfl rfl
  · show eG _ 188 4 [some (.int (zI l0)), some (.long (zL l1)), none] [] (rd S) _
    refine g_run 2 7 [some (.int (zI l0)), some (.long (zL l1)), none] [.int (zI 48), .long (zL l1)] (rd S) rfl ?_
    refine s_lshl rfl ?_
    refine g_run 1 10 [some (.int (zI l0)), some (.long (zL l1)), none] [.int (zI 48), .long (zL (zlshl l1 48))] (rd S) rfl ?_
    refine s_lshr rfl ?_
    refine g_run 1 30 [some (.int (zI l0)), some (.long (zL l1)), none] [.long (zL (zlshr (zlshl l1 48) 48))] (rd S) rfl ?_
    have e9 := Option.some.inj h; subst e9
    exact s_retL rfl rfl rfl
def fM_item (n : Nat) (S : ZS) (l1 l2 l3 l4 : Int) : Option (Int × ZS) := (fM_isSheet n S l1 l2).bind fun z1 => gC z1 0 (if z1 = 0 then some (-1, S) else (fM_lacksRow n S l1 l2 l3 1).bind fun z2 => gC z2 0 (if z2 < 0 then some (z2, S) else (fM_asLane n S l2 l4).bind fun z3 => gX ((24 * l1) + l3) 96 (some (1, wA S 72 ((24 * l1) + l3) z3))))
set_option maxRecDepth 100000 in
set_option maxHeartbeats 4000000 in
theorem sM_item (o : eO) (n : Nat) (S : ZS) (l1 l2 l3 l4 : Int) {w : Int × ZS} (h : fM_item n S l1 l2 l3 l4 = some w) : eG o 186 0 (eEnt 186 [.ref 49, .int (zI l1), .int (zI l2), .int (zI l3), .long (zL l4)]) [] (rd S) (rv (some (.int (zI w.1))) (rd w.2)) := by
  unfold fM_item at h
  show eG o 186 0 [some (.ref 49), some (.int (zI l1)), some (.int (zI l2)), some (.int (zI l3)), some (.long (zL l4)), none, none] [] (rd S) _
  refine g_run 2 2 [some (.ref 49), some (.int (zI l1)), some (.int (zI l2)), some (.int (zI l3)), some (.long (zL l4)), none, none] [.int (zI l2), .int (zI l1)] (rd S) rfl ?_
  refine s_sta (fun z => some (.int (zI z))) (fun _ => rd S) rfl rfl rfl rfl rfl rfl rfl (fun z hz => sM_isSheet o n S l1 l2 hz) rfl h (fun z1 h => ?_)
  show eG _ 186 5 [some (.ref 49), some (.int (zI l1)), some (.int (zI l2)), some (.int (zI l3)), some (.long (zL l4)), none, none] [.int (zI z1)] (rd S) _
  refine s_if_ne rfl h (fun h => ?_) (fun h => ?_)
  · show eG _ 186 10 [some (.ref 49), some (.int (zI l1)), some (.int (zI l2)), some (.int (zI l3)), some (.long (zL l4)), none, none] [] (rd S) _
    refine g_run 5 15 [some (.ref 49), some (.int (zI l1)), some (.int (zI l2)), some (.int (zI l3)), some (.long (zL l4)), none, none] [.int (zI 1), .int (zI l3), .int (zI l2), .int (zI l1), .ref 49] (rd S) rfl ?_
    refine s_vir (fun z => some (.int (zI z))) (fun _ => rd S) rfl rfl rfl (rd_o49 _) rfl rfl (fun z hz => sM_lacksRow o n S l1 l2 l3 1 hz) rfl h (fun z2 h => ?_)
    show eG _ 186 18 [some (.ref 49), some (.int (zI l1)), some (.int (zI l2)), some (.int (zI l3)), some (.long (zL l4)), none, none] [.int (zI z2)] (rd S) _
    refine g_run 2 22 [some (.ref 49), some (.int (zI l1)), some (.int (zI l2)), some (.int (zI l3)), some (.long (zL l4)), none, some (.int (zI z2))] [.int (zI z2)] (rd S) rfl ?_
    refine s_if_ge rfl h (fun h => ?_) (fun h => ?_)
    · show eG _ 186 28 [some (.ref 49), some (.int (zI l1)), some (.int (zI l2)), some (.int (zI l3)), some (.long (zL l4)), none, some (.int (zI z2))] [] (rd S) _
      refine g_run 1 29 [some (.ref 49), some (.int (zI l1)), some (.int (zI l2)), some (.int (zI l3)), some (.long (zL l4)), none, some (.int (zI z2))] [.ref 49] (rd S) rfl ?_
      refine g_getf rfl rfl (rd_o49 _) rfl ?_
      show eG _ 186 32 [some (.ref 49), some (.int (zI l1)), some (.int (zI l2)), some (.int (zI l3)), some (.long (zL l4)), none, some (.int (zI z2))] [.ref 72] (rd S) _
      refine g_run 2 35 [some (.ref 49), some (.int (zI l1)), some (.int (zI l2)), some (.int (zI l3)), some (.long (zL l4)), none, some (.int (zI z2))] [.int (zI l1), .int (zI 24), .ref 72] (rd S) rfl ?_
      refine s_imul rfl ?_
      refine g_run 1 37 [some (.ref 49), some (.int (zI l1)), some (.int (zI l2)), some (.int (zI l3)), some (.long (zL l4)), none, some (.int (zI z2))] [.int (zI l3), .int (zI (24 * l1)), .ref 72] (rd S) rfl ?_
      refine s_iadd rfl ?_
      refine g_run 2 41 [some (.ref 49), some (.int (zI l1)), some (.int (zI l2)), some (.int (zI l3)), some (.long (zL l4)), none, some (.int (zI z2))] [.long (zL l4), .int (zI l2), .int (zI ((24 * l1) + l3)), .ref 72] (rd S) rfl ?_
      refine s_sta (fun z => some (.long (zL z))) (fun _ => rd S) rfl rfl rfl rfl rfl rfl rfl (fun z hz => sM_asLane o n S l2 l4 hz) rfl h (fun z3 h => ?_)
      show eG _ 186 44 [some (.ref 49), some (.int (zI l1)), some (.int (zI l2)), some (.int (zI l3)), some (.long (zL l4)), none, some (.int (zI z2))] [.long (zL z3), .int (zI ((24 * l1) + l3)), .ref 72] (rd S) _
      refine s_last rfl (rd_a72 _) (rw_a72 _ _) h (fun h => ?_)
      show eG _ 186 45 [some (.ref 49), some (.int (zI l1)), some (.int (zI l2)), some (.int (zI l3)), some (.long (zL l4)), none, some (.int (zI z2))] [] (rd (wA S 72 ((24 * l1) + l3) z3)) _
      refine g_run 1 46 [some (.ref 49), some (.int (zI l1)), some (.int (zI l2)), some (.int (zI l3)), some (.long (zL l4)), none, some (.int (zI z2))] [.int (zI 1)] (rd (wA S 72 ((24 * l1) + l3) z3)) rfl ?_
      cases h
      exact s_ret rfl rfl rfl
    · show eG _ 186 25 [some (.ref 49), some (.int (zI l1)), some (.int (zI l2)), some (.int (zI l3)), some (.long (zL l4)), none, some (.int (zI z2))] [] (rd S) _
      refine g_run 1 27 [some (.ref 49), some (.int (zI l1)), some (.int (zI l2)), some (.int (zI l3)), some (.long (zL l4)), none, some (.int (zI z2))] [.int (zI z2)] (rd S) rfl ?_
      cases h
      exact s_ret rfl rfl rfl
  · show eG _ 186 8 [some (.ref 49), some (.int (zI l1)), some (.int (zI l2)), some (.int (zI l3)), some (.long (zL l4)), none, none] [] (rd S) _
    refine g_run 1 9 [some (.ref 49), some (.int (zI l1)), some (.int (zI l2)), some (.int (zI l3)), some (.long (zL l4)), none, none] [.int (zI (-1))] (rd S) rfl ?_
    cases h
    exact s_ret rfl rfl rfl
def fM_film_1 : Nat → ZS → Int → Int → Int → Int → Int → Option (ZS)
  | 0, _, _, _, _, _, _ => none
  | n + 1, S, l1, l2, l3, l4, l6 => gC l6 l4 (if l6 < l4 then gX l6 256 (gC (zA S 60 l6) 0 ((fM_asLane n S l2 (zA S 60 l6)).bind fun z1 => gX (((24 * l1) + l3) + l6) 96 (fM_film_1 n (wA S 72 (((24 * l1) + l3) + l6) z1) l1 l2 l3 l4 (l6 + 1)))) else some S)
set_option maxRecDepth 100000 in
set_option maxHeartbeats 4000000 in
theorem sM_film_1 (o : eO) : ∀ (n : Nat) (S : ZS) (l1 l2 l3 l4 l6 : Int) {w : ZS} {r : eP} (h : fM_film_1 n S l1 l2 l3 l4 l6 = some w) (hk : eG o 192 85 [none, none, none, none, some (.int (zI l4)), none, none] [] (rd w) r), eG o 192 46 [some (.ref 49), some (.int (zI l1)), some (.int (zI l2)), some (.int (zI l3)), some (.int (zI l4)), none, some (.int (zI l6))] [] (rd S) r := by
  intro n
  induction n with
  | zero => intro S l1 l2 l3 l4 l6 w r h hk; unfold fM_film_1 at h; cases h
  | succ n ih =>
    intro S l1 l2 l3 l4 l6 w r h hk
    unfold fM_film_1 at h
    refine g_run 2 50 [some (.ref 49), some (.int (zI l1)), some (.int (zI l2)), some (.int (zI l3)), some (.int (zI l4)), none, some (.int (zI l6))] [.int (zI l4), .int (zI l6)] (rd S) rfl ?_
    refine s_icmp_ge rfl h (fun h => ?_) (fun h => ?_)
    · show eG _ 192 85 [some (.ref 49), some (.int (zI l1)), some (.int (zI l2)), some (.int (zI l3)), some (.int (zI l4)), none, some (.int (zI l6))] [] (rd S) _
      refine g_fgt [true, true, true, true, false, true, true] ?_
      show eG _ 192 85 [none, none, none, none, some (.int (zI l4)), none, none] [] (rd S) _
      cases h
      exact hk
    · show eG _ 192 53 [some (.ref 49), some (.int (zI l1)), some (.int (zI l2)), some (.int (zI l3)), some (.int (zI l4)), none, some (.int (zI l6))] [] (rd S) _
      refine g_run 1 54 [some (.ref 49), some (.int (zI l1)), some (.int (zI l2)), some (.int (zI l3)), some (.int (zI l4)), none, some (.int (zI l6))] [.ref 49] (rd S) rfl ?_
      refine g_getf rfl rfl (rd_o49 _) rfl ?_
      show eG _ 192 57 [some (.ref 49), some (.int (zI l1)), some (.int (zI l2)), some (.int (zI l3)), some (.int (zI l4)), none, some (.int (zI l6))] [.ref 72] (rd S) _
      refine g_run 2 60 [some (.ref 49), some (.int (zI l1)), some (.int (zI l2)), some (.int (zI l3)), some (.int (zI l4)), none, some (.int (zI l6))] [.int (zI l1), .int (zI 24), .ref 72] (rd S) rfl ?_
      refine s_imul rfl ?_
      refine g_run 1 62 [some (.ref 49), some (.int (zI l1)), some (.int (zI l2)), some (.int (zI l3)), some (.int (zI l4)), none, some (.int (zI l6))] [.int (zI l3), .int (zI (24 * l1)), .ref 72] (rd S) rfl ?_
      refine s_iadd rfl ?_
      refine g_run 1 65 [some (.ref 49), some (.int (zI l1)), some (.int (zI l2)), some (.int (zI l3)), some (.int (zI l4)), none, some (.int (zI l6))] [.int (zI l6), .int (zI ((24 * l1) + l3)), .ref 72] (rd S) rfl ?_
      refine s_iadd rfl ?_
      refine g_run 2 68 [some (.ref 49), some (.int (zI l1)), some (.int (zI l2)), some (.int (zI l3)), some (.int (zI l4)), none, some (.int (zI l6))] [.ref 49, .int (zI l2), .int (zI (((24 * l1) + l3) + l6)), .ref 72] (rd S) rfl ?_
      refine g_getf rfl rfl (rd_o49 _) rfl ?_
      show eG _ 192 71 [some (.ref 49), some (.int (zI l1)), some (.int (zI l2)), some (.int (zI l3)), some (.int (zI l4)), none, some (.int (zI l6))] [.ref 60, .int (zI l2), .int (zI (((24 * l1) + l3) + l6)), .ref 72] (rd S) _
      refine g_run 1 73 [some (.ref 49), some (.int (zI l1)), some (.int (zI l2)), some (.int (zI l3)), some (.int (zI l4)), none, some (.int (zI l6))] [.int (zI l6), .ref 60, .int (zI l2), .int (zI (((24 * l1) + l3) + l6)), .ref 72] (rd S) rfl ?_
      refine s_iald rfl (rd_a60 _) h (fun h => ?_)
      show eG _ 192 74 [some (.ref 49), some (.int (zI l1)), some (.int (zI l2)), some (.int (zI l3)), some (.int (zI l4)), none, some (.int (zI l6))] [.int (zI (zA S 60 l6)), .int (zI l2), .int (zI (((24 * l1) + l3) + l6)), .ref 72] (rd S) _
      refine s_i2l rfl h (fun h => ?_)
      refine s_sta (fun z => some (.long (zL z))) (fun _ => rd S) rfl rfl rfl rfl rfl rfl rfl (fun z hz => sM_asLane o n S l2 (zA S 60 l6) hz) rfl h (fun z1 h => ?_)
      show eG _ 192 78 [some (.ref 49), some (.int (zI l1)), some (.int (zI l2)), some (.int (zI l3)), some (.int (zI l4)), none, some (.int (zI l6))] [.long (zL z1), .int (zI (((24 * l1) + l3) + l6)), .ref 72] (rd S) _
      refine s_last rfl (rd_a72 _) (rw_a72 _ _) h (fun h => ?_)
      show eG _ 192 79 [some (.ref 49), some (.int (zI l1)), some (.int (zI l2)), some (.int (zI l3)), some (.int (zI l4)), none, some (.int (zI l6))] [] (rd (wA S 72 (((24 * l1) + l3) + l6) z1)) _
      refine s_iinc (L' := [some (.ref 49), some (.int (zI l1)), some (.int (zI l2)), some (.int (zI l3)), some (.int (zI l4)), none, some (.int (zI (l6 + 1)))]) rfl rfl rfl ?_
      refine g_run 1 46 [some (.ref 49), some (.int (zI l1)), some (.int (zI l2)), some (.int (zI l3)), some (.int (zI l4)), none, some (.int (zI (l6 + 1)))] [] (rd (wA S 72 (((24 * l1) + l3) + l6) z1)) rfl ?_
      exact ih (wA S 72 (((24 * l1) + l3) + l6) z1) l1 l2 l3 l4 (l6 + 1) h hk
def fM_film (n : Nat) (S : ZS) (l1 l2 l3 : Int) : Option (Int × ZS) := (fM_isSheet n S l1 l2).bind fun z1 => gC z1 0 (if z1 = 0 then some (-1, S) else (fM_findRow n S).bind fun z2 => gC z2.1 0 (if z2.1 < 0 then some (-4, z2.2) else (fM_lacksRow n z2.2 l1 l2 l3 z2.1).bind fun z3 => gC z3 0 (if z3 < 0 then some (z3, z2.2) else (fM_film_1 n z2.2 l1 l2 l3 z2.1 0).bind fun z4 => some (z2.1, z4))))
set_option maxRecDepth 100000 in
set_option maxHeartbeats 4000000 in
theorem sM_film (o : eO) (n : Nat) (S : ZS) (l1 l2 l3 : Int) {w : Int × ZS} (h : fM_film n S l1 l2 l3 = some w) : eG o 192 0 (eEnt 192 [.ref 49, .int (zI l1), .int (zI l2), .int (zI l3)]) [] (rd S) (rv (some (.int (zI w.1))) (rd w.2)) := by
  unfold fM_film at h
  show eG o 192 0 [some (.ref 49), some (.int (zI l1)), some (.int (zI l2)), some (.int (zI l3)), none, none, none] [] (rd S) _
  refine g_run 2 2 [some (.ref 49), some (.int (zI l1)), some (.int (zI l2)), some (.int (zI l3)), none, none, none] [.int (zI l2), .int (zI l1)] (rd S) rfl ?_
  refine s_sta (fun z => some (.int (zI z))) (fun _ => rd S) rfl rfl rfl rfl rfl rfl rfl (fun z hz => sM_isSheet o n S l1 l2 hz) rfl h (fun z1 h => ?_)
  show eG _ 192 5 [some (.ref 49), some (.int (zI l1)), some (.int (zI l2)), some (.int (zI l3)), none, none, none] [.int (zI z1)] (rd S) _
  refine s_if_ne rfl h (fun h => ?_) (fun h => ?_)
  · show eG _ 192 10 [some (.ref 49), some (.int (zI l1)), some (.int (zI l2)), some (.int (zI l3)), none, none, none] [] (rd S) _
    refine g_run 1 11 [some (.ref 49), some (.int (zI l1)), some (.int (zI l2)), some (.int (zI l3)), none, none, none] [.ref 49] (rd S) rfl ?_
    refine s_vir (fun z => some (.int (zI z.1))) (fun z => rd z.2) rfl rfl rfl (rd_o49 _) rfl rfl (fun z hz => sM_findRow o n S hz) rfl h (fun z2 h => ?_)
    show eG _ 192 14 [some (.ref 49), some (.int (zI l1)), some (.int (zI l2)), some (.int (zI l3)), none, none, none] [.int (zI z2.1)] (rd z2.2) _
    refine g_run 2 18 [some (.ref 49), some (.int (zI l1)), some (.int (zI l2)), some (.int (zI l3)), some (.int (zI z2.1)), none, none] [.int (zI z2.1)] (rd z2.2) rfl ?_
    refine s_if_ge rfl h (fun h => ?_) (fun h => ?_)
    · show eG _ 192 24 [some (.ref 49), some (.int (zI l1)), some (.int (zI l2)), some (.int (zI l3)), some (.int (zI z2.1)), none, none] [] (rd z2.2) _
      refine g_run 5 30 [some (.ref 49), some (.int (zI l1)), some (.int (zI l2)), some (.int (zI l3)), some (.int (zI z2.1)), none, none] [.int (zI z2.1), .int (zI l3), .int (zI l2), .int (zI l1), .ref 49] (rd z2.2) rfl ?_
      refine s_vir (fun z => some (.int (zI z))) (fun _ => rd z2.2) rfl rfl rfl (rd_o49 _) rfl rfl (fun z hz => sM_lacksRow o n z2.2 l1 l2 l3 z2.1 hz) rfl h (fun z3 h => ?_)
      show eG _ 192 33 [some (.ref 49), some (.int (zI l1)), some (.int (zI l2)), some (.int (zI l3)), some (.int (zI z2.1)), none, none] [.int (zI z3)] (rd z2.2) _
      refine g_run 2 37 [some (.ref 49), some (.int (zI l1)), some (.int (zI l2)), some (.int (zI l3)), some (.int (zI z2.1)), some (.int (zI z3)), none] [.int (zI z3)] (rd z2.2) rfl ?_
      refine s_if_ge rfl h (fun h => ?_) (fun h => ?_)
      · show eG _ 192 43 [some (.ref 49), some (.int (zI l1)), some (.int (zI l2)), some (.int (zI l3)), some (.int (zI z2.1)), some (.int (zI z3)), none] [] (rd z2.2) _
        refine g_run 2 46 [some (.ref 49), some (.int (zI l1)), some (.int (zI l2)), some (.int (zI l3)), some (.int (zI z2.1)), some (.int (zI z3)), some (.int (zI 0))] [] (rd z2.2) rfl ?_
        refine g_fgt [false, false, false, false, false, true, false] ?_
        show eG _ 192 46 [some (.ref 49), some (.int (zI l1)), some (.int (zI l2)), some (.int (zI l3)), some (.int (zI z2.1)), none, some (.int (zI 0))] [] (rd z2.2) _
        obtain ⟨z4, h1, h⟩ := zB_inv h
        refine sM_film_1 o n z2.2 l1 l2 l3 z2.1 0 h1 ?_
        show eG _ 192 85 [none, none, none, none, some (.int (zI z2.1)), none, none] [] (rd z4) _
        refine g_run 1 87 [none, none, none, none, some (.int (zI z2.1)), none, none] [.int (zI z2.1)] (rd z4) rfl ?_
        cases h
        exact s_ret rfl rfl rfl
      · show eG _ 192 40 [some (.ref 49), some (.int (zI l1)), some (.int (zI l2)), some (.int (zI l3)), some (.int (zI z2.1)), some (.int (zI z3)), none] [] (rd z2.2) _
        refine g_run 1 42 [some (.ref 49), some (.int (zI l1)), some (.int (zI l2)), some (.int (zI l3)), some (.int (zI z2.1)), some (.int (zI z3)), none] [.int (zI z3)] (rd z2.2) rfl ?_
        cases h
        exact s_ret rfl rfl rfl
    · show eG _ 192 21 [some (.ref 49), some (.int (zI l1)), some (.int (zI l2)), some (.int (zI l3)), some (.int (zI z2.1)), none, none] [] (rd z2.2) _
      refine g_run 1 23 [some (.ref 49), some (.int (zI l1)), some (.int (zI l2)), some (.int (zI l3)), some (.int (zI z2.1)), none, none] [.int (zI (-4))] (rd z2.2) rfl ?_
      cases h
      exact s_ret rfl rfl rfl
  · show eG _ 192 8 [some (.ref 49), some (.int (zI l1)), some (.int (zI l2)), some (.int (zI l3)), none, none, none] [] (rd S) _
    refine g_run 1 9 [some (.ref 49), some (.int (zI l1)), some (.int (zI l2)), some (.int (zI l3)), none, none, none] [.int (zI (-1))] (rd S) rfl ?_
    cases h
    exact s_ret rfl rfl rfl
def fM_copy_1 : Nat → ZS → Int → Int → Int → Int → Int → Int → Option (ZS)
  | 0, _, _, _, _, _, _, _ => none
  | n + 1, S, l1, l2, l3, l4, l5, l6 => gC l6 l5 (if l6 < l5 then gX (((24 * l1) + l2) + l6) 96 (gX l6 24 (fM_copy_1 n (wA S 73 l6 (zA S 72 (((24 * l1) + l2) + l6))) l1 l2 l3 l4 l5 (l6 + 1))) else some S)
set_option maxRecDepth 100000 in
set_option maxHeartbeats 4000000 in
theorem sM_copy_1 (o : eO) : ∀ (n : Nat) (S : ZS) (l1 l2 l3 l4 l5 l6 : Int) {w : ZS} {r : eP} (h : fM_copy_1 n S l1 l2 l3 l4 l5 l6 = some w) (hk : eG o 193 151 [some (.ref 49), none, none, some (.int (zI l3)), some (.int (zI l4)), some (.int (zI l5)), none] [] (rd w) r), eG o 193 117 [some (.ref 49), some (.int (zI l1)), some (.int (zI l2)), some (.int (zI l3)), some (.int (zI l4)), some (.int (zI l5)), some (.int (zI l6))] [] (rd S) r := by
  intro n
  induction n with
  | zero => intro S l1 l2 l3 l4 l5 l6 w r h hk; unfold fM_copy_1 at h; cases h
  | succ n ih =>
    intro S l1 l2 l3 l4 l5 l6 w r h hk
    unfold fM_copy_1 at h
    refine g_run 2 121 [some (.ref 49), some (.int (zI l1)), some (.int (zI l2)), some (.int (zI l3)), some (.int (zI l4)), some (.int (zI l5)), some (.int (zI l6))] [.int (zI l5), .int (zI l6)] (rd S) rfl ?_
    refine s_icmp_ge rfl h (fun h => ?_) (fun h => ?_)
    · show eG _ 193 151 [some (.ref 49), some (.int (zI l1)), some (.int (zI l2)), some (.int (zI l3)), some (.int (zI l4)), some (.int (zI l5)), some (.int (zI l6))] [] (rd S) _
      refine g_fgt [false, true, true, false, false, false, true] ?_
      show eG _ 193 151 [some (.ref 49), none, none, some (.int (zI l3)), some (.int (zI l4)), some (.int (zI l5)), none] [] (rd S) _
      cases h
      exact hk
    · show eG _ 193 124 [some (.ref 49), some (.int (zI l1)), some (.int (zI l2)), some (.int (zI l3)), some (.int (zI l4)), some (.int (zI l5)), some (.int (zI l6))] [] (rd S) _
      refine g_run 1 125 [some (.ref 49), some (.int (zI l1)), some (.int (zI l2)), some (.int (zI l3)), some (.int (zI l4)), some (.int (zI l5)), some (.int (zI l6))] [.ref 49] (rd S) rfl ?_
      refine g_getf rfl rfl (rd_o49 _) rfl ?_
      show eG _ 193 128 [some (.ref 49), some (.int (zI l1)), some (.int (zI l2)), some (.int (zI l3)), some (.int (zI l4)), some (.int (zI l5)), some (.int (zI l6))] [.ref 73] (rd S) _
      refine g_run 2 131 [some (.ref 49), some (.int (zI l1)), some (.int (zI l2)), some (.int (zI l3)), some (.int (zI l4)), some (.int (zI l5)), some (.int (zI l6))] [.ref 49, .int (zI l6), .ref 73] (rd S) rfl ?_
      refine g_getf rfl rfl (rd_o49 _) rfl ?_
      show eG _ 193 134 [some (.ref 49), some (.int (zI l1)), some (.int (zI l2)), some (.int (zI l3)), some (.int (zI l4)), some (.int (zI l5)), some (.int (zI l6))] [.ref 72, .int (zI l6), .ref 73] (rd S) _
      refine g_run 2 137 [some (.ref 49), some (.int (zI l1)), some (.int (zI l2)), some (.int (zI l3)), some (.int (zI l4)), some (.int (zI l5)), some (.int (zI l6))] [.int (zI l1), .int (zI 24), .ref 72, .int (zI l6), .ref 73] (rd S) rfl ?_
      refine s_imul rfl ?_
      refine g_run 1 139 [some (.ref 49), some (.int (zI l1)), some (.int (zI l2)), some (.int (zI l3)), some (.int (zI l4)), some (.int (zI l5)), some (.int (zI l6))] [.int (zI l2), .int (zI (24 * l1)), .ref 72, .int (zI l6), .ref 73] (rd S) rfl ?_
      refine s_iadd rfl ?_
      refine g_run 1 142 [some (.ref 49), some (.int (zI l1)), some (.int (zI l2)), some (.int (zI l3)), some (.int (zI l4)), some (.int (zI l5)), some (.int (zI l6))] [.int (zI l6), .int (zI ((24 * l1) + l2)), .ref 72, .int (zI l6), .ref 73] (rd S) rfl ?_
      refine s_iadd rfl ?_
      refine s_lald rfl (rd_a72 _) h (fun h => ?_)
      show eG _ 193 144 [some (.ref 49), some (.int (zI l1)), some (.int (zI l2)), some (.int (zI l3)), some (.int (zI l4)), some (.int (zI l5)), some (.int (zI l6))] [.long (zL (zA S 72 (((24 * l1) + l2) + l6))), .int (zI l6), .ref 73] (rd S) _
      refine s_last rfl (rd_a73 _) (rw_a73 _ _) h (fun h => ?_)
      show eG _ 193 145 [some (.ref 49), some (.int (zI l1)), some (.int (zI l2)), some (.int (zI l3)), some (.int (zI l4)), some (.int (zI l5)), some (.int (zI l6))] [] (rd (wA S 73 l6 (zA S 72 (((24 * l1) + l2) + l6)))) _
      refine s_iinc (L' := [some (.ref 49), some (.int (zI l1)), some (.int (zI l2)), some (.int (zI l3)), some (.int (zI l4)), some (.int (zI l5)), some (.int (zI (l6 + 1)))]) rfl rfl rfl ?_
      refine g_run 1 117 [some (.ref 49), some (.int (zI l1)), some (.int (zI l2)), some (.int (zI l3)), some (.int (zI l4)), some (.int (zI l5)), some (.int (zI (l6 + 1)))] [] (rd (wA S 73 l6 (zA S 72 (((24 * l1) + l2) + l6)))) rfl ?_
      exact ih (wA S 73 l6 (zA S 72 (((24 * l1) + l2) + l6))) l1 l2 l3 l4 l5 (l6 + 1) h hk
def fM_copy_2 : Nat → ZS → Int → Int → Int → Int → Option (ZS)
  | 0, _, _, _, _, _ => none
  | n + 1, S, l3, l4, l5, l6 => gC l6 l5 (if l6 < l5 then gX l6 24 (gX (((24 * l3) + l4) + l6) 96 (fM_copy_2 n (wA S 72 (((24 * l3) + l4) + l6) (zA S 73 l6)) l3 l4 l5 (l6 + 1))) else some S)
set_option maxRecDepth 100000 in
set_option maxHeartbeats 4000000 in
theorem sM_copy_2 (o : eO) : ∀ (n : Nat) (S : ZS) (l3 l4 l5 l6 : Int) {w : ZS} {r : eP} (h : fM_copy_2 n S l3 l4 l5 l6 = some w) (hk : eG o 193 189 [none, none, none, none, none, some (.int (zI l5)), none] [] (rd w) r), eG o 193 154 [some (.ref 49), none, none, some (.int (zI l3)), some (.int (zI l4)), some (.int (zI l5)), some (.int (zI l6))] [] (rd S) r := by
  intro n
  induction n with
  | zero => intro S l3 l4 l5 l6 w r h hk; unfold fM_copy_2 at h; cases h
  | succ n ih =>
    intro S l3 l4 l5 l6 w r h hk
    unfold fM_copy_2 at h
    refine g_run 2 158 [some (.ref 49), none, none, some (.int (zI l3)), some (.int (zI l4)), some (.int (zI l5)), some (.int (zI l6))] [.int (zI l5), .int (zI l6)] (rd S) rfl ?_
    refine s_icmp_ge rfl h (fun h => ?_) (fun h => ?_)
    · show eG _ 193 189 [some (.ref 49), none, none, some (.int (zI l3)), some (.int (zI l4)), some (.int (zI l5)), some (.int (zI l6))] [] (rd S) _
      refine g_fgt [true, true, true, true, true, false, true] ?_
      show eG _ 193 189 [none, none, none, none, none, some (.int (zI l5)), none] [] (rd S) _
      cases h
      exact hk
    · show eG _ 193 161 [some (.ref 49), none, none, some (.int (zI l3)), some (.int (zI l4)), some (.int (zI l5)), some (.int (zI l6))] [] (rd S) _
      refine g_run 1 162 [some (.ref 49), none, none, some (.int (zI l3)), some (.int (zI l4)), some (.int (zI l5)), some (.int (zI l6))] [.ref 49] (rd S) rfl ?_
      refine g_getf rfl rfl (rd_o49 _) rfl ?_
      show eG _ 193 165 [some (.ref 49), none, none, some (.int (zI l3)), some (.int (zI l4)), some (.int (zI l5)), some (.int (zI l6))] [.ref 72] (rd S) _
      refine g_run 2 168 [some (.ref 49), none, none, some (.int (zI l3)), some (.int (zI l4)), some (.int (zI l5)), some (.int (zI l6))] [.int (zI l3), .int (zI 24), .ref 72] (rd S) rfl ?_
      refine s_imul rfl ?_
      refine g_run 1 171 [some (.ref 49), none, none, some (.int (zI l3)), some (.int (zI l4)), some (.int (zI l5)), some (.int (zI l6))] [.int (zI l4), .int (zI (24 * l3)), .ref 72] (rd S) rfl ?_
      refine s_iadd rfl ?_
      refine g_run 1 174 [some (.ref 49), none, none, some (.int (zI l3)), some (.int (zI l4)), some (.int (zI l5)), some (.int (zI l6))] [.int (zI l6), .int (zI ((24 * l3) + l4)), .ref 72] (rd S) rfl ?_
      refine s_iadd rfl ?_
      refine g_run 1 176 [some (.ref 49), none, none, some (.int (zI l3)), some (.int (zI l4)), some (.int (zI l5)), some (.int (zI l6))] [.ref 49, .int (zI (((24 * l3) + l4) + l6)), .ref 72] (rd S) rfl ?_
      refine g_getf rfl rfl (rd_o49 _) rfl ?_
      show eG _ 193 179 [some (.ref 49), none, none, some (.int (zI l3)), some (.int (zI l4)), some (.int (zI l5)), some (.int (zI l6))] [.ref 73, .int (zI (((24 * l3) + l4) + l6)), .ref 72] (rd S) _
      refine g_run 1 181 [some (.ref 49), none, none, some (.int (zI l3)), some (.int (zI l4)), some (.int (zI l5)), some (.int (zI l6))] [.int (zI l6), .ref 73, .int (zI (((24 * l3) + l4) + l6)), .ref 72] (rd S) rfl ?_
      refine s_lald rfl (rd_a73 _) h (fun h => ?_)
      show eG _ 193 182 [some (.ref 49), none, none, some (.int (zI l3)), some (.int (zI l4)), some (.int (zI l5)), some (.int (zI l6))] [.long (zL (zA S 73 l6)), .int (zI (((24 * l3) + l4) + l6)), .ref 72] (rd S) _
      refine s_last rfl (rd_a72 _) (rw_a72 _ _) h (fun h => ?_)
      show eG _ 193 183 [some (.ref 49), none, none, some (.int (zI l3)), some (.int (zI l4)), some (.int (zI l5)), some (.int (zI l6))] [] (rd (wA S 72 (((24 * l3) + l4) + l6) (zA S 73 l6))) _
      refine s_iinc (L' := [some (.ref 49), none, none, some (.int (zI l3)), some (.int (zI l4)), some (.int (zI l5)), some (.int (zI (l6 + 1)))]) rfl rfl rfl ?_
      refine g_run 1 154 [some (.ref 49), none, none, some (.int (zI l3)), some (.int (zI l4)), some (.int (zI l5)), some (.int (zI (l6 + 1)))] [] (rd (wA S 72 (((24 * l3) + l4) + l6) (zA S 73 l6))) rfl ?_
      exact ih (wA S 72 (((24 * l3) + l4) + l6) (zA S 73 l6)) l3 l4 l5 (l6 + 1) h hk
def fM_copy (n : Nat) (S : ZS) (l1 l2 l3 l4 l5 : Int) : Option (Int × ZS) := gC l1 0 ((fM_in n S l1 0 3).bind fun z1 => gC z1 0 (if z1 = 0 then some (-1, S) else gC l3 0 ((fM_in n S l3 0 3).bind fun z2 => gC z2 0 (if z2 = 0 then some (-1, S) else gX l1 4 (gC (zA S 70 l1) 0 (if (zA S 70 l1) < 0 then some (-11, S) else gX l3 4 (gC (zA S 70 l3) 0 (if (zA S 70 l3) < 0 then some (-11, S) else gX l1 4 (gX l3 4 (gC (zA S 70 l1) (zA S 70 l3) (if (zA S 70 l1) = (zA S 70 l3) then gC l5 0 (if l5 < 0 then some (-13, S) else gC l2 0 (gX l1 4 (gC (zA S 71 l1) 0 (gC l5 0 ((fM_in n S l2 0 ((zA S 71 l1) - l5)).bind fun z3 => gC z3 0 (if z3 = 0 then some (-13, S) else gC l4 0 (gX l3 4 (gC (zA S 71 l3) 0 (gC l5 0 ((fM_in n S l4 0 ((zA S 71 l3) - l5)).bind fun z4 => gC z4 0 (if z4 = 0 then some (-13, S) else (fM_copy_1 n S l1 l2 l3 l4 l5 0).bind fun z5 => (fM_copy_2 n z5 l3 l4 l5 0).bind fun z6 => some (l5, z6)))))))))))) else some (-12, S))))))))))))
set_option maxRecDepth 100000 in
set_option maxHeartbeats 4000000 in
theorem sM_copy (o : eO) (n : Nat) (S : ZS) (l1 l2 l3 l4 l5 : Int) {w : Int × ZS} (h : fM_copy n S l1 l2 l3 l4 l5 = some w) : eG o 193 0 (eEnt 193 [.ref 49, .int (zI l1), .int (zI l2), .int (zI l3), .int (zI l4), .int (zI l5)]) [] (rd S) (rv (some (.int (zI w.1))) (rd w.2)) := by
  unfold fM_copy at h
  show eG o 193 0 [some (.ref 49), some (.int (zI l1)), some (.int (zI l2)), some (.int (zI l3)), some (.int (zI l4)), some (.int (zI l5)), none] [] (rd S) _
  refine g_run 1 1 [some (.ref 49), some (.int (zI l1)), some (.int (zI l2)), some (.int (zI l3)), some (.int (zI l4)), some (.int (zI l5)), none] [.int (zI l1)] (rd S) rfl ?_
  refine s_i2l rfl h (fun h => ?_)
  refine g_run 2 6 [some (.ref 49), some (.int (zI l1)), some (.int (zI l2)), some (.int (zI l3)), some (.int (zI l4)), some (.int (zI l5)), none] [.long (zL 3), .long (zL 0), .long (zL l1)] (rd S) rfl ?_
  refine s_sta (fun z => some (.int (zI z))) (fun _ => rd S) rfl rfl rfl rfl rfl rfl rfl (fun z hz => sM_in o n S l1 0 3 hz) rfl h (fun z1 h => ?_)
  show eG _ 193 9 [some (.ref 49), some (.int (zI l1)), some (.int (zI l2)), some (.int (zI l3)), some (.int (zI l4)), some (.int (zI l5)), none] [.int (zI z1)] (rd S) _
  refine s_if_eq rfl h (fun h => ?_) (fun h => ?_)
  · show eG _ 193 24 [some (.ref 49), some (.int (zI l1)), some (.int (zI l2)), some (.int (zI l3)), some (.int (zI l4)), some (.int (zI l5)), none] [] (rd S) _
    refine g_run 1 25 [some (.ref 49), some (.int (zI l1)), some (.int (zI l2)), some (.int (zI l3)), some (.int (zI l4)), some (.int (zI l5)), none] [.int (zI (-1))] (rd S) rfl ?_
    cases h
    exact s_ret rfl rfl rfl
  · show eG _ 193 12 [some (.ref 49), some (.int (zI l1)), some (.int (zI l2)), some (.int (zI l3)), some (.int (zI l4)), some (.int (zI l5)), none] [] (rd S) _
    refine g_run 1 13 [some (.ref 49), some (.int (zI l1)), some (.int (zI l2)), some (.int (zI l3)), some (.int (zI l4)), some (.int (zI l5)), none] [.int (zI l3)] (rd S) rfl ?_
    refine s_i2l rfl h (fun h => ?_)
    refine g_run 2 18 [some (.ref 49), some (.int (zI l1)), some (.int (zI l2)), some (.int (zI l3)), some (.int (zI l4)), some (.int (zI l5)), none] [.long (zL 3), .long (zL 0), .long (zL l3)] (rd S) rfl ?_
    refine s_sta (fun z => some (.int (zI z))) (fun _ => rd S) rfl rfl rfl rfl rfl rfl rfl (fun z hz => sM_in o n S l3 0 3 hz) rfl h (fun z2 h => ?_)
    show eG _ 193 21 [some (.ref 49), some (.int (zI l1)), some (.int (zI l2)), some (.int (zI l3)), some (.int (zI l4)), some (.int (zI l5)), none] [.int (zI z2)] (rd S) _
    refine s_if_ne rfl h (fun h => ?_) (fun h => ?_)
    · show eG _ 193 26 [some (.ref 49), some (.int (zI l1)), some (.int (zI l2)), some (.int (zI l3)), some (.int (zI l4)), some (.int (zI l5)), none] [] (rd S) _
      refine g_run 1 27 [some (.ref 49), some (.int (zI l1)), some (.int (zI l2)), some (.int (zI l3)), some (.int (zI l4)), some (.int (zI l5)), none] [.ref 49] (rd S) rfl ?_
      refine g_getf rfl rfl (rd_o49 _) rfl ?_
      show eG _ 193 30 [some (.ref 49), some (.int (zI l1)), some (.int (zI l2)), some (.int (zI l3)), some (.int (zI l4)), some (.int (zI l5)), none] [.ref 70] (rd S) _
      refine g_run 1 31 [some (.ref 49), some (.int (zI l1)), some (.int (zI l2)), some (.int (zI l3)), some (.int (zI l4)), some (.int (zI l5)), none] [.int (zI l1), .ref 70] (rd S) rfl ?_
      refine s_iald rfl (rd_a70 _) h (fun h => ?_)
      show eG _ 193 32 [some (.ref 49), some (.int (zI l1)), some (.int (zI l2)), some (.int (zI l3)), some (.int (zI l4)), some (.int (zI l5)), none] [.int (zI (zA S 70 l1))] (rd S) _
      refine s_if_lt rfl h (fun h => ?_) (fun h => ?_)
      · show eG _ 193 44 [some (.ref 49), some (.int (zI l1)), some (.int (zI l2)), some (.int (zI l3)), some (.int (zI l4)), some (.int (zI l5)), none] [] (rd S) _
        refine g_run 1 46 [some (.ref 49), some (.int (zI l1)), some (.int (zI l2)), some (.int (zI l3)), some (.int (zI l4)), some (.int (zI l5)), none] [.int (zI (-11))] (rd S) rfl ?_
        cases h
        exact s_ret rfl rfl rfl
      · show eG _ 193 35 [some (.ref 49), some (.int (zI l1)), some (.int (zI l2)), some (.int (zI l3)), some (.int (zI l4)), some (.int (zI l5)), none] [] (rd S) _
        refine g_run 1 36 [some (.ref 49), some (.int (zI l1)), some (.int (zI l2)), some (.int (zI l3)), some (.int (zI l4)), some (.int (zI l5)), none] [.ref 49] (rd S) rfl ?_
        refine g_getf rfl rfl (rd_o49 _) rfl ?_
        show eG _ 193 39 [some (.ref 49), some (.int (zI l1)), some (.int (zI l2)), some (.int (zI l3)), some (.int (zI l4)), some (.int (zI l5)), none] [.ref 70] (rd S) _
        refine g_run 1 40 [some (.ref 49), some (.int (zI l1)), some (.int (zI l2)), some (.int (zI l3)), some (.int (zI l4)), some (.int (zI l5)), none] [.int (zI l3), .ref 70] (rd S) rfl ?_
        refine s_iald rfl (rd_a70 _) h (fun h => ?_)
        show eG _ 193 41 [some (.ref 49), some (.int (zI l1)), some (.int (zI l2)), some (.int (zI l3)), some (.int (zI l4)), some (.int (zI l5)), none] [.int (zI (zA S 70 l3))] (rd S) _
        refine s_if_ge rfl h (fun h => ?_) (fun h => ?_)
        · show eG _ 193 47 [some (.ref 49), some (.int (zI l1)), some (.int (zI l2)), some (.int (zI l3)), some (.int (zI l4)), some (.int (zI l5)), none] [] (rd S) _
          refine g_run 1 48 [some (.ref 49), some (.int (zI l1)), some (.int (zI l2)), some (.int (zI l3)), some (.int (zI l4)), some (.int (zI l5)), none] [.ref 49] (rd S) rfl ?_
          refine g_getf rfl rfl (rd_o49 _) rfl ?_
          show eG _ 193 51 [some (.ref 49), some (.int (zI l1)), some (.int (zI l2)), some (.int (zI l3)), some (.int (zI l4)), some (.int (zI l5)), none] [.ref 70] (rd S) _
          refine g_run 1 52 [some (.ref 49), some (.int (zI l1)), some (.int (zI l2)), some (.int (zI l3)), some (.int (zI l4)), some (.int (zI l5)), none] [.int (zI l1), .ref 70] (rd S) rfl ?_
          refine s_iald rfl (rd_a70 _) h (fun h => ?_)
          show eG _ 193 53 [some (.ref 49), some (.int (zI l1)), some (.int (zI l2)), some (.int (zI l3)), some (.int (zI l4)), some (.int (zI l5)), none] [.int (zI (zA S 70 l1))] (rd S) _
          refine g_run 1 54 [some (.ref 49), some (.int (zI l1)), some (.int (zI l2)), some (.int (zI l3)), some (.int (zI l4)), some (.int (zI l5)), none] [.ref 49, .int (zI (zA S 70 l1))] (rd S) rfl ?_
          refine g_getf rfl rfl (rd_o49 _) rfl ?_
          show eG _ 193 57 [some (.ref 49), some (.int (zI l1)), some (.int (zI l2)), some (.int (zI l3)), some (.int (zI l4)), some (.int (zI l5)), none] [.ref 70, .int (zI (zA S 70 l1))] (rd S) _
          refine g_run 1 58 [some (.ref 49), some (.int (zI l1)), some (.int (zI l2)), some (.int (zI l3)), some (.int (zI l4)), some (.int (zI l5)), none] [.int (zI l3), .ref 70, .int (zI (zA S 70 l1))] (rd S) rfl ?_
          refine s_iald rfl (rd_a70 _) h (fun h => ?_)
          show eG _ 193 59 [some (.ref 49), some (.int (zI l1)), some (.int (zI l2)), some (.int (zI l3)), some (.int (zI l4)), some (.int (zI l5)), none] [.int (zI (zA S 70 l3)), .int (zI (zA S 70 l1))] (rd S) _
          refine s_icmp_eq rfl h (fun h => ?_) (fun h => ?_)
          · show eG _ 193 65 [some (.ref 49), some (.int (zI l1)), some (.int (zI l2)), some (.int (zI l3)), some (.int (zI l4)), some (.int (zI l5)), none] [] (rd S) _
            refine g_run 1 67 [some (.ref 49), some (.int (zI l1)), some (.int (zI l2)), some (.int (zI l3)), some (.int (zI l4)), some (.int (zI l5)), none] [.int (zI l5)] (rd S) rfl ?_
            refine s_if_lt rfl h (fun h => ?_) (fun h => ?_)
            · show eG _ 193 111 [some (.ref 49), some (.int (zI l1)), some (.int (zI l2)), some (.int (zI l3)), some (.int (zI l4)), some (.int (zI l5)), none] [] (rd S) _
              refine g_run 1 113 [some (.ref 49), some (.int (zI l1)), some (.int (zI l2)), some (.int (zI l3)), some (.int (zI l4)), some (.int (zI l5)), none] [.int (zI (-13))] (rd S) rfl ?_
              cases h
              exact s_ret rfl rfl rfl
            · show eG _ 193 70 [some (.ref 49), some (.int (zI l1)), some (.int (zI l2)), some (.int (zI l3)), some (.int (zI l4)), some (.int (zI l5)), none] [] (rd S) _
              refine g_run 1 71 [some (.ref 49), some (.int (zI l1)), some (.int (zI l2)), some (.int (zI l3)), some (.int (zI l4)), some (.int (zI l5)), none] [.int (zI l2)] (rd S) rfl ?_
              refine s_i2l rfl h (fun h => ?_)
              refine g_run 2 74 [some (.ref 49), some (.int (zI l1)), some (.int (zI l2)), some (.int (zI l3)), some (.int (zI l4)), some (.int (zI l5)), none] [.ref 49, .long (zL 0), .long (zL l2)] (rd S) rfl ?_
              refine g_getf rfl rfl (rd_o49 _) rfl ?_
              show eG _ 193 77 [some (.ref 49), some (.int (zI l1)), some (.int (zI l2)), some (.int (zI l3)), some (.int (zI l4)), some (.int (zI l5)), none] [.ref 71, .long (zL 0), .long (zL l2)] (rd S) _
              refine g_run 1 78 [some (.ref 49), some (.int (zI l1)), some (.int (zI l2)), some (.int (zI l3)), some (.int (zI l4)), some (.int (zI l5)), none] [.int (zI l1), .ref 71, .long (zL 0), .long (zL l2)] (rd S) rfl ?_
              refine s_iald rfl (rd_a71 _) h (fun h => ?_)
              show eG _ 193 79 [some (.ref 49), some (.int (zI l1)), some (.int (zI l2)), some (.int (zI l3)), some (.int (zI l4)), some (.int (zI l5)), none] [.int (zI (zA S 71 l1)), .long (zL 0), .long (zL l2)] (rd S) _
              refine s_i2l rfl h (fun h => ?_)
              refine g_run 1 82 [some (.ref 49), some (.int (zI l1)), some (.int (zI l2)), some (.int (zI l3)), some (.int (zI l4)), some (.int (zI l5)), none] [.int (zI l5), .long (zL (zA S 71 l1)), .long (zL 0), .long (zL l2)] (rd S) rfl ?_
              refine s_i2l rfl h (fun h => ?_)
              refine s_lsub rfl ?_
              refine s_sta (fun z => some (.int (zI z))) (fun _ => rd S) rfl rfl rfl rfl rfl rfl rfl (fun z hz => sM_in o n S l2 0 ((zA S 71 l1) - l5) hz) rfl h (fun z3 h => ?_)
              show eG _ 193 87 [some (.ref 49), some (.int (zI l1)), some (.int (zI l2)), some (.int (zI l3)), some (.int (zI l4)), some (.int (zI l5)), none] [.int (zI z3)] (rd S) _
              refine s_if_eq rfl h (fun h => ?_) (fun h => ?_)
              · show eG _ 193 111 [some (.ref 49), some (.int (zI l1)), some (.int (zI l2)), some (.int (zI l3)), some (.int (zI l4)), some (.int (zI l5)), none] [] (rd S) _
                refine g_run 1 113 [some (.ref 49), some (.int (zI l1)), some (.int (zI l2)), some (.int (zI l3)), some (.int (zI l4)), some (.int (zI l5)), none] [.int (zI (-13))] (rd S) rfl ?_
                cases h
                exact s_ret rfl rfl rfl
              · show eG _ 193 90 [some (.ref 49), some (.int (zI l1)), some (.int (zI l2)), some (.int (zI l3)), some (.int (zI l4)), some (.int (zI l5)), none] [] (rd S) _
                refine g_run 1 92 [some (.ref 49), some (.int (zI l1)), some (.int (zI l2)), some (.int (zI l3)), some (.int (zI l4)), some (.int (zI l5)), none] [.int (zI l4)] (rd S) rfl ?_
                refine s_i2l rfl h (fun h => ?_)
                refine g_run 2 95 [some (.ref 49), some (.int (zI l1)), some (.int (zI l2)), some (.int (zI l3)), some (.int (zI l4)), some (.int (zI l5)), none] [.ref 49, .long (zL 0), .long (zL l4)] (rd S) rfl ?_
                refine g_getf rfl rfl (rd_o49 _) rfl ?_
                show eG _ 193 98 [some (.ref 49), some (.int (zI l1)), some (.int (zI l2)), some (.int (zI l3)), some (.int (zI l4)), some (.int (zI l5)), none] [.ref 71, .long (zL 0), .long (zL l4)] (rd S) _
                refine g_run 1 99 [some (.ref 49), some (.int (zI l1)), some (.int (zI l2)), some (.int (zI l3)), some (.int (zI l4)), some (.int (zI l5)), none] [.int (zI l3), .ref 71, .long (zL 0), .long (zL l4)] (rd S) rfl ?_
                refine s_iald rfl (rd_a71 _) h (fun h => ?_)
                show eG _ 193 100 [some (.ref 49), some (.int (zI l1)), some (.int (zI l2)), some (.int (zI l3)), some (.int (zI l4)), some (.int (zI l5)), none] [.int (zI (zA S 71 l3)), .long (zL 0), .long (zL l4)] (rd S) _
                refine s_i2l rfl h (fun h => ?_)
                refine g_run 1 103 [some (.ref 49), some (.int (zI l1)), some (.int (zI l2)), some (.int (zI l3)), some (.int (zI l4)), some (.int (zI l5)), none] [.int (zI l5), .long (zL (zA S 71 l3)), .long (zL 0), .long (zL l4)] (rd S) rfl ?_
                refine s_i2l rfl h (fun h => ?_)
                refine s_lsub rfl ?_
                refine s_sta (fun z => some (.int (zI z))) (fun _ => rd S) rfl rfl rfl rfl rfl rfl rfl (fun z hz => sM_in o n S l4 0 ((zA S 71 l3) - l5) hz) rfl h (fun z4 h => ?_)
                show eG _ 193 108 [some (.ref 49), some (.int (zI l1)), some (.int (zI l2)), some (.int (zI l3)), some (.int (zI l4)), some (.int (zI l5)), none] [.int (zI z4)] (rd S) _
                refine s_if_ne rfl h (fun h => ?_) (fun h => ?_)
                · show eG _ 193 114 [some (.ref 49), some (.int (zI l1)), some (.int (zI l2)), some (.int (zI l3)), some (.int (zI l4)), some (.int (zI l5)), none] [] (rd S) _
                  refine g_run 2 117 [some (.ref 49), some (.int (zI l1)), some (.int (zI l2)), some (.int (zI l3)), some (.int (zI l4)), some (.int (zI l5)), some (.int (zI 0))] [] (rd S) rfl ?_
                  obtain ⟨z5, h1, h⟩ := zB_inv h
                  refine sM_copy_1 o n S l1 l2 l3 l4 l5 0 h1 ?_
                  show eG _ 193 151 [some (.ref 49), none, none, some (.int (zI l3)), some (.int (zI l4)), some (.int (zI l5)), none] [] (rd z5) _
                  refine g_run 2 154 [some (.ref 49), none, none, some (.int (zI l3)), some (.int (zI l4)), some (.int (zI l5)), some (.int (zI 0))] [] (rd z5) rfl ?_
                  obtain ⟨z6, h1, h⟩ := zB_inv h
                  refine sM_copy_2 o n z5 l3 l4 l5 0 h1 ?_
                  show eG _ 193 189 [none, none, none, none, none, some (.int (zI l5)), none] [] (rd z6) _
                  refine g_run 1 191 [none, none, none, none, none, some (.int (zI l5)), none] [.int (zI l5)] (rd z6) rfl ?_
                  cases h
                  exact s_ret rfl rfl rfl
                · show eG _ 193 111 [some (.ref 49), some (.int (zI l1)), some (.int (zI l2)), some (.int (zI l3)), some (.int (zI l4)), some (.int (zI l5)), none] [] (rd S) _
                  refine g_run 1 113 [some (.ref 49), some (.int (zI l1)), some (.int (zI l2)), some (.int (zI l3)), some (.int (zI l4)), some (.int (zI l5)), none] [.int (zI (-13))] (rd S) rfl ?_
                  cases h
                  exact s_ret rfl rfl rfl
          · show eG _ 193 62 [some (.ref 49), some (.int (zI l1)), some (.int (zI l2)), some (.int (zI l3)), some (.int (zI l4)), some (.int (zI l5)), none] [] (rd S) _
            refine g_run 1 64 [some (.ref 49), some (.int (zI l1)), some (.int (zI l2)), some (.int (zI l3)), some (.int (zI l4)), some (.int (zI l5)), none] [.int (zI (-12))] (rd S) rfl ?_
            cases h
            exact s_ret rfl rfl rfl
        · show eG _ 193 44 [some (.ref 49), some (.int (zI l1)), some (.int (zI l2)), some (.int (zI l3)), some (.int (zI l4)), some (.int (zI l5)), none] [] (rd S) _
          refine g_run 1 46 [some (.ref 49), some (.int (zI l1)), some (.int (zI l2)), some (.int (zI l3)), some (.int (zI l4)), some (.int (zI l5)), none] [.int (zI (-11))] (rd S) rfl ?_
          cases h
          exact s_ret rfl rfl rfl
    · show eG _ 193 24 [some (.ref 49), some (.int (zI l1)), some (.int (zI l2)), some (.int (zI l3)), some (.int (zI l4)), some (.int (zI l5)), none] [] (rd S) _
      refine g_run 1 25 [some (.ref 49), some (.int (zI l1)), some (.int (zI l2)), some (.int (zI l3)), some (.int (zI l4)), some (.int (zI l5)), none] [.int (zI (-1))] (rd S) rfl ?_
      cases h
      exact s_ret rfl rfl rfl
