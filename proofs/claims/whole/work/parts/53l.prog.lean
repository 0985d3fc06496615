def fM_findNeeds_1 : Nat → ZS → Int → Int → Int → Option (ZS)
  | 0, _, _, _, _ => none
  | n + 1, S, l1, l2, l3 => gC l3 (zshl 1 (zF S 49 1)) (if l3 < (zshl 1 (zF S 49 1)) then (gC l3 (zF S 49 3) (if l3 = (zF S 49 3) then some 0 else some 1000000)).bind fun z1 => gX l3 65536 (gX l3 65536 (gX l3 256 (fM_findNeeds_1 n (wA (wA S 58 l3 z1) 59 l3 (zA (wA S 58 l3 z1) 58 l3)) l1 l2 (l3 + 1)))) else some S)
set_option maxRecDepth 100000 in
set_option maxHeartbeats 4000000 in
theorem sM_findNeeds_1 (o : eO) : ∀ (n : Nat) (S : ZS) (l1 l2 l3 : Int) {w : ZS} {r : eP} (h : fM_findNeeds_1 n S l1 l2 l3 = some w) (hk : eG o 164 54 [some (.ref 49), some (.int (zI l1)), some (.int (zI l2)), none, none, none, none, none, none] [] (rd w) r), eG o 164 6 [some (.ref 49), some (.int (zI l1)), some (.int (zI l2)), some (.int (zI l3)), none, none, none, none, none] [] (rd S) r := by
  intro n
  induction n with
  | zero => intro S l1 l2 l3 w r h hk; unfold fM_findNeeds_1 at h; cases h
  | succ n ih =>
    intro S l1 l2 l3 w r h hk
    unfold fM_findNeeds_1 at h
    refine g_run 3 9 [some (.ref 49), some (.int (zI l1)), some (.int (zI l2)), some (.int (zI l3)), none, none, none, none, none] [.ref 49, .int (zI 1), .int (zI l3)] (rd S) rfl ?_
    refine g_getf rfl rfl (rd_o49 _) rfl ?_
    show eG _ 164 12 [some (.ref 49), some (.int (zI l1)), some (.int (zI l2)), some (.int (zI l3)), none, none, none, none, none] [.int (zI (zF S 49 1)), .int (zI 1), .int (zI l3)] (rd S) _
    refine s_ishl rfl ?_
    refine s_icmp_ge rfl h (fun h => ?_) (fun h => ?_)
    · show eG _ 164 54 [some (.ref 49), some (.int (zI l1)), some (.int (zI l2)), some (.int (zI l3)), none, none, none, none, none] [] (rd S) _
      refine g_fgt [false, false, false, true, true, true, true, true, true] ?_
      show eG _ 164 54 [some (.ref 49), some (.int (zI l1)), some (.int (zI l2)), none, none, none, none, none, none] [] (rd S) _
      cases h
      exact hk
    · show eG _ 164 16 [some (.ref 49), some (.int (zI l1)), some (.int (zI l2)), some (.int (zI l3)), none, none, none, none, none] [] (rd S) _
      refine g_run 1 17 [some (.ref 49), some (.int (zI l1)), some (.int (zI l2)), some (.int (zI l3)), none, none, none, none, none] [.ref 49] (rd S) rfl ?_
      refine g_getf rfl rfl (rd_o49 _) rfl ?_
      show eG _ 164 20 [some (.ref 49), some (.int (zI l1)), some (.int (zI l2)), some (.int (zI l3)), none, none, none, none, none] [.ref 58] (rd S) _
      refine g_run 3 23 [some (.ref 49), some (.int (zI l1)), some (.int (zI l2)), some (.int (zI l3)), none, none, none, none, none] [.ref 49, .int (zI l3), .int (zI l3), .ref 58] (rd S) rfl ?_
      refine g_getf rfl rfl (rd_o49 _) rfl ?_
      show eG _ 164 26 [some (.ref 49), some (.int (zI l1)), some (.int (zI l2)), some (.int (zI l3)), none, none, none, none, none] [.int (zI (zF S 49 3)), .int (zI l3), .int (zI l3), .ref 58] (rd S) _
      refine s_join (α := Int) (fun z => eG o 164 35 [some (.ref 49), some (.int (zI l1)), some (.int (zI l2)), some (.int (zI l3)), none, none, none, none, none] [.int (zI z), .int (zI l3), .ref 58] (rd S) r) h (fun z1 h => ?_) (fun z1 h j => ?_)
      · show eG _ 164 35 [some (.ref 49), some (.int (zI l1)), some (.int (zI l2)), some (.int (zI l3)), none, none, none, none, none] [.int (zI z1), .int (zI l3), .ref 58] (rd S) _
        refine s_iast rfl (rd_a58 _) (rw_a58 _ _) h (fun h => ?_)
        show eG _ 164 36 [some (.ref 49), some (.int (zI l1)), some (.int (zI l2)), some (.int (zI l3)), none, none, none, none, none] [] (rd (wA S 58 l3 z1)) _
        refine g_run 1 37 [some (.ref 49), some (.int (zI l1)), some (.int (zI l2)), some (.int (zI l3)), none, none, none, none, none] [.ref 49] (rd (wA S 58 l3 z1)) rfl ?_
        refine g_getf rfl rfl (rd_o49 _) rfl ?_
        show eG _ 164 40 [some (.ref 49), some (.int (zI l1)), some (.int (zI l2)), some (.int (zI l3)), none, none, none, none, none] [.ref 59] (rd (wA S 58 l3 z1)) _
        refine g_run 2 42 [some (.ref 49), some (.int (zI l1)), some (.int (zI l2)), some (.int (zI l3)), none, none, none, none, none] [.ref 49, .int (zI l3), .ref 59] (rd (wA S 58 l3 z1)) rfl ?_
        refine g_getf rfl rfl (rd_o49 _) rfl ?_
        show eG _ 164 45 [some (.ref 49), some (.int (zI l1)), some (.int (zI l2)), some (.int (zI l3)), none, none, none, none, none] [.ref 58, .int (zI l3), .ref 59] (rd (wA S 58 l3 z1)) _
        refine g_run 1 46 [some (.ref 49), some (.int (zI l1)), some (.int (zI l2)), some (.int (zI l3)), none, none, none, none, none] [.int (zI l3), .ref 58, .int (zI l3), .ref 59] (rd (wA S 58 l3 z1)) rfl ?_
        refine s_iald rfl (rd_a58 _) h (fun h => ?_)
        show eG _ 164 47 [some (.ref 49), some (.int (zI l1)), some (.int (zI l2)), some (.int (zI l3)), none, none, none, none, none] [.int (zI (zA (wA S 58 l3 z1) 58 l3)), .int (zI l3), .ref 59] (rd (wA S 58 l3 z1)) _
        refine s_iast rfl (rd_a59 _) (rw_a59 _ _) h (fun h => ?_)
        show eG _ 164 48 [some (.ref 49), some (.int (zI l1)), some (.int (zI l2)), some (.int (zI l3)), none, none, none, none, none] [] (rd (wA (wA S 58 l3 z1) 59 l3 (zA (wA S 58 l3 z1) 58 l3))) _
        refine s_iinc (L' := [some (.ref 49), some (.int (zI l1)), some (.int (zI l2)), some (.int (zI (l3 + 1))), none, none, none, none, none]) rfl rfl rfl ?_
        refine g_run 1 6 [some (.ref 49), some (.int (zI l1)), some (.int (zI l2)), some (.int (zI (l3 + 1))), none, none, none, none, none] [] (rd (wA (wA S 58 l3 z1) 59 l3 (zA (wA S 58 l3 z1) 58 l3))) rfl ?_
        exact ih (wA (wA S 58 l3 z1) 59 l3 (zA (wA S 58 l3 z1) 58 l3)) l1 l2 (l3 + 1) h hk
      · skip
        refine s_icmp_ne rfl h (fun h => ?_) (fun h => ?_)
        · show eG _ 164 33 [some (.ref 49), some (.int (zI l1)), some (.int (zI l2)), some (.int (zI l3)), none, none, none, none, none] [.int (zI l3), .ref 58] (rd S) _
          refine g_run 1 35 [some (.ref 49), some (.int (zI l1)), some (.int (zI l2)), some (.int (zI l3)), none, none, none, none, none] [.int (zI 1000000), .int (zI l3), .ref 58] (rd S) rfl ?_
          cases h
          exact j
        · show eG _ 164 29 [some (.ref 49), some (.int (zI l1)), some (.int (zI l2)), some (.int (zI l3)), none, none, none, none, none] [.int (zI l3), .ref 58] (rd S) _
          refine g_run 2 35 [some (.ref 49), some (.int (zI l1)), some (.int (zI l2)), some (.int (zI l3)), none, none, none, none, none] [.int (zI 0), .int (zI l3), .ref 58] (rd S) rfl ?_
          cases h
          exact j
def fM_findNeeds_4 : Nat → ZS → Int → Int → Int → Int → Int → Int → Int → Option (Int)
  | 0, _, _, _, _, _, _, _, _ => none
  | n + 1, S, l1, l2, l3, l4, l5, l6, l7 => gC l7 (zshl 1 (zF S 49 1)) (if l7 < (zshl 1 (zF S 49 1)) then gX ((256 * (l3 - 1)) + l7) 65536 (gC (zA S 58 ((256 * (l3 - 1)) + l7)) 999 (if 999 < (zA S 58 ((256 * (l3 - 1)) + l7)) then fM_findNeeds_4 n S l1 l2 l3 l4 l5 l6 (l7 + 1) else gC (zand (zxor l5 l7) (zxor l1 (-1))) 0 (if (zand (zxor l5 l7) (zxor l1 (-1))) = 0 then gX ((256 * (l3 - 1)) + l7) 65536 ((fM_needBy n S l5 l7 (zA S 58 ((256 * (l3 - 1)) + l7))).bind fun z1 => gC z1 l6 (if z1 < l6 then fM_findNeeds_4 n S l1 l2 l3 l4 l5 z1 (l7 + 1) else fM_findNeeds_4 n S l1 l2 l3 l4 l5 l6 (l7 + 1))) else fM_findNeeds_4 n S l1 l2 l3 l4 l5 l6 (l7 + 1)))) else some l6)
set_option maxRecDepth 100000 in
set_option maxHeartbeats 4000000 in
theorem sM_findNeeds_4 (o : eO) : ∀ (n : Nat) (S : ZS) (l1 l2 l3 l4 l5 l6 l7 : Int) {w : Int} {r : eP} (h : fM_findNeeds_4 n S l1 l2 l3 l4 l5 l6 l7 = some w) (hk : eG o 164 193 [some (.ref 49), some (.int (zI l1)), some (.int (zI l2)), some (.int (zI l3)), some (.int (zI l4)), some (.int (zI l5)), some (.int (zI w)), none, none] [] (rd S) r), eG o 164 102 [some (.ref 49), some (.int (zI l1)), some (.int (zI l2)), some (.int (zI l3)), some (.int (zI l4)), some (.int (zI l5)), some (.int (zI l6)), some (.int (zI l7)), none] [] (rd S) r := by
  intro n
  induction n with
  | zero => intro S l1 l2 l3 l4 l5 l6 l7 w r h hk; unfold fM_findNeeds_4 at h; cases h
  | succ n ih =>
    intro S l1 l2 l3 l4 l5 l6 l7 w r h hk
    unfold fM_findNeeds_4 at h
    refine g_run 3 106 [some (.ref 49), some (.int (zI l1)), some (.int (zI l2)), some (.int (zI l3)), some (.int (zI l4)), some (.int (zI l5)), some (.int (zI l6)), some (.int (zI l7)), none] [.ref 49, .int (zI 1), .int (zI l7)] (rd S) rfl ?_
    refine g_getf rfl rfl (rd_o49 _) rfl ?_
    show eG _ 164 109 [some (.ref 49), some (.int (zI l1)), some (.int (zI l2)), some (.int (zI l3)), some (.int (zI l4)), some (.int (zI l5)), some (.int (zI l6)), some (.int (zI l7)), none] [.int (zI (zF S 49 1)), .int (zI 1), .int (zI l7)] (rd S) _
    refine s_ishl rfl ?_
    refine s_icmp_ge rfl h (fun h => ?_) (fun h => ?_)
    · show eG _ 164 193 [some (.ref 49), some (.int (zI l1)), some (.int (zI l2)), some (.int (zI l3)), some (.int (zI l4)), some (.int (zI l5)), some (.int (zI l6)), some (.int (zI l7)), none] [] (rd S) _
      refine g_fgt [false, false, false, false, false, false, false, true, true] ?_
      show eG _ 164 193 [some (.ref 49), some (.int (zI l1)), some (.int (zI l2)), some (.int (zI l3)), some (.int (zI l4)), some (.int (zI l5)), some (.int (zI l6)), none, none] [] (rd S) _
      cases h
      exact hk
    · show eG _ 164 113 [some (.ref 49), some (.int (zI l1)), some (.int (zI l2)), some (.int (zI l3)), some (.int (zI l4)), some (.int (zI l5)), some (.int (zI l6)), some (.int (zI l7)), none] [] (rd S) _
      refine g_run 1 114 [some (.ref 49), some (.int (zI l1)), some (.int (zI l2)), some (.int (zI l3)), some (.int (zI l4)), some (.int (zI l5)), some (.int (zI l6)), some (.int (zI l7)), none] [.ref 49] (rd S) rfl ?_
      refine g_getf rfl rfl (rd_o49 _) rfl ?_
      show eG _ 164 117 [some (.ref 49), some (.int (zI l1)), some (.int (zI l2)), some (.int (zI l3)), some (.int (zI l4)), some (.int (zI l5)), some (.int (zI l6)), some (.int (zI l7)), none] [.ref 58] (rd S) _
      refine g_run 3 122 [some (.ref 49), some (.int (zI l1)), some (.int (zI l2)), some (.int (zI l3)), some (.int (zI l4)), some (.int (zI l5)), some (.int (zI l6)), some (.int (zI l7)), none] [.int (zI 1), .int (zI l3), .int (zI 256), .ref 58] (rd S) rfl ?_
      refine s_isub rfl ?_
      refine s_imul rfl ?_
      refine g_run 1 126 [some (.ref 49), some (.int (zI l1)), some (.int (zI l2)), some (.int (zI l3)), some (.int (zI l4)), some (.int (zI l5)), some (.int (zI l6)), some (.int (zI l7)), none] [.int (zI l7), .int (zI (256 * (l3 - 1))), .ref 58] (rd S) rfl ?_
      refine s_iadd rfl ?_
      refine s_iald rfl (rd_a58 _) h (fun h => ?_)
      show eG _ 164 128 [some (.ref 49), some (.int (zI l1)), some (.int (zI l2)), some (.int (zI l3)), some (.int (zI l4)), some (.int (zI l5)), some (.int (zI l6)), some (.int (zI l7)), none] [.int (zI (zA S 58 ((256 * (l3 - 1)) + l7)))] (rd S) _
      refine g_run 1 131 [some (.ref 49), some (.int (zI l1)), some (.int (zI l2)), some (.int (zI l3)), some (.int (zI l4)), some (.int (zI l5)), some (.int (zI l6)), some (.int (zI l7)), none] [.int (zI 999), .int (zI (zA S 58 ((256 * (l3 - 1)) + l7)))] (rd S) rfl ?_
      refine s_icmp_gt rfl h (fun h => ?_) (fun h => ?_)
      · show eG _ 164 187 [some (.ref 49), some (.int (zI l1)), some (.int (zI l2)), some (.int (zI l3)), some (.int (zI l4)), some (.int (zI l5)), some (.int (zI l6)), some (.int (zI l7)), none] [] (rd S) _
        refine s_iinc (L' := [some (.ref 49), some (.int (zI l1)), some (.int (zI l2)), some (.int (zI l3)), some (.int (zI l4)), some (.int (zI l5)), some (.int (zI l6)), some (.int (zI (l7 + 1))), none]) rfl rfl rfl ?_
        refine g_run 1 102 [some (.ref 49), some (.int (zI l1)), some (.int (zI l2)), some (.int (zI l3)), some (.int (zI l4)), some (.int (zI l5)), some (.int (zI l6)), some (.int (zI (l7 + 1))), none] [] (rd S) rfl ?_
        exact ih S l1 l2 l3 l4 l5 l6 (l7 + 1) h hk
      · show eG _ 164 134 [some (.ref 49), some (.int (zI l1)), some (.int (zI l2)), some (.int (zI l3)), some (.int (zI l4)), some (.int (zI l5)), some (.int (zI l6)), some (.int (zI l7)), none] [] (rd S) _
        refine g_run 2 138 [some (.ref 49), some (.int (zI l1)), some (.int (zI l2)), some (.int (zI l3)), some (.int (zI l4)), some (.int (zI l5)), some (.int (zI l6)), some (.int (zI l7)), none] [.int (zI l7), .int (zI l5)] (rd S) rfl ?_
        refine s_ixor rfl ?_
        refine g_run 2 141 [some (.ref 49), some (.int (zI l1)), some (.int (zI l2)), some (.int (zI l3)), some (.int (zI l4)), some (.int (zI l5)), some (.int (zI l6)), some (.int (zI l7)), none] [.int (zI (-1)), .int (zI l1), .int (zI (zxor l5 l7))] (rd S) rfl ?_
        refine s_ixor rfl ?_
        refine s_iand rfl ?_
        refine s_if_ne rfl h (fun h => ?_) (fun h => ?_)
        · show eG _ 164 187 [some (.ref 49), some (.int (zI l1)), some (.int (zI l2)), some (.int (zI l3)), some (.int (zI l4)), some (.int (zI l5)), some (.int (zI l6)), some (.int (zI l7)), none] [] (rd S) _
          refine s_iinc (L' := [some (.ref 49), some (.int (zI l1)), some (.int (zI l2)), some (.int (zI l3)), some (.int (zI l4)), some (.int (zI l5)), some (.int (zI l6)), some (.int (zI (l7 + 1))), none]) rfl rfl rfl ?_
          refine g_run 1 102 [some (.ref 49), some (.int (zI l1)), some (.int (zI l2)), some (.int (zI l3)), some (.int (zI l4)), some (.int (zI l5)), some (.int (zI l6)), some (.int (zI (l7 + 1))), none] [] (rd S) rfl ?_
          exact ih S l1 l2 l3 l4 l5 l6 (l7 + 1) h hk
        · show eG _ 164 146 [some (.ref 49), some (.int (zI l1)), some (.int (zI l2)), some (.int (zI l3)), some (.int (zI l4)), some (.int (zI l5)), some (.int (zI l6)), some (.int (zI l7)), none] [] (rd S) _
          refine g_run 4 152 [some (.ref 49), some (.int (zI l1)), some (.int (zI l2)), some (.int (zI l3)), some (.int (zI l4)), some (.int (zI l5)), some (.int (zI l6)), some (.int (zI l7)), none] [.ref 49, .int (zI l7), .int (zI l5), .ref 49] (rd S) rfl ?_
          refine g_getf rfl rfl (rd_o49 _) rfl ?_
          show eG _ 164 155 [some (.ref 49), some (.int (zI l1)), some (.int (zI l2)), some (.int (zI l3)), some (.int (zI l4)), some (.int (zI l5)), some (.int (zI l6)), some (.int (zI l7)), none] [.ref 58, .int (zI l7), .int (zI l5), .ref 49] (rd S) _
          refine g_run 3 160 [some (.ref 49), some (.int (zI l1)), some (.int (zI l2)), some (.int (zI l3)), some (.int (zI l4)), some (.int (zI l5)), some (.int (zI l6)), some (.int (zI l7)), none] [.int (zI 1), .int (zI l3), .int (zI 256), .ref 58, .int (zI l7), .int (zI l5), .ref 49] (rd S) rfl ?_
          refine s_isub rfl ?_
          refine s_imul rfl ?_
          refine g_run 1 164 [some (.ref 49), some (.int (zI l1)), some (.int (zI l2)), some (.int (zI l3)), some (.int (zI l4)), some (.int (zI l5)), some (.int (zI l6)), some (.int (zI l7)), none] [.int (zI l7), .int (zI (256 * (l3 - 1))), .ref 58, .int (zI l7), .int (zI l5), .ref 49] (rd S) rfl ?_
          refine s_iadd rfl ?_
          refine s_iald rfl (rd_a58 _) h (fun h => ?_)
          show eG _ 164 166 [some (.ref 49), some (.int (zI l1)), some (.int (zI l2)), some (.int (zI l3)), some (.int (zI l4)), some (.int (zI l5)), some (.int (zI l6)), some (.int (zI l7)), none] [.int (zI (zA S 58 ((256 * (l3 - 1)) + l7))), .int (zI l7), .int (zI l5), .ref 49] (rd S) _
          refine s_vir (fun z => some (.int (zI z))) (fun _ => rd S) rfl rfl rfl (rd_o49 _) rfl rfl (fun z hz => sM_needBy o n S l5 l7 (zA S 58 ((256 * (l3 - 1)) + l7)) hz) rfl h (fun z1 h => ?_)
          show eG _ 164 169 [some (.ref 49), some (.int (zI l1)), some (.int (zI l2)), some (.int (zI l3)), some (.int (zI l4)), some (.int (zI l5)), some (.int (zI l6)), some (.int (zI l7)), none] [.int (zI z1)] (rd S) _
          refine g_run 3 175 [some (.ref 49), some (.int (zI l1)), some (.int (zI l2)), some (.int (zI l3)), some (.int (zI l4)), some (.int (zI l5)), some (.int (zI l6)), some (.int (zI l7)), some (.int (zI z1))] [.int (zI l6), .int (zI z1)] (rd S) rfl ?_
          refine s_icmp_ge rfl h (fun h => ?_) (fun h => ?_)
          · show eG _ 164 183 [some (.ref 49), some (.int (zI l1)), some (.int (zI l2)), some (.int (zI l3)), some (.int (zI l4)), some (.int (zI l5)), some (.int (zI l6)), some (.int (zI l7)), some (.int (zI z1))] [] (rd S) _
            refine g_run 2 187 [some (.ref 49), some (.int (zI l1)), some (.int (zI l2)), some (.int (zI l3)), some (.int (zI l4)), some (.int (zI l5)), some (.int (zI l6)), some (.int (zI l7)), some (.int (zI z1))] [] (rd S) rfl ?_
            refine s_iinc (L' := [some (.ref 49), some (.int (zI l1)), some (.int (zI l2)), some (.int (zI l3)), some (.int (zI l4)), some (.int (zI l5)), some (.int (zI l6)), some (.int (zI (l7 + 1))), some (.int (zI z1))]) rfl rfl rfl ?_
            refine g_run 1 102 [some (.ref 49), some (.int (zI l1)), some (.int (zI l2)), some (.int (zI l3)), some (.int (zI l4)), some (.int (zI l5)), some (.int (zI l6)), some (.int (zI (l7 + 1))), some (.int (zI z1))] [] (rd S) rfl ?_
            refine g_fgt [false, false, false, false, false, false, false, false, true] ?_
            show eG _ 164 102 [some (.ref 49), some (.int (zI l1)), some (.int (zI l2)), some (.int (zI l3)), some (.int (zI l4)), some (.int (zI l5)), some (.int (zI l6)), some (.int (zI (l7 + 1))), none] [] (rd S) _
            exact ih S l1 l2 l3 l4 l5 l6 (l7 + 1) h hk
          · show eG _ 164 178 [some (.ref 49), some (.int (zI l1)), some (.int (zI l2)), some (.int (zI l3)), some (.int (zI l4)), some (.int (zI l5)), some (.int (zI l6)), some (.int (zI l7)), some (.int (zI z1))] [] (rd S) _
            refine g_run 3 187 [some (.ref 49), some (.int (zI l1)), some (.int (zI l2)), some (.int (zI l3)), some (.int (zI l4)), some (.int (zI l5)), some (.int (zI z1)), some (.int (zI l7)), some (.int (zI z1))] [] (rd S) rfl ?_
            refine s_iinc (L' := [some (.ref 49), some (.int (zI l1)), some (.int (zI l2)), some (.int (zI l3)), some (.int (zI l4)), some (.int (zI l5)), some (.int (zI z1)), some (.int (zI (l7 + 1))), some (.int (zI z1))]) rfl rfl rfl ?_
            refine g_run 1 102 [some (.ref 49), some (.int (zI l1)), some (.int (zI l2)), some (.int (zI l3)), some (.int (zI l4)), some (.int (zI l5)), some (.int (zI z1)), some (.int (zI (l7 + 1))), some (.int (zI z1))] [] (rd S) rfl ?_
            refine g_fgt [false, false, false, false, false, false, false, false, true] ?_
            show eG _ 164 102 [some (.ref 49), some (.int (zI l1)), some (.int (zI l2)), some (.int (zI l3)), some (.int (zI l4)), some (.int (zI l5)), some (.int (zI z1)), some (.int (zI (l7 + 1))), none] [] (rd S) _
            exact ih S l1 l2 l3 l4 l5 z1 (l7 + 1) h hk
def fM_findNeeds_3 : Nat → ZS → Int → Int → Int → Int → Int → Option (Int × ZS)
  | 0, _, _, _, _, _, _ => none
  | n + 1, S, l1, l2, l3, l4, l5 => gC l5 (zshl 1 (zF S 49 1)) (if l5 < (zshl 1 (zF S 49 1)) then (fM_findNeeds_4 n S l1 l2 l3 l4 l5 1000000 0).bind fun z1 => gX ((256 * l3) + l5) 65536 ((gC l4 0 (if l4 = 0 then gX l5 256 (gC z1 (zA S 59 l5) (if z1 < (zA S 59 l5) then some 1 else some 0)) else some 1)).bind fun z2 => gX l5 256 ((gC z1 (zA S 59 l5) (if z1 < (zA S 59 l5) then some z1 else gX l5 256 (some (zA S 59 l5)))).bind fun z3 => gX l5 256 (fM_findNeeds_3 n (wA (wA S 58 ((256 * l3) + l5) z1) 59 l5 z3) l1 l2 l3 z2 (l5 + 1)))) else some (l4, S))
set_option maxRecDepth 100000 in
set_option maxHeartbeats 4000000 in
theorem sM_findNeeds_3 (o : eO) : ∀ (n : Nat) (S : ZS) (l1 l2 l3 l4 l5 : Int) {w : Int × ZS} {r : eP} (h : fM_findNeeds_3 n S l1 l2 l3 l4 l5 = some w) (hk : eG o 164 269 [some (.ref 49), some (.int (zI l1)), some (.int (zI l2)), some (.int (zI l3)), some (.int (zI w.1)), none, none, none, none] [] (rd w.2) r), eG o 164 84 [some (.ref 49), some (.int (zI l1)), some (.int (zI l2)), some (.int (zI l3)), some (.int (zI l4)), some (.int (zI l5)), none, none, none] [] (rd S) r := by
  intro n
  induction n with
  | zero => intro S l1 l2 l3 l4 l5 w r h hk; unfold fM_findNeeds_3 at h; cases h
  | succ n ih =>
    intro S l1 l2 l3 l4 l5 w r h hk
    unfold fM_findNeeds_3 at h
    refine g_run 3 88 [some (.ref 49), some (.int (zI l1)), some (.int (zI l2)), some (.int (zI l3)), some (.int (zI l4)), some (.int (zI l5)), none, none, none] [.ref 49, .int (zI 1), .int (zI l5)] (rd S) rfl ?_
    refine g_getf rfl rfl (rd_o49 _) rfl ?_
    show eG _ 164 91 [some (.ref 49), some (.int (zI l1)), some (.int (zI l2)), some (.int (zI l3)), some (.int (zI l4)), some (.int (zI l5)), none, none, none] [.int (zI (zF S 49 1)), .int (zI 1), .int (zI l5)] (rd S) _
    refine s_ishl rfl ?_
    refine s_icmp_ge rfl h (fun h => ?_) (fun h => ?_)
    · show eG _ 164 269 [some (.ref 49), some (.int (zI l1)), some (.int (zI l2)), some (.int (zI l3)), some (.int (zI l4)), some (.int (zI l5)), none, none, none] [] (rd S) _
      refine g_fgt [false, false, false, false, false, true, true, true, true] ?_
      show eG _ 164 269 [some (.ref 49), some (.int (zI l1)), some (.int (zI l2)), some (.int (zI l3)), some (.int (zI l4)), none, none, none, none] [] (rd S) _
      cases h
      exact hk
    · show eG _ 164 95 [some (.ref 49), some (.int (zI l1)), some (.int (zI l2)), some (.int (zI l3)), some (.int (zI l4)), some (.int (zI l5)), none, none, none] [] (rd S) _
      refine g_run 4 102 [some (.ref 49), some (.int (zI l1)), some (.int (zI l2)), some (.int (zI l3)), some (.int (zI l4)), some (.int (zI l5)), some (.int (zI 1000000)), some (.int (zI 0)), none] [] (rd S) rfl ?_
      obtain ⟨z1, h1, h⟩ := zB_inv h
      refine sM_findNeeds_4 o n S l1 l2 l3 l4 l5 1000000 0 h1 ?_
      show eG _ 164 193 [some (.ref 49), some (.int (zI l1)), some (.int (zI l2)), some (.int (zI l3)), some (.int (zI l4)), some (.int (zI l5)), some (.int (zI z1)), none, none] [] (rd S) _
      refine g_run 1 194 [some (.ref 49), some (.int (zI l1)), some (.int (zI l2)), some (.int (zI l3)), some (.int (zI l4)), some (.int (zI l5)), some (.int (zI z1)), none, none] [.ref 49] (rd S) rfl ?_
      refine g_getf rfl rfl (rd_o49 _) rfl ?_
      show eG _ 164 197 [some (.ref 49), some (.int (zI l1)), some (.int (zI l2)), some (.int (zI l3)), some (.int (zI l4)), some (.int (zI l5)), some (.int (zI z1)), none, none] [.ref 58] (rd S) _
      refine g_run 2 201 [some (.ref 49), some (.int (zI l1)), some (.int (zI l2)), some (.int (zI l3)), some (.int (zI l4)), some (.int (zI l5)), some (.int (zI z1)), none, none] [.int (zI l3), .int (zI 256), .ref 58] (rd S) rfl ?_
      refine s_imul rfl ?_
      refine g_run 1 204 [some (.ref 49), some (.int (zI l1)), some (.int (zI l2)), some (.int (zI l3)), some (.int (zI l4)), some (.int (zI l5)), some (.int (zI z1)), none, none] [.int (zI l5), .int (zI (256 * l3)), .ref 58] (rd S) rfl ?_
      refine s_iadd rfl ?_
      refine g_run 1 207 [some (.ref 49), some (.int (zI l1)), some (.int (zI l2)), some (.int (zI l3)), some (.int (zI l4)), some (.int (zI l5)), some (.int (zI z1)), none, none] [.int (zI z1), .int (zI ((256 * l3) + l5)), .ref 58] (rd S) rfl ?_
      refine s_iast rfl (rd_a58 _) (rw_a58 _ _) h (fun h => ?_)
      show eG _ 164 208 [some (.ref 49), some (.int (zI l1)), some (.int (zI l2)), some (.int (zI l3)), some (.int (zI l4)), some (.int (zI l5)), some (.int (zI z1)), none, none] [] (rd (wA S 58 ((256 * l3) + l5) z1)) _
      refine g_run 1 210 [some (.ref 49), some (.int (zI l1)), some (.int (zI l2)), some (.int (zI l3)), some (.int (zI l4)), some (.int (zI l5)), some (.int (zI z1)), none, none] [.int (zI l4)] (rd (wA S 58 ((256 * l3) + l5) z1)) rfl ?_
      refine s_join (α := Int) (fun z => eG o 164 230 [some (.ref 49), some (.int (zI l1)), some (.int (zI l2)), some (.int (zI l3)), none, some (.int (zI l5)), some (.int (zI z1)), none, none] [.int (zI z)] (rd (wA S 58 ((256 * l3) + l5) z1)) r) h (fun z2 h => ?_) (fun z2 h j => ?_)
      · show eG _ 164 230 [some (.ref 49), some (.int (zI l1)), some (.int (zI l2)), some (.int (zI l3)), none, some (.int (zI l5)), some (.int (zI z1)), none, none] [.int (zI z2)] (rd (wA S 58 ((256 * l3) + l5) z1)) _
        refine g_run 2 233 [some (.ref 49), some (.int (zI l1)), some (.int (zI l2)), some (.int (zI l3)), some (.int (zI z2)), some (.int (zI l5)), some (.int (zI z1)), none, none] [.ref 49] (rd (wA S 58 ((256 * l3) + l5) z1)) rfl ?_
        refine g_getf rfl rfl (rd_o49 _) rfl ?_
        show eG _ 164 236 [some (.ref 49), some (.int (zI l1)), some (.int (zI l2)), some (.int (zI l3)), some (.int (zI z2)), some (.int (zI l5)), some (.int (zI z1)), none, none] [.ref 59] (rd (wA S 58 ((256 * l3) + l5) z1)) _
        refine g_run 3 241 [some (.ref 49), some (.int (zI l1)), some (.int (zI l2)), some (.int (zI l3)), some (.int (zI z2)), some (.int (zI l5)), some (.int (zI z1)), none, none] [.ref 49, .int (zI z1), .int (zI l5), .ref 59] (rd (wA S 58 ((256 * l3) + l5) z1)) rfl ?_
        refine g_getf rfl rfl (rd_o49 _) rfl ?_
        show eG _ 164 244 [some (.ref 49), some (.int (zI l1)), some (.int (zI l2)), some (.int (zI l3)), some (.int (zI z2)), some (.int (zI l5)), some (.int (zI z1)), none, none] [.ref 59, .int (zI z1), .int (zI l5), .ref 59] (rd (wA S 58 ((256 * l3) + l5) z1)) _
        refine g_run 1 246 [some (.ref 49), some (.int (zI l1)), some (.int (zI l2)), some (.int (zI l3)), some (.int (zI z2)), some (.int (zI l5)), some (.int (zI z1)), none, none] [.int (zI l5), .ref 59, .int (zI z1), .int (zI l5), .ref 59] (rd (wA S 58 ((256 * l3) + l5) z1)) rfl ?_
        refine s_iald rfl (rd_a59 _) h (fun h => ?_)
        show eG _ 164 247 [some (.ref 49), some (.int (zI l1)), some (.int (zI l2)), some (.int (zI l3)), some (.int (zI z2)), some (.int (zI l5)), some (.int (zI z1)), none, none] [.int (zI (zA S 59 l5)), .int (zI z1), .int (zI l5), .ref 59] (rd (wA S 58 ((256 * l3) + l5) z1)) _
        refine s_join (α := Int) (fun z => eG o 164 262 [some (.ref 49), some (.int (zI l1)), some (.int (zI l2)), some (.int (zI l3)), some (.int (zI z2)), some (.int (zI l5)), none, none, none] [.int (zI z), .int (zI l5), .ref 59] (rd (wA S 58 ((256 * l3) + l5) z1)) r) h (fun z3 h => ?_) (fun z3 h j => ?_)
        · show eG _ 164 262 [some (.ref 49), some (.int (zI l1)), some (.int (zI l2)), some (.int (zI l3)), some (.int (zI z2)), some (.int (zI l5)), none, none, none] [.int (zI z3), .int (zI l5), .ref 59] (rd (wA S 58 ((256 * l3) + l5) z1)) _
          refine s_iast rfl (rd_a59 _) (rw_a59 _ _) h (fun h => ?_)
          show eG _ 164 263 [some (.ref 49), some (.int (zI l1)), some (.int (zI l2)), some (.int (zI l3)), some (.int (zI z2)), some (.int (zI l5)), none, none, none] [] (rd (wA (wA S 58 ((256 * l3) + l5) z1) 59 l5 z3)) _
          refine s_iinc (L' := [some (.ref 49), some (.int (zI l1)), some (.int (zI l2)), some (.int (zI l3)), some (.int (zI z2)), some (.int (zI (l5 + 1))), none, none, none]) rfl rfl rfl ?_
          refine g_run 1 84 [some (.ref 49), some (.int (zI l1)), some (.int (zI l2)), some (.int (zI l3)), some (.int (zI z2)), some (.int (zI (l5 + 1))), none, none, none] [] (rd (wA (wA S 58 ((256 * l3) + l5) z1) 59 l5 z3)) rfl ?_
          exact ih (wA (wA S 58 ((256 * l3) + l5) z1) 59 l5 z3) l1 l2 l3 z2 (l5 + 1) h hk
        · skip
          refine s_icmp_ge rfl h (fun h => ?_) (fun h => ?_)
          · show eG _ 164 255 [some (.ref 49), some (.int (zI l1)), some (.int (zI l2)), some (.int (zI l3)), some (.int (zI z2)), some (.int (zI l5)), some (.int (zI z1)), none, none] [.int (zI l5), .ref 59] (rd (wA S 58 ((256 * l3) + l5) z1)) _
            refine g_run 1 256 [some (.ref 49), some (.int (zI l1)), some (.int (zI l2)), some (.int (zI l3)), some (.int (zI z2)), some (.int (zI l5)), some (.int (zI z1)), none, none] [.ref 49, .int (zI l5), .ref 59] (rd (wA S 58 ((256 * l3) + l5) z1)) rfl ?_
            refine g_getf rfl rfl (rd_o49 _) rfl ?_
            show eG _ 164 259 [some (.ref 49), some (.int (zI l1)), some (.int (zI l2)), some (.int (zI l3)), some (.int (zI z2)), some (.int (zI l5)), some (.int (zI z1)), none, none] [.ref 59, .int (zI l5), .ref 59] (rd (wA S 58 ((256 * l3) + l5) z1)) _
            refine g_run 1 261 [some (.ref 49), some (.int (zI l1)), some (.int (zI l2)), some (.int (zI l3)), some (.int (zI z2)), some (.int (zI l5)), some (.int (zI z1)), none, none] [.int (zI l5), .ref 59, .int (zI l5), .ref 59] (rd (wA S 58 ((256 * l3) + l5) z1)) rfl ?_
            refine s_iald rfl (rd_a59 _) h (fun h => ?_)
            show eG _ 164 262 [some (.ref 49), some (.int (zI l1)), some (.int (zI l2)), some (.int (zI l3)), some (.int (zI z2)), some (.int (zI l5)), some (.int (zI z1)), none, none] [.int (zI (zA S 59 l5)), .int (zI l5), .ref 59] (rd (wA S 58 ((256 * l3) + l5) z1)) _
            refine g_fgt [false, false, false, false, false, false, true, true, true] ?_
            show eG _ 164 262 [some (.ref 49), some (.int (zI l1)), some (.int (zI l2)), some (.int (zI l3)), some (.int (zI z2)), some (.int (zI l5)), none, none, none] [.int (zI (zA S 59 l5)), .int (zI l5), .ref 59] (rd (wA S 58 ((256 * l3) + l5) z1)) _
            cases h
            exact j
          · show eG _ 164 250 [some (.ref 49), some (.int (zI l1)), some (.int (zI l2)), some (.int (zI l3)), some (.int (zI z2)), some (.int (zI l5)), some (.int (zI z1)), none, none] [.int (zI l5), .ref 59] (rd (wA S 58 ((256 * l3) + l5) z1)) _
            refine g_run 2 262 [some (.ref 49), some (.int (zI l1)), some (.int (zI l2)), some (.int (zI l3)), some (.int (zI z2)), some (.int (zI l5)), some (.int (zI z1)), none, none] [.int (zI z1), .int (zI l5), .ref 59] (rd (wA S 58 ((256 * l3) + l5) z1)) rfl ?_
            refine g_fgt [false, false, false, false, false, false, true, true, true] ?_
            show eG _ 164 262 [some (.ref 49), some (.int (zI l1)), some (.int (zI l2)), some (.int (zI l3)), some (.int (zI z2)), some (.int (zI l5)), none, none, none] [.int (zI z1), .int (zI l5), .ref 59] (rd (wA S 58 ((256 * l3) + l5) z1)) _
            cases h
            exact j
      · skip
        refine s_if_ne rfl h (fun h => ?_) (fun h => ?_)
        · show eG _ 164 225 [some (.ref 49), some (.int (zI l1)), some (.int (zI l2)), some (.int (zI l3)), some (.int (zI l4)), some (.int (zI l5)), some (.int (zI z1)), none, none] [] (rd (wA S 58 ((256 * l3) + l5) z1)) _
          refine g_run 2 230 [some (.ref 49), some (.int (zI l1)), some (.int (zI l2)), some (.int (zI l3)), some (.int (zI l4)), some (.int (zI l5)), some (.int (zI z1)), none, none] [.int (zI 1)] (rd (wA S 58 ((256 * l3) + l5) z1)) rfl ?_
          refine g_fgt [false, false, false, false, true, false, false, true, true] ?_
          show eG _ 164 230 [some (.ref 49), some (.int (zI l1)), some (.int (zI l2)), some (.int (zI l3)), none, some (.int (zI l5)), some (.int (zI z1)), none, none] [.int (zI 1)] (rd (wA S 58 ((256 * l3) + l5) z1)) _
          cases h
          exact j
        · show eG _ 164 213 [some (.ref 49), some (.int (zI l1)), some (.int (zI l2)), some (.int (zI l3)), some (.int (zI l4)), some (.int (zI l5)), some (.int (zI z1)), none, none] [] (rd (wA S 58 ((256 * l3) + l5) z1)) _
          refine g_run 2 216 [some (.ref 49), some (.int (zI l1)), some (.int (zI l2)), some (.int (zI l3)), some (.int (zI l4)), some (.int (zI l5)), some (.int (zI z1)), none, none] [.ref 49, .int (zI z1)] (rd (wA S 58 ((256 * l3) + l5) z1)) rfl ?_
          refine g_getf rfl rfl (rd_o49 _) rfl ?_
          show eG _ 164 219 [some (.ref 49), some (.int (zI l1)), some (.int (zI l2)), some (.int (zI l3)), some (.int (zI l4)), some (.int (zI l5)), some (.int (zI z1)), none, none] [.ref 59, .int (zI z1)] (rd (wA S 58 ((256 * l3) + l5) z1)) _
          refine g_run 1 221 [some (.ref 49), some (.int (zI l1)), some (.int (zI l2)), some (.int (zI l3)), some (.int (zI l4)), some (.int (zI l5)), some (.int (zI z1)), none, none] [.int (zI l5), .ref 59, .int (zI z1)] (rd (wA S 58 ((256 * l3) + l5) z1)) rfl ?_
          refine s_iald rfl (rd_a59 _) h (fun h => ?_)
          show eG _ 164 222 [some (.ref 49), some (.int (zI l1)), some (.int (zI l2)), some (.int (zI l3)), some (.int (zI l4)), some (.int (zI l5)), some (.int (zI z1)), none, none] [.int (zI (zA S 59 l5)), .int (zI z1)] (rd (wA S 58 ((256 * l3) + l5) z1)) _
          refine s_icmp_ge rfl h (fun h => ?_) (fun h => ?_)
          · show eG _ 164 229 [some (.ref 49), some (.int (zI l1)), some (.int (zI l2)), some (.int (zI l3)), some (.int (zI l4)), some (.int (zI l5)), some (.int (zI z1)), none, none] [] (rd (wA S 58 ((256 * l3) + l5) z1)) _
            refine g_run 1 230 [some (.ref 49), some (.int (zI l1)), some (.int (zI l2)), some (.int (zI l3)), some (.int (zI l4)), some (.int (zI l5)), some (.int (zI z1)), none, none] [.int (zI 0)] (rd (wA S 58 ((256 * l3) + l5) z1)) rfl ?_
            refine g_fgt [false, false, false, false, true, false, false, true, true] ?_
            show eG _ 164 230 [some (.ref 49), some (.int (zI l1)), some (.int (zI l2)), some (.int (zI l3)), none, some (.int (zI l5)), some (.int (zI z1)), none, none] [.int (zI 0)] (rd (wA S 58 ((256 * l3) + l5) z1)) _
            cases h
            exact j
          · show eG _ 164 225 [some (.ref 49), some (.int (zI l1)), some (.int (zI l2)), some (.int (zI l3)), some (.int (zI l4)), some (.int (zI l5)), some (.int (zI z1)), none, none] [] (rd (wA S 58 ((256 * l3) + l5) z1)) _
            refine g_run 2 230 [some (.ref 49), some (.int (zI l1)), some (.int (zI l2)), some (.int (zI l3)), some (.int (zI l4)), some (.int (zI l5)), some (.int (zI z1)), none, none] [.int (zI 1)] (rd (wA S 58 ((256 * l3) + l5) z1)) rfl ?_
            refine g_fgt [false, false, false, false, true, false, false, true, true] ?_
            show eG _ 164 230 [some (.ref 49), some (.int (zI l1)), some (.int (zI l2)), some (.int (zI l3)), none, some (.int (zI l5)), some (.int (zI z1)), none, none] [.int (zI 1)] (rd (wA S 58 ((256 * l3) + l5) z1)) _
            cases h
            exact j
def fM_findNeeds_2 : Nat → ZS → Int → Int → Int → Option ((Int × ZS) ⊕ (ZS))
  | 0, _, _, _, _ => none
  | n + 1, S, l1, l2, l3 => gC l3 256 (if l3 < 256 then (fM_findNeeds_3 n S l1 l2 l3 0 0).bind fun z1 => gX ((256 * l3) + (zF z1.2 49 2)) 65536 (gC (zA z1.2 58 ((256 * l3) + (zF z1.2 49 2))) l2 (if l2 < (zA z1.2 58 ((256 * l3) + (zF z1.2 49 2))) then gC z1.1 0 (if z1.1 = 0 then some (.inl (-4, z1.2)) else fM_findNeeds_2 n z1.2 l1 l2 (l3 + 1)) else some (.inl (l3, z1.2)))) else some (.inr S))
set_option maxRecDepth 100000 in
set_option maxHeartbeats 4000000 in
theorem sM_findNeeds_2 (o : eO) : ∀ (n : Nat) (S : ZS) (l1 l2 l3 : Int) {w : (Int × ZS) ⊕ (ZS)} {r : eP} (h : fM_findNeeds_2 n S l1 l2 l3 = some w) (hr : ∀ v, w = .inl v → r (some (.int (zI v.1)), rd v.2)) (hk : ∀ x, w = .inr x → eG o 164 304 [none, none, none, none, none, none, none, none, none] [] (rd x) r), eG o 164 71 [some (.ref 49), some (.int (zI l1)), some (.int (zI l2)), some (.int (zI l3)), none, none, none, none, none] [] (rd S) r := by
  intro n
  induction n with
  | zero => intro S l1 l2 l3 w r h hr hk; unfold fM_findNeeds_2 at h; cases h
  | succ n ih =>
    intro S l1 l2 l3 w r h hr hk
    unfold fM_findNeeds_2 at h
    refine g_run 2 75 [some (.ref 49), some (.int (zI l1)), some (.int (zI l2)), some (.int (zI l3)), none, none, none, none, none] [.int (zI 256), .int (zI l3)] (rd S) rfl ?_
    refine s_icmp_ge rfl h (fun h => ?_) (fun h => ?_)
    · show eG _ 164 304 [some (.ref 49), some (.int (zI l1)), some (.int (zI l2)), some (.int (zI l3)), none, none, none, none, none] [] (rd S) _
      refine g_fgt [true, true, true, true, true, true, true, true, true] ?_
      show eG _ 164 304 [none, none, none, none, none, none, none, none, none] [] (rd S) _
      cases h
      exact hk _ rfl
    · show eG _ 164 78 [some (.ref 49), some (.int (zI l1)), some (.int (zI l2)), some (.int (zI l3)), none, none, none, none, none] [] (rd S) _
      refine g_run 4 84 [some (.ref 49), some (.int (zI l1)), some (.int (zI l2)), some (.int (zI l3)), some (.int (zI 0)), some (.int (zI 0)), none, none, none] [] (rd S) rfl ?_
      obtain ⟨z1, h1, h⟩ := zB_inv h
      refine sM_findNeeds_3 o n S l1 l2 l3 0 0 h1 ?_
      show eG _ 164 269 [some (.ref 49), some (.int (zI l1)), some (.int (zI l2)), some (.int (zI l3)), some (.int (zI z1.1)), none, none, none, none] [] (rd z1.2) _
      refine g_run 1 270 [some (.ref 49), some (.int (zI l1)), some (.int (zI l2)), some (.int (zI l3)), some (.int (zI z1.1)), none, none, none, none] [.ref 49] (rd z1.2) rfl ?_
      refine g_getf rfl rfl (rd_o49 _) rfl ?_
      show eG _ 164 273 [some (.ref 49), some (.int (zI l1)), some (.int (zI l2)), some (.int (zI l3)), some (.int (zI z1.1)), none, none, none, none] [.ref 58] (rd z1.2) _
      refine g_run 2 277 [some (.ref 49), some (.int (zI l1)), some (.int (zI l2)), some (.int (zI l3)), some (.int (zI z1.1)), none, none, none, none] [.int (zI l3), .int (zI 256), .ref 58] (rd z1.2) rfl ?_
      refine s_imul rfl ?_
      refine g_run 1 279 [some (.ref 49), some (.int (zI l1)), some (.int (zI l2)), some (.int (zI l3)), some (.int (zI z1.1)), none, none, none, none] [.ref 49, .int (zI (256 * l3)), .ref 58] (rd z1.2) rfl ?_
      refine g_getf rfl rfl (rd_o49 _) rfl ?_
      show eG _ 164 282 [some (.ref 49), some (.int (zI l1)), some (.int (zI l2)), some (.int (zI l3)), some (.int (zI z1.1)), none, none, none, none] [.int (zI (zF z1.2 49 2)), .int (zI (256 * l3)), .ref 58] (rd z1.2) _
      refine s_iadd rfl ?_
      refine s_iald rfl (rd_a58 _) h (fun h => ?_)
      show eG _ 164 284 [some (.ref 49), some (.int (zI l1)), some (.int (zI l2)), some (.int (zI l3)), some (.int (zI z1.1)), none, none, none, none] [.int (zI (zA z1.2 58 ((256 * l3) + (zF z1.2 49 2))))] (rd z1.2) _
      refine g_run 1 285 [some (.ref 49), some (.int (zI l1)), some (.int (zI l2)), some (.int (zI l3)), some (.int (zI z1.1)), none, none, none, none] [.int (zI l2), .int (zI (zA z1.2 58 ((256 * l3) + (zF z1.2 49 2))))] (rd z1.2) rfl ?_
      refine s_icmp_gt rfl h (fun h => ?_) (fun h => ?_)
      · show eG _ 164 290 [some (.ref 49), some (.int (zI l1)), some (.int (zI l2)), some (.int (zI l3)), some (.int (zI z1.1)), none, none, none, none] [] (rd z1.2) _
        refine g_run 1 292 [some (.ref 49), some (.int (zI l1)), some (.int (zI l2)), some (.int (zI l3)), some (.int (zI z1.1)), none, none, none, none] [.int (zI z1.1)] (rd z1.2) rfl ?_
        refine s_if_ne rfl h (fun h => ?_) (fun h => ?_)
        · show eG _ 164 298 [some (.ref 49), some (.int (zI l1)), some (.int (zI l2)), some (.int (zI l3)), some (.int (zI z1.1)), none, none, none, none] [] (rd z1.2) _
          refine s_iinc (L' := [some (.ref 49), some (.int (zI l1)), some (.int (zI l2)), some (.int (zI (l3 + 1))), some (.int (zI z1.1)), none, none, none, none]) rfl rfl rfl ?_
          refine g_run 1 71 [some (.ref 49), some (.int (zI l1)), some (.int (zI l2)), some (.int (zI (l3 + 1))), some (.int (zI z1.1)), none, none, none, none] [] (rd z1.2) rfl ?_
          refine g_fgt [false, false, false, false, true, true, true, true, true] ?_
          show eG _ 164 71 [some (.ref 49), some (.int (zI l1)), some (.int (zI l2)), some (.int (zI (l3 + 1))), none, none, none, none, none] [] (rd z1.2) _
          exact ih z1.2 l1 l2 (l3 + 1) h hr hk
        · show eG _ 164 295 [some (.ref 49), some (.int (zI l1)), some (.int (zI l2)), some (.int (zI l3)), some (.int (zI z1.1)), none, none, none, none] [] (rd z1.2) _
          refine g_run 1 297 [some (.ref 49), some (.int (zI l1)), some (.int (zI l2)), some (.int (zI l3)), some (.int (zI z1.1)), none, none, none, none] [.int (zI (-4))] (rd z1.2) rfl ?_
          cases h
          exact s_ret rfl rfl (hr _ rfl)
      · show eG _ 164 288 [some (.ref 49), some (.int (zI l1)), some (.int (zI l2)), some (.int (zI l3)), some (.int (zI z1.1)), none, none, none, none] [] (rd z1.2) _
        refine g_run 1 289 [some (.ref 49), some (.int (zI l1)), some (.int (zI l2)), some (.int (zI l3)), some (.int (zI z1.1)), none, none, none, none] [.int (zI l3)] (rd z1.2) rfl ?_
        cases h
        exact s_ret rfl rfl (hr _ rfl)
def fM_findNeeds (n : Nat) (S : ZS) (l1 l2 : Int) : Option (Int × ZS) := (fM_findSets n S).bind fun z1 => (fM_findNeeds_1 n z1 l1 l2 0).bind fun z2 => gX (zF z2 49 2) 256 (gC (zA z2 59 (zF z2 49 2)) l2 (if l2 < (zA z2 59 (zF z2 49 2)) then zR (fM_findNeeds_2 n z2 l1 l2 1) fun z3 => some (-4, z3) else some (0, z2)))
set_option maxRecDepth 100000 in
set_option maxHeartbeats 4000000 in
theorem sM_findNeeds (o : eO) (n : Nat) (S : ZS) (l1 l2 : Int) {w : Int × ZS} (h : fM_findNeeds n S l1 l2 = some w) : eG o 164 0 (eEnt 164 [.ref 49, .int (zI l1), .int (zI l2)]) [] (rd S) (rv (some (.int (zI w.1))) (rd w.2)) := by
  unfold fM_findNeeds at h
  show eG o 164 0 [some (.ref 49), some (.int (zI l1)), some (.int (zI l2)), none, none, none, none, none, none] [] (rd S) _
  refine g_run 1 1 [some (.ref 49), some (.int (zI l1)), some (.int (zI l2)), none, none, none, none, none, none] [.ref 49] (rd S) rfl ?_
  refine s_vir (fun _ => none) (fun z => rd z) rfl rfl rfl (rd_o49 _) rfl rfl (fun z hz => sM_findSets o n S hz) rfl h (fun z1 h => ?_)
  show eG _ 164 4 [some (.ref 49), some (.int (zI l1)), some (.int (zI l2)), none, none, none, none, none, none] [] (rd z1) _
  refine g_run 2 6 [some (.ref 49), some (.int (zI l1)), some (.int (zI l2)), some (.int (zI 0)), none, none, none, none, none] [] (rd z1) rfl ?_
  obtain ⟨z2, h1, h⟩ := zB_inv h
  refine sM_findNeeds_1 o n z1 l1 l2 0 h1 ?_
  show eG _ 164 54 [some (.ref 49), some (.int (zI l1)), some (.int (zI l2)), none, none, none, none, none, none] [] (rd z2) _
  refine g_run 1 55 [some (.ref 49), some (.int (zI l1)), some (.int (zI l2)), none, none, none, none, none, none] [.ref 49] (rd z2) rfl ?_
  refine g_getf rfl rfl (rd_o49 _) rfl ?_
  show eG _ 164 58 [some (.ref 49), some (.int (zI l1)), some (.int (zI l2)), none, none, none, none, none, none] [.ref 59] (rd z2) _
  refine g_run 1 59 [some (.ref 49), some (.int (zI l1)), some (.int (zI l2)), none, none, none, none, none, none] [.ref 49, .ref 59] (rd z2) rfl ?_
  refine g_getf rfl rfl (rd_o49 _) rfl ?_
  show eG _ 164 62 [some (.ref 49), some (.int (zI l1)), some (.int (zI l2)), none, none, none, none, none, none] [.int (zI (zF z2 49 2)), .ref 59] (rd z2) _
  refine s_iald rfl (rd_a59 _) h (fun h => ?_)
  show eG _ 164 63 [some (.ref 49), some (.int (zI l1)), some (.int (zI l2)), none, none, none, none, none, none] [.int (zI (zA z2 59 (zF z2 49 2)))] (rd z2) _
  refine g_run 1 64 [some (.ref 49), some (.int (zI l1)), some (.int (zI l2)), none, none, none, none, none, none] [.int (zI l2), .int (zI (zA z2 59 (zF z2 49 2)))] (rd z2) rfl ?_
  refine s_icmp_gt rfl h (fun h => ?_) (fun h => ?_)
  · show eG _ 164 69 [some (.ref 49), some (.int (zI l1)), some (.int (zI l2)), none, none, none, none, none, none] [] (rd z2) _
    refine g_run 2 71 [some (.ref 49), some (.int (zI l1)), some (.int (zI l2)), some (.int (zI 1)), none, none, none, none, none] [] (rd z2) rfl ?_
    rcases zR_inv h with h1 | ⟨z3, h1, h⟩
    · exact sM_findNeeds_2 o n z2 l1 l2 1 h1 (fun v e => by cases e; rfl) (fun x e => by cases e)
    refine sM_findNeeds_2 o n z2 l1 l2 1 h1 (fun v e => by cases e) (fun x e => ?_)
    cases e
    show eG _ 164 304 [none, none, none, none, none, none, none, none, none] [] (rd z3) _
    refine g_run 1 306 [none, none, none, none, none, none, none, none, none] [.int (zI (-4))] (rd z3) rfl ?_
    cases h
    exact s_ret rfl rfl rfl
  · show eG _ 164 67 [some (.ref 49), some (.int (zI l1)), some (.int (zI l2)), none, none, none, none, none, none] [] (rd z2) _
    refine g_run 1 68 [some (.ref 49), some (.int (zI l1)), some (.int (zI l2)), none, none, none, none, none, none] [.int (zI 0)] (rd z2) rfl ?_
    cases h
    exact s_ret rfl rfl rfl
def fM_findRow_2 : Nat → ZS → Int → Int → Int → Int → Int → Int → Option (Int)
  | 0, _, _, _, _, _, _, _ => none
  | n + 1, S, l1, l2, l3, l4, l5, l6 => gX (l5 + l6) 65536 (gC (zA S 58 (l5 + l6)) 999 (if 999 < (zA S 58 (l5 + l6)) then fM_findRow_2 n S l1 l2 l3 l4 l5 (l6 + 1) else gX (l5 + l6) 65536 ((fM_needBy n S l2 l6 (zA S 58 (l5 + l6))).bind fun z1 => gC z1 l3 (if l3 < z1 then fM_findRow_2 n S l1 l2 l3 l4 l5 (l6 + 1) else some l6))))
set_option maxRecDepth 100000 in
set_option maxHeartbeats 4000000 in
theorem sM_findRow_2 (o : eO) : ∀ (n : Nat) (S : ZS) (l1 l2 l3 l4 l5 l6 : Int) {w : Int} {r : eP} (h : fM_findRow_2 n S l1 l2 l3 l4 l5 l6 = some w) (hk : eG o 163 89 [some (.ref 49), some (.int (zI l1)), some (.int (zI l2)), some (.int (zI l3)), some (.int (zI l4)), none, some (.int (zI w))] [] (rd S) r), eG o 163 46 [some (.ref 49), some (.int (zI l1)), some (.int (zI l2)), some (.int (zI l3)), some (.int (zI l4)), some (.int (zI l5)), some (.int (zI l6))] [] (rd S) r := by
  intro n
  induction n with
  | zero => intro S l1 l2 l3 l4 l5 l6 w r h hk; unfold fM_findRow_2 at h; cases h
  | succ n ih =>
    intro S l1 l2 l3 l4 l5 l6 w r h hk
    unfold fM_findRow_2 at h
    refine g_run 1 47 [some (.ref 49), some (.int (zI l1)), some (.int (zI l2)), some (.int (zI l3)), some (.int (zI l4)), some (.int (zI l5)), some (.int (zI l6))] [.ref 49] (rd S) rfl ?_
    refine g_getf rfl rfl (rd_o49 _) rfl ?_
    show eG _ 163 50 [some (.ref 49), some (.int (zI l1)), some (.int (zI l2)), some (.int (zI l3)), some (.int (zI l4)), some (.int (zI l5)), some (.int (zI l6))] [.ref 58] (rd S) _
    refine g_run 2 54 [some (.ref 49), some (.int (zI l1)), some (.int (zI l2)), some (.int (zI l3)), some (.int (zI l4)), some (.int (zI l5)), some (.int (zI l6))] [.int (zI l6), .int (zI l5), .ref 58] (rd S) rfl ?_
    refine s_iadd rfl ?_
    refine s_iald rfl (rd_a58 _) h (fun h => ?_)
    show eG _ 163 56 [some (.ref 49), some (.int (zI l1)), some (.int (zI l2)), some (.int (zI l3)), some (.int (zI l4)), some (.int (zI l5)), some (.int (zI l6))] [.int (zI (zA S 58 (l5 + l6)))] (rd S) _
    refine g_run 1 59 [some (.ref 49), some (.int (zI l1)), some (.int (zI l2)), some (.int (zI l3)), some (.int (zI l4)), some (.int (zI l5)), some (.int (zI l6))] [.int (zI 999), .int (zI (zA S 58 (l5 + l6)))] (rd S) rfl ?_
    refine s_icmp_gt rfl h (fun h => ?_) (fun h => ?_)
    · show eG _ 163 83 [some (.ref 49), some (.int (zI l1)), some (.int (zI l2)), some (.int (zI l3)), some (.int (zI l4)), some (.int (zI l5)), some (.int (zI l6))] [] (rd S) _
      refine s_iinc (L' := [some (.ref 49), some (.int (zI l1)), some (.int (zI l2)), some (.int (zI l3)), some (.int (zI l4)), some (.int (zI l5)), some (.int (zI (l6 + 1)))]) rfl rfl rfl ?_
      refine g_run 1 46 [some (.ref 49), some (.int (zI l1)), some (.int (zI l2)), some (.int (zI l3)), some (.int (zI l4)), some (.int (zI l5)), some (.int (zI (l6 + 1)))] [] (rd S) rfl ?_
      exact ih S l1 l2 l3 l4 l5 (l6 + 1) h hk
    · show eG _ 163 62 [some (.ref 49), some (.int (zI l1)), some (.int (zI l2)), some (.int (zI l3)), some (.int (zI l4)), some (.int (zI l5)), some (.int (zI l6))] [] (rd S) _
      refine g_run 4 67 [some (.ref 49), some (.int (zI l1)), some (.int (zI l2)), some (.int (zI l3)), some (.int (zI l4)), some (.int (zI l5)), some (.int (zI l6))] [.ref 49, .int (zI l6), .int (zI l2), .ref 49] (rd S) rfl ?_
      refine g_getf rfl rfl (rd_o49 _) rfl ?_
      show eG _ 163 70 [some (.ref 49), some (.int (zI l1)), some (.int (zI l2)), some (.int (zI l3)), some (.int (zI l4)), some (.int (zI l5)), some (.int (zI l6))] [.ref 58, .int (zI l6), .int (zI l2), .ref 49] (rd S) _
      refine g_run 2 74 [some (.ref 49), some (.int (zI l1)), some (.int (zI l2)), some (.int (zI l3)), some (.int (zI l4)), some (.int (zI l5)), some (.int (zI l6))] [.int (zI l6), .int (zI l5), .ref 58, .int (zI l6), .int (zI l2), .ref 49] (rd S) rfl ?_
      refine s_iadd rfl ?_
      refine s_iald rfl (rd_a58 _) h (fun h => ?_)
      show eG _ 163 76 [some (.ref 49), some (.int (zI l1)), some (.int (zI l2)), some (.int (zI l3)), some (.int (zI l4)), some (.int (zI l5)), some (.int (zI l6))] [.int (zI (zA S 58 (l5 + l6))), .int (zI l6), .int (zI l2), .ref 49] (rd S) _
      refine s_vir (fun z => some (.int (zI z))) (fun _ => rd S) rfl rfl rfl (rd_o49 _) rfl rfl (fun z hz => sM_needBy o n S l2 l6 (zA S 58 (l5 + l6)) hz) rfl h (fun z1 h => ?_)
      show eG _ 163 79 [some (.ref 49), some (.int (zI l1)), some (.int (zI l2)), some (.int (zI l3)), some (.int (zI l4)), some (.int (zI l5)), some (.int (zI l6))] [.int (zI z1)] (rd S) _
      refine g_run 1 80 [some (.ref 49), some (.int (zI l1)), some (.int (zI l2)), some (.int (zI l3)), some (.int (zI l4)), some (.int (zI l5)), some (.int (zI l6))] [.int (zI l3), .int (zI z1)] (rd S) rfl ?_
      refine s_icmp_le rfl h (fun h => ?_) (fun h => ?_)
      · show eG _ 163 89 [some (.ref 49), some (.int (zI l1)), some (.int (zI l2)), some (.int (zI l3)), some (.int (zI l4)), some (.int (zI l5)), some (.int (zI l6))] [] (rd S) _
        refine g_fgt [false, false, false, false, false, true, false] ?_
        show eG _ 163 89 [some (.ref 49), some (.int (zI l1)), some (.int (zI l2)), some (.int (zI l3)), some (.int (zI l4)), none, some (.int (zI l6))] [] (rd S) _
        cases h
        exact hk
      · show eG _ 163 83 [some (.ref 49), some (.int (zI l1)), some (.int (zI l2)), some (.int (zI l3)), some (.int (zI l4)), some (.int (zI l5)), some (.int (zI l6))] [] (rd S) _
        refine s_iinc (L' := [some (.ref 49), some (.int (zI l1)), some (.int (zI l2)), some (.int (zI l3)), some (.int (zI l4)), some (.int (zI l5)), some (.int (zI (l6 + 1)))]) rfl rfl rfl ?_
        refine g_run 1 46 [some (.ref 49), some (.int (zI l1)), some (.int (zI l2)), some (.int (zI l3)), some (.int (zI l4)), some (.int (zI l5)), some (.int (zI (l6 + 1)))] [] (rd S) rfl ?_
        exact ih S l1 l2 l3 l4 l5 (l6 + 1) h hk
def fM_findRow_1 : Nat → ZS → Int → Int → Int → Int → Option (ZS)
  | 0, _, _, _, _, _ => none
  | n + 1, S, l1, l2, l3, l4 => gC l4 l1 (if l4 < l1 then (fM_findRow_2 n S l1 l2 l3 l4 (256 * ((l1 - l4) - 1)) 0).bind fun z1 => (fM_moreBy n S (zand l2 (zxor z1 (-1))) (zand z1 (zxor l2 (-1)))).bind fun z2 => (fM_most n S (l3 + z2)).bind fun z3 => gX l4 256 (fM_findRow_1 n (wA S 60 l4 z1) l1 z1 z3 (l4 + 1)) else some S)
set_option maxRecDepth 100000 in
set_option maxHeartbeats 4000000 in
theorem sM_findRow_1 (o : eO) : ∀ (n : Nat) (S : ZS) (l1 l2 l3 l4 : Int) {w : ZS} {r : eP} (h : fM_findRow_1 n S l1 l2 l3 l4 = some w) (hk : eG o 163 128 [none, some (.int (zI l1)), none, none, none, none, none] [] (rd w) r), eG o 163 25 [some (.ref 49), some (.int (zI l1)), some (.int (zI l2)), some (.int (zI l3)), some (.int (zI l4)), none, none] [] (rd S) r := by
  intro n
  induction n with
  | zero => intro S l1 l2 l3 l4 w r h hk; unfold fM_findRow_1 at h; cases h
  | succ n ih =>
    intro S l1 l2 l3 l4 w r h hk
    unfold fM_findRow_1 at h
    refine g_run 2 28 [some (.ref 49), some (.int (zI l1)), some (.int (zI l2)), some (.int (zI l3)), some (.int (zI l4)), none, none] [.int (zI l1), .int (zI l4)] (rd S) rfl ?_
    refine s_icmp_ge rfl h (fun h => ?_) (fun h => ?_)
    · show eG _ 163 128 [some (.ref 49), some (.int (zI l1)), some (.int (zI l2)), some (.int (zI l3)), some (.int (zI l4)), none, none] [] (rd S) _
      refine g_fgt [true, false, true, true, true, true, true] ?_
      show eG _ 163 128 [none, some (.int (zI l1)), none, none, none, none, none] [] (rd S) _
      cases h
      exact hk
    · show eG _ 163 31 [some (.ref 49), some (.int (zI l1)), some (.int (zI l2)), some (.int (zI l3)), some (.int (zI l4)), none, none] [] (rd S) _
      refine g_run 3 37 [some (.ref 49), some (.int (zI l1)), some (.int (zI l2)), some (.int (zI l3)), some (.int (zI l4)), none, none] [.int (zI l4), .int (zI l1), .int (zI 256)] (rd S) rfl ?_
      refine s_isub rfl ?_
      refine g_run 1 39 [some (.ref 49), some (.int (zI l1)), some (.int (zI l2)), some (.int (zI l3)), some (.int (zI l4)), none, none] [.int (zI 1), .int (zI (l1 - l4)), .int (zI 256)] (rd S) rfl ?_
      refine s_isub rfl ?_
      refine s_imul rfl ?_
      refine g_run 3 46 [some (.ref 49), some (.int (zI l1)), some (.int (zI l2)), some (.int (zI l3)), some (.int (zI l4)), some (.int (zI (256 * ((l1 - l4) - 1)))), some (.int (zI 0))] [] (rd S) rfl ?_
      obtain ⟨z1, h1, h⟩ := zB_inv h
      refine sM_findRow_2 o n S l1 l2 l3 l4 (256 * ((l1 - l4) - 1)) 0 h1 ?_
      show eG _ 163 89 [some (.ref 49), some (.int (zI l1)), some (.int (zI l2)), some (.int (zI l3)), some (.int (zI l4)), none, some (.int (zI z1))] [] (rd S) _
      refine g_run 5 95 [some (.ref 49), some (.int (zI l1)), some (.int (zI l2)), some (.int (zI l3)), some (.int (zI l4)), none, some (.int (zI z1))] [.int (zI (-1)), .int (zI z1), .int (zI l2), .ref 49, .int (zI l3)] (rd S) rfl ?_
      refine s_ixor rfl ?_
      refine s_iand rfl ?_
      refine g_run 3 101 [some (.ref 49), some (.int (zI l1)), some (.int (zI l2)), some (.int (zI l3)), some (.int (zI l4)), none, some (.int (zI z1))] [.int (zI (-1)), .int (zI l2), .int (zI z1), .int (zI (zand l2 (zxor z1 (-1)))), .ref 49, .int (zI l3)] (rd S) rfl ?_
      refine s_ixor rfl ?_
      refine s_iand rfl ?_
      refine s_vir (fun z => some (.int (zI z))) (fun _ => rd S) rfl rfl rfl (rd_o49 _) rfl rfl (fun z hz => sM_moreBy o n S (zand l2 (zxor z1 (-1))) (zand z1 (zxor l2 (-1))) hz) rfl h (fun z2 h => ?_)
      show eG _ 163 106 [some (.ref 49), some (.int (zI l1)), some (.int (zI l2)), some (.int (zI l3)), some (.int (zI l4)), none, some (.int (zI z1))] [.int (zI z2), .int (zI l3)] (rd S) _
      refine s_iadd rfl ?_
      refine s_sta (fun z => some (.int (zI z))) (fun _ => rd S) rfl rfl rfl rfl rfl rfl rfl (fun z hz => sM_most o n S (l3 + z2) hz) rfl h (fun z3 h => ?_)
      show eG _ 163 110 [some (.ref 49), some (.int (zI l1)), some (.int (zI l2)), some (.int (zI l3)), some (.int (zI l4)), none, some (.int (zI z1))] [.int (zI z3)] (rd S) _
      refine g_run 4 115 [some (.ref 49), some (.int (zI l1)), some (.int (zI z1)), some (.int (zI z3)), some (.int (zI l4)), none, some (.int (zI z1))] [.ref 49] (rd S) rfl ?_
      refine g_getf rfl rfl (rd_o49 _) rfl ?_
      show eG _ 163 118 [some (.ref 49), some (.int (zI l1)), some (.int (zI z1)), some (.int (zI z3)), some (.int (zI l4)), none, some (.int (zI z1))] [.ref 60] (rd S) _
      refine g_run 2 121 [some (.ref 49), some (.int (zI l1)), some (.int (zI z1)), some (.int (zI z3)), some (.int (zI l4)), none, some (.int (zI z1))] [.int (zI z1), .int (zI l4), .ref 60] (rd S) rfl ?_
      refine s_iast rfl (rd_a60 _) (rw_a60 _ _) h (fun h => ?_)
      show eG _ 163 122 [some (.ref 49), some (.int (zI l1)), some (.int (zI z1)), some (.int (zI z3)), some (.int (zI l4)), none, some (.int (zI z1))] [] (rd (wA S 60 l4 z1)) _
      refine s_iinc (L' := [some (.ref 49), some (.int (zI l1)), some (.int (zI z1)), some (.int (zI z3)), some (.int (zI (l4 + 1))), none, some (.int (zI z1))]) rfl rfl rfl ?_
      refine g_run 1 25 [some (.ref 49), some (.int (zI l1)), some (.int (zI z1)), some (.int (zI z3)), some (.int (zI (l4 + 1))), none, some (.int (zI z1))] [] (rd (wA S 60 l4 z1)) rfl ?_
      refine g_fgt [false, false, false, false, false, true, true] ?_
      show eG _ 163 25 [some (.ref 49), some (.int (zI l1)), some (.int (zI z1)), some (.int (zI z3)), some (.int (zI (l4 + 1))), none, none] [] (rd (wA S 60 l4 z1)) _
      exact ih (wA S 60 l4 z1) l1 z1 z3 (l4 + 1) h hk
def fM_findRow (n : Nat) (S : ZS) : Option (Int × ZS) := (fM_findNeeds n S 255 (zF S 49 4)).bind fun z1 => (fM_findRow_1 n z1.2 z1.1 (zF z1.2 49 2) (zF z1.2 49 4) 0).bind fun z2 => some (z1.1, z2)
set_option maxRecDepth 100000 in
set_option maxHeartbeats 4000000 in
theorem sM_findRow (o : eO) (n : Nat) (S : ZS) {w : Int × ZS} (h : fM_findRow n S = some w) : eG o 163 0 (eEnt 163 [.ref 49]) [] (rd S) (rv (some (.int (zI w.1))) (rd w.2)) := by
  unfold fM_findRow at h
  show eG o 163 0 [some (.ref 49), none, none, none, none, none, none] [] (rd S) _
  refine g_run 3 5 [some (.ref 49), none, none, none, none, none, none] [.ref 49, .int (zI 255), .ref 49] (rd S) rfl ?_
  refine g_getf rfl rfl (rd_o49 _) rfl ?_
  show eG _ 163 8 [some (.ref 49), none, none, none, none, none, none] [.int (zI (zF S 49 4)), .int (zI 255), .ref 49] (rd S) _
  refine s_vir (fun z => some (.int (zI z.1))) (fun z => rd z.2) rfl rfl rfl (rd_o49 _) rfl rfl (fun z hz => sM_findNeeds o n S 255 (zF S 49 4) hz) rfl h (fun z1 h => ?_)
  show eG _ 163 11 [some (.ref 49), none, none, none, none, none, none] [.int (zI z1.1)] (rd z1.2) _
  refine g_run 2 13 [some (.ref 49), some (.int (zI z1.1)), none, none, none, none, none] [.ref 49] (rd z1.2) rfl ?_
  refine g_getf rfl rfl (rd_o49 _) rfl ?_
  show eG _ 163 16 [some (.ref 49), some (.int (zI z1.1)), none, none, none, none, none] [.int (zI (zF z1.2 49 2))] (rd z1.2) _
  refine g_run 2 18 [some (.ref 49), some (.int (zI z1.1)), some (.int (zI (zF z1.2 49 2))), none, none, none, none] [.ref 49] (rd z1.2) rfl ?_
  refine g_getf rfl rfl (rd_o49 _) rfl ?_
  show eG _ 163 21 [some (.ref 49), some (.int (zI z1.1)), some (.int (zI (zF z1.2 49 2))), none, none, none, none] [.int (zI (zF z1.2 49 4))] (rd z1.2) _
  refine g_run 3 25 [some (.ref 49), some (.int (zI z1.1)), some (.int (zI (zF z1.2 49 2))), some (.int (zI (zF z1.2 49 4))), some (.int (zI 0)), none, none] [] (rd z1.2) rfl ?_
  obtain ⟨z2, h1, h⟩ := zB_inv h
  refine sM_findRow_1 o n z1.2 z1.1 (zF z1.2 49 2) (zF z1.2 49 4) 0 h1 ?_
  show eG _ 163 128 [none, some (.int (zI z1.1)), none, none, none, none, none] [] (rd z2) _
  refine g_run 1 129 [none, some (.int (zI z1.1)), none, none, none, none, none] [.int (zI z1.1)] (rd z2) rfl ?_
  cases h
  exact s_ret rfl rfl rfl
def fM_can (n : Nat) (S : ZS) (l1 : Int) : Option (Int × ZS) := gC l1 0 ((fM_in n S l1 (-1) 255).bind fun z1 => gC z1 0 (if z1 = 0 then some (-1, S) else (fM_findRow n S).bind fun z2 => gC z2.1 0 (if z2.1 < 0 then some (-4, z2.2) else gC l1 z2.1 (if l1 < z2.1 then gC l1 0 (if l1 < 0 then some (z2.1, z2.2) else gX l1 256 (some (zA z2.2 60 l1, z2.2))) else some (-4, z2.2)))))
set_option maxRecDepth 100000 in
set_option maxHeartbeats 4000000 in
theorem sM_can (o : eO) (n : Nat) (S : ZS) (l1 : Int) {w : Int × ZS} (h : fM_can n S l1 = some w) : eG o 162 0 (eEnt 162 [.ref 49, .int (zI l1)]) [] (rd S) (rv (some (.int (zI w.1))) (rd w.2)) := by
  unfold fM_can at h
  show eG o 162 0 [some (.ref 49), some (.int (zI l1)), none] [] (rd S) _
  refine g_run 1 1 [some (.ref 49), some (.int (zI l1)), none] [.int (zI l1)] (rd S) rfl ?_
  refine s_i2l rfl h (fun h => ?_)
  refine g_run 2 8 [some (.ref 49), some (.int (zI l1)), none] [.long (zL 255), .long (zL (-1)), .long (zL l1)] (rd S) rfl ?_
  refine s_sta (fun z => some (.int (zI z))) (fun _ => rd S) rfl rfl rfl rfl rfl rfl rfl (fun z hz => sM_in o n S l1 (-1) 255 hz) rfl h (fun z1 h => ?_)
  show eG _ 162 11 [some (.ref 49), some (.int (zI l1)), none] [.int (zI z1)] (rd S) _
  refine s_if_ne rfl h (fun h => ?_) (fun h => ?_)
  · show eG _ 162 16 [some (.ref 49), some (.int (zI l1)), none] [] (rd S) _
    refine g_run 1 17 [some (.ref 49), some (.int (zI l1)), none] [.ref 49] (rd S) rfl ?_
    refine s_vir (fun z => some (.int (zI z.1))) (fun z => rd z.2) rfl rfl rfl (rd_o49 _) rfl rfl (fun z hz => sM_findRow o n S hz) rfl h (fun z2 h => ?_)
    show eG _ 162 20 [some (.ref 49), some (.int (zI l1)), none] [.int (zI z2.1)] (rd z2.2) _
    refine g_run 2 22 [some (.ref 49), some (.int (zI l1)), some (.int (zI z2.1))] [.int (zI z2.1)] (rd z2.2) rfl ?_
    refine s_if_lt rfl h (fun h => ?_) (fun h => ?_)
    · show eG _ 162 30 [some (.ref 49), some (.int (zI l1)), some (.int (zI z2.1))] [] (rd z2.2) _
      refine g_run 2 49 [some (.ref 49), some (.int (zI l1)), some (.int (zI z2.1))] [.int (zI (-4))] (rd z2.2) rfl ?_
      cases h
      exact s_ret rfl rfl rfl
    · show eG _ 162 25 [some (.ref 49), some (.int (zI l1)), some (.int (zI z2.1))] [] (rd z2.2) _
      refine g_run 2 27 [some (.ref 49), some (.int (zI l1)), some (.int (zI z2.1))] [.int (zI z2.1), .int (zI l1)] (rd z2.2) rfl ?_
      refine s_icmp_lt rfl h (fun h => ?_) (fun h => ?_)
      · show eG _ 162 35 [some (.ref 49), some (.int (zI l1)), some (.int (zI z2.1))] [] (rd z2.2) _
        refine g_run 1 36 [some (.ref 49), some (.int (zI l1)), some (.int (zI z2.1))] [.int (zI l1)] (rd z2.2) rfl ?_
        refine s_if_ge rfl h (fun h => ?_) (fun h => ?_)
        · show eG _ 162 43 [some (.ref 49), some (.int (zI l1)), some (.int (zI z2.1))] [] (rd z2.2) _
          refine g_run 1 44 [some (.ref 49), some (.int (zI l1)), some (.int (zI z2.1))] [.ref 49] (rd z2.2) rfl ?_
          refine g_getf rfl rfl (rd_o49 _) rfl ?_
          show eG _ 162 47 [some (.ref 49), some (.int (zI l1)), some (.int (zI z2.1))] [.ref 60] (rd z2.2) _
          refine g_run 1 48 [some (.ref 49), some (.int (zI l1)), some (.int (zI z2.1))] [.int (zI l1), .ref 60] (rd z2.2) rfl ?_
          refine s_iald rfl (rd_a60 _) h (fun h => ?_)
          show eG _ 162 49 [some (.ref 49), some (.int (zI l1)), some (.int (zI z2.1))] [.int (zI (zA z2.2 60 l1))] (rd z2.2) _
          cases h
          exact s_ret rfl rfl rfl
        · show eG _ 162 39 [some (.ref 49), some (.int (zI l1)), some (.int (zI z2.1))] [] (rd z2.2) _
          refine g_run 2 49 [some (.ref 49), some (.int (zI l1)), some (.int (zI z2.1))] [.int (zI z2.1)] (rd z2.2) rfl ?_
          cases h
          exact s_ret rfl rfl rfl
      · show eG _ 162 30 [some (.ref 49), some (.int (zI l1)), some (.int (zI z2.1))] [] (rd z2.2) _
        refine g_run 2 49 [some (.ref 49), some (.int (zI l1)), some (.int (zI z2.1))] [.int (zI (-4))] (rd z2.2) rfl ?_
        cases h
        exact s_ret rfl rfl rfl
  · show eG _ 162 14 [some (.ref 49), some (.int (zI l1)), none] [] (rd S) _
    refine g_run 1 15 [some (.ref 49), some (.int (zI l1)), none] [.int (zI (-1))] (rd S) rfl ?_
    cases h
    exact s_ret rfl rfl rfl
def fM_more (n : Nat) (S : ZS) : Option (Int × ZS) := (fM_findNeeds n S 255 (-1)).bind fun z1 => gX (zF z1.2 49 2) 256 (gC z1.1 0 (if z1.1 < 0 then gC (zA z1.2 59 (zF z1.2 49 2)) 999 (if 999 < (zA z1.2 59 (zF z1.2 49 2)) then some (-4, z1.2) else gC (zA z1.2 59 (zF z1.2 49 2)) (zF z1.2 49 4) (if (zF z1.2 49 4) < (zA z1.2 59 (zF z1.2 49 2)) then some ((zA z1.2 59 (zF z1.2 49 2)) - (zF z1.2 49 4), z1.2) else some (0, z1.2))) else some (-4, z1.2)))
set_option maxRecDepth 100000 in
set_option maxHeartbeats 4000000 in
theorem sM_more (o : eO) (n : Nat) (S : ZS) {w : Int × ZS} (h : fM_more n S = some w) : eG o 167 0 (eEnt 167 [.ref 49]) [] (rd S) (rv (some (.int (zI w.1))) (rd w.2)) := by
  unfold fM_more at h
  show eG o 167 0 [some (.ref 49), none, none] [] (rd S) _
  refine g_run 3 5 [some (.ref 49), none, none] [.int (zI (-1)), .int (zI 255), .ref 49] (rd S) rfl ?_
  refine s_vir (fun z => some (.int (zI z.1))) (fun z => rd z.2) rfl rfl rfl (rd_o49 _) rfl rfl (fun z hz => sM_findNeeds o n S 255 (-1) hz) rfl h (fun z1 h => ?_)
  show eG _ 167 8 [some (.ref 49), none, none] [.int (zI z1.1)] (rd z1.2) _
  refine g_run 2 10 [some (.ref 49), some (.int (zI z1.1)), none] [.ref 49] (rd z1.2) rfl ?_
  refine g_getf rfl rfl (rd_o49 _) rfl ?_
  show eG _ 167 13 [some (.ref 49), some (.int (zI z1.1)), none] [.ref 59] (rd z1.2) _
  refine g_run 1 14 [some (.ref 49), some (.int (zI z1.1)), none] [.ref 49, .ref 59] (rd z1.2) rfl ?_
  refine g_getf rfl rfl (rd_o49 _) rfl ?_
  show eG _ 167 17 [some (.ref 49), some (.int (zI z1.1)), none] [.int (zI (zF z1.2 49 2)), .ref 59] (rd z1.2) _
  refine s_iald rfl (rd_a59 _) h (fun h => ?_)
  show eG _ 167 18 [some (.ref 49), some (.int (zI z1.1)), none] [.int (zI (zA z1.2 59 (zF z1.2 49 2)))] (rd z1.2) _
  refine g_run 2 20 [some (.ref 49), some (.int (zI z1.1)), some (.int (zI (zA z1.2 59 (zF z1.2 49 2))))] [.int (zI z1.1)] (rd z1.2) rfl ?_
  refine s_if_ge rfl h (fun h => ?_) (fun h => ?_)
  · show eG _ 167 30 [some (.ref 49), some (.int (zI z1.1)), some (.int (zI (zA z1.2 59 (zF z1.2 49 2))))] [] (rd z1.2) _
    refine g_run 2 53 [some (.ref 49), some (.int (zI z1.1)), some (.int (zI (zA z1.2 59 (zF z1.2 49 2))))] [.int (zI (-4))] (rd z1.2) rfl ?_
    cases h
    exact s_ret rfl rfl rfl
  · show eG _ 167 23 [some (.ref 49), some (.int (zI z1.1)), some (.int (zI (zA z1.2 59 (zF z1.2 49 2))))] [] (rd z1.2) _
    refine g_run 2 27 [some (.ref 49), some (.int (zI z1.1)), some (.int (zI (zA z1.2 59 (zF z1.2 49 2))))] [.int (zI 999), .int (zI (zA z1.2 59 (zF z1.2 49 2)))] (rd z1.2) rfl ?_
    refine s_icmp_le rfl h (fun h => ?_) (fun h => ?_)
    · show eG _ 167 35 [some (.ref 49), some (.int (zI z1.1)), some (.int (zI (zA z1.2 59 (zF z1.2 49 2))))] [] (rd z1.2) _
      refine g_run 2 37 [some (.ref 49), some (.int (zI z1.1)), some (.int (zI (zA z1.2 59 (zF z1.2 49 2))))] [.ref 49, .int (zI (zA z1.2 59 (zF z1.2 49 2)))] (rd z1.2) rfl ?_
      refine g_getf rfl rfl (rd_o49 _) rfl ?_
      show eG _ 167 40 [some (.ref 49), some (.int (zI z1.1)), some (.int (zI (zA z1.2 59 (zF z1.2 49 2))))] [.int (zI (zF z1.2 49 4)), .int (zI (zA z1.2 59 (zF z1.2 49 2)))] (rd z1.2) _
      refine s_icmp_le rfl h (fun h => ?_) (fun h => ?_)
      · show eG _ 167 52 [some (.ref 49), some (.int (zI z1.1)), some (.int (zI (zA z1.2 59 (zF z1.2 49 2))))] [] (rd z1.2) _
        refine g_run 1 53 [some (.ref 49), some (.int (zI z1.1)), some (.int (zI (zA z1.2 59 (zF z1.2 49 2))))] [.int (zI 0)] (rd z1.2) rfl ?_
        cases h
        exact s_ret rfl rfl rfl
      · show eG _ 167 43 [some (.ref 49), some (.int (zI z1.1)), some (.int (zI (zA z1.2 59 (zF z1.2 49 2))))] [] (rd z1.2) _
        refine g_run 2 45 [some (.ref 49), some (.int (zI z1.1)), some (.int (zI (zA z1.2 59 (zF z1.2 49 2))))] [.ref 49, .int (zI (zA z1.2 59 (zF z1.2 49 2)))] (rd z1.2) rfl ?_
        refine g_getf rfl rfl (rd_o49 _) rfl ?_
        show eG _ 167 48 [some (.ref 49), some (.int (zI z1.1)), some (.int (zI (zA z1.2 59 (zF z1.2 49 2))))] [.int (zI (zF z1.2 49 4)), .int (zI (zA z1.2 59 (zF z1.2 49 2)))] (rd z1.2) _
        refine s_isub rfl ?_
        refine g_run 1 53 [some (.ref 49), some (.int (zI z1.1)), some (.int (zI (zA z1.2 59 (zF z1.2 49 2))))] [.int (zI ((zA z1.2 59 (zF z1.2 49 2)) - (zF z1.2 49 4)))] (rd z1.2) rfl ?_
        cases h
        exact s_ret rfl rfl rfl
    · show eG _ 167 30 [some (.ref 49), some (.int (zI z1.1)), some (.int (zI (zA z1.2 59 (zF z1.2 49 2))))] [] (rd z1.2) _
      refine g_run 2 53 [some (.ref 49), some (.int (zI z1.1)), some (.int (zI (zA z1.2 59 (zF z1.2 49 2))))] [.int (zI (-4))] (rd z1.2) rfl ?_
      cases h
      exact s_ret rfl rfl rfl
def fM_placeOf (n : Nat) (S : ZS) (l1 : Int) : Option (Int) := gC l1 8 (if l1 = 8 then some 0 else gX ((5 * l1) + 2) 40 (some (zA S 50 ((5 * l1) + 2))))
set_option maxRecDepth 100000 in
set_option maxHeartbeats 4000000 in
theorem sM_placeOf (o : eO) (n : Nat) (S : ZS) (l1 : Int) {w : Int} (h : fM_placeOf n S l1 = some w) : eG o 171 0 (eEnt 171 [.ref 49, .int (zI l1)]) [] (rd S) (rv (some (.int (zI w))) (rd S)) := by
  unfold fM_placeOf at h
  show eG o 171 0 [some (.ref 49), some (.int (zI l1))] [] (rd S) _
  refine g_run 2 3 [some (.ref 49), some (.int (zI l1))] [.int (zI 8), .int (zI l1)] (rd S) rfl ?_
  refine s_icmp_ne rfl h (fun h => ?_) (fun h => ?_)
  · show eG _ 171 10 [some (.ref 49), some (.int (zI l1))] [] (rd S) _
    refine g_run 1 11 [some (.ref 49), some (.int (zI l1))] [.ref 49] (rd S) rfl ?_
    refine g_getf rfl rfl (rd_o49 _) rfl ?_
    show eG _ 171 14 [some (.ref 49), some (.int (zI l1))] [.ref 50] (rd S) _
    refine g_run 2 16 [some (.ref 49), some (.int (zI l1))] [.int (zI l1), .int (zI 5), .ref 50] (rd S) rfl ?_
    refine s_imul rfl ?_
    refine g_run 1 18 [some (.ref 49), some (.int (zI l1))] [.int (zI 2), .int (zI (5 * l1)), .ref 50] (rd S) rfl ?_
    refine s_iadd rfl ?_
    refine s_iald rfl (rd_a50 _) h (fun h => ?_)
    show eG _ 171 20 [some (.ref 49), some (.int (zI l1))] [.int (zI (zA S 50 ((5 * l1) + 2)))] (rd S) _
    cases h
    exact s_ret rfl rfl rfl
  · show eG _ 171 6 [some (.ref 49), some (.int (zI l1))] [] (rd S) _
    refine g_run 2 20 [some (.ref 49), some (.int (zI l1))] [.int (zI 0)] (rd S) rfl ?_
    cases h
    exact s_ret rfl rfl rfl
def fM_apart (n : Nat) (S : ZS) (l1 l2 : Int) : Option (Int) := (fM_placeOf n S l1).bind fun z1 => gX ((5 * l2) + 2) 40 (gC (z1 - (zA S 50 ((5 * l2) + 2))) 0 (if (z1 - (zA S 50 ((5 * l2) + 2))) < 0 then some (-(z1 - (zA S 50 ((5 * l2) + 2)))) else some (z1 - (zA S 50 ((5 * l2) + 2)))))
set_option maxRecDepth 100000 in
set_option maxHeartbeats 4000000 in
theorem sM_apart (o : eO) (n : Nat) (S : ZS) (l1 l2 : Int) {w : Int} (h : fM_apart n S l1 l2 = some w) : eG o 170 0 (eEnt 170 [.ref 49, .int (zI l1), .int (zI l2)]) [] (rd S) (rv (some (.int (zI w))) (rd S)) := by
  unfold fM_apart at h
  show eG o 170 0 [some (.ref 49), some (.int (zI l1)), some (.int (zI l2)), none] [] (rd S) _
  refine g_run 2 2 [some (.ref 49), some (.int (zI l1)), some (.int (zI l2)), none] [.int (zI l1), .ref 49] (rd S) rfl ?_
  refine s_vir (fun z => some (.int (zI z))) (fun _ => rd S) rfl rfl rfl (rd_o49 _) rfl rfl (fun z hz => sM_placeOf o n S l1 hz) rfl h (fun z1 h => ?_)
  show eG _ 170 5 [some (.ref 49), some (.int (zI l1)), some (.int (zI l2)), none] [.int (zI z1)] (rd S) _
  refine g_run 1 6 [some (.ref 49), some (.int (zI l1)), some (.int (zI l2)), none] [.ref 49, .int (zI z1)] (rd S) rfl ?_
  refine g_getf rfl rfl (rd_o49 _) rfl ?_
  show eG _ 170 9 [some (.ref 49), some (.int (zI l1)), some (.int (zI l2)), none] [.ref 50, .int (zI z1)] (rd S) _
  refine g_run 2 11 [some (.ref 49), some (.int (zI l1)), some (.int (zI l2)), none] [.int (zI l2), .int (zI 5), .ref 50, .int (zI z1)] (rd S) rfl ?_
  refine s_imul rfl ?_
  refine g_run 1 13 [some (.ref 49), some (.int (zI l1)), some (.int (zI l2)), none] [.int (zI 2), .int (zI (5 * l2)), .ref 50, .int (zI z1)] (rd S) rfl ?_
  refine s_iadd rfl ?_
  refine s_iald rfl (rd_a50 _) h (fun h => ?_)
  show eG _ 170 15 [some (.ref 49), some (.int (zI l1)), some (.int (zI l2)), none] [.int (zI (zA S 50 ((5 * l2) + 2))), .int (zI z1)] (rd S) _
  refine s_isub rfl ?_
  refine g_run 2 18 [some (.ref 49), some (.int (zI l1)), some (.int (zI l2)), some (.int (zI (z1 - (zA S 50 ((5 * l2) + 2)))))] [.int (zI (z1 - (zA S 50 ((5 * l2) + 2))))] (rd S) rfl ?_
  refine s_if_ge rfl h (fun h => ?_) (fun h => ?_)
  · show eG _ 170 26 [some (.ref 49), some (.int (zI l1)), some (.int (zI l2)), some (.int (zI (z1 - (zA S 50 ((5 * l2) + 2)))))] [] (rd S) _
    refine g_run 1 27 [some (.ref 49), some (.int (zI l1)), some (.int (zI l2)), some (.int (zI (z1 - (zA S 50 ((5 * l2) + 2)))))] [.int (zI (z1 - (zA S 50 ((5 * l2) + 2))))] (rd S) rfl ?_
    cases h
    exact s_ret rfl rfl rfl
  · show eG _ 170 21 [some (.ref 49), some (.int (zI l1)), some (.int (zI l2)), some (.int (zI (z1 - (zA S 50 ((5 * l2) + 2)))))] [] (rd S) _
    refine g_run 1 22 [some (.ref 49), some (.int (zI l1)), some (.int (zI l2)), some (.int (zI (z1 - (zA S 50 ((5 * l2) + 2)))))] [.int (zI (z1 - (zA S 50 ((5 * l2) + 2))))] (rd S) rfl ?_
    refine s_ineg rfl ?_
    refine g_run 1 27 [some (.ref 49), some (.int (zI l1)), some (.int (zI l2)), some (.int (zI (z1 - (zA S 50 ((5 * l2) + 2)))))] [.int (zI (-(z1 - (zA S 50 ((5 * l2) + 2)))))] (rd S) rfl ?_
    cases h
    exact s_ret rfl rfl rfl
def fM_tryNode (n : Nat) (S : ZS) (l1 l2 l3 : Int) : Option (Int × ZS) := gX l1 17 (gC l2 (zA S 64 l1) (if l2 < (zA S 64 l1) then gX l1 17 (gX l1 17 (gB 1 (some (1, wA (wA S 64 l1 l2) 65 l1 l3)))) else gB 0 (some (0, S))))
set_option maxRecDepth 100000 in
set_option maxHeartbeats 4000000 in
theorem sM_tryNode (o : eO) (n : Nat) (S : ZS) (l1 l2 l3 : Int) {w : Int × ZS} (h : fM_tryNode n S l1 l2 l3 = some w) : eG o 172 0 (eEnt 172 [.ref 49, .int (zI l1), .int (zI l2), .int (zI l3)]) [] (rd S) (rv (some (.int (zI w.1))) (rd w.2)) := by
  unfold fM_tryNode at h
  show eG o 172 0 [some (.ref 49), some (.int (zI l1)), some (.int (zI l2)), some (.int (zI l3))] [] (rd S) _
  refine g_run 2 2 [some (.ref 49), some (.int (zI l1)), some (.int (zI l2)), some (.int (zI l3))] [.ref 49, .int (zI l2)] (rd S) rfl ?_
  refine g_getf rfl rfl (rd_o49 _) rfl ?_
  show eG _ 172 5 [some (.ref 49), some (.int (zI l1)), some (.int (zI l2)), some (.int (zI l3))] [.ref 64, .int (zI l2)] (rd S) _
  refine g_run 1 6 [some (.ref 49), some (.int (zI l1)), some (.int (zI l2)), some (.int (zI l3))] [.int (zI l1), .ref 64, .int (zI l2)] (rd S) rfl ?_
  refine s_iald rfl (rd_a64 _) h (fun h => ?_)
  show eG _ 172 7 [some (.ref 49), some (.int (zI l1)), some (.int (zI l2)), some (.int (zI l3))] [.int (zI (zA S 64 l1)), .int (zI l2)] (rd S) _
  refine s_icmp_ge rfl h (fun h => ?_) (fun h => ?_)
  · show eG _ 172 26 [some (.ref 49), some (.int (zI l1)), some (.int (zI l2)), some (.int (zI l3))] [] (rd S) _
    refine g_run 1 27 [some (.ref 49), some (.int (zI l1)), some (.int (zI l2)), some (.int (zI l3))] [.int (zI 0)] (rd S) rfl ?_
    exact s_retB rfl rfl h (fun h => by cases h; exact rfl)
  · show eG _ 172 10 [some (.ref 49), some (.int (zI l1)), some (.int (zI l2)), some (.int (zI l3))] [] (rd S) _
    refine g_run 1 11 [some (.ref 49), some (.int (zI l1)), some (.int (zI l2)), some (.int (zI l3))] [.ref 49] (rd S) rfl ?_
    refine g_getf rfl rfl (rd_o49 _) rfl ?_
    show eG _ 172 14 [some (.ref 49), some (.int (zI l1)), some (.int (zI l2)), some (.int (zI l3))] [.ref 64] (rd S) _
    refine g_run 2 16 [some (.ref 49), some (.int (zI l1)), some (.int (zI l2)), some (.int (zI l3))] [.int (zI l2), .int (zI l1), .ref 64] (rd S) rfl ?_
    refine s_iast rfl (rd_a64 _) (rw_a64 _ _) h (fun h => ?_)
    show eG _ 172 17 [some (.ref 49), some (.int (zI l1)), some (.int (zI l2)), some (.int (zI l3))] [] (rd (wA S 64 l1 l2)) _
    refine g_run 1 18 [some (.ref 49), some (.int (zI l1)), some (.int (zI l2)), some (.int (zI l3))] [.ref 49] (rd (wA S 64 l1 l2)) rfl ?_
    refine g_getf rfl rfl (rd_o49 _) rfl ?_
    show eG _ 172 21 [some (.ref 49), some (.int (zI l1)), some (.int (zI l2)), some (.int (zI l3))] [.ref 65] (rd (wA S 64 l1 l2)) _
    refine g_run 2 23 [some (.ref 49), some (.int (zI l1)), some (.int (zI l2)), some (.int (zI l3))] [.int (zI l3), .int (zI l1), .ref 65] (rd (wA S 64 l1 l2)) rfl ?_
    refine s_iast rfl (rd_a65 _) (rw_a65 _ _) h (fun h => ?_)
    show eG _ 172 24 [some (.ref 49), some (.int (zI l1)), some (.int (zI l2)), some (.int (zI l3))] [] (rd (wA (wA S 64 l1 l2) 65 l1 l3)) _
    refine g_run 1 25 [some (.ref 49), some (.int (zI l1)), some (.int (zI l2)), some (.int (zI l3))] [.int (zI 1)] (rd (wA (wA S 64 l1 l2) 65 l1 l3)) rfl ?_
    exact s_retB rfl rfl h (fun h => by cases h; exact rfl)
def fM_findWay_1 : Nat → ZS → Int → Option (ZS)
  | 0, _, _ => none
  | n + 1, S, l1 => gC l1 17 (if l1 < 17 then (gC l1 9 (if l1 < 9 then gX l1 9 (gC (zA S 61 l1) 0 (if 0 < (zA S 61 l1) then some 0 else some 1000000)) else some 1000000)).bind fun z1 => gX l1 17 (gX l1 17 (fM_findWay_1 n (wA (wA S 64 l1 z1) 65 l1 (-1)) (l1 + 1))) else some S)
set_option maxRecDepth 100000 in
set_option maxHeartbeats 4000000 in
theorem sM_findWay_1 (o : eO) : ∀ (n : Nat) (S : ZS) (l1 : Int) {w : ZS} {r : eP} (h : fM_findWay_1 n S l1 = some w) (hk : eG o 169 48 [some (.ref 49), none, none, none, none] [] (rd w) r), eG o 169 2 [some (.ref 49), some (.int (zI l1)), none, none, none] [] (rd S) r := by
  intro n
  induction n with
  | zero => intro S l1 w r h hk; unfold fM_findWay_1 at h; cases h
  | succ n ih =>
    intro S l1 w r h hk
    unfold fM_findWay_1 at h
    refine g_run 2 5 [some (.ref 49), some (.int (zI l1)), none, none, none] [.int (zI 17), .int (zI l1)] (rd S) rfl ?_
    refine s_icmp_ge rfl h (fun h => ?_) (fun h => ?_)
    · show eG _ 169 48 [some (.ref 49), some (.int (zI l1)), none, none, none] [] (rd S) _
      refine g_fgt [false, true, true, true, true] ?_
      show eG _ 169 48 [some (.ref 49), none, none, none, none] [] (rd S) _
      cases h
      exact hk
    · show eG _ 169 8 [some (.ref 49), some (.int (zI l1)), none, none, none] [] (rd S) _
      refine g_run 1 9 [some (.ref 49), some (.int (zI l1)), none, none, none] [.ref 49] (rd S) rfl ?_
      refine g_getf rfl rfl (rd_o49 _) rfl ?_
      show eG _ 169 12 [some (.ref 49), some (.int (zI l1)), none, none, none] [.ref 64] (rd S) _
      refine g_run 3 16 [some (.ref 49), some (.int (zI l1)), none, none, none] [.int (zI 9), .int (zI l1), .int (zI l1), .ref 64] (rd S) rfl ?_
      refine s_join (α := Int) (fun z => eG o 169 34 [some (.ref 49), some (.int (zI l1)), none, none, none] [.int (zI z), .int (zI l1), .ref 64] (rd S) r) h (fun z1 h => ?_) (fun z1 h j => ?_)
      · show eG _ 169 34 [some (.ref 49), some (.int (zI l1)), none, none, none] [.int (zI z1), .int (zI l1), .ref 64] (rd S) _
        refine s_iast rfl (rd_a64 _) (rw_a64 _ _) h (fun h => ?_)
        show eG _ 169 35 [some (.ref 49), some (.int (zI l1)), none, none, none] [] (rd (wA S 64 l1 z1)) _
        refine g_run 1 36 [some (.ref 49), some (.int (zI l1)), none, none, none] [.ref 49] (rd (wA S 64 l1 z1)) rfl ?_
        refine g_getf rfl rfl (rd_o49 _) rfl ?_
        show eG _ 169 39 [some (.ref 49), some (.int (zI l1)), none, none, none] [.ref 65] (rd (wA S 64 l1 z1)) _
        refine g_run 2 41 [some (.ref 49), some (.int (zI l1)), none, none, none] [.int (zI (-1)), .int (zI l1), .ref 65] (rd (wA S 64 l1 z1)) rfl ?_
        refine s_iast rfl (rd_a65 _) (rw_a65 _ _) h (fun h => ?_)
        show eG _ 169 42 [some (.ref 49), some (.int (zI l1)), none, none, none] [] (rd (wA (wA S 64 l1 z1) 65 l1 (-1))) _
        refine s_iinc (L' := [some (.ref 49), some (.int (zI (l1 + 1))), none, none, none]) rfl rfl rfl ?_
        refine g_run 1 2 [some (.ref 49), some (.int (zI (l1 + 1))), none, none, none] [] (rd (wA (wA S 64 l1 z1) 65 l1 (-1))) rfl ?_
        exact ih (wA (wA S 64 l1 z1) 65 l1 (-1)) (l1 + 1) h hk
      · skip
        refine s_icmp_ge rfl h (fun h => ?_) (fun h => ?_)
        · show eG _ 169 32 [some (.ref 49), some (.int (zI l1)), none, none, none] [.int (zI l1), .ref 64] (rd S) _
          refine g_run 1 34 [some (.ref 49), some (.int (zI l1)), none, none, none] [.int (zI 1000000), .int (zI l1), .ref 64] (rd S) rfl ?_
          cases h
          exact j
        · show eG _ 169 19 [some (.ref 49), some (.int (zI l1)), none, none, none] [.int (zI l1), .ref 64] (rd S) _
          refine g_run 1 20 [some (.ref 49), some (.int (zI l1)), none, none, none] [.ref 49, .int (zI l1), .ref 64] (rd S) rfl ?_
          refine g_getf rfl rfl (rd_o49 _) rfl ?_
          show eG _ 169 23 [some (.ref 49), some (.int (zI l1)), none, none, none] [.ref 61, .int (zI l1), .ref 64] (rd S) _
          refine g_run 1 24 [some (.ref 49), some (.int (zI l1)), none, none, none] [.int (zI l1), .ref 61, .int (zI l1), .ref 64] (rd S) rfl ?_
          refine s_iald rfl (rd_a61 _) h (fun h => ?_)
          show eG _ 169 25 [some (.ref 49), some (.int (zI l1)), none, none, none] [.int (zI (zA S 61 l1)), .int (zI l1), .ref 64] (rd S) _
          refine s_if_le rfl h (fun h => ?_) (fun h => ?_)
          · show eG _ 169 32 [some (.ref 49), some (.int (zI l1)), none, none, none] [.int (zI l1), .ref 64] (rd S) _
            refine g_run 1 34 [some (.ref 49), some (.int (zI l1)), none, none, none] [.int (zI 1000000), .int (zI l1), .ref 64] (rd S) rfl ?_
            cases h
            exact j
          · show eG _ 169 28 [some (.ref 49), some (.int (zI l1)), none, none, none] [.int (zI l1), .ref 64] (rd S) _
            refine g_run 2 34 [some (.ref 49), some (.int (zI l1)), none, none, none] [.int (zI 0), .int (zI l1), .ref 64] (rd S) rfl ?_
            cases h
            exact j
def fM_findWay_4 : Nat → ZS → Int → Int → Int → Option (Int × ZS)
  | 0, _, _, _, _ => none
  | n + 1, S, l1, l2, l3 => gC l3 (zF S 49 1) (if l3 < (zF S 49 1) then (gC l2 (zF S 49 1) (if l2 < (zF S 49 1) then (fM_apart n S l2 l3).bind fun z6 => some z6 else gC l2 8 (if l2 = 8 then (fM_apart n S l2 l3).bind fun z7 => some z7 else some 1000000))).bind fun z1 => (gC z1 1000000 (if z1 < 1000000 then gX l2 17 (gC (zA S 64 l2) 1000000 (if (zA S 64 l2) < 1000000 then gX l2 17 ((fM_tryNode n S (9 + l3) ((zA S 64 l2) + z1) l2).bind fun z5 => gC z5.1 0 (if z5.1 = 0 then gC l1 0 (if l1 = 0 then some (0, z5.2) else some (1, z5.2)) else some (1, z5.2))) else some (l1, S))) else some (l1, S))).bind fun z2 => (gC z1 1000000 (if z1 < 1000000 then gX (9 + l3) 17 (gC (zA z2.2 64 (9 + l3)) 1000000 (if (zA z2.2 64 (9 + l3)) < 1000000 then gX ((8 * l2) + l3) 72 (gC (zA z2.2 63 ((8 * l2) + l3)) 0 (if 0 < (zA z2.2 63 ((8 * l2) + l3)) then gX (9 + l3) 17 ((fM_tryNode n z2.2 l2 ((zA z2.2 64 (9 + l3)) - z1) (9 + l3)).bind fun z4 => gC z4.1 0 (if z4.1 = 0 then gC z2.1 0 (if z2.1 = 0 then some (0, z4.2) else some (1, z4.2)) else some (1, z4.2))) else some (z2.1, z2.2))) else some (z2.1, z2.2))) else some (z2.1, z2.2))).bind fun z3 => fM_findWay_4 n z3.2 z3.1 l2 (l3 + 1) else some (l1, S))
set_option maxRecDepth 100000 in
set_option maxHeartbeats 4000000 in
theorem sM_findWay_4 (o : eO) : ∀ (n : Nat) (S : ZS) (l1 l2 l3 : Int) {w : Int × ZS} {r : eP} (h : fM_findWay_4 n S l1 l2 l3 = some w) (hk : eG o 169 225 [some (.ref 49), some (.int (zI w.1)), some (.int (zI l2)), none, none] [] (rd w.2) r), eG o 169 66 [some (.ref 49), some (.int (zI l1)), some (.int (zI l2)), some (.int (zI l3)), none] [] (rd S) r := by
  intro n
  induction n with
  | zero => intro S l1 l2 l3 w r h hk; unfold fM_findWay_4 at h; cases h
  | succ n ih =>
    intro S l1 l2 l3 w r h hk
    unfold fM_findWay_4 at h
    refine g_run 2 68 [some (.ref 49), some (.int (zI l1)), some (.int (zI l2)), some (.int (zI l3)), none] [.ref 49, .int (zI l3)] (rd S) rfl ?_
    refine g_getf rfl rfl (rd_o49 _) rfl ?_
    show eG _ 169 71 [some (.ref 49), some (.int (zI l1)), some (.int (zI l2)), some (.int (zI l3)), none] [.int (zI (zF S 49 1)), .int (zI l3)] (rd S) _
    refine s_icmp_ge rfl h (fun h => ?_) (fun h => ?_)
    · show eG _ 169 225 [some (.ref 49), some (.int (zI l1)), some (.int (zI l2)), some (.int (zI l3)), none] [] (rd S) _
      refine g_fgt [false, false, false, true, true] ?_
      show eG _ 169 225 [some (.ref 49), some (.int (zI l1)), some (.int (zI l2)), none, none] [] (rd S) _
      cases h
      exact hk
    · show eG _ 169 74 [some (.ref 49), some (.int (zI l1)), some (.int (zI l2)), some (.int (zI l3)), none] [] (rd S) _
      refine g_run 2 76 [some (.ref 49), some (.int (zI l1)), some (.int (zI l2)), some (.int (zI l3)), none] [.ref 49, .int (zI l2)] (rd S) rfl ?_
      refine g_getf rfl rfl (rd_o49 _) rfl ?_
      show eG _ 169 79 [some (.ref 49), some (.int (zI l1)), some (.int (zI l2)), some (.int (zI l3)), none] [.int (zI (zF S 49 1)), .int (zI l2)] (rd S) _
      refine s_join (α := Int) (fun z => eG o 169 99 [some (.ref 49), some (.int (zI l1)), some (.int (zI l2)), some (.int (zI l3)), none] [.int (zI z)] (rd S) r) h (fun z1 h => ?_) (fun z1 h j => ?_)
      · show eG _ 169 99 [some (.ref 49), some (.int (zI l1)), some (.int (zI l2)), some (.int (zI l3)), none] [.int (zI z1)] (rd S) _
        refine g_run 3 105 [some (.ref 49), some (.int (zI l1)), some (.int (zI l2)), some (.int (zI l3)), some (.int (zI z1))] [.int (zI 1000000), .int (zI z1)] (rd S) rfl ?_
        refine s_join (α := Int × ZS) (fun z => eG o 169 150 [some (.ref 49), some (.int (zI z.1)), some (.int (zI l2)), some (.int (zI l3)), some (.int (zI z1))] [] (rd z.2) r) h (fun z2 h => ?_) (fun z2 h j => ?_)
        · show eG _ 169 150 [some (.ref 49), some (.int (zI z2.1)), some (.int (zI l2)), some (.int (zI l3)), some (.int (zI z1))] [] (rd z2.2) _
          refine g_run 2 154 [some (.ref 49), some (.int (zI z2.1)), some (.int (zI l2)), some (.int (zI l3)), some (.int (zI z1))] [.int (zI 1000000), .int (zI z1)] (rd z2.2) rfl ?_
          refine s_join (α := Int × ZS) (fun z => eG o 169 219 [some (.ref 49), some (.int (zI z.1)), some (.int (zI l2)), some (.int (zI l3)), none] [] (rd z.2) r) h (fun z3 h => ?_) (fun z3 h j => ?_)
          · show eG _ 169 219 [some (.ref 49), some (.int (zI z3.1)), some (.int (zI l2)), some (.int (zI l3)), none] [] (rd z3.2) _
            refine s_iinc (L' := [some (.ref 49), some (.int (zI z3.1)), some (.int (zI l2)), some (.int (zI (l3 + 1))), none]) rfl rfl rfl ?_
            refine g_run 1 66 [some (.ref 49), some (.int (zI z3.1)), some (.int (zI l2)), some (.int (zI (l3 + 1))), none] [] (rd z3.2) rfl ?_
            exact ih z3.2 z3.1 l2 (l3 + 1) h hk
          · skip
            refine s_icmp_ge rfl h (fun h => ?_) (fun h => ?_)
            · show eG _ 169 219 [some (.ref 49), some (.int (zI z2.1)), some (.int (zI l2)), some (.int (zI l3)), some (.int (zI z1))] [] (rd z2.2) _
              refine g_fgt [false, false, false, false, true] ?_
              show eG _ 169 219 [some (.ref 49), some (.int (zI z2.1)), some (.int (zI l2)), some (.int (zI l3)), none] [] (rd z2.2) _
              cases h
              exact j
            · show eG _ 169 157 [some (.ref 49), some (.int (zI z2.1)), some (.int (zI l2)), some (.int (zI l3)), some (.int (zI z1))] [] (rd z2.2) _
              refine g_run 1 158 [some (.ref 49), some (.int (zI z2.1)), some (.int (zI l2)), some (.int (zI l3)), some (.int (zI z1))] [.ref 49] (rd z2.2) rfl ?_
              refine g_getf rfl rfl (rd_o49 _) rfl ?_
              show eG _ 169 161 [some (.ref 49), some (.int (zI z2.1)), some (.int (zI l2)), some (.int (zI l3)), some (.int (zI z1))] [.ref 64] (rd z2.2) _
              refine g_run 2 164 [some (.ref 49), some (.int (zI z2.1)), some (.int (zI l2)), some (.int (zI l3)), some (.int (zI z1))] [.int (zI l3), .int (zI 9), .ref 64] (rd z2.2) rfl ?_
              refine s_iadd rfl ?_
              refine s_iald rfl (rd_a64 _) h (fun h => ?_)
              show eG _ 169 166 [some (.ref 49), some (.int (zI z2.1)), some (.int (zI l2)), some (.int (zI l3)), some (.int (zI z1))] [.int (zI (zA z2.2 64 (9 + l3)))] (rd z2.2) _
              refine g_run 1 168 [some (.ref 49), some (.int (zI z2.1)), some (.int (zI l2)), some (.int (zI l3)), some (.int (zI z1))] [.int (zI 1000000), .int (zI (zA z2.2 64 (9 + l3)))] (rd z2.2) rfl ?_
              refine s_icmp_ge rfl h (fun h => ?_) (fun h => ?_)
              · show eG _ 169 219 [some (.ref 49), some (.int (zI z2.1)), some (.int (zI l2)), some (.int (zI l3)), some (.int (zI z1))] [] (rd z2.2) _
                refine g_fgt [false, false, false, false, true] ?_
                show eG _ 169 219 [some (.ref 49), some (.int (zI z2.1)), some (.int (zI l2)), some (.int (zI l3)), none] [] (rd z2.2) _
                cases h
                exact j
              · show eG _ 169 171 [some (.ref 49), some (.int (zI z2.1)), some (.int (zI l2)), some (.int (zI l3)), some (.int (zI z1))] [] (rd z2.2) _
                refine g_run 1 172 [some (.ref 49), some (.int (zI z2.1)), some (.int (zI l2)), some (.int (zI l3)), some (.int (zI z1))] [.ref 49] (rd z2.2) rfl ?_
                refine g_getf rfl rfl (rd_o49 _) rfl ?_
                show eG _ 169 175 [some (.ref 49), some (.int (zI z2.1)), some (.int (zI l2)), some (.int (zI l3)), some (.int (zI z1))] [.ref 63] (rd z2.2) _
                refine g_run 2 178 [some (.ref 49), some (.int (zI z2.1)), some (.int (zI l2)), some (.int (zI l3)), some (.int (zI z1))] [.int (zI l2), .int (zI 8), .ref 63] (rd z2.2) rfl ?_
                refine s_imul rfl ?_
                refine g_run 1 180 [some (.ref 49), some (.int (zI z2.1)), some (.int (zI l2)), some (.int (zI l3)), some (.int (zI z1))] [.int (zI l3), .int (zI (8 * l2)), .ref 63] (rd z2.2) rfl ?_
                refine s_iadd rfl ?_
                refine s_iald rfl (rd_a63 _) h (fun h => ?_)
                show eG _ 169 182 [some (.ref 49), some (.int (zI z2.1)), some (.int (zI l2)), some (.int (zI l3)), some (.int (zI z1))] [.int (zI (zA z2.2 63 ((8 * l2) + l3)))] (rd z2.2) _
                refine s_if_le rfl h (fun h => ?_) (fun h => ?_)
                · show eG _ 169 219 [some (.ref 49), some (.int (zI z2.1)), some (.int (zI l2)), some (.int (zI l3)), some (.int (zI z1))] [] (rd z2.2) _
                  refine g_fgt [false, false, false, false, true] ?_
                  show eG _ 169 219 [some (.ref 49), some (.int (zI z2.1)), some (.int (zI l2)), some (.int (zI l3)), none] [] (rd z2.2) _
                  cases h
                  exact j
                · show eG _ 169 185 [some (.ref 49), some (.int (zI z2.1)), some (.int (zI l2)), some (.int (zI l3)), some (.int (zI z1))] [] (rd z2.2) _
                  refine g_run 3 188 [some (.ref 49), some (.int (zI z2.1)), some (.int (zI l2)), some (.int (zI l3)), some (.int (zI z1))] [.ref 49, .int (zI l2), .ref 49] (rd z2.2) rfl ?_
                  refine g_getf rfl rfl (rd_o49 _) rfl ?_
                  show eG _ 169 191 [some (.ref 49), some (.int (zI z2.1)), some (.int (zI l2)), some (.int (zI l3)), some (.int (zI z1))] [.ref 64, .int (zI l2), .ref 49] (rd z2.2) _
                  refine g_run 2 194 [some (.ref 49), some (.int (zI z2.1)), some (.int (zI l2)), some (.int (zI l3)), some (.int (zI z1))] [.int (zI l3), .int (zI 9), .ref 64, .int (zI l2), .ref 49] (rd z2.2) rfl ?_
                  refine s_iadd rfl ?_
                  refine s_iald rfl (rd_a64 _) h (fun h => ?_)
                  show eG _ 169 196 [some (.ref 49), some (.int (zI z2.1)), some (.int (zI l2)), some (.int (zI l3)), some (.int (zI z1))] [.int (zI (zA z2.2 64 (9 + l3))), .int (zI l2), .ref 49] (rd z2.2) _
                  refine g_run 1 198 [some (.ref 49), some (.int (zI z2.1)), some (.int (zI l2)), some (.int (zI l3)), some (.int (zI z1))] [.int (zI z1), .int (zI (zA z2.2 64 (9 + l3))), .int (zI l2), .ref 49] (rd z2.2) rfl ?_
                  refine s_isub rfl ?_
                  refine g_run 2 202 [some (.ref 49), some (.int (zI z2.1)), some (.int (zI l2)), some (.int (zI l3)), some (.int (zI z1))] [.int (zI l3), .int (zI 9), .int (zI ((zA z2.2 64 (9 + l3)) - z1)), .int (zI l2), .ref 49] (rd z2.2) rfl ?_
                  refine s_iadd rfl ?_
                  refine s_vir (fun z => some (.int (zI z.1))) (fun z => rd z.2) rfl rfl rfl (rd_o49 _) rfl rfl (fun z hz => sM_tryNode o n z2.2 l2 ((zA z2.2 64 (9 + l3)) - z1) (9 + l3) hz) rfl h (fun z4 h => ?_)
                  show eG _ 169 206 [some (.ref 49), some (.int (zI z2.1)), some (.int (zI l2)), some (.int (zI l3)), some (.int (zI z1))] [.int (zI z4.1)] (rd z4.2) _
                  refine s_if_ne rfl h (fun h => ?_) (fun h => ?_)
                  · show eG _ 169 213 [some (.ref 49), some (.int (zI z2.1)), some (.int (zI l2)), some (.int (zI l3)), some (.int (zI z1))] [] (rd z4.2) _
                    refine g_run 3 219 [some (.ref 49), some (.int (zI 1)), some (.int (zI l2)), some (.int (zI l3)), some (.int (zI z1))] [] (rd z4.2) rfl ?_
                    refine g_fgt [false, false, false, false, true] ?_
                    show eG _ 169 219 [some (.ref 49), some (.int (zI 1)), some (.int (zI l2)), some (.int (zI l3)), none] [] (rd z4.2) _
                    cases h
                    exact j
                  · show eG _ 169 209 [some (.ref 49), some (.int (zI z2.1)), some (.int (zI l2)), some (.int (zI l3)), some (.int (zI z1))] [] (rd z4.2) _
                    refine g_run 1 210 [some (.ref 49), some (.int (zI z2.1)), some (.int (zI l2)), some (.int (zI l3)), some (.int (zI z1))] [.int (zI z2.1)] (rd z4.2) rfl ?_
                    refine s_if_eq rfl h (fun h => ?_) (fun h => ?_)
                    · show eG _ 169 217 [some (.ref 49), some (.int (zI z2.1)), some (.int (zI l2)), some (.int (zI l3)), some (.int (zI z1))] [] (rd z4.2) _
                      refine g_run 2 219 [some (.ref 49), some (.int (zI 0)), some (.int (zI l2)), some (.int (zI l3)), some (.int (zI z1))] [] (rd z4.2) rfl ?_
                      refine g_fgt [false, false, false, false, true] ?_
                      show eG _ 169 219 [some (.ref 49), some (.int (zI 0)), some (.int (zI l2)), some (.int (zI l3)), none] [] (rd z4.2) _
                      cases h
                      exact j
                    · show eG _ 169 213 [some (.ref 49), some (.int (zI z2.1)), some (.int (zI l2)), some (.int (zI l3)), some (.int (zI z1))] [] (rd z4.2) _
                      refine g_run 3 219 [some (.ref 49), some (.int (zI 1)), some (.int (zI l2)), some (.int (zI l3)), some (.int (zI z1))] [] (rd z4.2) rfl ?_
                      refine g_fgt [false, false, false, false, true] ?_
                      show eG _ 169 219 [some (.ref 49), some (.int (zI 1)), some (.int (zI l2)), some (.int (zI l3)), none] [] (rd z4.2) _
                      cases h
                      exact j
        · skip
          refine s_icmp_ge rfl h (fun h => ?_) (fun h => ?_)
          · show eG _ 169 150 [some (.ref 49), some (.int (zI l1)), some (.int (zI l2)), some (.int (zI l3)), some (.int (zI z1))] [] (rd S) _
            cases h
            exact j
          · show eG _ 169 108 [some (.ref 49), some (.int (zI l1)), some (.int (zI l2)), some (.int (zI l3)), some (.int (zI z1))] [] (rd S) _
            refine g_run 1 109 [some (.ref 49), some (.int (zI l1)), some (.int (zI l2)), some (.int (zI l3)), some (.int (zI z1))] [.ref 49] (rd S) rfl ?_
            refine g_getf rfl rfl (rd_o49 _) rfl ?_
            show eG _ 169 112 [some (.ref 49), some (.int (zI l1)), some (.int (zI l2)), some (.int (zI l3)), some (.int (zI z1))] [.ref 64] (rd S) _
            refine g_run 1 113 [some (.ref 49), some (.int (zI l1)), some (.int (zI l2)), some (.int (zI l3)), some (.int (zI z1))] [.int (zI l2), .ref 64] (rd S) rfl ?_
            refine s_iald rfl (rd_a64 _) h (fun h => ?_)
            show eG _ 169 114 [some (.ref 49), some (.int (zI l1)), some (.int (zI l2)), some (.int (zI l3)), some (.int (zI z1))] [.int (zI (zA S 64 l2))] (rd S) _
            refine g_run 1 116 [some (.ref 49), some (.int (zI l1)), some (.int (zI l2)), some (.int (zI l3)), some (.int (zI z1))] [.int (zI 1000000), .int (zI (zA S 64 l2))] (rd S) rfl ?_
            refine s_icmp_ge rfl h (fun h => ?_) (fun h => ?_)
            · show eG _ 169 150 [some (.ref 49), some (.int (zI l1)), some (.int (zI l2)), some (.int (zI l3)), some (.int (zI z1))] [] (rd S) _
              cases h
              exact j
            · show eG _ 169 119 [some (.ref 49), some (.int (zI l1)), some (.int (zI l2)), some (.int (zI l3)), some (.int (zI z1))] [] (rd S) _
              refine g_run 3 123 [some (.ref 49), some (.int (zI l1)), some (.int (zI l2)), some (.int (zI l3)), some (.int (zI z1))] [.int (zI l3), .int (zI 9), .ref 49] (rd S) rfl ?_
              refine s_iadd rfl ?_
              refine g_run 1 125 [some (.ref 49), some (.int (zI l1)), some (.int (zI l2)), some (.int (zI l3)), some (.int (zI z1))] [.ref 49, .int (zI (9 + l3)), .ref 49] (rd S) rfl ?_
              refine g_getf rfl rfl (rd_o49 _) rfl ?_
              show eG _ 169 128 [some (.ref 49), some (.int (zI l1)), some (.int (zI l2)), some (.int (zI l3)), some (.int (zI z1))] [.ref 64, .int (zI (9 + l3)), .ref 49] (rd S) _
              refine g_run 1 129 [some (.ref 49), some (.int (zI l1)), some (.int (zI l2)), some (.int (zI l3)), some (.int (zI z1))] [.int (zI l2), .ref 64, .int (zI (9 + l3)), .ref 49] (rd S) rfl ?_
              refine s_iald rfl (rd_a64 _) h (fun h => ?_)
              show eG _ 169 130 [some (.ref 49), some (.int (zI l1)), some (.int (zI l2)), some (.int (zI l3)), some (.int (zI z1))] [.int (zI (zA S 64 l2)), .int (zI (9 + l3)), .ref 49] (rd S) _
              refine g_run 1 132 [some (.ref 49), some (.int (zI l1)), some (.int (zI l2)), some (.int (zI l3)), some (.int (zI z1))] [.int (zI z1), .int (zI (zA S 64 l2)), .int (zI (9 + l3)), .ref 49] (rd S) rfl ?_
              refine s_iadd rfl ?_
              refine g_run 1 134 [some (.ref 49), some (.int (zI l1)), some (.int (zI l2)), some (.int (zI l3)), some (.int (zI z1))] [.int (zI l2), .int (zI ((zA S 64 l2) + z1)), .int (zI (9 + l3)), .ref 49] (rd S) rfl ?_
              refine s_vir (fun z => some (.int (zI z.1))) (fun z => rd z.2) rfl rfl rfl (rd_o49 _) rfl rfl (fun z hz => sM_tryNode o n S (9 + l3) ((zA S 64 l2) + z1) l2 hz) rfl h (fun z5 h => ?_)
              show eG _ 169 137 [some (.ref 49), some (.int (zI l1)), some (.int (zI l2)), some (.int (zI l3)), some (.int (zI z1))] [.int (zI z5.1)] (rd z5.2) _
              refine s_if_ne rfl h (fun h => ?_) (fun h => ?_)
              · show eG _ 169 144 [some (.ref 49), some (.int (zI l1)), some (.int (zI l2)), some (.int (zI l3)), some (.int (zI z1))] [] (rd z5.2) _
                refine g_run 3 150 [some (.ref 49), some (.int (zI 1)), some (.int (zI l2)), some (.int (zI l3)), some (.int (zI z1))] [] (rd z5.2) rfl ?_
                cases h
                exact j
              · show eG _ 169 140 [some (.ref 49), some (.int (zI l1)), some (.int (zI l2)), some (.int (zI l3)), some (.int (zI z1))] [] (rd z5.2) _
                refine g_run 1 141 [some (.ref 49), some (.int (zI l1)), some (.int (zI l2)), some (.int (zI l3)), some (.int (zI z1))] [.int (zI l1)] (rd z5.2) rfl ?_
                refine s_if_eq rfl h (fun h => ?_) (fun h => ?_)
                · show eG _ 169 148 [some (.ref 49), some (.int (zI l1)), some (.int (zI l2)), some (.int (zI l3)), some (.int (zI z1))] [] (rd z5.2) _
                  refine g_run 2 150 [some (.ref 49), some (.int (zI 0)), some (.int (zI l2)), some (.int (zI l3)), some (.int (zI z1))] [] (rd z5.2) rfl ?_
                  cases h
                  exact j
                · show eG _ 169 144 [some (.ref 49), some (.int (zI l1)), some (.int (zI l2)), some (.int (zI l3)), some (.int (zI z1))] [] (rd z5.2) _
                  refine g_run 3 150 [some (.ref 49), some (.int (zI 1)), some (.int (zI l2)), some (.int (zI l3)), some (.int (zI z1))] [] (rd z5.2) rfl ?_
                  cases h
                  exact j
      · skip
        refine s_icmp_lt rfl h (fun h => ?_) (fun h => ?_)
        · show eG _ 169 88 [some (.ref 49), some (.int (zI l1)), some (.int (zI l2)), some (.int (zI l3)), none] [] (rd S) _
          refine g_run 3 91 [some (.ref 49), some (.int (zI l1)), some (.int (zI l2)), some (.int (zI l3)), none] [.int (zI l3), .int (zI l2), .ref 49] (rd S) rfl ?_
          refine s_vir (fun z => some (.int (zI z))) (fun _ => rd S) rfl rfl rfl (rd_o49 _) rfl rfl (fun z hz => sM_apart o n S l2 l3 hz) rfl h (fun z6 h => ?_)
          show eG _ 169 94 [some (.ref 49), some (.int (zI l1)), some (.int (zI l2)), some (.int (zI l3)), none] [.int (zI z6)] (rd S) _
          refine g_run 1 99 [some (.ref 49), some (.int (zI l1)), some (.int (zI l2)), some (.int (zI l3)), none] [.int (zI z6)] (rd S) rfl ?_
          cases h
          exact j
        · show eG _ 169 82 [some (.ref 49), some (.int (zI l1)), some (.int (zI l2)), some (.int (zI l3)), none] [] (rd S) _
          refine g_run 2 85 [some (.ref 49), some (.int (zI l1)), some (.int (zI l2)), some (.int (zI l3)), none] [.int (zI 8), .int (zI l2)] (rd S) rfl ?_
          refine s_icmp_ne rfl h (fun h => ?_) (fun h => ?_)
          · show eG _ 169 97 [some (.ref 49), some (.int (zI l1)), some (.int (zI l2)), some (.int (zI l3)), none] [] (rd S) _
            refine g_run 1 99 [some (.ref 49), some (.int (zI l1)), some (.int (zI l2)), some (.int (zI l3)), none] [.int (zI 1000000)] (rd S) rfl ?_
            cases h
            exact j
          · show eG _ 169 88 [some (.ref 49), some (.int (zI l1)), some (.int (zI l2)), some (.int (zI l3)), none] [] (rd S) _
            refine g_run 3 91 [some (.ref 49), some (.int (zI l1)), some (.int (zI l2)), some (.int (zI l3)), none] [.int (zI l3), .int (zI l2), .ref 49] (rd S) rfl ?_
            refine s_vir (fun z => some (.int (zI z))) (fun _ => rd S) rfl rfl rfl (rd_o49 _) rfl rfl (fun z hz => sM_apart o n S l2 l3 hz) rfl h (fun z7 h => ?_)
            show eG _ 169 94 [some (.ref 49), some (.int (zI l1)), some (.int (zI l2)), some (.int (zI l3)), none] [.int (zI z7)] (rd S) _
            refine g_run 1 99 [some (.ref 49), some (.int (zI l1)), some (.int (zI l2)), some (.int (zI l3)), none] [.int (zI z7)] (rd S) rfl ?_
            cases h
            exact j
def fM_findWay_3 : Nat → ZS → Int → Int → Option (Int × ZS)
  | 0, _, _, _ => none
  | n + 1, S, l1, l2 => gC l2 9 (if l2 < 9 then (fM_findWay_4 n S l1 l2 0).bind fun z1 => fM_findWay_3 n z1.2 z1.1 (l2 + 1) else some (l1, S))
set_option maxRecDepth 100000 in
set_option maxHeartbeats 4000000 in
theorem sM_findWay_3 (o : eO) : ∀ (n : Nat) (S : ZS) (l1 l2 : Int) {w : Int × ZS} {r : eP} (h : fM_findWay_3 n S l1 l2 = some w) (hk : eG o 169 231 [some (.ref 49), some (.int (zI w.1)), none, none, none] [] (rd w.2) r), eG o 169 58 [some (.ref 49), some (.int (zI l1)), some (.int (zI l2)), none, none] [] (rd S) r := by
  intro n
  induction n with
  | zero => intro S l1 l2 w r h hk; unfold fM_findWay_3 at h; cases h
  | succ n ih =>
    intro S l1 l2 w r h hk
    unfold fM_findWay_3 at h
    refine g_run 2 61 [some (.ref 49), some (.int (zI l1)), some (.int (zI l2)), none, none] [.int (zI 9), .int (zI l2)] (rd S) rfl ?_
    refine s_icmp_ge rfl h (fun h => ?_) (fun h => ?_)
    · show eG _ 169 231 [some (.ref 49), some (.int (zI l1)), some (.int (zI l2)), none, none] [] (rd S) _
      refine g_fgt [false, false, true, true, true] ?_
      show eG _ 169 231 [some (.ref 49), some (.int (zI l1)), none, none, none] [] (rd S) _
      cases h
      exact hk
    · show eG _ 169 64 [some (.ref 49), some (.int (zI l1)), some (.int (zI l2)), none, none] [] (rd S) _
      refine g_run 2 66 [some (.ref 49), some (.int (zI l1)), some (.int (zI l2)), some (.int (zI 0)), none] [] (rd S) rfl ?_
      obtain ⟨z1, h1, h⟩ := zB_inv h
      refine sM_findWay_4 o n S l1 l2 0 h1 ?_
      show eG _ 169 225 [some (.ref 49), some (.int (zI z1.1)), some (.int (zI l2)), none, none] [] (rd z1.2) _
      refine s_iinc (L' := [some (.ref 49), some (.int (zI z1.1)), some (.int (zI (l2 + 1))), none, none]) rfl rfl rfl ?_
      refine g_run 1 58 [some (.ref 49), some (.int (zI z1.1)), some (.int (zI (l2 + 1))), none, none] [] (rd z1.2) rfl ?_
      exact ih z1.2 z1.1 (l2 + 1) h hk
def fM_findWay_2 : Nat → ZS → Int → Option (ZS)
  | 0, _, _ => none
  | n + 1, S, l1 => gC l1 0 (if l1 = 0 then some S else (fM_findWay_3 n S 0 0).bind fun z1 => fM_findWay_2 n z1.2 z1.1)
set_option maxRecDepth 100000 in
set_option maxHeartbeats 4000000 in
theorem sM_findWay_2 (o : eO) : ∀ (n : Nat) (S : ZS) (l1 : Int) {w : ZS} {r : eP} (h : fM_findWay_2 n S l1 = some w) (hk : eG o 169 234 [some (.ref 49), none, none, none, none] [] (rd w) r), eG o 169 50 [some (.ref 49), some (.int (zI l1)), none, none, none] [] (rd S) r := by
  intro n
  induction n with
  | zero => intro S l1 w r h hk; unfold fM_findWay_2 at h; cases h
  | succ n ih =>
    intro S l1 w r h hk
    unfold fM_findWay_2 at h
    refine g_run 1 51 [some (.ref 49), some (.int (zI l1)), none, none, none] [.int (zI l1)] (rd S) rfl ?_
    refine s_if_eq rfl h (fun h => ?_) (fun h => ?_)
    · show eG _ 169 234 [some (.ref 49), some (.int (zI l1)), none, none, none] [] (rd S) _
      refine g_fgt [false, true, true, true, true] ?_
      show eG _ 169 234 [some (.ref 49), none, none, none, none] [] (rd S) _
      cases h
      exact hk
    · show eG _ 169 54 [some (.ref 49), some (.int (zI l1)), none, none, none] [] (rd S) _
      refine g_run 4 58 [some (.ref 49), some (.int (zI 0)), some (.int (zI 0)), none, none] [] (rd S) rfl ?_
      obtain ⟨z1, h1, h⟩ := zB_inv h
      refine sM_findWay_3 o n S 0 0 h1 ?_
      show eG _ 169 231 [some (.ref 49), some (.int (zI z1.1)), none, none, none] [] (rd z1.2) _
      refine g_run 1 50 [some (.ref 49), some (.int (zI z1.1)), none, none, none] [] (rd z1.2) rfl ?_
      exact ih z1.2 z1.1 h hk
def fM_findWay_5 : Nat → ZS → Int → Int → Option (Int)
  | 0, _, _, _ => none
  | n + 1, S, l2, l3 => gC l3 (zF S 49 1) (if l3 < (zF S 49 1) then gX l3 8 ((gC (zA S 62 l3) 0 (if 0 < (zA S 62 l3) then gX (9 + l3) 17 (gC (zA S 64 (9 + l3)) 1000000 (if (zA S 64 (9 + l3)) < 1000000 then gC l2 0 (if l2 < 0 then some l3 else gX (9 + l3) 17 (gX (9 + l2) 17 (gC (zA S 64 (9 + l3)) (zA S 64 (9 + l2)) (if (zA S 64 (9 + l3)) < (zA S 64 (9 + l2)) then some l3 else some l2)))) else some l2)) else some l2)).bind fun z1 => fM_findWay_5 n S z1 (l3 + 1)) else some l2)
set_option maxRecDepth 100000 in
set_option maxHeartbeats 4000000 in
theorem sM_findWay_5 (o : eO) : ∀ (n : Nat) (S : ZS) (l2 l3 : Int) {w : Int} {r : eP} (h : fM_findWay_5 n S l2 l3 = some w) (hk : eG o 169 307 [none, none, some (.int (zI w)), none, none] [] (rd S) r), eG o 169 239 [some (.ref 49), none, some (.int (zI l2)), some (.int (zI l3)), none] [] (rd S) r := by
  intro n
  induction n with
  | zero => intro S l2 l3 w r h hk; unfold fM_findWay_5 at h; cases h
  | succ n ih =>
    intro S l2 l3 w r h hk
    unfold fM_findWay_5 at h
    refine g_run 2 241 [some (.ref 49), none, some (.int (zI l2)), some (.int (zI l3)), none] [.ref 49, .int (zI l3)] (rd S) rfl ?_
    refine g_getf rfl rfl (rd_o49 _) rfl ?_
    show eG _ 169 244 [some (.ref 49), none, some (.int (zI l2)), some (.int (zI l3)), none] [.int (zI (zF S 49 1)), .int (zI l3)] (rd S) _
    refine s_icmp_ge rfl h (fun h => ?_) (fun h => ?_)
    · show eG _ 169 307 [some (.ref 49), none, some (.int (zI l2)), some (.int (zI l3)), none] [] (rd S) _
      refine g_fgt [true, true, false, true, true] ?_
      show eG _ 169 307 [none, none, some (.int (zI l2)), none, none] [] (rd S) _
      cases h
      exact hk
    · show eG _ 169 247 [some (.ref 49), none, some (.int (zI l2)), some (.int (zI l3)), none] [] (rd S) _
      refine g_run 1 248 [some (.ref 49), none, some (.int (zI l2)), some (.int (zI l3)), none] [.ref 49] (rd S) rfl ?_
      refine g_getf rfl rfl (rd_o49 _) rfl ?_
      show eG _ 169 251 [some (.ref 49), none, some (.int (zI l2)), some (.int (zI l3)), none] [.ref 62] (rd S) _
      refine g_run 1 252 [some (.ref 49), none, some (.int (zI l2)), some (.int (zI l3)), none] [.int (zI l3), .ref 62] (rd S) rfl ?_
      refine s_iald rfl (rd_a62 _) h (fun h => ?_)
      show eG _ 169 253 [some (.ref 49), none, some (.int (zI l2)), some (.int (zI l3)), none] [.int (zI (zA S 62 l3))] (rd S) _
      refine s_join (α := Int) (fun z => eG o 169 300 [some (.ref 49), none, none, some (.int (zI l3)), none] [.int (zI z)] (rd S) r) h (fun z1 h => ?_) (fun z1 h j => ?_)
      · show eG _ 169 300 [some (.ref 49), none, none, some (.int (zI l3)), none] [.int (zI z1)] (rd S) _
        refine g_run 1 301 [some (.ref 49), none, some (.int (zI z1)), some (.int (zI l3)), none] [] (rd S) rfl ?_
        refine s_iinc (L' := [some (.ref 49), none, some (.int (zI z1)), some (.int (zI (l3 + 1))), none]) rfl rfl rfl ?_
        refine g_run 1 239 [some (.ref 49), none, some (.int (zI z1)), some (.int (zI (l3 + 1))), none] [] (rd S) rfl ?_
        exact ih S z1 (l3 + 1) h hk
      · skip
        refine s_if_le rfl h (fun h => ?_) (fun h => ?_)
        · show eG _ 169 299 [some (.ref 49), none, some (.int (zI l2)), some (.int (zI l3)), none] [] (rd S) _
          refine g_run 1 300 [some (.ref 49), none, some (.int (zI l2)), some (.int (zI l3)), none] [.int (zI l2)] (rd S) rfl ?_
          refine g_fgt [false, true, true, false, true] ?_
          show eG _ 169 300 [some (.ref 49), none, none, some (.int (zI l3)), none] [.int (zI l2)] (rd S) _
          cases h
          exact j
        · show eG _ 169 256 [some (.ref 49), none, some (.int (zI l2)), some (.int (zI l3)), none] [] (rd S) _
          refine g_run 1 257 [some (.ref 49), none, some (.int (zI l2)), some (.int (zI l3)), none] [.ref 49] (rd S) rfl ?_
          refine g_getf rfl rfl (rd_o49 _) rfl ?_
          show eG _ 169 260 [some (.ref 49), none, some (.int (zI l2)), some (.int (zI l3)), none] [.ref 64] (rd S) _
          refine g_run 2 263 [some (.ref 49), none, some (.int (zI l2)), some (.int (zI l3)), none] [.int (zI l3), .int (zI 9), .ref 64] (rd S) rfl ?_
          refine s_iadd rfl ?_
          refine s_iald rfl (rd_a64 _) h (fun h => ?_)
          show eG _ 169 265 [some (.ref 49), none, some (.int (zI l2)), some (.int (zI l3)), none] [.int (zI (zA S 64 (9 + l3)))] (rd S) _
          refine g_run 1 267 [some (.ref 49), none, some (.int (zI l2)), some (.int (zI l3)), none] [.int (zI 1000000), .int (zI (zA S 64 (9 + l3)))] (rd S) rfl ?_
          refine s_icmp_ge rfl h (fun h => ?_) (fun h => ?_)
          · show eG _ 169 299 [some (.ref 49), none, some (.int (zI l2)), some (.int (zI l3)), none] [] (rd S) _
            refine g_run 1 300 [some (.ref 49), none, some (.int (zI l2)), some (.int (zI l3)), none] [.int (zI l2)] (rd S) rfl ?_
            refine g_fgt [false, true, true, false, true] ?_
            show eG _ 169 300 [some (.ref 49), none, none, some (.int (zI l3)), none] [.int (zI l2)] (rd S) _
            cases h
            exact j
          · show eG _ 169 270 [some (.ref 49), none, some (.int (zI l2)), some (.int (zI l3)), none] [] (rd S) _
            refine g_run 1 271 [some (.ref 49), none, some (.int (zI l2)), some (.int (zI l3)), none] [.int (zI l2)] (rd S) rfl ?_
            refine s_if_lt rfl h (fun h => ?_) (fun h => ?_)
            · show eG _ 169 295 [some (.ref 49), none, some (.int (zI l2)), some (.int (zI l3)), none] [] (rd S) _
              refine g_run 2 300 [some (.ref 49), none, some (.int (zI l2)), some (.int (zI l3)), none] [.int (zI l3)] (rd S) rfl ?_
              refine g_fgt [false, true, true, false, true] ?_
              show eG _ 169 300 [some (.ref 49), none, none, some (.int (zI l3)), none] [.int (zI l3)] (rd S) _
              cases h
              exact j
            · show eG _ 169 274 [some (.ref 49), none, some (.int (zI l2)), some (.int (zI l3)), none] [] (rd S) _
              refine g_run 1 275 [some (.ref 49), none, some (.int (zI l2)), some (.int (zI l3)), none] [.ref 49] (rd S) rfl ?_
              refine g_getf rfl rfl (rd_o49 _) rfl ?_
              show eG _ 169 278 [some (.ref 49), none, some (.int (zI l2)), some (.int (zI l3)), none] [.ref 64] (rd S) _
              refine g_run 2 281 [some (.ref 49), none, some (.int (zI l2)), some (.int (zI l3)), none] [.int (zI l3), .int (zI 9), .ref 64] (rd S) rfl ?_
              refine s_iadd rfl ?_
              refine s_iald rfl (rd_a64 _) h (fun h => ?_)
              show eG _ 169 283 [some (.ref 49), none, some (.int (zI l2)), some (.int (zI l3)), none] [.int (zI (zA S 64 (9 + l3)))] (rd S) _
              refine g_run 1 284 [some (.ref 49), none, some (.int (zI l2)), some (.int (zI l3)), none] [.ref 49, .int (zI (zA S 64 (9 + l3)))] (rd S) rfl ?_
              refine g_getf rfl rfl (rd_o49 _) rfl ?_
              show eG _ 169 287 [some (.ref 49), none, some (.int (zI l2)), some (.int (zI l3)), none] [.ref 64, .int (zI (zA S 64 (9 + l3)))] (rd S) _
              refine g_run 2 290 [some (.ref 49), none, some (.int (zI l2)), some (.int (zI l3)), none] [.int (zI l2), .int (zI 9), .ref 64, .int (zI (zA S 64 (9 + l3)))] (rd S) rfl ?_
              refine s_iadd rfl ?_
              refine s_iald rfl (rd_a64 _) h (fun h => ?_)
              show eG _ 169 292 [some (.ref 49), none, some (.int (zI l2)), some (.int (zI l3)), none] [.int (zI (zA S 64 (9 + l2))), .int (zI (zA S 64 (9 + l3)))] (rd S) _
              refine s_icmp_ge rfl h (fun h => ?_) (fun h => ?_)
              · show eG _ 169 299 [some (.ref 49), none, some (.int (zI l2)), some (.int (zI l3)), none] [] (rd S) _
                refine g_run 1 300 [some (.ref 49), none, some (.int (zI l2)), some (.int (zI l3)), none] [.int (zI l2)] (rd S) rfl ?_
                refine g_fgt [false, true, true, false, true] ?_
                show eG _ 169 300 [some (.ref 49), none, none, some (.int (zI l3)), none] [.int (zI l2)] (rd S) _
                cases h
                exact j
              · show eG _ 169 295 [some (.ref 49), none, some (.int (zI l2)), some (.int (zI l3)), none] [] (rd S) _
                refine g_run 2 300 [some (.ref 49), none, some (.int (zI l2)), some (.int (zI l3)), none] [.int (zI l3)] (rd S) rfl ?_
                refine g_fgt [false, true, true, false, true] ?_
                show eG _ 169 300 [some (.ref 49), none, none, some (.int (zI l3)), none] [.int (zI l3)] (rd S) _
                cases h
                exact j
def fM_findWay (n : Nat) (S : ZS) : Option (Int × ZS) := (fM_findWay_1 n S 0).bind fun z1 => (fM_findWay_2 n z1 1).bind fun z2 => (fM_findWay_5 n z2 (-4) 0).bind fun z3 => some (z3, z2)
set_option maxRecDepth 100000 in
set_option maxHeartbeats 4000000 in
theorem sM_findWay (o : eO) (n : Nat) (S : ZS) {w : Int × ZS} (h : fM_findWay n S = some w) : eG o 169 0 (eEnt 169 [.ref 49]) [] (rd S) (rv (some (.int (zI w.1))) (rd w.2)) := by
  unfold fM_findWay at h
  show eG o 169 0 [some (.ref 49), none, none, none, none] [] (rd S) _
  refine g_run 2 2 [some (.ref 49), some (.int (zI 0)), none, none, none] [] (rd S) rfl ?_
  obtain ⟨z1, h1, h⟩ := zB_inv h
  refine sM_findWay_1 o n S 0 h1 ?_
  show eG _ 169 48 [some (.ref 49), none, none, none, none] [] (rd z1) _
  refine g_run 2 50 [some (.ref 49), some (.int (zI 1)), none, none, none] [] (rd z1) rfl ?_
  obtain ⟨z2, h1, h⟩ := zB_inv h
  refine sM_findWay_2 o n z1 1 h1 ?_
  show eG _ 169 234 [some (.ref 49), none, none, none, none] [] (rd z2) _
  refine g_run 4 239 [some (.ref 49), none, some (.int (zI (-4))), some (.int (zI 0)), none] [] (rd z2) rfl ?_
  obtain ⟨z3, h1, h⟩ := zB_inv h
  refine sM_findWay_5 o n z2 (-4) 0 h1 ?_
  show eG _ 169 307 [none, none, some (.int (zI z3)), none, none] [] (rd z2) _
  refine g_run 1 308 [none, none, some (.int (zI z3)), none, none] [.int (zI z3)] (rd z2) rfl ?_
  cases h
  exact s_ret rfl rfl rfl
