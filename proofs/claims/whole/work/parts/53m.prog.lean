def fM_moveBy_1 : Nat → ZS → Int → Int → Int → Option (Int × Int)
  | 0, _, _, _, _ => none
  | n + 1, S, l1, l2, l3 => gX l3 17 (gC (zA S 65 l3) 0 (if (zA S 65 l3) < 0 then some (l2, l3) else gX l3 17 (gC (zA S 65 l3) 9 (if (zA S 65 l3) < 9 then fM_moveBy_1 n S l1 l2 (zA S 65 l3) else gX (((8 * l3) + (zA S 65 l3)) - 9) 72 (gC (zA S 63 (((8 * l3) + (zA S 65 l3)) - 9)) l2 (if (zA S 63 (((8 * l3) + (zA S 65 l3)) - 9)) < l2 then gX (((8 * l3) + (zA S 65 l3)) - 9) 72 (fM_moveBy_1 n S l1 (zA S 63 (((8 * l3) + (zA S 65 l3)) - 9)) (zA S 65 l3)) else fM_moveBy_1 n S l1 l2 (zA S 65 l3)))))))
set_option maxRecDepth 100000 in
set_option maxHeartbeats 4000000 in
theorem sM_moveBy_1 (o : eO) : ∀ (n : Nat) (S : ZS) (l1 l2 l3 : Int) {w : Int × Int} {r : eP} (h : fM_moveBy_1 n S l1 l2 l3 = some w) (hk : eG o 173 81 [some (.ref 49), some (.int (zI l1)), some (.int (zI w.1)), some (.int (zI w.2)), none] [] (rd S) r), eG o 173 12 [some (.ref 49), some (.int (zI l1)), some (.int (zI l2)), some (.int (zI l3)), none] [] (rd S) r := by
  intro n
  induction n with
  | zero => intro S l1 l2 l3 w r h hk; unfold fM_moveBy_1 at h; cases h
  | succ n ih =>
    intro S l1 l2 l3 w r h hk
    unfold fM_moveBy_1 at h
    refine g_run 1 13 [some (.ref 49), some (.int (zI l1)), some (.int (zI l2)), some (.int (zI l3)), none] [.ref 49] (rd S) rfl ?_
    refine g_getf rfl rfl (rd_o49 _) rfl ?_
    show eG _ 173 16 [some (.ref 49), some (.int (zI l1)), some (.int (zI l2)), some (.int (zI l3)), none] [.ref 65] (rd S) _
    refine g_run 1 17 [some (.ref 49), some (.int (zI l1)), some (.int (zI l2)), some (.int (zI l3)), none] [.int (zI l3), .ref 65] (rd S) rfl ?_
    refine s_iald rfl (rd_a65 _) h (fun h => ?_)
    show eG _ 173 18 [some (.ref 49), some (.int (zI l1)), some (.int (zI l2)), some (.int (zI l3)), none] [.int (zI (zA S 65 l3))] (rd S) _
    refine s_if_lt rfl h (fun h => ?_) (fun h => ?_)
    · show eG _ 173 81 [some (.ref 49), some (.int (zI l1)), some (.int (zI l2)), some (.int (zI l3)), none] [] (rd S) _
      cases h
      exact hk
    · show eG _ 173 21 [some (.ref 49), some (.int (zI l1)), some (.int (zI l2)), some (.int (zI l3)), none] [] (rd S) _
      refine g_run 1 22 [some (.ref 49), some (.int (zI l1)), some (.int (zI l2)), some (.int (zI l3)), none] [.ref 49] (rd S) rfl ?_
      refine g_getf rfl rfl (rd_o49 _) rfl ?_
      show eG _ 173 25 [some (.ref 49), some (.int (zI l1)), some (.int (zI l2)), some (.int (zI l3)), none] [.ref 65] (rd S) _
      refine g_run 1 26 [some (.ref 49), some (.int (zI l1)), some (.int (zI l2)), some (.int (zI l3)), none] [.int (zI l3), .ref 65] (rd S) rfl ?_
      refine s_iald rfl (rd_a65 _) h (fun h => ?_)
      show eG _ 173 27 [some (.ref 49), some (.int (zI l1)), some (.int (zI l2)), some (.int (zI l3)), none] [.int (zI (zA S 65 l3))] (rd S) _
      refine g_run 3 33 [some (.ref 49), some (.int (zI l1)), some (.int (zI l2)), some (.int (zI l3)), some (.int (zI (zA S 65 l3)))] [.int (zI 9), .int (zI (zA S 65 l3))] (rd S) rfl ?_
      refine s_icmp_lt rfl h (fun h => ?_) (fun h => ?_)
      · show eG _ 173 73 [some (.ref 49), some (.int (zI l1)), some (.int (zI l2)), some (.int (zI l3)), some (.int (zI (zA S 65 l3)))] [] (rd S) _
        refine g_run 5 12 [some (.ref 49), some (.int (zI l1)), some (.int (zI l2)), some (.int (zI (zA S 65 l3))), some (.int (zI (zA S 65 l3)))] [] (rd S) rfl ?_
        refine g_fgt [false, false, false, false, true] ?_
        show eG _ 173 12 [some (.ref 49), some (.int (zI l1)), some (.int (zI l2)), some (.int (zI (zA S 65 l3))), none] [] (rd S) _
        exact ih S l1 l2 (zA S 65 l3) h hk
      · show eG _ 173 36 [some (.ref 49), some (.int (zI l1)), some (.int (zI l2)), some (.int (zI l3)), some (.int (zI (zA S 65 l3)))] [] (rd S) _
        refine g_run 1 37 [some (.ref 49), some (.int (zI l1)), some (.int (zI l2)), some (.int (zI l3)), some (.int (zI (zA S 65 l3)))] [.ref 49] (rd S) rfl ?_
        refine g_getf rfl rfl (rd_o49 _) rfl ?_
        show eG _ 173 40 [some (.ref 49), some (.int (zI l1)), some (.int (zI l2)), some (.int (zI l3)), some (.int (zI (zA S 65 l3)))] [.ref 63] (rd S) _
        refine g_run 2 43 [some (.ref 49), some (.int (zI l1)), some (.int (zI l2)), some (.int (zI l3)), some (.int (zI (zA S 65 l3)))] [.int (zI l3), .int (zI 8), .ref 63] (rd S) rfl ?_
        refine s_imul rfl ?_
        refine g_run 1 46 [some (.ref 49), some (.int (zI l1)), some (.int (zI l2)), some (.int (zI l3)), some (.int (zI (zA S 65 l3)))] [.int (zI (zA S 65 l3)), .int (zI (8 * l3)), .ref 63] (rd S) rfl ?_
        refine s_iadd rfl ?_
        refine g_run 1 49 [some (.ref 49), some (.int (zI l1)), some (.int (zI l2)), some (.int (zI l3)), some (.int (zI (zA S 65 l3)))] [.int (zI 9), .int (zI ((8 * l3) + (zA S 65 l3))), .ref 63] (rd S) rfl ?_
        refine s_isub rfl ?_
        refine s_iald rfl (rd_a63 _) h (fun h => ?_)
        show eG _ 173 51 [some (.ref 49), some (.int (zI l1)), some (.int (zI l2)), some (.int (zI l3)), some (.int (zI (zA S 65 l3)))] [.int (zI (zA S 63 (((8 * l3) + (zA S 65 l3)) - 9)))] (rd S) _
        refine g_run 1 52 [some (.ref 49), some (.int (zI l1)), some (.int (zI l2)), some (.int (zI l3)), some (.int (zI (zA S 65 l3)))] [.int (zI l2), .int (zI (zA S 63 (((8 * l3) + (zA S 65 l3)) - 9)))] (rd S) rfl ?_
        refine s_icmp_ge rfl h (fun h => ?_) (fun h => ?_)
        · show eG _ 173 73 [some (.ref 49), some (.int (zI l1)), some (.int (zI l2)), some (.int (zI l3)), some (.int (zI (zA S 65 l3)))] [] (rd S) _
          refine g_run 5 12 [some (.ref 49), some (.int (zI l1)), some (.int (zI l2)), some (.int (zI (zA S 65 l3))), some (.int (zI (zA S 65 l3)))] [] (rd S) rfl ?_
          refine g_fgt [false, false, false, false, true] ?_
          show eG _ 173 12 [some (.ref 49), some (.int (zI l1)), some (.int (zI l2)), some (.int (zI (zA S 65 l3))), none] [] (rd S) _
          exact ih S l1 l2 (zA S 65 l3) h hk
        · show eG _ 173 55 [some (.ref 49), some (.int (zI l1)), some (.int (zI l2)), some (.int (zI l3)), some (.int (zI (zA S 65 l3)))] [] (rd S) _
          refine g_run 1 56 [some (.ref 49), some (.int (zI l1)), some (.int (zI l2)), some (.int (zI l3)), some (.int (zI (zA S 65 l3)))] [.ref 49] (rd S) rfl ?_
          refine g_getf rfl rfl (rd_o49 _) rfl ?_
          show eG _ 173 59 [some (.ref 49), some (.int (zI l1)), some (.int (zI l2)), some (.int (zI l3)), some (.int (zI (zA S 65 l3)))] [.ref 63] (rd S) _
          refine g_run 2 62 [some (.ref 49), some (.int (zI l1)), some (.int (zI l2)), some (.int (zI l3)), some (.int (zI (zA S 65 l3)))] [.int (zI l3), .int (zI 8), .ref 63] (rd S) rfl ?_
          refine s_imul rfl ?_
          refine g_run 1 65 [some (.ref 49), some (.int (zI l1)), some (.int (zI l2)), some (.int (zI l3)), some (.int (zI (zA S 65 l3)))] [.int (zI (zA S 65 l3)), .int (zI (8 * l3)), .ref 63] (rd S) rfl ?_
          refine s_iadd rfl ?_
          refine g_run 1 68 [some (.ref 49), some (.int (zI l1)), some (.int (zI l2)), some (.int (zI l3)), some (.int (zI (zA S 65 l3)))] [.int (zI 9), .int (zI ((8 * l3) + (zA S 65 l3))), .ref 63] (rd S) rfl ?_
          refine s_isub rfl ?_
          refine s_iald rfl (rd_a63 _) h (fun h => ?_)
          show eG _ 173 70 [some (.ref 49), some (.int (zI l1)), some (.int (zI l2)), some (.int (zI l3)), some (.int (zI (zA S 65 l3)))] [.int (zI (zA S 63 (((8 * l3) + (zA S 65 l3)) - 9)))] (rd S) _
          refine g_run 5 12 [some (.ref 49), some (.int (zI l1)), some (.int (zI (zA S 63 (((8 * l3) + (zA S 65 l3)) - 9)))), some (.int (zI (zA S 65 l3))), some (.int (zI (zA S 65 l3)))] [] (rd S) rfl ?_
          refine g_fgt [false, false, false, false, true] ?_
          show eG _ 173 12 [some (.ref 49), some (.int (zI l1)), some (.int (zI (zA S 63 (((8 * l3) + (zA S 65 l3)) - 9)))), some (.int (zI (zA S 65 l3))), none] [] (rd S) _
          exact ih S l1 (zA S 63 (((8 * l3) + (zA S 65 l3)) - 9)) (zA S 65 l3) h hk
def fM_moveBy_2 : Nat → ZS → Int → Int → Int → Option (ZS)
  | 0, _, _, _, _ => none
  | n + 1, S, l1, l2, l3 => gX l3 17 (gC (zA S 65 l3) 0 (if (zA S 65 l3) < 0 then some S else gX l3 17 (gC (zA S 65 l3) 9 (if (zA S 65 l3) < 9 then gX (((8 * (zA S 65 l3)) + l3) - 9) 72 (gX (((8 * (zA S 65 l3)) + l3) - 9) 72 (fM_moveBy_2 n (wA S 63 (((8 * (zA S 65 l3)) + l3) - 9) ((zA S 63 (((8 * (zA S 65 l3)) + l3) - 9)) + l2)) l1 l2 (zA S 65 l3))) else gX (((8 * l3) + (zA S 65 l3)) - 9) 72 (gX (((8 * l3) + (zA S 65 l3)) - 9) 72 (fM_moveBy_2 n (wA S 63 (((8 * l3) + (zA S 65 l3)) - 9) ((zA S 63 (((8 * l3) + (zA S 65 l3)) - 9)) - l2)) l1 l2 (zA S 65 l3)))))))
set_option maxRecDepth 100000 in
set_option maxHeartbeats 4000000 in
theorem sM_moveBy_2 (o : eO) : ∀ (n : Nat) (S : ZS) (l1 l2 l3 : Int) {w : ZS} {r : eP} (h : fM_moveBy_2 n S l1 l2 l3 = some w) (hk : eG o 173 198 [some (.ref 49), some (.int (zI l1)), some (.int (zI l2)), none, none] [] (rd w) r), eG o 173 127 [some (.ref 49), some (.int (zI l1)), some (.int (zI l2)), some (.int (zI l3)), none] [] (rd S) r := by
  intro n
  induction n with
  | zero => intro S l1 l2 l3 w r h hk; unfold fM_moveBy_2 at h; cases h
  | succ n ih =>
    intro S l1 l2 l3 w r h hk
    unfold fM_moveBy_2 at h
    refine g_run 1 128 [some (.ref 49), some (.int (zI l1)), some (.int (zI l2)), some (.int (zI l3)), none] [.ref 49] (rd S) rfl ?_
    refine g_getf rfl rfl (rd_o49 _) rfl ?_
    show eG _ 173 131 [some (.ref 49), some (.int (zI l1)), some (.int (zI l2)), some (.int (zI l3)), none] [.ref 65] (rd S) _
    refine g_run 1 132 [some (.ref 49), some (.int (zI l1)), some (.int (zI l2)), some (.int (zI l3)), none] [.int (zI l3), .ref 65] (rd S) rfl ?_
    refine s_iald rfl (rd_a65 _) h (fun h => ?_)
    show eG _ 173 133 [some (.ref 49), some (.int (zI l1)), some (.int (zI l2)), some (.int (zI l3)), none] [.int (zI (zA S 65 l3))] (rd S) _
    refine s_if_lt rfl h (fun h => ?_) (fun h => ?_)
    · show eG _ 173 198 [some (.ref 49), some (.int (zI l1)), some (.int (zI l2)), some (.int (zI l3)), none] [] (rd S) _
      refine g_fgt [false, false, false, true, true] ?_
      show eG _ 173 198 [some (.ref 49), some (.int (zI l1)), some (.int (zI l2)), none, none] [] (rd S) _
      cases h
      exact hk
    · show eG _ 173 136 [some (.ref 49), some (.int (zI l1)), some (.int (zI l2)), some (.int (zI l3)), none] [] (rd S) _
      refine g_run 1 137 [some (.ref 49), some (.int (zI l1)), some (.int (zI l2)), some (.int (zI l3)), none] [.ref 49] (rd S) rfl ?_
      refine g_getf rfl rfl (rd_o49 _) rfl ?_
      show eG _ 173 140 [some (.ref 49), some (.int (zI l1)), some (.int (zI l2)), some (.int (zI l3)), none] [.ref 65] (rd S) _
      refine g_run 1 141 [some (.ref 49), some (.int (zI l1)), some (.int (zI l2)), some (.int (zI l3)), none] [.int (zI l3), .ref 65] (rd S) rfl ?_
      refine s_iald rfl (rd_a65 _) h (fun h => ?_)
      show eG _ 173 142 [some (.ref 49), some (.int (zI l1)), some (.int (zI l2)), some (.int (zI l3)), none] [.int (zI (zA S 65 l3))] (rd S) _
      refine g_run 3 148 [some (.ref 49), some (.int (zI l1)), some (.int (zI l2)), some (.int (zI l3)), some (.int (zI (zA S 65 l3)))] [.int (zI 9), .int (zI (zA S 65 l3))] (rd S) rfl ?_
      refine s_icmp_ge rfl h (fun h => ?_) (fun h => ?_)
      · show eG _ 173 173 [some (.ref 49), some (.int (zI l1)), some (.int (zI l2)), some (.int (zI l3)), some (.int (zI (zA S 65 l3)))] [] (rd S) _
        refine g_run 1 174 [some (.ref 49), some (.int (zI l1)), some (.int (zI l2)), some (.int (zI l3)), some (.int (zI (zA S 65 l3)))] [.ref 49] (rd S) rfl ?_
        refine g_getf rfl rfl (rd_o49 _) rfl ?_
        show eG _ 173 177 [some (.ref 49), some (.int (zI l1)), some (.int (zI l2)), some (.int (zI l3)), some (.int (zI (zA S 65 l3)))] [.ref 63] (rd S) _
        refine g_run 2 180 [some (.ref 49), some (.int (zI l1)), some (.int (zI l2)), some (.int (zI l3)), some (.int (zI (zA S 65 l3)))] [.int (zI l3), .int (zI 8), .ref 63] (rd S) rfl ?_
        refine s_imul rfl ?_
        refine g_run 1 183 [some (.ref 49), some (.int (zI l1)), some (.int (zI l2)), some (.int (zI l3)), some (.int (zI (zA S 65 l3)))] [.int (zI (zA S 65 l3)), .int (zI (8 * l3)), .ref 63] (rd S) rfl ?_
        refine s_iadd rfl ?_
        refine g_run 1 186 [some (.ref 49), some (.int (zI l1)), some (.int (zI l2)), some (.int (zI l3)), some (.int (zI (zA S 65 l3)))] [.int (zI 9), .int (zI ((8 * l3) + (zA S 65 l3))), .ref 63] (rd S) rfl ?_
        refine s_isub rfl ?_
        refine g_run 1 188 [some (.ref 49), some (.int (zI l1)), some (.int (zI l2)), some (.int (zI l3)), some (.int (zI (zA S 65 l3)))] [.int (zI (((8 * l3) + (zA S 65 l3)) - 9)), .ref 63, .int (zI (((8 * l3) + (zA S 65 l3)) - 9)), .ref 63] (rd S) rfl ?_
        refine s_iald rfl (rd_a63 _) h (fun h => ?_)
        show eG _ 173 189 [some (.ref 49), some (.int (zI l1)), some (.int (zI l2)), some (.int (zI l3)), some (.int (zI (zA S 65 l3)))] [.int (zI (zA S 63 (((8 * l3) + (zA S 65 l3)) - 9))), .int (zI (((8 * l3) + (zA S 65 l3)) - 9)), .ref 63] (rd S) _
        refine g_run 1 190 [some (.ref 49), some (.int (zI l1)), some (.int (zI l2)), some (.int (zI l3)), some (.int (zI (zA S 65 l3)))] [.int (zI l2), .int (zI (zA S 63 (((8 * l3) + (zA S 65 l3)) - 9))), .int (zI (((8 * l3) + (zA S 65 l3)) - 9)), .ref 63] (rd S) rfl ?_
        refine s_isub rfl ?_
        refine s_iast rfl (rd_a63 _) (rw_a63 _ _) h (fun h => ?_)
        show eG _ 173 192 [some (.ref 49), some (.int (zI l1)), some (.int (zI l2)), some (.int (zI l3)), some (.int (zI (zA S 65 l3)))] [] (rd (wA S 63 (((8 * l3) + (zA S 65 l3)) - 9) ((zA S 63 (((8 * l3) + (zA S 65 l3)) - 9)) - l2))) _
        refine g_run 3 127 [some (.ref 49), some (.int (zI l1)), some (.int (zI l2)), some (.int (zI (zA S 65 l3))), some (.int (zI (zA S 65 l3)))] [] (rd (wA S 63 (((8 * l3) + (zA S 65 l3)) - 9) ((zA S 63 (((8 * l3) + (zA S 65 l3)) - 9)) - l2))) rfl ?_
        refine g_fgt [false, false, false, false, true] ?_
        show eG _ 173 127 [some (.ref 49), some (.int (zI l1)), some (.int (zI l2)), some (.int (zI (zA S 65 l3))), none] [] (rd (wA S 63 (((8 * l3) + (zA S 65 l3)) - 9) ((zA S 63 (((8 * l3) + (zA S 65 l3)) - 9)) - l2))) _
        exact ih (wA S 63 (((8 * l3) + (zA S 65 l3)) - 9) ((zA S 63 (((8 * l3) + (zA S 65 l3)) - 9)) - l2)) l1 l2 (zA S 65 l3) h hk
      · show eG _ 173 151 [some (.ref 49), some (.int (zI l1)), some (.int (zI l2)), some (.int (zI l3)), some (.int (zI (zA S 65 l3)))] [] (rd S) _
        refine g_run 1 152 [some (.ref 49), some (.int (zI l1)), some (.int (zI l2)), some (.int (zI l3)), some (.int (zI (zA S 65 l3)))] [.ref 49] (rd S) rfl ?_
        refine g_getf rfl rfl (rd_o49 _) rfl ?_
        show eG _ 173 155 [some (.ref 49), some (.int (zI l1)), some (.int (zI l2)), some (.int (zI l3)), some (.int (zI (zA S 65 l3)))] [.ref 63] (rd S) _
        refine g_run 2 159 [some (.ref 49), some (.int (zI l1)), some (.int (zI l2)), some (.int (zI l3)), some (.int (zI (zA S 65 l3)))] [.int (zI (zA S 65 l3)), .int (zI 8), .ref 63] (rd S) rfl ?_
        refine s_imul rfl ?_
        refine g_run 1 161 [some (.ref 49), some (.int (zI l1)), some (.int (zI l2)), some (.int (zI l3)), some (.int (zI (zA S 65 l3)))] [.int (zI l3), .int (zI (8 * (zA S 65 l3))), .ref 63] (rd S) rfl ?_
        refine s_iadd rfl ?_
        refine g_run 1 164 [some (.ref 49), some (.int (zI l1)), some (.int (zI l2)), some (.int (zI l3)), some (.int (zI (zA S 65 l3)))] [.int (zI 9), .int (zI ((8 * (zA S 65 l3)) + l3)), .ref 63] (rd S) rfl ?_
        refine s_isub rfl ?_
        refine g_run 1 166 [some (.ref 49), some (.int (zI l1)), some (.int (zI l2)), some (.int (zI l3)), some (.int (zI (zA S 65 l3)))] [.int (zI (((8 * (zA S 65 l3)) + l3) - 9)), .ref 63, .int (zI (((8 * (zA S 65 l3)) + l3) - 9)), .ref 63] (rd S) rfl ?_
        refine s_iald rfl (rd_a63 _) h (fun h => ?_)
        show eG _ 173 167 [some (.ref 49), some (.int (zI l1)), some (.int (zI l2)), some (.int (zI l3)), some (.int (zI (zA S 65 l3)))] [.int (zI (zA S 63 (((8 * (zA S 65 l3)) + l3) - 9))), .int (zI (((8 * (zA S 65 l3)) + l3) - 9)), .ref 63] (rd S) _
        refine g_run 1 168 [some (.ref 49), some (.int (zI l1)), some (.int (zI l2)), some (.int (zI l3)), some (.int (zI (zA S 65 l3)))] [.int (zI l2), .int (zI (zA S 63 (((8 * (zA S 65 l3)) + l3) - 9))), .int (zI (((8 * (zA S 65 l3)) + l3) - 9)), .ref 63] (rd S) rfl ?_
        refine s_iadd rfl ?_
        refine s_iast rfl (rd_a63 _) (rw_a63 _ _) h (fun h => ?_)
        show eG _ 173 170 [some (.ref 49), some (.int (zI l1)), some (.int (zI l2)), some (.int (zI l3)), some (.int (zI (zA S 65 l3)))] [] (rd (wA S 63 (((8 * (zA S 65 l3)) + l3) - 9) ((zA S 63 (((8 * (zA S 65 l3)) + l3) - 9)) + l2))) _
        refine g_run 4 127 [some (.ref 49), some (.int (zI l1)), some (.int (zI l2)), some (.int (zI (zA S 65 l3))), some (.int (zI (zA S 65 l3)))] [] (rd (wA S 63 (((8 * (zA S 65 l3)) + l3) - 9) ((zA S 63 (((8 * (zA S 65 l3)) + l3) - 9)) + l2))) rfl ?_
        refine g_fgt [false, false, false, false, true] ?_
        show eG _ 173 127 [some (.ref 49), some (.int (zI l1)), some (.int (zI l2)), some (.int (zI (zA S 65 l3))), none] [] (rd (wA S 63 (((8 * (zA S 65 l3)) + l3) - 9) ((zA S 63 (((8 * (zA S 65 l3)) + l3) - 9)) + l2))) _
        exact ih (wA S 63 (((8 * (zA S 65 l3)) + l3) - 9) ((zA S 63 (((8 * (zA S 65 l3)) + l3) - 9)) + l2)) l1 l2 (zA S 65 l3) h hk
def fM_moveBy (n : Nat) (S : ZS) (l1 : Int) : Option (Int × ZS) := gX l1 8 ((fM_moveBy_1 n S l1 (zA S 62 l1) (9 + l1)).bind fun z1 => gX z1.2 9 ((gC (zA S 61 z1.2) z1.1 (if (zA S 61 z1.2) < z1.1 then gX z1.2 9 (some (zA S 61 z1.2)) else some z1.1)).bind fun z2 => gX z1.2 9 (gX z1.2 9 (gX l1 8 (gX l1 8 ((fM_moveBy_2 n (wA (wA S 61 z1.2 ((zA S 61 z1.2) - z2)) 62 l1 ((zA S 62 l1) - z2)) l1 z2 (9 + l1)).bind fun z3 => gX (9 + l1) 17 (some (z2 * (zA z3 64 (9 + l1)), z3))))))))
set_option maxRecDepth 100000 in
set_option maxHeartbeats 4000000 in
theorem sM_moveBy (o : eO) (n : Nat) (S : ZS) (l1 : Int) {w : Int × ZS} (h : fM_moveBy n S l1 = some w) : eG o 173 0 (eEnt 173 [.ref 49, .int (zI l1)]) [] (rd S) (rv (some (.int (zI w.1))) (rd w.2)) := by
  unfold fM_moveBy at h
  show eG o 173 0 [some (.ref 49), some (.int (zI l1)), none, none, none] [] (rd S) _
  refine g_run 1 1 [some (.ref 49), some (.int (zI l1)), none, none, none] [.ref 49] (rd S) rfl ?_
  refine g_getf rfl rfl (rd_o49 _) rfl ?_
  show eG _ 173 4 [some (.ref 49), some (.int (zI l1)), none, none, none] [.ref 62] (rd S) _
  refine g_run 1 5 [some (.ref 49), some (.int (zI l1)), none, none, none] [.int (zI l1), .ref 62] (rd S) rfl ?_
  refine s_iald rfl (rd_a62 _) h (fun h => ?_)
  show eG _ 173 6 [some (.ref 49), some (.int (zI l1)), none, none, none] [.int (zI (zA S 62 l1))] (rd S) _
  refine g_run 3 10 [some (.ref 49), some (.int (zI l1)), some (.int (zI (zA S 62 l1))), none, none] [.int (zI l1), .int (zI 9)] (rd S) rfl ?_
  refine s_iadd rfl ?_
  refine g_run 1 12 [some (.ref 49), some (.int (zI l1)), some (.int (zI (zA S 62 l1))), some (.int (zI (9 + l1))), none] [] (rd S) rfl ?_
  obtain ⟨z1, h1, h⟩ := zB_inv h
  refine sM_moveBy_1 o n S l1 (zA S 62 l1) (9 + l1) h1 ?_
  show eG _ 173 81 [some (.ref 49), some (.int (zI l1)), some (.int (zI z1.1)), some (.int (zI z1.2)), none] [] (rd S) _
  refine g_run 1 82 [some (.ref 49), some (.int (zI l1)), some (.int (zI z1.1)), some (.int (zI z1.2)), none] [.ref 49] (rd S) rfl ?_
  refine g_getf rfl rfl (rd_o49 _) rfl ?_
  show eG _ 173 85 [some (.ref 49), some (.int (zI l1)), some (.int (zI z1.1)), some (.int (zI z1.2)), none] [.ref 61] (rd S) _
  refine g_run 1 86 [some (.ref 49), some (.int (zI l1)), some (.int (zI z1.1)), some (.int (zI z1.2)), none] [.int (zI z1.2), .ref 61] (rd S) rfl ?_
  refine s_iald rfl (rd_a61 _) h (fun h => ?_)
  show eG _ 173 87 [some (.ref 49), some (.int (zI l1)), some (.int (zI z1.1)), some (.int (zI z1.2)), none] [.int (zI (zA S 61 z1.2))] (rd S) _
  refine g_run 1 88 [some (.ref 49), some (.int (zI l1)), some (.int (zI z1.1)), some (.int (zI z1.2)), none] [.int (zI z1.1), .int (zI (zA S 61 z1.2))] (rd S) rfl ?_
  refine s_join (α := Int) (fun z => eG o 173 101 [some (.ref 49), some (.int (zI l1)), none, some (.int (zI z1.2)), none] [.int (zI z)] (rd S) (rv (some (.int (zI w.1))) (rd w.2))) h (fun z2 h => ?_) (fun z2 h j => ?_)
  · show eG _ 173 101 [some (.ref 49), some (.int (zI l1)), none, some (.int (zI z1.2)), none] [.int (zI z2)] (rd S) _
    refine g_run 2 103 [some (.ref 49), some (.int (zI l1)), some (.int (zI z2)), some (.int (zI z1.2)), none] [.ref 49] (rd S) rfl ?_
    refine g_getf rfl rfl (rd_o49 _) rfl ?_
    show eG _ 173 106 [some (.ref 49), some (.int (zI l1)), some (.int (zI z2)), some (.int (zI z1.2)), none] [.ref 61] (rd S) _
    refine g_run 2 108 [some (.ref 49), some (.int (zI l1)), some (.int (zI z2)), some (.int (zI z1.2)), none] [.int (zI z1.2), .ref 61, .int (zI z1.2), .ref 61] (rd S) rfl ?_
    refine s_iald rfl (rd_a61 _) h (fun h => ?_)
    show eG _ 173 109 [some (.ref 49), some (.int (zI l1)), some (.int (zI z2)), some (.int (zI z1.2)), none] [.int (zI (zA S 61 z1.2)), .int (zI z1.2), .ref 61] (rd S) _
    refine g_run 1 110 [some (.ref 49), some (.int (zI l1)), some (.int (zI z2)), some (.int (zI z1.2)), none] [.int (zI z2), .int (zI (zA S 61 z1.2)), .int (zI z1.2), .ref 61] (rd S) rfl ?_
    refine s_isub rfl ?_
    refine s_iast rfl (rd_a61 _) (rw_a61 _ _) h (fun h => ?_)
    show eG _ 173 112 [some (.ref 49), some (.int (zI l1)), some (.int (zI z2)), some (.int (zI z1.2)), none] [] (rd (wA S 61 z1.2 ((zA S 61 z1.2) - z2))) _
    refine g_run 1 113 [some (.ref 49), some (.int (zI l1)), some (.int (zI z2)), some (.int (zI z1.2)), none] [.ref 49] (rd (wA S 61 z1.2 ((zA S 61 z1.2) - z2))) rfl ?_
    refine g_getf rfl rfl (rd_o49 _) rfl ?_
    show eG _ 173 116 [some (.ref 49), some (.int (zI l1)), some (.int (zI z2)), some (.int (zI z1.2)), none] [.ref 62] (rd (wA S 61 z1.2 ((zA S 61 z1.2) - z2))) _
    refine g_run 2 118 [some (.ref 49), some (.int (zI l1)), some (.int (zI z2)), some (.int (zI z1.2)), none] [.int (zI l1), .ref 62, .int (zI l1), .ref 62] (rd (wA S 61 z1.2 ((zA S 61 z1.2) - z2))) rfl ?_
    refine s_iald rfl (rd_a62 _) h (fun h => ?_)
    show eG _ 173 119 [some (.ref 49), some (.int (zI l1)), some (.int (zI z2)), some (.int (zI z1.2)), none] [.int (zI (zA S 62 l1)), .int (zI l1), .ref 62] (rd (wA S 61 z1.2 ((zA S 61 z1.2) - z2))) _
    refine g_run 1 120 [some (.ref 49), some (.int (zI l1)), some (.int (zI z2)), some (.int (zI z1.2)), none] [.int (zI z2), .int (zI (zA S 62 l1)), .int (zI l1), .ref 62] (rd (wA S 61 z1.2 ((zA S 61 z1.2) - z2))) rfl ?_
    refine s_isub rfl ?_
    refine s_iast rfl (rd_a62 _) (rw_a62 _ _) h (fun h => ?_)
    show eG _ 173 122 [some (.ref 49), some (.int (zI l1)), some (.int (zI z2)), some (.int (zI z1.2)), none] [] (rd (wA (wA S 61 z1.2 ((zA S 61 z1.2) - z2)) 62 l1 ((zA S 62 l1) - z2))) _
    refine g_run 2 125 [some (.ref 49), some (.int (zI l1)), some (.int (zI z2)), some (.int (zI z1.2)), none] [.int (zI l1), .int (zI 9)] (rd (wA (wA S 61 z1.2 ((zA S 61 z1.2) - z2)) 62 l1 ((zA S 62 l1) - z2))) rfl ?_
    refine s_iadd rfl ?_
    refine g_run 1 127 [some (.ref 49), some (.int (zI l1)), some (.int (zI z2)), some (.int (zI (9 + l1))), none] [] (rd (wA (wA S 61 z1.2 ((zA S 61 z1.2) - z2)) 62 l1 ((zA S 62 l1) - z2))) rfl ?_
    obtain ⟨z3, h1, h⟩ := zB_inv h
    refine sM_moveBy_2 o n (wA (wA S 61 z1.2 ((zA S 61 z1.2) - z2)) 62 l1 ((zA S 62 l1) - z2)) l1 z2 (9 + l1) h1 ?_
    show eG _ 173 198 [some (.ref 49), some (.int (zI l1)), some (.int (zI z2)), none, none] [] (rd z3) _
    refine g_run 2 200 [some (.ref 49), some (.int (zI l1)), some (.int (zI z2)), none, none] [.ref 49, .int (zI z2)] (rd z3) rfl ?_
    refine g_getf rfl rfl (rd_o49 _) rfl ?_
    show eG _ 173 203 [some (.ref 49), some (.int (zI l1)), some (.int (zI z2)), none, none] [.ref 64, .int (zI z2)] (rd z3) _
    refine g_run 2 206 [some (.ref 49), some (.int (zI l1)), some (.int (zI z2)), none, none] [.int (zI l1), .int (zI 9), .ref 64, .int (zI z2)] (rd z3) rfl ?_
    refine s_iadd rfl ?_
    refine s_iald rfl (rd_a64 _) h (fun h => ?_)
    show eG _ 173 208 [some (.ref 49), some (.int (zI l1)), some (.int (zI z2)), none, none] [.int (zI (zA z3 64 (9 + l1))), .int (zI z2)] (rd z3) _
    refine s_imul rfl ?_
    cases h
    exact s_ret rfl rfl rfl
  · skip
    refine s_icmp_ge rfl h (fun h => ?_) (fun h => ?_)
    · show eG _ 173 100 [some (.ref 49), some (.int (zI l1)), some (.int (zI z1.1)), some (.int (zI z1.2)), none] [] (rd S) _
      refine g_run 1 101 [some (.ref 49), some (.int (zI l1)), some (.int (zI z1.1)), some (.int (zI z1.2)), none] [.int (zI z1.1)] (rd S) rfl ?_
      refine g_fgt [false, false, true, false, true] ?_
      show eG _ 173 101 [some (.ref 49), some (.int (zI l1)), none, some (.int (zI z1.2)), none] [.int (zI z1.1)] (rd S) _
      cases h
      exact j
    · show eG _ 173 91 [some (.ref 49), some (.int (zI l1)), some (.int (zI z1.1)), some (.int (zI z1.2)), none] [] (rd S) _
      refine g_run 1 92 [some (.ref 49), some (.int (zI l1)), some (.int (zI z1.1)), some (.int (zI z1.2)), none] [.ref 49] (rd S) rfl ?_
      refine g_getf rfl rfl (rd_o49 _) rfl ?_
      show eG _ 173 95 [some (.ref 49), some (.int (zI l1)), some (.int (zI z1.1)), some (.int (zI z1.2)), none] [.ref 61] (rd S) _
      refine g_run 1 96 [some (.ref 49), some (.int (zI l1)), some (.int (zI z1.1)), some (.int (zI z1.2)), none] [.int (zI z1.2), .ref 61] (rd S) rfl ?_
      refine s_iald rfl (rd_a61 _) h (fun h => ?_)
      show eG _ 173 97 [some (.ref 49), some (.int (zI l1)), some (.int (zI z1.1)), some (.int (zI z1.2)), none] [.int (zI (zA S 61 z1.2))] (rd S) _
      refine g_run 1 101 [some (.ref 49), some (.int (zI l1)), some (.int (zI z1.1)), some (.int (zI z1.2)), none] [.int (zI (zA S 61 z1.2))] (rd S) rfl ?_
      refine g_fgt [false, false, true, false, true] ?_
      show eG _ 173 101 [some (.ref 49), some (.int (zI l1)), none, some (.int (zI z1.2)), none] [.int (zI (zA S 61 z1.2))] (rd S) _
      cases h
      exact j
def fM_carry_1 : Nat → ZS → Int → Int → Int → Int → Option (Int × ZS)
  | 0, _, _, _, _, _ => none
  | n + 1, S, l1, l2, l3, l4 => gC l4 8 (if l4 < 8 then (gC l4 (zF S 49 1) (if l4 < (zF S 49 1) then gX (5 * l4) 40 (gC (zA S 50 (5 * l4)) 2 (if (zA S 50 (5 * l4)) = 2 then some 0 else some 1)) else some 0)).bind fun z1 => (gC z1 0 (if z1 = 0 then some 0 else (fM_has n S l1 l4).bind fun z5 => gC z5 0 (if z5 = 0 then some 0 else (fM_givenBy n S l4).bind fun z6 => some z6))).bind fun z2 => gX l4 9 ((gC z1 0 (if z1 = 0 then some 0 else (fM_has n (wA S 61 l4 z2) l2 l4).bind fun z4 => gC z4 0 (if z4 = 0 then some 0 else gX ((5 * l4) + 1) 40 (some (zA S 50 ((5 * l4) + 1)))))).bind fun z3 => gX l4 8 (gX l4 8 (fM_carry_1 n (wA (wA S 61 l4 z2) 62 l4 z3) l1 l2 (l3 + (zA (wA (wA S 61 l4 z2) 62 l4 z3) 62 l4)) (l4 + 1)))) else some (l3, S))
set_option maxRecDepth 100000 in
set_option maxHeartbeats 4000000 in
theorem sM_carry_1 (o : eO) : ∀ (n : Nat) (S : ZS) (l1 l2 l3 l4 : Int) {w : Int × ZS} {r : eP} (h : fM_carry_1 n S l1 l2 l3 l4 = some w) (hk : eG o 168 141 [some (.ref 49), none, none, some (.int (zI w.1)), none, none, none] [] (rd w.2) r), eG o 168 22 [some (.ref 49), some (.int (zI l1)), some (.int (zI l2)), some (.int (zI l3)), some (.int (zI l4)), none, none] [] (rd S) r := by
  intro n
  induction n with
  | zero => intro S l1 l2 l3 l4 w r h hk; unfold fM_carry_1 at h; cases h
  | succ n ih =>
    intro S l1 l2 l3 l4 w r h hk
    unfold fM_carry_1 at h
    refine g_run 2 26 [some (.ref 49), some (.int (zI l1)), some (.int (zI l2)), some (.int (zI l3)), some (.int (zI l4)), none, none] [.int (zI 8), .int (zI l4)] (rd S) rfl ?_
    refine s_icmp_ge rfl h (fun h => ?_) (fun h => ?_)
    · show eG _ 168 141 [some (.ref 49), some (.int (zI l1)), some (.int (zI l2)), some (.int (zI l3)), some (.int (zI l4)), none, none] [] (rd S) _
      refine g_fgt [false, true, true, false, true, true, true] ?_
      show eG _ 168 141 [some (.ref 49), none, none, some (.int (zI l3)), none, none, none] [] (rd S) _
      cases h
      exact hk
    · show eG _ 168 29 [some (.ref 49), some (.int (zI l1)), some (.int (zI l2)), some (.int (zI l3)), some (.int (zI l4)), none, none] [] (rd S) _
      refine g_run 2 32 [some (.ref 49), some (.int (zI l1)), some (.int (zI l2)), some (.int (zI l3)), some (.int (zI l4)), none, none] [.ref 49, .int (zI l4)] (rd S) rfl ?_
      refine g_getf rfl rfl (rd_o49 _) rfl ?_
      show eG _ 168 35 [some (.ref 49), some (.int (zI l1)), some (.int (zI l2)), some (.int (zI l3)), some (.int (zI l4)), none, none] [.int (zI (zF S 49 1)), .int (zI l4)] (rd S) _
      refine s_join (α := Int) (fun z => eG o 168 56 [some (.ref 49), some (.int (zI l1)), some (.int (zI l2)), some (.int (zI l3)), some (.int (zI l4)), none, none] [.int (zI z)] (rd S) r) h (fun z1 h => ?_) (fun z1 h j => ?_)
      · show eG _ 168 56 [some (.ref 49), some (.int (zI l1)), some (.int (zI l2)), some (.int (zI l3)), some (.int (zI l4)), none, none] [.int (zI z1)] (rd S) _
        refine g_run 2 59 [some (.ref 49), some (.int (zI l1)), some (.int (zI l2)), some (.int (zI l3)), some (.int (zI l4)), some (.int (zI z1)), none] [.ref 49] (rd S) rfl ?_
        refine g_getf rfl rfl (rd_o49 _) rfl ?_
        show eG _ 168 62 [some (.ref 49), some (.int (zI l1)), some (.int (zI l2)), some (.int (zI l3)), some (.int (zI l4)), some (.int (zI z1)), none] [.ref 61] (rd S) _
        refine g_run 2 66 [some (.ref 49), some (.int (zI l1)), some (.int (zI l2)), some (.int (zI l3)), some (.int (zI l4)), some (.int (zI z1)), none] [.int (zI z1), .int (zI l4), .ref 61] (rd S) rfl ?_
        refine s_join (α := Int) (fun z => eG o 168 88 [some (.ref 49), some (.int (zI l1)), some (.int (zI l2)), some (.int (zI l3)), some (.int (zI l4)), some (.int (zI z1)), none] [.int (zI z), .int (zI l4), .ref 61] (rd S) r) h (fun z2 h => ?_) (fun z2 h j => ?_)
        · show eG _ 168 88 [some (.ref 49), some (.int (zI l1)), some (.int (zI l2)), some (.int (zI l3)), some (.int (zI l4)), some (.int (zI z1)), none] [.int (zI z2), .int (zI l4), .ref 61] (rd S) _
          refine s_iast rfl (rd_a61 _) (rw_a61 _ _) h (fun h => ?_)
          show eG _ 168 89 [some (.ref 49), some (.int (zI l1)), some (.int (zI l2)), some (.int (zI l3)), some (.int (zI l4)), some (.int (zI z1)), none] [] (rd (wA S 61 l4 z2)) _
          refine g_run 1 90 [some (.ref 49), some (.int (zI l1)), some (.int (zI l2)), some (.int (zI l3)), some (.int (zI l4)), some (.int (zI z1)), none] [.ref 49] (rd (wA S 61 l4 z2)) rfl ?_
          refine g_getf rfl rfl (rd_o49 _) rfl ?_
          show eG _ 168 93 [some (.ref 49), some (.int (zI l1)), some (.int (zI l2)), some (.int (zI l3)), some (.int (zI l4)), some (.int (zI z1)), none] [.ref 62] (rd (wA S 61 l4 z2)) _
          refine g_run 2 97 [some (.ref 49), some (.int (zI l1)), some (.int (zI l2)), some (.int (zI l3)), some (.int (zI l4)), some (.int (zI z1)), none] [.int (zI z1), .int (zI l4), .ref 62] (rd (wA S 61 l4 z2)) rfl ?_
          refine s_join (α := Int) (fun z => eG o 168 124 [some (.ref 49), some (.int (zI l1)), some (.int (zI l2)), some (.int (zI l3)), some (.int (zI l4)), none, none] [.int (zI z), .int (zI l4), .ref 62] (rd (wA S 61 l4 z2)) r) h (fun z3 h => ?_) (fun z3 h j => ?_)
          · show eG _ 168 124 [some (.ref 49), some (.int (zI l1)), some (.int (zI l2)), some (.int (zI l3)), some (.int (zI l4)), none, none] [.int (zI z3), .int (zI l4), .ref 62] (rd (wA S 61 l4 z2)) _
            refine s_iast rfl (rd_a62 _) (rw_a62 _ _) h (fun h => ?_)
            show eG _ 168 125 [some (.ref 49), some (.int (zI l1)), some (.int (zI l2)), some (.int (zI l3)), some (.int (zI l4)), none, none] [] (rd (wA (wA S 61 l4 z2) 62 l4 z3)) _
            refine g_run 2 127 [some (.ref 49), some (.int (zI l1)), some (.int (zI l2)), some (.int (zI l3)), some (.int (zI l4)), none, none] [.ref 49, .int (zI l3)] (rd (wA (wA S 61 l4 z2) 62 l4 z3)) rfl ?_
            refine g_getf rfl rfl (rd_o49 _) rfl ?_
            show eG _ 168 130 [some (.ref 49), some (.int (zI l1)), some (.int (zI l2)), some (.int (zI l3)), some (.int (zI l4)), none, none] [.ref 62, .int (zI l3)] (rd (wA (wA S 61 l4 z2) 62 l4 z3)) _
            refine g_run 1 132 [some (.ref 49), some (.int (zI l1)), some (.int (zI l2)), some (.int (zI l3)), some (.int (zI l4)), none, none] [.int (zI l4), .ref 62, .int (zI l3)] (rd (wA (wA S 61 l4 z2) 62 l4 z3)) rfl ?_
            refine s_iald rfl (rd_a62 _) h (fun h => ?_)
            show eG _ 168 133 [some (.ref 49), some (.int (zI l1)), some (.int (zI l2)), some (.int (zI l3)), some (.int (zI l4)), none, none] [.int (zI (zA (wA (wA S 61 l4 z2) 62 l4 z3) 62 l4)), .int (zI l3)] (rd (wA (wA S 61 l4 z2) 62 l4 z3)) _
            refine s_iadd rfl ?_
            refine g_run 1 135 [some (.ref 49), some (.int (zI l1)), some (.int (zI l2)), some (.int (zI (l3 + (zA (wA (wA S 61 l4 z2) 62 l4 z3) 62 l4)))), some (.int (zI l4)), none, none] [] (rd (wA (wA S 61 l4 z2) 62 l4 z3)) rfl ?_
            refine s_iinc (L' := [some (.ref 49), some (.int (zI l1)), some (.int (zI l2)), some (.int (zI (l3 + (zA (wA (wA S 61 l4 z2) 62 l4 z3) 62 l4)))), some (.int (zI (l4 + 1))), none, none]) rfl rfl rfl ?_
            refine g_run 1 22 [some (.ref 49), some (.int (zI l1)), some (.int (zI l2)), some (.int (zI (l3 + (zA (wA (wA S 61 l4 z2) 62 l4 z3) 62 l4)))), some (.int (zI (l4 + 1))), none, none] [] (rd (wA (wA S 61 l4 z2) 62 l4 z3)) rfl ?_
            exact ih (wA (wA S 61 l4 z2) 62 l4 z3) l1 l2 (l3 + (zA (wA (wA S 61 l4 z2) 62 l4 z3) 62 l4)) (l4 + 1) h hk
          · skip
            refine s_if_eq rfl h (fun h => ?_) (fun h => ?_)
            · show eG _ 168 123 [some (.ref 49), some (.int (zI l1)), some (.int (zI l2)), some (.int (zI l3)), some (.int (zI l4)), some (.int (zI z1)), none] [.int (zI l4), .ref 62] (rd (wA S 61 l4 z2)) _
              refine g_run 1 124 [some (.ref 49), some (.int (zI l1)), some (.int (zI l2)), some (.int (zI l3)), some (.int (zI l4)), some (.int (zI z1)), none] [.int (zI 0), .int (zI l4), .ref 62] (rd (wA S 61 l4 z2)) rfl ?_
              refine g_fgt [false, false, false, false, false, true, true] ?_
              show eG _ 168 124 [some (.ref 49), some (.int (zI l1)), some (.int (zI l2)), some (.int (zI l3)), some (.int (zI l4)), none, none] [.int (zI 0), .int (zI l4), .ref 62] (rd (wA S 61 l4 z2)) _
              cases h
              exact j
            · show eG _ 168 100 [some (.ref 49), some (.int (zI l1)), some (.int (zI l2)), some (.int (zI l3)), some (.int (zI l4)), some (.int (zI z1)), none] [.int (zI l4), .ref 62] (rd (wA S 61 l4 z2)) _
              refine g_run 2 103 [some (.ref 49), some (.int (zI l1)), some (.int (zI l2)), some (.int (zI l3)), some (.int (zI l4)), some (.int (zI z1)), none] [.int (zI l4), .int (zI l2), .int (zI l4), .ref 62] (rd (wA S 61 l4 z2)) rfl ?_
              refine s_sta (fun z => some (.int (zI z))) (fun _ => rd (wA S 61 l4 z2)) rfl rfl rfl rfl rfl rfl rfl (fun z hz => sM_has o n (wA S 61 l4 z2) l2 l4 hz) rfl h (fun z4 h => ?_)
              show eG _ 168 106 [some (.ref 49), some (.int (zI l1)), some (.int (zI l2)), some (.int (zI l3)), some (.int (zI l4)), some (.int (zI z1)), none] [.int (zI z4), .int (zI l4), .ref 62] (rd (wA S 61 l4 z2)) _
              refine s_if_eq rfl h (fun h => ?_) (fun h => ?_)
              · show eG _ 168 123 [some (.ref 49), some (.int (zI l1)), some (.int (zI l2)), some (.int (zI l3)), some (.int (zI l4)), some (.int (zI z1)), none] [.int (zI l4), .ref 62] (rd (wA S 61 l4 z2)) _
                refine g_run 1 124 [some (.ref 49), some (.int (zI l1)), some (.int (zI l2)), some (.int (zI l3)), some (.int (zI l4)), some (.int (zI z1)), none] [.int (zI 0), .int (zI l4), .ref 62] (rd (wA S 61 l4 z2)) rfl ?_
                refine g_fgt [false, false, false, false, false, true, true] ?_
                show eG _ 168 124 [some (.ref 49), some (.int (zI l1)), some (.int (zI l2)), some (.int (zI l3)), some (.int (zI l4)), none, none] [.int (zI 0), .int (zI l4), .ref 62] (rd (wA S 61 l4 z2)) _
                cases h
                exact j
              · show eG _ 168 109 [some (.ref 49), some (.int (zI l1)), some (.int (zI l2)), some (.int (zI l3)), some (.int (zI l4)), some (.int (zI z1)), none] [.int (zI l4), .ref 62] (rd (wA S 61 l4 z2)) _
                refine g_run 1 110 [some (.ref 49), some (.int (zI l1)), some (.int (zI l2)), some (.int (zI l3)), some (.int (zI l4)), some (.int (zI z1)), none] [.ref 49, .int (zI l4), .ref 62] (rd (wA S 61 l4 z2)) rfl ?_
                refine g_getf rfl rfl (rd_o49 _) rfl ?_
                show eG _ 168 113 [some (.ref 49), some (.int (zI l1)), some (.int (zI l2)), some (.int (zI l3)), some (.int (zI l4)), some (.int (zI z1)), none] [.ref 50, .int (zI l4), .ref 62] (rd (wA S 61 l4 z2)) _
                refine g_run 2 116 [some (.ref 49), some (.int (zI l1)), some (.int (zI l2)), some (.int (zI l3)), some (.int (zI l4)), some (.int (zI z1)), none] [.int (zI l4), .int (zI 5), .ref 50, .int (zI l4), .ref 62] (rd (wA S 61 l4 z2)) rfl ?_
                refine s_imul rfl ?_
                refine g_run 1 118 [some (.ref 49), some (.int (zI l1)), some (.int (zI l2)), some (.int (zI l3)), some (.int (zI l4)), some (.int (zI z1)), none] [.int (zI 1), .int (zI (5 * l4)), .ref 50, .int (zI l4), .ref 62] (rd (wA S 61 l4 z2)) rfl ?_
                refine s_iadd rfl ?_
                refine s_iald rfl (rd_a50 _) h (fun h => ?_)
                show eG _ 168 120 [some (.ref 49), some (.int (zI l1)), some (.int (zI l2)), some (.int (zI l3)), some (.int (zI l4)), some (.int (zI z1)), none] [.int (zI (zA S 50 ((5 * l4) + 1))), .int (zI l4), .ref 62] (rd (wA S 61 l4 z2)) _
                refine g_run 1 124 [some (.ref 49), some (.int (zI l1)), some (.int (zI l2)), some (.int (zI l3)), some (.int (zI l4)), some (.int (zI z1)), none] [.int (zI (zA S 50 ((5 * l4) + 1))), .int (zI l4), .ref 62] (rd (wA S 61 l4 z2)) rfl ?_
                refine g_fgt [false, false, false, false, false, true, true] ?_
                show eG _ 168 124 [some (.ref 49), some (.int (zI l1)), some (.int (zI l2)), some (.int (zI l3)), some (.int (zI l4)), none, none] [.int (zI (zA S 50 ((5 * l4) + 1))), .int (zI l4), .ref 62] (rd (wA S 61 l4 z2)) _
                cases h
                exact j
        · skip
          refine s_if_eq rfl h (fun h => ?_) (fun h => ?_)
          · show eG _ 168 87 [some (.ref 49), some (.int (zI l1)), some (.int (zI l2)), some (.int (zI l3)), some (.int (zI l4)), some (.int (zI z1)), none] [.int (zI l4), .ref 61] (rd S) _
            refine g_run 1 88 [some (.ref 49), some (.int (zI l1)), some (.int (zI l2)), some (.int (zI l3)), some (.int (zI l4)), some (.int (zI z1)), none] [.int (zI 0), .int (zI l4), .ref 61] (rd S) rfl ?_
            cases h
            exact j
          · show eG _ 168 69 [some (.ref 49), some (.int (zI l1)), some (.int (zI l2)), some (.int (zI l3)), some (.int (zI l4)), some (.int (zI z1)), none] [.int (zI l4), .ref 61] (rd S) _
            refine g_run 2 72 [some (.ref 49), some (.int (zI l1)), some (.int (zI l2)), some (.int (zI l3)), some (.int (zI l4)), some (.int (zI z1)), none] [.int (zI l4), .int (zI l1), .int (zI l4), .ref 61] (rd S) rfl ?_
            refine s_sta (fun z => some (.int (zI z))) (fun _ => rd S) rfl rfl rfl rfl rfl rfl rfl (fun z hz => sM_has o n S l1 l4 hz) rfl h (fun z5 h => ?_)
            show eG _ 168 75 [some (.ref 49), some (.int (zI l1)), some (.int (zI l2)), some (.int (zI l3)), some (.int (zI l4)), some (.int (zI z1)), none] [.int (zI z5), .int (zI l4), .ref 61] (rd S) _
            refine s_if_eq rfl h (fun h => ?_) (fun h => ?_)
            · show eG _ 168 87 [some (.ref 49), some (.int (zI l1)), some (.int (zI l2)), some (.int (zI l3)), some (.int (zI l4)), some (.int (zI z1)), none] [.int (zI l4), .ref 61] (rd S) _
              refine g_run 1 88 [some (.ref 49), some (.int (zI l1)), some (.int (zI l2)), some (.int (zI l3)), some (.int (zI l4)), some (.int (zI z1)), none] [.int (zI 0), .int (zI l4), .ref 61] (rd S) rfl ?_
              cases h
              exact j
            · show eG _ 168 78 [some (.ref 49), some (.int (zI l1)), some (.int (zI l2)), some (.int (zI l3)), some (.int (zI l4)), some (.int (zI z1)), none] [.int (zI l4), .ref 61] (rd S) _
              refine g_run 2 81 [some (.ref 49), some (.int (zI l1)), some (.int (zI l2)), some (.int (zI l3)), some (.int (zI l4)), some (.int (zI z1)), none] [.int (zI l4), .ref 49, .int (zI l4), .ref 61] (rd S) rfl ?_
              refine s_vir (fun z => some (.int (zI z))) (fun _ => rd S) rfl rfl rfl (rd_o49 _) rfl rfl (fun z hz => sM_givenBy o n S l4 hz) rfl h (fun z6 h => ?_)
              show eG _ 168 84 [some (.ref 49), some (.int (zI l1)), some (.int (zI l2)), some (.int (zI l3)), some (.int (zI l4)), some (.int (zI z1)), none] [.int (zI z6), .int (zI l4), .ref 61] (rd S) _
              refine g_run 1 88 [some (.ref 49), some (.int (zI l1)), some (.int (zI l2)), some (.int (zI l3)), some (.int (zI l4)), some (.int (zI z1)), none] [.int (zI z6), .int (zI l4), .ref 61] (rd S) rfl ?_
              cases h
              exact j
      · skip
        refine s_icmp_ge rfl h (fun h => ?_) (fun h => ?_)
        · show eG _ 168 55 [some (.ref 49), some (.int (zI l1)), some (.int (zI l2)), some (.int (zI l3)), some (.int (zI l4)), none, none] [] (rd S) _
          refine g_run 1 56 [some (.ref 49), some (.int (zI l1)), some (.int (zI l2)), some (.int (zI l3)), some (.int (zI l4)), none, none] [.int (zI 0)] (rd S) rfl ?_
          cases h
          exact j
        · show eG _ 168 38 [some (.ref 49), some (.int (zI l1)), some (.int (zI l2)), some (.int (zI l3)), some (.int (zI l4)), none, none] [] (rd S) _
          refine g_run 1 39 [some (.ref 49), some (.int (zI l1)), some (.int (zI l2)), some (.int (zI l3)), some (.int (zI l4)), none, none] [.ref 49] (rd S) rfl ?_
          refine g_getf rfl rfl (rd_o49 _) rfl ?_
          show eG _ 168 42 [some (.ref 49), some (.int (zI l1)), some (.int (zI l2)), some (.int (zI l3)), some (.int (zI l4)), none, none] [.ref 50] (rd S) _
          refine g_run 2 45 [some (.ref 49), some (.int (zI l1)), some (.int (zI l2)), some (.int (zI l3)), some (.int (zI l4)), none, none] [.int (zI l4), .int (zI 5), .ref 50] (rd S) rfl ?_
          refine s_imul rfl ?_
          refine s_iald rfl (rd_a50 _) h (fun h => ?_)
          show eG _ 168 47 [some (.ref 49), some (.int (zI l1)), some (.int (zI l2)), some (.int (zI l3)), some (.int (zI l4)), none, none] [.int (zI (zA S 50 (5 * l4)))] (rd S) _
          refine g_run 1 48 [some (.ref 49), some (.int (zI l1)), some (.int (zI l2)), some (.int (zI l3)), some (.int (zI l4)), none, none] [.int (zI 2), .int (zI (zA S 50 (5 * l4)))] (rd S) rfl ?_
          refine s_icmp_eq rfl h (fun h => ?_) (fun h => ?_)
          · show eG _ 168 55 [some (.ref 49), some (.int (zI l1)), some (.int (zI l2)), some (.int (zI l3)), some (.int (zI l4)), none, none] [] (rd S) _
            refine g_run 1 56 [some (.ref 49), some (.int (zI l1)), some (.int (zI l2)), some (.int (zI l3)), some (.int (zI l4)), none, none] [.int (zI 0)] (rd S) rfl ?_
            cases h
            exact j
          · show eG _ 168 51 [some (.ref 49), some (.int (zI l1)), some (.int (zI l2)), some (.int (zI l3)), some (.int (zI l4)), none, none] [] (rd S) _
            refine g_run 2 56 [some (.ref 49), some (.int (zI l1)), some (.int (zI l2)), some (.int (zI l3)), some (.int (zI l4)), none, none] [.int (zI 1)] (rd S) rfl ?_
            cases h
            exact j
def fM_carry_2 : Nat → ZS → Int → Int → Option (ZS)
  | 0, _, _, _ => none
  | n + 1, S, l3, l4 => gC l4 72 (if l4 < 72 then gX l4 72 (fM_carry_2 n (wA S 63 l4 0) l3 (l4 + 1)) else some S)
set_option maxRecDepth 100000 in
set_option maxHeartbeats 4000000 in
theorem sM_carry_2 (o : eO) : ∀ (n : Nat) (S : ZS) (l3 l4 : Int) {w : ZS} {r : eP} (h : fM_carry_2 n S l3 l4 = some w) (hk : eG o 168 176 [some (.ref 49), none, none, some (.int (zI l3)), none, none, none] [] (rd w) r), eG o 168 155 [some (.ref 49), none, none, some (.int (zI l3)), some (.int (zI l4)), none, none] [] (rd S) r := by
  intro n
  induction n with
  | zero => intro S l3 l4 w r h hk; unfold fM_carry_2 at h; cases h
  | succ n ih =>
    intro S l3 l4 w r h hk
    unfold fM_carry_2 at h
    refine g_run 2 159 [some (.ref 49), none, none, some (.int (zI l3)), some (.int (zI l4)), none, none] [.int (zI 72), .int (zI l4)] (rd S) rfl ?_
    refine s_icmp_ge rfl h (fun h => ?_) (fun h => ?_)
    · show eG _ 168 176 [some (.ref 49), none, none, some (.int (zI l3)), some (.int (zI l4)), none, none] [] (rd S) _
      refine g_fgt [false, true, true, false, true, true, true] ?_
      show eG _ 168 176 [some (.ref 49), none, none, some (.int (zI l3)), none, none, none] [] (rd S) _
      cases h
      exact hk
    · show eG _ 168 162 [some (.ref 49), none, none, some (.int (zI l3)), some (.int (zI l4)), none, none] [] (rd S) _
      refine g_run 1 163 [some (.ref 49), none, none, some (.int (zI l3)), some (.int (zI l4)), none, none] [.ref 49] (rd S) rfl ?_
      refine g_getf rfl rfl (rd_o49 _) rfl ?_
      show eG _ 168 166 [some (.ref 49), none, none, some (.int (zI l3)), some (.int (zI l4)), none, none] [.ref 63] (rd S) _
      refine g_run 2 169 [some (.ref 49), none, none, some (.int (zI l3)), some (.int (zI l4)), none, none] [.int (zI 0), .int (zI l4), .ref 63] (rd S) rfl ?_
      refine s_iast rfl (rd_a63 _) (rw_a63 _ _) h (fun h => ?_)
      show eG _ 168 170 [some (.ref 49), none, none, some (.int (zI l3)), some (.int (zI l4)), none, none] [] (rd (wA S 63 l4 0)) _
      refine s_iinc (L' := [some (.ref 49), none, none, some (.int (zI l3)), some (.int (zI (l4 + 1))), none, none]) rfl rfl rfl ?_
      refine g_run 1 155 [some (.ref 49), none, none, some (.int (zI l3)), some (.int (zI (l4 + 1))), none, none] [] (rd (wA S 63 l4 0)) rfl ?_
      exact ih (wA S 63 l4 0) l3 (l4 + 1) h hk
def fM_carry_3 : Nat → ZS → Int → Int → Option ((Int × ZS) ⊕ (Int × ZS))
  | 0, _, _, _ => none
  | n + 1, S, l3, l4 => gC l3 0 (if 0 < l3 then (fM_findWay n S).bind fun z1 => gC z1.1 0 (if z1.1 < 0 then some (.inl (-4, z1.2)) else gX z1.1 8 ((fM_moveBy n z1.2 z1.1).bind fun z2 => gX z1.1 8 (fM_carry_3 n z2.2 (l3 - ((zA z1.2 62 z1.1) - (zA z2.2 62 z1.1))) (l4 + z2.1)))) else some (.inr (l4, S)))
set_option maxRecDepth 100000 in
set_option maxHeartbeats 4000000 in
theorem sM_carry_3 (o : eO) : ∀ (n : Nat) (S : ZS) (l3 l4 : Int) {w : (Int × ZS) ⊕ (Int × ZS)} {r : eP} (h : fM_carry_3 n S l3 l4 = some w) (hr : ∀ v, w = .inl v → r (some (.int (zI v.1)), rd v.2)) (hk : ∀ x, w = .inr x → eG o 168 233 [none, none, none, none, some (.int (zI x.1)), none, none] [] (rd x.2) r), eG o 168 179 [some (.ref 49), none, none, some (.int (zI l3)), some (.int (zI l4)), none, none] [] (rd S) r := by
  intro n
  induction n with
  | zero => intro S l3 l4 w r h hr hk; unfold fM_carry_3 at h; cases h
  | succ n ih =>
    intro S l3 l4 w r h hr hk
    unfold fM_carry_3 at h
    refine g_run 1 180 [some (.ref 49), none, none, some (.int (zI l3)), some (.int (zI l4)), none, none] [.int (zI l3)] (rd S) rfl ?_
    refine s_if_le rfl h (fun h => ?_) (fun h => ?_)
    · show eG _ 168 233 [some (.ref 49), none, none, some (.int (zI l3)), some (.int (zI l4)), none, none] [] (rd S) _
      refine g_fgt [true, true, true, true, false, true, true] ?_
      show eG _ 168 233 [none, none, none, none, some (.int (zI l4)), none, none] [] (rd S) _
      cases h
      exact hk _ rfl
    · show eG _ 168 183 [some (.ref 49), none, none, some (.int (zI l3)), some (.int (zI l4)), none, none] [] (rd S) _
      refine g_run 1 184 [some (.ref 49), none, none, some (.int (zI l3)), some (.int (zI l4)), none, none] [.ref 49] (rd S) rfl ?_
      refine s_vir (fun z => some (.int (zI z.1))) (fun z => rd z.2) rfl rfl rfl (rd_o49 _) rfl rfl (fun z hz => sM_findWay o n S hz) rfl h (fun z1 h => ?_)
      show eG _ 168 187 [some (.ref 49), none, none, some (.int (zI l3)), some (.int (zI l4)), none, none] [.int (zI z1.1)] (rd z1.2) _
      refine g_run 2 191 [some (.ref 49), none, none, some (.int (zI l3)), some (.int (zI l4)), some (.int (zI z1.1)), none] [.int (zI z1.1)] (rd z1.2) rfl ?_
      refine s_if_ge rfl h (fun h => ?_) (fun h => ?_)
      · show eG _ 168 197 [some (.ref 49), none, none, some (.int (zI l3)), some (.int (zI l4)), some (.int (zI z1.1)), none] [] (rd z1.2) _
        refine g_run 1 198 [some (.ref 49), none, none, some (.int (zI l3)), some (.int (zI l4)), some (.int (zI z1.1)), none] [.ref 49] (rd z1.2) rfl ?_
        refine g_getf rfl rfl (rd_o49 _) rfl ?_
        show eG _ 168 201 [some (.ref 49), none, none, some (.int (zI l3)), some (.int (zI l4)), some (.int (zI z1.1)), none] [.ref 62] (rd z1.2) _
        refine g_run 1 203 [some (.ref 49), none, none, some (.int (zI l3)), some (.int (zI l4)), some (.int (zI z1.1)), none] [.int (zI z1.1), .ref 62] (rd z1.2) rfl ?_
        refine s_iald rfl (rd_a62 _) h (fun h => ?_)
        show eG _ 168 204 [some (.ref 49), none, none, some (.int (zI l3)), some (.int (zI l4)), some (.int (zI z1.1)), none] [.int (zI (zA z1.2 62 z1.1))] (rd z1.2) _
        refine g_run 4 211 [some (.ref 49), none, none, some (.int (zI l3)), some (.int (zI l4)), some (.int (zI z1.1)), some (.int (zI (zA z1.2 62 z1.1)))] [.int (zI z1.1), .ref 49, .int (zI l4)] (rd z1.2) rfl ?_
        refine s_vir (fun z => some (.int (zI z.1))) (fun z => rd z.2) rfl rfl rfl (rd_o49 _) rfl rfl (fun z hz => sM_moveBy o n z1.2 z1.1 hz) rfl h (fun z2 h => ?_)
        show eG _ 168 214 [some (.ref 49), none, none, some (.int (zI l3)), some (.int (zI l4)), some (.int (zI z1.1)), some (.int (zI (zA z1.2 62 z1.1)))] [.int (zI z2.1), .int (zI l4)] (rd z2.2) _
        refine s_iadd rfl ?_
        refine g_run 4 221 [some (.ref 49), none, none, some (.int (zI l3)), some (.int (zI (l4 + z2.1))), some (.int (zI z1.1)), some (.int (zI (zA z1.2 62 z1.1)))] [.ref 49, .int (zI (zA z1.2 62 z1.1)), .int (zI l3)] (rd z2.2) rfl ?_
        refine g_getf rfl rfl (rd_o49 _) rfl ?_
        show eG _ 168 224 [some (.ref 49), none, none, some (.int (zI l3)), some (.int (zI (l4 + z2.1))), some (.int (zI z1.1)), some (.int (zI (zA z1.2 62 z1.1)))] [.ref 62, .int (zI (zA z1.2 62 z1.1)), .int (zI l3)] (rd z2.2) _
        refine g_run 1 226 [some (.ref 49), none, none, some (.int (zI l3)), some (.int (zI (l4 + z2.1))), some (.int (zI z1.1)), some (.int (zI (zA z1.2 62 z1.1)))] [.int (zI z1.1), .ref 62, .int (zI (zA z1.2 62 z1.1)), .int (zI l3)] (rd z2.2) rfl ?_
        refine s_iald rfl (rd_a62 _) h (fun h => ?_)
        show eG _ 168 227 [some (.ref 49), none, none, some (.int (zI l3)), some (.int (zI (l4 + z2.1))), some (.int (zI z1.1)), some (.int (zI (zA z1.2 62 z1.1)))] [.int (zI (zA z2.2 62 z1.1)), .int (zI (zA z1.2 62 z1.1)), .int (zI l3)] (rd z2.2) _
        refine s_isub rfl ?_
        refine s_isub rfl ?_
        refine g_run 2 179 [some (.ref 49), none, none, some (.int (zI (l3 - ((zA z1.2 62 z1.1) - (zA z2.2 62 z1.1))))), some (.int (zI (l4 + z2.1))), some (.int (zI z1.1)), some (.int (zI (zA z1.2 62 z1.1)))] [] (rd z2.2) rfl ?_
        refine g_fgt [false, true, true, false, false, true, true] ?_
        show eG _ 168 179 [some (.ref 49), none, none, some (.int (zI (l3 - ((zA z1.2 62 z1.1) - (zA z2.2 62 z1.1))))), some (.int (zI (l4 + z2.1))), none, none] [] (rd z2.2) _
        exact ih z2.2 (l3 - ((zA z1.2 62 z1.1) - (zA z2.2 62 z1.1))) (l4 + z2.1) h hr hk
      · show eG _ 168 194 [some (.ref 49), none, none, some (.int (zI l3)), some (.int (zI l4)), some (.int (zI z1.1)), none] [] (rd z1.2) _
        refine g_run 1 196 [some (.ref 49), none, none, some (.int (zI l3)), some (.int (zI l4)), some (.int (zI z1.1)), none] [.int (zI (-4))] (rd z1.2) rfl ?_
        cases h
        exact s_ret rfl rfl (hr _ rfl)
def fM_carry (n : Nat) (S : ZS) (l1 l2 : Int) : Option (Int × ZS) := gC l1 0 (gC l2 0 ((fM_isWeek n S (zF S 49 2) l1 l2).bind fun z1 => gC z1 0 (if z1 = 0 then some (-1, S) else (fM_carry_1 n S l1 l2 0 0).bind fun z2 => gX 8 9 ((fM_carry_2 n (wA z2.2 61 8 (zF z2.2 49 4)) z2.1 0).bind fun z3 => zR (fM_carry_3 n z3 z2.1 0) fun z4 => some (z4.1, z4.2)))))
set_option maxRecDepth 100000 in
set_option maxHeartbeats 4000000 in
theorem sM_carry (o : eO) (n : Nat) (S : ZS) (l1 l2 : Int) {w : Int × ZS} (h : fM_carry n S l1 l2 = some w) : eG o 168 0 (eEnt 168 [.ref 49, .int (zI l1), .int (zI l2)]) [] (rd S) (rv (some (.int (zI w.1))) (rd w.2)) := by
  unfold fM_carry at h
  show eG o 168 0 [some (.ref 49), some (.int (zI l1)), some (.int (zI l2)), none, none, none, none] [] (rd S) _
  refine g_run 2 2 [some (.ref 49), some (.int (zI l1)), some (.int (zI l2)), none, none, none, none] [.ref 49, .ref 49] (rd S) rfl ?_
  refine g_getf rfl rfl (rd_o49 _) rfl ?_
  show eG _ 168 5 [some (.ref 49), some (.int (zI l1)), some (.int (zI l2)), none, none, none, none] [.int (zI (zF S 49 2)), .ref 49] (rd S) _
  refine g_run 1 6 [some (.ref 49), some (.int (zI l1)), some (.int (zI l2)), none, none, none, none] [.int (zI l1), .int (zI (zF S 49 2)), .ref 49] (rd S) rfl ?_
  refine s_i2l rfl h (fun h => ?_)
  refine g_run 1 8 [some (.ref 49), some (.int (zI l1)), some (.int (zI l2)), none, none, none, none] [.int (zI l2), .long (zL l1), .int (zI (zF S 49 2)), .ref 49] (rd S) rfl ?_
  refine s_i2l rfl h (fun h => ?_)
  refine s_vir (fun z => some (.int (zI z))) (fun _ => rd S) rfl rfl rfl (rd_o49 _) rfl rfl (fun z hz => sM_isWeek o n S (zF S 49 2) l1 l2 hz) rfl h (fun z1 h => ?_)
  show eG _ 168 12 [some (.ref 49), some (.int (zI l1)), some (.int (zI l2)), none, none, none, none] [.int (zI z1)] (rd S) _
  refine s_if_ne rfl h (fun h => ?_) (fun h => ?_)
  · show eG _ 168 17 [some (.ref 49), some (.int (zI l1)), some (.int (zI l2)), none, none, none, none] [] (rd S) _
    refine g_run 4 22 [some (.ref 49), some (.int (zI l1)), some (.int (zI l2)), some (.int (zI 0)), some (.int (zI 0)), none, none] [] (rd S) rfl ?_
    obtain ⟨z2, h1, h⟩ := zB_inv h
    refine sM_carry_1 o n S l1 l2 0 0 h1 ?_
    show eG _ 168 141 [some (.ref 49), none, none, some (.int (zI z2.1)), none, none, none] [] (rd z2.2) _
    refine g_run 1 142 [some (.ref 49), none, none, some (.int (zI z2.1)), none, none, none] [.ref 49] (rd z2.2) rfl ?_
    refine g_getf rfl rfl (rd_o49 _) rfl ?_
    show eG _ 168 145 [some (.ref 49), none, none, some (.int (zI z2.1)), none, none, none] [.ref 61] (rd z2.2) _
    refine g_run 2 148 [some (.ref 49), none, none, some (.int (zI z2.1)), none, none, none] [.ref 49, .int (zI 8), .ref 61] (rd z2.2) rfl ?_
    refine g_getf rfl rfl (rd_o49 _) rfl ?_
    show eG _ 168 151 [some (.ref 49), none, none, some (.int (zI z2.1)), none, none, none] [.int (zI (zF z2.2 49 4)), .int (zI 8), .ref 61] (rd z2.2) _
    refine s_iast rfl (rd_a61 _) (rw_a61 _ _) h (fun h => ?_)
    show eG _ 168 152 [some (.ref 49), none, none, some (.int (zI z2.1)), none, none, none] [] (rd (wA z2.2 61 8 (zF z2.2 49 4))) _
    refine g_run 2 155 [some (.ref 49), none, none, some (.int (zI z2.1)), some (.int (zI 0)), none, none] [] (rd (wA z2.2 61 8 (zF z2.2 49 4))) rfl ?_
    obtain ⟨z3, h1, h⟩ := zB_inv h
    refine sM_carry_2 o n (wA z2.2 61 8 (zF z2.2 49 4)) z2.1 0 h1 ?_
    show eG _ 168 176 [some (.ref 49), none, none, some (.int (zI z2.1)), none, none, none] [] (rd z3) _
    refine g_run 2 179 [some (.ref 49), none, none, some (.int (zI z2.1)), some (.int (zI 0)), none, none] [] (rd z3) rfl ?_
    rcases zR_inv h with h1 | ⟨z4, h1, h⟩
    · exact sM_carry_3 o n z3 z2.1 0 h1 (fun v e => by cases e; rfl) (fun x e => by cases e)
    refine sM_carry_3 o n z3 z2.1 0 h1 (fun v e => by cases e) (fun x e => ?_)
    cases e
    show eG _ 168 233 [none, none, none, none, some (.int (zI z4.1)), none, none] [] (rd z4.2) _
    refine g_run 1 235 [none, none, none, none, some (.int (zI z4.1)), none, none] [.int (zI z4.1)] (rd z4.2) rfl ?_
    cases h
    exact s_ret rfl rfl rfl
  · show eG _ 168 15 [some (.ref 49), some (.int (zI l1)), some (.int (zI l2)), none, none, none, none] [] (rd S) _
    refine g_run 1 16 [some (.ref 49), some (.int (zI l1)), some (.int (zI l2)), none, none, none, none] [.int (zI (-1))] (rd S) rfl ?_
    cases h
    exact s_ret rfl rfl rfl
def fM_findOrder_2 : Nat → ZS → Int → Int → Int → Option (Int × ZS)
  | 0, _, _, _, _ => none
  | n + 1, S, l1, l2, l3 => gC l1 2 (if l1 < 2 then gC l3 0 (if 0 < l3 then gX (l3 - 1) 8 (gX ((5 * (zA S 66 (l3 - 1))) + 1) 40 (gX ((5 * l2) + 1) 40 (gC (zA S 50 ((5 * (zA S 66 (l3 - 1))) + 1)) (zA S 50 ((5 * l2) + 1)) (if (zA S 50 ((5 * l2) + 1)) < (zA S 50 ((5 * (zA S 66 (l3 - 1))) + 1)) then gX (l3 - 1) 8 (gX l3 8 (fM_findOrder_2 n (wA S 66 l3 (zA S 66 (l3 - 1))) l1 l2 (l3 + (-1)))) else some (l3, S))))) else some (l3, S)) else some (l3, S))
set_option maxRecDepth 100000 in
set_option maxHeartbeats 4000000 in
theorem sM_findOrder_2 (o : eO) : ∀ (n : Nat) (S : ZS) (l1 l2 l3 : Int) {w : Int × ZS} {r : eP} (h : fM_findOrder_2 n S l1 l2 l3 = some w) (hk : eG o 175 71 [some (.ref 49), some (.int (zI l1)), some (.int (zI l2)), some (.int (zI w.1))] [] (rd w.2) r), eG o 175 12 [some (.ref 49), some (.int (zI l1)), some (.int (zI l2)), some (.int (zI l3))] [] (rd S) r := by
  intro n
  induction n with
  | zero => intro S l1 l2 l3 w r h hk; unfold fM_findOrder_2 at h; cases h
  | succ n ih =>
    intro S l1 l2 l3 w r h hk
    unfold fM_findOrder_2 at h
    refine g_run 2 14 [some (.ref 49), some (.int (zI l1)), some (.int (zI l2)), some (.int (zI l3))] [.int (zI 2), .int (zI l1)] (rd S) rfl ?_
    refine s_icmp_ge rfl h (fun h => ?_) (fun h => ?_)
    · show eG _ 175 71 [some (.ref 49), some (.int (zI l1)), some (.int (zI l2)), some (.int (zI l3))] [] (rd S) _
      cases h
      exact hk
    · show eG _ 175 17 [some (.ref 49), some (.int (zI l1)), some (.int (zI l2)), some (.int (zI l3))] [] (rd S) _
      refine g_run 1 18 [some (.ref 49), some (.int (zI l1)), some (.int (zI l2)), some (.int (zI l3))] [.int (zI l3)] (rd S) rfl ?_
      refine s_if_le rfl h (fun h => ?_) (fun h => ?_)
      · show eG _ 175 71 [some (.ref 49), some (.int (zI l1)), some (.int (zI l2)), some (.int (zI l3))] [] (rd S) _
        cases h
        exact hk
      · show eG _ 175 21 [some (.ref 49), some (.int (zI l1)), some (.int (zI l2)), some (.int (zI l3))] [] (rd S) _
        refine g_run 1 22 [some (.ref 49), some (.int (zI l1)), some (.int (zI l2)), some (.int (zI l3))] [.ref 49] (rd S) rfl ?_
        refine g_getf rfl rfl (rd_o49 _) rfl ?_
        show eG _ 175 25 [some (.ref 49), some (.int (zI l1)), some (.int (zI l2)), some (.int (zI l3))] [.ref 50] (rd S) _
        refine g_run 2 27 [some (.ref 49), some (.int (zI l1)), some (.int (zI l2)), some (.int (zI l3))] [.ref 49, .int (zI 5), .ref 50] (rd S) rfl ?_
        refine g_getf rfl rfl (rd_o49 _) rfl ?_
        show eG _ 175 30 [some (.ref 49), some (.int (zI l1)), some (.int (zI l2)), some (.int (zI l3))] [.ref 66, .int (zI 5), .ref 50] (rd S) _
        refine g_run 2 32 [some (.ref 49), some (.int (zI l1)), some (.int (zI l2)), some (.int (zI l3))] [.int (zI 1), .int (zI l3), .ref 66, .int (zI 5), .ref 50] (rd S) rfl ?_
        refine s_isub rfl ?_
        refine s_iald rfl (rd_a66 _) h (fun h => ?_)
        show eG _ 175 34 [some (.ref 49), some (.int (zI l1)), some (.int (zI l2)), some (.int (zI l3))] [.int (zI (zA S 66 (l3 - 1))), .int (zI 5), .ref 50] (rd S) _
        refine s_imul rfl ?_
        refine g_run 1 36 [some (.ref 49), some (.int (zI l1)), some (.int (zI l2)), some (.int (zI l3))] [.int (zI 1), .int (zI (5 * (zA S 66 (l3 - 1)))), .ref 50] (rd S) rfl ?_
        refine s_iadd rfl ?_
        refine s_iald rfl (rd_a50 _) h (fun h => ?_)
        show eG _ 175 38 [some (.ref 49), some (.int (zI l1)), some (.int (zI l2)), some (.int (zI l3))] [.int (zI (zA S 50 ((5 * (zA S 66 (l3 - 1))) + 1)))] (rd S) _
        refine g_run 1 39 [some (.ref 49), some (.int (zI l1)), some (.int (zI l2)), some (.int (zI l3))] [.ref 49, .int (zI (zA S 50 ((5 * (zA S 66 (l3 - 1))) + 1)))] (rd S) rfl ?_
        refine g_getf rfl rfl (rd_o49 _) rfl ?_
        show eG _ 175 42 [some (.ref 49), some (.int (zI l1)), some (.int (zI l2)), some (.int (zI l3))] [.ref 50, .int (zI (zA S 50 ((5 * (zA S 66 (l3 - 1))) + 1)))] (rd S) _
        refine g_run 2 44 [some (.ref 49), some (.int (zI l1)), some (.int (zI l2)), some (.int (zI l3))] [.int (zI l2), .int (zI 5), .ref 50, .int (zI (zA S 50 ((5 * (zA S 66 (l3 - 1))) + 1)))] (rd S) rfl ?_
        refine s_imul rfl ?_
        refine g_run 1 46 [some (.ref 49), some (.int (zI l1)), some (.int (zI l2)), some (.int (zI l3))] [.int (zI 1), .int (zI (5 * l2)), .ref 50, .int (zI (zA S 50 ((5 * (zA S 66 (l3 - 1))) + 1)))] (rd S) rfl ?_
        refine s_iadd rfl ?_
        refine s_iald rfl (rd_a50 _) h (fun h => ?_)
        show eG _ 175 48 [some (.ref 49), some (.int (zI l1)), some (.int (zI l2)), some (.int (zI l3))] [.int (zI (zA S 50 ((5 * l2) + 1))), .int (zI (zA S 50 ((5 * (zA S 66 (l3 - 1))) + 1)))] (rd S) _
        refine s_icmp_le rfl h (fun h => ?_) (fun h => ?_)
        · show eG _ 175 71 [some (.ref 49), some (.int (zI l1)), some (.int (zI l2)), some (.int (zI l3))] [] (rd S) _
          cases h
          exact hk
        · show eG _ 175 51 [some (.ref 49), some (.int (zI l1)), some (.int (zI l2)), some (.int (zI l3))] [] (rd S) _
          refine g_run 1 52 [some (.ref 49), some (.int (zI l1)), some (.int (zI l2)), some (.int (zI l3))] [.ref 49] (rd S) rfl ?_
          refine g_getf rfl rfl (rd_o49 _) rfl ?_
          show eG _ 175 55 [some (.ref 49), some (.int (zI l1)), some (.int (zI l2)), some (.int (zI l3))] [.ref 66] (rd S) _
          refine g_run 2 57 [some (.ref 49), some (.int (zI l1)), some (.int (zI l2)), some (.int (zI l3))] [.ref 49, .int (zI l3), .ref 66] (rd S) rfl ?_
          refine g_getf rfl rfl (rd_o49 _) rfl ?_
          show eG _ 175 60 [some (.ref 49), some (.int (zI l1)), some (.int (zI l2)), some (.int (zI l3))] [.ref 66, .int (zI l3), .ref 66] (rd S) _
          refine g_run 2 62 [some (.ref 49), some (.int (zI l1)), some (.int (zI l2)), some (.int (zI l3))] [.int (zI 1), .int (zI l3), .ref 66, .int (zI l3), .ref 66] (rd S) rfl ?_
          refine s_isub rfl ?_
          refine s_iald rfl (rd_a66 _) h (fun h => ?_)
          show eG _ 175 64 [some (.ref 49), some (.int (zI l1)), some (.int (zI l2)), some (.int (zI l3))] [.int (zI (zA S 66 (l3 - 1))), .int (zI l3), .ref 66] (rd S) _
          refine s_iast rfl (rd_a66 _) (rw_a66 _ _) h (fun h => ?_)
          show eG _ 175 65 [some (.ref 49), some (.int (zI l1)), some (.int (zI l2)), some (.int (zI l3))] [] (rd (wA S 66 l3 (zA S 66 (l3 - 1)))) _
          refine s_iinc (L' := [some (.ref 49), some (.int (zI l1)), some (.int (zI l2)), some (.int (zI (l3 + (-1))))]) rfl rfl rfl ?_
          refine g_run 1 12 [some (.ref 49), some (.int (zI l1)), some (.int (zI l2)), some (.int (zI (l3 + (-1))))] [] (rd (wA S 66 l3 (zA S 66 (l3 - 1)))) rfl ?_
          exact ih (wA S 66 l3 (zA S 66 (l3 - 1))) l1 l2 (l3 + (-1)) h hk
def fM_findOrder_1 : Nat → ZS → Int → Int → Option (ZS)
  | 0, _, _, _ => none
  | n + 1, S, l1, l2 => gC l2 (zF S 49 1) (if l2 < (zF S 49 1) then (fM_findOrder_2 n S l1 l2 l2).bind fun z1 => gX z1.1 8 (fM_findOrder_1 n (wA z1.2 66 z1.1 l2) l1 (l2 + 1)) else some S)
set_option maxRecDepth 100000 in
set_option maxHeartbeats 4000000 in
theorem sM_findOrder_1 (o : eO) : ∀ (n : Nat) (S : ZS) (l1 l2 : Int) {w : ZS} {r : eP} (h : fM_findOrder_1 n S l1 l2 = some w) (hk : eG o 175 84 [some (.ref 49), some (.int (zI l1)), none, none] [] (rd w) r), eG o 175 2 [some (.ref 49), some (.int (zI l1)), some (.int (zI l2)), none] [] (rd S) r := by
  intro n
  induction n with
  | zero => intro S l1 l2 w r h hk; unfold fM_findOrder_1 at h; cases h
  | succ n ih =>
    intro S l1 l2 w r h hk
    unfold fM_findOrder_1 at h
    refine g_run 2 4 [some (.ref 49), some (.int (zI l1)), some (.int (zI l2)), none] [.ref 49, .int (zI l2)] (rd S) rfl ?_
    refine g_getf rfl rfl (rd_o49 _) rfl ?_
    show eG _ 175 7 [some (.ref 49), some (.int (zI l1)), some (.int (zI l2)), none] [.int (zI (zF S 49 1)), .int (zI l2)] (rd S) _
    refine s_icmp_ge rfl h (fun h => ?_) (fun h => ?_)
    · show eG _ 175 84 [some (.ref 49), some (.int (zI l1)), some (.int (zI l2)), none] [] (rd S) _
      refine g_fgt [false, false, true, true] ?_
      show eG _ 175 84 [some (.ref 49), some (.int (zI l1)), none, none] [] (rd S) _
      cases h
      exact hk
    · show eG _ 175 10 [some (.ref 49), some (.int (zI l1)), some (.int (zI l2)), none] [] (rd S) _
      refine g_run 2 12 [some (.ref 49), some (.int (zI l1)), some (.int (zI l2)), some (.int (zI l2))] [] (rd S) rfl ?_
      obtain ⟨z1, h1, h⟩ := zB_inv h
      refine sM_findOrder_2 o n S l1 l2 l2 h1 ?_
      show eG _ 175 71 [some (.ref 49), some (.int (zI l1)), some (.int (zI l2)), some (.int (zI z1.1))] [] (rd z1.2) _
      refine g_run 1 72 [some (.ref 49), some (.int (zI l1)), some (.int (zI l2)), some (.int (zI z1.1))] [.ref 49] (rd z1.2) rfl ?_
      refine g_getf rfl rfl (rd_o49 _) rfl ?_
      show eG _ 175 75 [some (.ref 49), some (.int (zI l1)), some (.int (zI l2)), some (.int (zI z1.1))] [.ref 66] (rd z1.2) _
      refine g_run 2 77 [some (.ref 49), some (.int (zI l1)), some (.int (zI l2)), some (.int (zI z1.1))] [.int (zI l2), .int (zI z1.1), .ref 66] (rd z1.2) rfl ?_
      refine s_iast rfl (rd_a66 _) (rw_a66 _ _) h (fun h => ?_)
      show eG _ 175 78 [some (.ref 49), some (.int (zI l1)), some (.int (zI l2)), some (.int (zI z1.1))] [] (rd (wA z1.2 66 z1.1 l2)) _
      refine s_iinc (L' := [some (.ref 49), some (.int (zI l1)), some (.int (zI (l2 + 1))), some (.int (zI z1.1))]) rfl rfl rfl ?_
      refine g_run 1 2 [some (.ref 49), some (.int (zI l1)), some (.int (zI (l2 + 1))), some (.int (zI z1.1))] [] (rd (wA z1.2 66 z1.1 l2)) rfl ?_
      refine g_fgt [false, false, false, true] ?_
      show eG _ 175 2 [some (.ref 49), some (.int (zI l1)), some (.int (zI (l2 + 1))), none] [] (rd (wA z1.2 66 z1.1 l2)) _
      exact ih (wA z1.2 66 z1.1 l2) l1 (l2 + 1) h hk
def fM_findOrder_3 : Nat → ZS → Int → Int → Option (ZS)
  | 0, _, _, _ => none
  | n + 1, S, l1, l2 => gV (zF S 49 1) 2 (gC l2 ((zF S 49 1).tdiv 2) (if l2 < ((zF S 49 1).tdiv 2) then gV l1 2 (gC (l1.tmod 2) 1 (if (l1.tmod 2) = 1 then gX l2 8 (gX (((zF S 49 1) - 1) - l2) 8 (gX l2 8 (gX (((zF S 49 1) - 1) - l2) 8 (fM_findOrder_3 n (wA (wA S 66 l2 (zA S 66 (((zF S 49 1) - 1) - l2))) 66 (((zF S 49 1) - 1) - l2) (zA S 66 l2)) l1 (l2 + 1))))) else some S)) else some S))
set_option maxRecDepth 100000 in
set_option maxHeartbeats 4000000 in
theorem sM_findOrder_3 (o : eO) : ∀ (n : Nat) (S : ZS) (l1 l2 : Int) {w : ZS} {r : eP} (h : fM_findOrder_3 n S l1 l2 = some w) (hk : eG o 175 149 [none, none, none, none] [] (rd w) r), eG o 175 86 [some (.ref 49), some (.int (zI l1)), some (.int (zI l2)), none] [] (rd S) r := by
  intro n
  induction n with
  | zero => intro S l1 l2 w r h hk; unfold fM_findOrder_3 at h; cases h
  | succ n ih =>
    intro S l1 l2 w r h hk
    unfold fM_findOrder_3 at h
    refine g_run 2 88 [some (.ref 49), some (.int (zI l1)), some (.int (zI l2)), none] [.ref 49, .int (zI l2)] (rd S) rfl ?_
    refine g_getf rfl rfl (rd_o49 _) rfl ?_
    show eG _ 175 91 [some (.ref 49), some (.int (zI l1)), some (.int (zI l2)), none] [.int (zI (zF S 49 1)), .int (zI l2)] (rd S) _
    refine g_run 1 92 [some (.ref 49), some (.int (zI l1)), some (.int (zI l2)), none] [.int (zI 2), .int (zI (zF S 49 1)), .int (zI l2)] (rd S) rfl ?_
    refine s_idiv rfl h (fun h => ?_)
    refine s_icmp_ge rfl h (fun h => ?_) (fun h => ?_)
    · show eG _ 175 149 [some (.ref 49), some (.int (zI l1)), some (.int (zI l2)), none] [] (rd S) _
      refine g_fgt [true, true, true, true] ?_
      show eG _ 175 149 [none, none, none, none] [] (rd S) _
      cases h
      exact hk
    · show eG _ 175 96 [some (.ref 49), some (.int (zI l1)), some (.int (zI l2)), none] [] (rd S) _
      refine g_run 2 98 [some (.ref 49), some (.int (zI l1)), some (.int (zI l2)), none] [.int (zI 2), .int (zI l1)] (rd S) rfl ?_
      refine s_irem rfl h (fun h => ?_)
      refine g_run 1 100 [some (.ref 49), some (.int (zI l1)), some (.int (zI l2)), none] [.int (zI 1), .int (zI (l1.tmod 2))] (rd S) rfl ?_
      refine s_icmp_ne rfl h (fun h => ?_) (fun h => ?_)
      · show eG _ 175 149 [some (.ref 49), some (.int (zI l1)), some (.int (zI l2)), none] [] (rd S) _
        refine g_fgt [true, true, true, true] ?_
        show eG _ 175 149 [none, none, none, none] [] (rd S) _
        cases h
        exact hk
      · show eG _ 175 103 [some (.ref 49), some (.int (zI l1)), some (.int (zI l2)), none] [] (rd S) _
        refine g_run 1 104 [some (.ref 49), some (.int (zI l1)), some (.int (zI l2)), none] [.ref 49] (rd S) rfl ?_
        refine g_getf rfl rfl (rd_o49 _) rfl ?_
        show eG _ 175 107 [some (.ref 49), some (.int (zI l1)), some (.int (zI l2)), none] [.ref 66] (rd S) _
        refine g_run 1 108 [some (.ref 49), some (.int (zI l1)), some (.int (zI l2)), none] [.int (zI l2), .ref 66] (rd S) rfl ?_
        refine s_iald rfl (rd_a66 _) h (fun h => ?_)
        show eG _ 175 109 [some (.ref 49), some (.int (zI l1)), some (.int (zI l2)), none] [.int (zI (zA S 66 l2))] (rd S) _
        refine g_run 2 111 [some (.ref 49), some (.int (zI l1)), some (.int (zI l2)), some (.int (zI (zA S 66 l2)))] [.ref 49] (rd S) rfl ?_
        refine g_getf rfl rfl (rd_o49 _) rfl ?_
        show eG _ 175 114 [some (.ref 49), some (.int (zI l1)), some (.int (zI l2)), some (.int (zI (zA S 66 l2)))] [.ref 66] (rd S) _
        refine g_run 2 116 [some (.ref 49), some (.int (zI l1)), some (.int (zI l2)), some (.int (zI (zA S 66 l2)))] [.ref 49, .int (zI l2), .ref 66] (rd S) rfl ?_
        refine g_getf rfl rfl (rd_o49 _) rfl ?_
        show eG _ 175 119 [some (.ref 49), some (.int (zI l1)), some (.int (zI l2)), some (.int (zI (zA S 66 l2)))] [.ref 66, .int (zI l2), .ref 66] (rd S) _
        refine g_run 1 120 [some (.ref 49), some (.int (zI l1)), some (.int (zI l2)), some (.int (zI (zA S 66 l2)))] [.ref 49, .ref 66, .int (zI l2), .ref 66] (rd S) rfl ?_
        refine g_getf rfl rfl (rd_o49 _) rfl ?_
        show eG _ 175 123 [some (.ref 49), some (.int (zI l1)), some (.int (zI l2)), some (.int (zI (zA S 66 l2)))] [.int (zI (zF S 49 1)), .ref 66, .int (zI l2), .ref 66] (rd S) _
        refine g_run 1 124 [some (.ref 49), some (.int (zI l1)), some (.int (zI l2)), some (.int (zI (zA S 66 l2)))] [.int (zI 1), .int (zI (zF S 49 1)), .ref 66, .int (zI l2), .ref 66] (rd S) rfl ?_
        refine s_isub rfl ?_
        refine g_run 1 126 [some (.ref 49), some (.int (zI l1)), some (.int (zI l2)), some (.int (zI (zA S 66 l2)))] [.int (zI l2), .int (zI ((zF S 49 1) - 1)), .ref 66, .int (zI l2), .ref 66] (rd S) rfl ?_
        refine s_isub rfl ?_
        refine s_iald rfl (rd_a66 _) h (fun h => ?_)
        show eG _ 175 128 [some (.ref 49), some (.int (zI l1)), some (.int (zI l2)), some (.int (zI (zA S 66 l2)))] [.int (zI (zA S 66 (((zF S 49 1) - 1) - l2))), .int (zI l2), .ref 66] (rd S) _
        refine s_iast rfl (rd_a66 _) (rw_a66 _ _) h (fun h => ?_)
        show eG _ 175 129 [some (.ref 49), some (.int (zI l1)), some (.int (zI l2)), some (.int (zI (zA S 66 l2)))] [] (rd (wA S 66 l2 (zA S 66 (((zF S 49 1) - 1) - l2)))) _
        refine g_run 1 130 [some (.ref 49), some (.int (zI l1)), some (.int (zI l2)), some (.int (zI (zA S 66 l2)))] [.ref 49] (rd (wA S 66 l2 (zA S 66 (((zF S 49 1) - 1) - l2)))) rfl ?_
        refine g_getf rfl rfl (rd_o49 _) rfl ?_
        show eG _ 175 133 [some (.ref 49), some (.int (zI l1)), some (.int (zI l2)), some (.int (zI (zA S 66 l2)))] [.ref 66] (rd (wA S 66 l2 (zA S 66 (((zF S 49 1) - 1) - l2)))) _
        refine g_run 1 134 [some (.ref 49), some (.int (zI l1)), some (.int (zI l2)), some (.int (zI (zA S 66 l2)))] [.ref 49, .ref 66] (rd (wA S 66 l2 (zA S 66 (((zF S 49 1) - 1) - l2)))) rfl ?_
        refine g_getf rfl rfl (rd_o49 _) rfl ?_
        show eG _ 175 137 [some (.ref 49), some (.int (zI l1)), some (.int (zI l2)), some (.int (zI (zA S 66 l2)))] [.int (zI (zF S 49 1)), .ref 66] (rd (wA S 66 l2 (zA S 66 (((zF S 49 1) - 1) - l2)))) _
        refine g_run 1 138 [some (.ref 49), some (.int (zI l1)), some (.int (zI l2)), some (.int (zI (zA S 66 l2)))] [.int (zI 1), .int (zI (zF S 49 1)), .ref 66] (rd (wA S 66 l2 (zA S 66 (((zF S 49 1) - 1) - l2)))) rfl ?_
        refine s_isub rfl ?_
        refine g_run 1 140 [some (.ref 49), some (.int (zI l1)), some (.int (zI l2)), some (.int (zI (zA S 66 l2)))] [.int (zI l2), .int (zI ((zF S 49 1) - 1)), .ref 66] (rd (wA S 66 l2 (zA S 66 (((zF S 49 1) - 1) - l2)))) rfl ?_
        refine s_isub rfl ?_
        refine g_run 1 142 [some (.ref 49), some (.int (zI l1)), some (.int (zI l2)), some (.int (zI (zA S 66 l2)))] [.int (zI (zA S 66 l2)), .int (zI (((zF S 49 1) - 1) - l2)), .ref 66] (rd (wA S 66 l2 (zA S 66 (((zF S 49 1) - 1) - l2)))) rfl ?_
        refine s_iast rfl (rd_a66 _) (rw_a66 _ _) h (fun h => ?_)
        show eG _ 175 143 [some (.ref 49), some (.int (zI l1)), some (.int (zI l2)), some (.int (zI (zA S 66 l2)))] [] (rd (wA (wA S 66 l2 (zA S 66 (((zF S 49 1) - 1) - l2))) 66 (((zF S 49 1) - 1) - l2) (zA S 66 l2))) _
        refine s_iinc (L' := [some (.ref 49), some (.int (zI l1)), some (.int (zI (l2 + 1))), some (.int (zI (zA S 66 l2)))]) rfl rfl rfl ?_
        refine g_run 1 86 [some (.ref 49), some (.int (zI l1)), some (.int (zI (l2 + 1))), some (.int (zI (zA S 66 l2)))] [] (rd (wA (wA S 66 l2 (zA S 66 (((zF S 49 1) - 1) - l2))) 66 (((zF S 49 1) - 1) - l2) (zA S 66 l2))) rfl ?_
        refine g_fgt [false, false, false, true] ?_
        show eG _ 175 86 [some (.ref 49), some (.int (zI l1)), some (.int (zI (l2 + 1))), none] [] (rd (wA (wA S 66 l2 (zA S 66 (((zF S 49 1) - 1) - l2))) 66 (((zF S 49 1) - 1) - l2) (zA S 66 l2))) _
        exact ih (wA (wA S 66 l2 (zA S 66 (((zF S 49 1) - 1) - l2))) 66 (((zF S 49 1) - 1) - l2) (zA S 66 l2)) l1 (l2 + 1) h hk
def fM_findOrder (n : Nat) (S : ZS) (l1 : Int) : Option (ZS) := (fM_findOrder_1 n S l1 0).bind fun z1 => (fM_findOrder_3 n z1 l1 0).bind fun z2 => some z2
set_option maxRecDepth 100000 in
set_option maxHeartbeats 4000000 in
theorem sM_findOrder (o : eO) (n : Nat) (S : ZS) (l1 : Int) {w : ZS} (h : fM_findOrder n S l1 = some w) : eG o 175 0 (eEnt 175 [.ref 49, .int (zI l1)]) [] (rd S) (rv (none) (rd w)) := by
  unfold fM_findOrder at h
  show eG o 175 0 [some (.ref 49), some (.int (zI l1)), none, none] [] (rd S) _
  refine g_run 2 2 [some (.ref 49), some (.int (zI l1)), some (.int (zI 0)), none] [] (rd S) rfl ?_
  obtain ⟨z1, h1, h⟩ := zB_inv h
  refine sM_findOrder_1 o n S l1 0 h1 ?_
  show eG _ 175 84 [some (.ref 49), some (.int (zI l1)), none, none] [] (rd z1) _
  refine g_run 2 86 [some (.ref 49), some (.int (zI l1)), some (.int (zI 0)), none] [] (rd z1) rfl ?_
  obtain ⟨z2, h1, h⟩ := zB_inv h
  refine sM_findOrder_3 o n z1 l1 0 h1 ?_
  show eG _ 175 149 [none, none, none, none] [] (rd z2) _
  cases h
  exact g_retv rfl rfl rfl
def fM_buildBy_2 : Nat → ZS → Int → Int → Int → Int → Int → Option ((Int × ZS) ⊕ (Unit))
  | 0, _, _, _, _, _, _ => none
  | n + 1, S, l1, l2, l3, l4, l5 => (gC l2 0 (if l2 = 0 then some 1 else some (zF S 49 1))).bind fun z1 => gC l5 z1 (if l5 < z1 then (gC l2 0 (if l2 = 0 then some 0 else gX l5 8 (some (zand (zand (zshl 1 (zA S 66 l5)) (zF S 49 3)) (zxor (zF S 49 2) (-1)))))).bind fun z2 => (gC l4 0 (if l4 = 0 then some 0 else some 1)).bind fun z3 => gC z3 l1 (if z3 = l1 then (gC z2 0 (if z2 = 0 then some 0 else some 1)).bind fun z4 => gC z4 l2 (if z4 = l2 then (fM_isLawful n S (zF S 49 2) (zF S 49 4) l4 z2).bind fun z5 => gC z5 0 (if z5 = 0 then fM_buildBy_2 n S l1 l2 l3 l4 (l5 + 1) else (fM_doWeek n S l4 z2).bind fun z6 => gB 1 (some (.inl (1, z6)))) else fM_buildBy_2 n S l1 l2 l3 l4 (l5 + 1)) else fM_buildBy_2 n S l1 l2 l3 l4 (l5 + 1)) else some (.inr ()))
set_option maxRecDepth 100000 in
set_option maxHeartbeats 4000000 in
theorem sM_buildBy_2 (o : eO) : ∀ (n : Nat) (S : ZS) (l1 l2 l3 l4 l5 : Int) {w : (Int × ZS) ⊕ (Unit)} {r : eP} (h : fM_buildBy_2 n S l1 l2 l3 l4 l5 = some w) (hr : ∀ v, w = .inl v → r (some (.int (zI v.1)), rd v.2)) (hk : ∀ x, w = .inr x → eG o 176 162 [some (.ref 49), some (.int (zI l1)), some (.int (zI l2)), some (.int (zI l3)), none, none, none] [] (rd S) r), eG o 176 51 [some (.ref 49), some (.int (zI l1)), some (.int (zI l2)), some (.int (zI l3)), some (.int (zI l4)), some (.int (zI l5)), none] [] (rd S) r := by
  intro n
  induction n with
  | zero => intro S l1 l2 l3 l4 l5 w r h hr hk; unfold fM_buildBy_2 at h; cases h
  | succ n ih =>
    intro S l1 l2 l3 l4 l5 w r h hr hk
    unfold fM_buildBy_2 at h
    refine g_run 2 54 [some (.ref 49), some (.int (zI l1)), some (.int (zI l2)), some (.int (zI l3)), some (.int (zI l4)), some (.int (zI l5)), none] [.int (zI l2), .int (zI l5)] (rd S) rfl ?_
    refine s_join (α := Int) (fun z => eG o 176 65 [some (.ref 49), some (.int (zI l1)), some (.int (zI l2)), some (.int (zI l3)), some (.int (zI l4)), some (.int (zI l5)), none] [.int (zI z), .int (zI l5)] (rd S) r) h (fun z1 h => ?_) (fun z1 h j => ?_)
    · show eG _ 176 65 [some (.ref 49), some (.int (zI l1)), some (.int (zI l2)), some (.int (zI l3)), some (.int (zI l4)), some (.int (zI l5)), none] [.int (zI z1), .int (zI l5)] (rd S) _
      refine s_icmp_ge rfl h (fun h => ?_) (fun h => ?_)
      · show eG _ 176 162 [some (.ref 49), some (.int (zI l1)), some (.int (zI l2)), some (.int (zI l3)), some (.int (zI l4)), some (.int (zI l5)), none] [] (rd S) _
        refine g_fgt [false, false, false, false, true, true, true] ?_
        show eG _ 176 162 [some (.ref 49), some (.int (zI l1)), some (.int (zI l2)), some (.int (zI l3)), none, none, none] [] (rd S) _
        cases h
        exact hk _ rfl
      · show eG _ 176 68 [some (.ref 49), some (.int (zI l1)), some (.int (zI l2)), some (.int (zI l3)), some (.int (zI l4)), some (.int (zI l5)), none] [] (rd S) _
        refine g_run 1 69 [some (.ref 49), some (.int (zI l1)), some (.int (zI l2)), some (.int (zI l3)), some (.int (zI l4)), some (.int (zI l5)), none] [.int (zI l2)] (rd S) rfl ?_
        refine s_join (α := Int) (fun z => eG o 176 97 [some (.ref 49), some (.int (zI l1)), some (.int (zI l2)), some (.int (zI l3)), some (.int (zI l4)), some (.int (zI l5)), none] [.int (zI z)] (rd S) r) h (fun z2 h => ?_) (fun z2 h j => ?_)
        · show eG _ 176 97 [some (.ref 49), some (.int (zI l1)), some (.int (zI l2)), some (.int (zI l3)), some (.int (zI l4)), some (.int (zI l5)), none] [.int (zI z2)] (rd S) _
          refine g_run 2 101 [some (.ref 49), some (.int (zI l1)), some (.int (zI l2)), some (.int (zI l3)), some (.int (zI l4)), some (.int (zI l5)), some (.int (zI z2))] [.int (zI l4)] (rd S) rfl ?_
          refine s_join (α := Int) (fun z => eG o 176 109 [some (.ref 49), some (.int (zI l1)), some (.int (zI l2)), some (.int (zI l3)), some (.int (zI l4)), some (.int (zI l5)), some (.int (zI z2))] [.int (zI z)] (rd S) r) h (fun z3 h => ?_) (fun z3 h j => ?_)
          · show eG _ 176 109 [some (.ref 49), some (.int (zI l1)), some (.int (zI l2)), some (.int (zI l3)), some (.int (zI l4)), some (.int (zI l5)), some (.int (zI z2))] [.int (zI z3)] (rd S) _
            refine g_run 1 110 [some (.ref 49), some (.int (zI l1)), some (.int (zI l2)), some (.int (zI l3)), some (.int (zI l4)), some (.int (zI l5)), some (.int (zI z2))] [.int (zI l1), .int (zI z3)] (rd S) rfl ?_
            refine s_icmp_ne rfl h (fun h => ?_) (fun h => ?_)
            · show eG _ 176 156 [some (.ref 49), some (.int (zI l1)), some (.int (zI l2)), some (.int (zI l3)), some (.int (zI l4)), some (.int (zI l5)), some (.int (zI z2))] [] (rd S) _
              refine s_iinc (L' := [some (.ref 49), some (.int (zI l1)), some (.int (zI l2)), some (.int (zI l3)), some (.int (zI l4)), some (.int (zI (l5 + 1))), some (.int (zI z2))]) rfl rfl rfl ?_
              refine g_run 1 51 [some (.ref 49), some (.int (zI l1)), some (.int (zI l2)), some (.int (zI l3)), some (.int (zI l4)), some (.int (zI (l5 + 1))), some (.int (zI z2))] [] (rd S) rfl ?_
              refine g_fgt [false, false, false, false, false, false, true] ?_
              show eG _ 176 51 [some (.ref 49), some (.int (zI l1)), some (.int (zI l2)), some (.int (zI l3)), some (.int (zI l4)), some (.int (zI (l5 + 1))), none] [] (rd S) _
              exact ih S l1 l2 l3 l4 (l5 + 1) h hr hk
            · show eG _ 176 113 [some (.ref 49), some (.int (zI l1)), some (.int (zI l2)), some (.int (zI l3)), some (.int (zI l4)), some (.int (zI l5)), some (.int (zI z2))] [] (rd S) _
              refine g_run 1 115 [some (.ref 49), some (.int (zI l1)), some (.int (zI l2)), some (.int (zI l3)), some (.int (zI l4)), some (.int (zI l5)), some (.int (zI z2))] [.int (zI z2)] (rd S) rfl ?_
              refine s_join (α := Int) (fun z => eG o 176 123 [some (.ref 49), some (.int (zI l1)), some (.int (zI l2)), some (.int (zI l3)), some (.int (zI l4)), some (.int (zI l5)), some (.int (zI z2))] [.int (zI z)] (rd S) r) h (fun z4 h => ?_) (fun z4 h j => ?_)
              · show eG _ 176 123 [some (.ref 49), some (.int (zI l1)), some (.int (zI l2)), some (.int (zI l3)), some (.int (zI l4)), some (.int (zI l5)), some (.int (zI z2))] [.int (zI z4)] (rd S) _
                refine g_run 1 124 [some (.ref 49), some (.int (zI l1)), some (.int (zI l2)), some (.int (zI l3)), some (.int (zI l4)), some (.int (zI l5)), some (.int (zI z2))] [.int (zI l2), .int (zI z4)] (rd S) rfl ?_
                refine s_icmp_ne rfl h (fun h => ?_) (fun h => ?_)
                · show eG _ 176 156 [some (.ref 49), some (.int (zI l1)), some (.int (zI l2)), some (.int (zI l3)), some (.int (zI l4)), some (.int (zI l5)), some (.int (zI z2))] [] (rd S) _
                  refine s_iinc (L' := [some (.ref 49), some (.int (zI l1)), some (.int (zI l2)), some (.int (zI l3)), some (.int (zI l4)), some (.int (zI (l5 + 1))), some (.int (zI z2))]) rfl rfl rfl ?_
                  refine g_run 1 51 [some (.ref 49), some (.int (zI l1)), some (.int (zI l2)), some (.int (zI l3)), some (.int (zI l4)), some (.int (zI (l5 + 1))), some (.int (zI z2))] [] (rd S) rfl ?_
                  refine g_fgt [false, false, false, false, false, false, true] ?_
                  show eG _ 176 51 [some (.ref 49), some (.int (zI l1)), some (.int (zI l2)), some (.int (zI l3)), some (.int (zI l4)), some (.int (zI (l5 + 1))), none] [] (rd S) _
                  exact ih S l1 l2 l3 l4 (l5 + 1) h hr hk
                · show eG _ 176 127 [some (.ref 49), some (.int (zI l1)), some (.int (zI l2)), some (.int (zI l3)), some (.int (zI l4)), some (.int (zI l5)), some (.int (zI z2))] [] (rd S) _
                  refine g_run 2 129 [some (.ref 49), some (.int (zI l1)), some (.int (zI l2)), some (.int (zI l3)), some (.int (zI l4)), some (.int (zI l5)), some (.int (zI z2))] [.ref 49, .ref 49] (rd S) rfl ?_
                  refine g_getf rfl rfl (rd_o49 _) rfl ?_
                  show eG _ 176 132 [some (.ref 49), some (.int (zI l1)), some (.int (zI l2)), some (.int (zI l3)), some (.int (zI l4)), some (.int (zI l5)), some (.int (zI z2))] [.int (zI (zF S 49 2)), .ref 49] (rd S) _
                  refine g_run 1 133 [some (.ref 49), some (.int (zI l1)), some (.int (zI l2)), some (.int (zI l3)), some (.int (zI l4)), some (.int (zI l5)), some (.int (zI z2))] [.ref 49, .int (zI (zF S 49 2)), .ref 49] (rd S) rfl ?_
                  refine g_getf rfl rfl (rd_o49 _) rfl ?_
                  show eG _ 176 136 [some (.ref 49), some (.int (zI l1)), some (.int (zI l2)), some (.int (zI l3)), some (.int (zI l4)), some (.int (zI l5)), some (.int (zI z2))] [.int (zI (zF S 49 4)), .int (zI (zF S 49 2)), .ref 49] (rd S) _
                  refine g_run 2 140 [some (.ref 49), some (.int (zI l1)), some (.int (zI l2)), some (.int (zI l3)), some (.int (zI l4)), some (.int (zI l5)), some (.int (zI z2))] [.int (zI z2), .int (zI l4), .int (zI (zF S 49 4)), .int (zI (zF S 49 2)), .ref 49] (rd S) rfl ?_
                  refine s_vir (fun z => some (.int (zI z))) (fun _ => rd S) rfl rfl rfl (rd_o49 _) rfl rfl (fun z hz => sM_isLawful o n S (zF S 49 2) (zF S 49 4) l4 z2 hz) rfl h (fun z5 h => ?_)
                  show eG _ 176 143 [some (.ref 49), some (.int (zI l1)), some (.int (zI l2)), some (.int (zI l3)), some (.int (zI l4)), some (.int (zI l5)), some (.int (zI z2))] [.int (zI z5)] (rd S) _
                  refine s_if_eq rfl h (fun h => ?_) (fun h => ?_)
                  · show eG _ 176 156 [some (.ref 49), some (.int (zI l1)), some (.int (zI l2)), some (.int (zI l3)), some (.int (zI l4)), some (.int (zI l5)), some (.int (zI z2))] [] (rd S) _
                    refine s_iinc (L' := [some (.ref 49), some (.int (zI l1)), some (.int (zI l2)), some (.int (zI l3)), some (.int (zI l4)), some (.int (zI (l5 + 1))), some (.int (zI z2))]) rfl rfl rfl ?_
                    refine g_run 1 51 [some (.ref 49), some (.int (zI l1)), some (.int (zI l2)), some (.int (zI l3)), some (.int (zI l4)), some (.int (zI (l5 + 1))), some (.int (zI z2))] [] (rd S) rfl ?_
                    refine g_fgt [false, false, false, false, false, false, true] ?_
                    show eG _ 176 51 [some (.ref 49), some (.int (zI l1)), some (.int (zI l2)), some (.int (zI l3)), some (.int (zI l4)), some (.int (zI (l5 + 1))), none] [] (rd S) _
                    exact ih S l1 l2 l3 l4 (l5 + 1) h hr hk
                  · show eG _ 176 146 [some (.ref 49), some (.int (zI l1)), some (.int (zI l2)), some (.int (zI l3)), some (.int (zI l4)), some (.int (zI l5)), some (.int (zI z2))] [] (rd S) _
                    refine g_run 3 151 [some (.ref 49), some (.int (zI l1)), some (.int (zI l2)), some (.int (zI l3)), some (.int (zI l4)), some (.int (zI l5)), some (.int (zI z2))] [.int (zI z2), .int (zI l4), .ref 49] (rd S) rfl ?_
                    refine s_vir (fun _ => none) (fun z => rd z) rfl rfl rfl (rd_o49 _) rfl rfl (fun z hz => sM_doWeek o n S l4 z2 hz) rfl h (fun z6 h => ?_)
                    show eG _ 176 154 [some (.ref 49), some (.int (zI l1)), some (.int (zI l2)), some (.int (zI l3)), some (.int (zI l4)), some (.int (zI l5)), some (.int (zI z2))] [] (rd z6) _
                    refine g_run 1 155 [some (.ref 49), some (.int (zI l1)), some (.int (zI l2)), some (.int (zI l3)), some (.int (zI l4)), some (.int (zI l5)), some (.int (zI z2))] [.int (zI 1)] (rd z6) rfl ?_
                    exact s_retB rfl rfl h (fun h => by cases h; exact hr _ rfl)
              · skip
                refine s_if_eq rfl h (fun h => ?_) (fun h => ?_)
                · show eG _ 176 122 [some (.ref 49), some (.int (zI l1)), some (.int (zI l2)), some (.int (zI l3)), some (.int (zI l4)), some (.int (zI l5)), some (.int (zI z2))] [] (rd S) _
                  refine g_run 1 123 [some (.ref 49), some (.int (zI l1)), some (.int (zI l2)), some (.int (zI l3)), some (.int (zI l4)), some (.int (zI l5)), some (.int (zI z2))] [.int (zI 0)] (rd S) rfl ?_
                  cases h
                  exact j
                · show eG _ 176 118 [some (.ref 49), some (.int (zI l1)), some (.int (zI l2)), some (.int (zI l3)), some (.int (zI l4)), some (.int (zI l5)), some (.int (zI z2))] [] (rd S) _
                  refine g_run 2 123 [some (.ref 49), some (.int (zI l1)), some (.int (zI l2)), some (.int (zI l3)), some (.int (zI l4)), some (.int (zI l5)), some (.int (zI z2))] [.int (zI 1)] (rd S) rfl ?_
                  cases h
                  exact j
          · skip
            refine s_if_eq rfl h (fun h => ?_) (fun h => ?_)
            · show eG _ 176 108 [some (.ref 49), some (.int (zI l1)), some (.int (zI l2)), some (.int (zI l3)), some (.int (zI l4)), some (.int (zI l5)), some (.int (zI z2))] [] (rd S) _
              refine g_run 1 109 [some (.ref 49), some (.int (zI l1)), some (.int (zI l2)), some (.int (zI l3)), some (.int (zI l4)), some (.int (zI l5)), some (.int (zI z2))] [.int (zI 0)] (rd S) rfl ?_
              cases h
              exact j
            · show eG _ 176 104 [some (.ref 49), some (.int (zI l1)), some (.int (zI l2)), some (.int (zI l3)), some (.int (zI l4)), some (.int (zI l5)), some (.int (zI z2))] [] (rd S) _
              refine g_run 2 109 [some (.ref 49), some (.int (zI l1)), some (.int (zI l2)), some (.int (zI l3)), some (.int (zI l4)), some (.int (zI l5)), some (.int (zI z2))] [.int (zI 1)] (rd S) rfl ?_
              cases h
              exact j
        · skip
          refine s_if_eq rfl h (fun h => ?_) (fun h => ?_)
          · show eG _ 176 96 [some (.ref 49), some (.int (zI l1)), some (.int (zI l2)), some (.int (zI l3)), some (.int (zI l4)), some (.int (zI l5)), none] [] (rd S) _
            refine g_run 1 97 [some (.ref 49), some (.int (zI l1)), some (.int (zI l2)), some (.int (zI l3)), some (.int (zI l4)), some (.int (zI l5)), none] [.int (zI 0)] (rd S) rfl ?_
            cases h
            exact j
          · show eG _ 176 72 [some (.ref 49), some (.int (zI l1)), some (.int (zI l2)), some (.int (zI l3)), some (.int (zI l4)), some (.int (zI l5)), none] [] (rd S) _
            refine g_run 2 74 [some (.ref 49), some (.int (zI l1)), some (.int (zI l2)), some (.int (zI l3)), some (.int (zI l4)), some (.int (zI l5)), none] [.ref 49, .int (zI 1)] (rd S) rfl ?_
            refine g_getf rfl rfl (rd_o49 _) rfl ?_
            show eG _ 176 77 [some (.ref 49), some (.int (zI l1)), some (.int (zI l2)), some (.int (zI l3)), some (.int (zI l4)), some (.int (zI l5)), none] [.ref 66, .int (zI 1)] (rd S) _
            refine g_run 1 79 [some (.ref 49), some (.int (zI l1)), some (.int (zI l2)), some (.int (zI l3)), some (.int (zI l4)), some (.int (zI l5)), none] [.int (zI l5), .ref 66, .int (zI 1)] (rd S) rfl ?_
            refine s_iald rfl (rd_a66 _) h (fun h => ?_)
            show eG _ 176 80 [some (.ref 49), some (.int (zI l1)), some (.int (zI l2)), some (.int (zI l3)), some (.int (zI l4)), some (.int (zI l5)), none] [.int (zI (zA S 66 l5)), .int (zI 1)] (rd S) _
            refine s_ishl rfl ?_
            refine g_run 1 82 [some (.ref 49), some (.int (zI l1)), some (.int (zI l2)), some (.int (zI l3)), some (.int (zI l4)), some (.int (zI l5)), none] [.ref 49, .int (zI (zshl 1 (zA S 66 l5)))] (rd S) rfl ?_
            refine g_getf rfl rfl (rd_o49 _) rfl ?_
            show eG _ 176 85 [some (.ref 49), some (.int (zI l1)), some (.int (zI l2)), some (.int (zI l3)), some (.int (zI l4)), some (.int (zI l5)), none] [.int (zI (zF S 49 3)), .int (zI (zshl 1 (zA S 66 l5)))] (rd S) _
            refine s_iand rfl ?_
            refine g_run 1 87 [some (.ref 49), some (.int (zI l1)), some (.int (zI l2)), some (.int (zI l3)), some (.int (zI l4)), some (.int (zI l5)), none] [.ref 49, .int (zI (zand (zshl 1 (zA S 66 l5)) (zF S 49 3)))] (rd S) rfl ?_
            refine g_getf rfl rfl (rd_o49 _) rfl ?_
            show eG _ 176 90 [some (.ref 49), some (.int (zI l1)), some (.int (zI l2)), some (.int (zI l3)), some (.int (zI l4)), some (.int (zI l5)), none] [.int (zI (zF S 49 2)), .int (zI (zand (zshl 1 (zA S 66 l5)) (zF S 49 3)))] (rd S) _
            refine g_run 1 91 [some (.ref 49), some (.int (zI l1)), some (.int (zI l2)), some (.int (zI l3)), some (.int (zI l4)), some (.int (zI l5)), none] [.int (zI (-1)), .int (zI (zF S 49 2)), .int (zI (zand (zshl 1 (zA S 66 l5)) (zF S 49 3)))] (rd S) rfl ?_
            refine s_ixor rfl ?_
            refine s_iand rfl ?_
            refine g_run 1 97 [some (.ref 49), some (.int (zI l1)), some (.int (zI l2)), some (.int (zI l3)), some (.int (zI l4)), some (.int (zI l5)), none] [.int (zI (zand (zand (zshl 1 (zA S 66 l5)) (zF S 49 3)) (zxor (zF S 49 2) (-1))))] (rd S) rfl ?_
            cases h
            exact j
    · skip
      refine s_if_eq rfl h (fun h => ?_) (fun h => ?_)
      · show eG _ 176 64 [some (.ref 49), some (.int (zI l1)), some (.int (zI l2)), some (.int (zI l3)), some (.int (zI l4)), some (.int (zI l5)), none] [.int (zI l5)] (rd S) _
        refine g_run 1 65 [some (.ref 49), some (.int (zI l1)), some (.int (zI l2)), some (.int (zI l3)), some (.int (zI l4)), some (.int (zI l5)), none] [.int (zI 1), .int (zI l5)] (rd S) rfl ?_
        cases h
        exact j
      · show eG _ 176 57 [some (.ref 49), some (.int (zI l1)), some (.int (zI l2)), some (.int (zI l3)), some (.int (zI l4)), some (.int (zI l5)), none] [.int (zI l5)] (rd S) _
        refine g_run 1 58 [some (.ref 49), some (.int (zI l1)), some (.int (zI l2)), some (.int (zI l3)), some (.int (zI l4)), some (.int (zI l5)), none] [.ref 49, .int (zI l5)] (rd S) rfl ?_
        refine g_getf rfl rfl (rd_o49 _) rfl ?_
        show eG _ 176 61 [some (.ref 49), some (.int (zI l1)), some (.int (zI l2)), some (.int (zI l3)), some (.int (zI l4)), some (.int (zI l5)), none] [.int (zI (zF S 49 1)), .int (zI l5)] (rd S) _
        refine g_run 1 65 [some (.ref 49), some (.int (zI l1)), some (.int (zI l2)), some (.int (zI l3)), some (.int (zI l4)), some (.int (zI l5)), none] [.int (zI (zF S 49 1)), .int (zI l5)] (rd S) rfl ?_
        cases h
        exact j
def fM_buildBy_1 : Nat → ZS → Int → Int → Int → Option ((Int × ZS) ⊕ (Unit))
  | 0, _, _, _, _ => none
  | n + 1, S, l1, l2, l3 => (gC l1 0 (if l1 = 0 then some 1 else some (zF S 49 1))).bind fun z1 => gC l3 z1 (if l3 < z1 then (gC l1 0 (if l1 = 0 then some 0 else gX l3 8 (some (zand (zand (zshl 1 (zA S 66 l3)) (zF S 49 2)) (zxor (zF S 49 3) (-1)))))).bind fun z2 => zRR (fM_buildBy_2 n S l1 l2 l3 z2 0) fun z3 => fM_buildBy_1 n S l1 l2 (l3 + 1) else some (.inr ()))
set_option maxRecDepth 100000 in
set_option maxHeartbeats 4000000 in
theorem sM_buildBy_1 (o : eO) : ∀ (n : Nat) (S : ZS) (l1 l2 l3 : Int) {w : (Int × ZS) ⊕ (Unit)} {r : eP} (h : fM_buildBy_1 n S l1 l2 l3 = some w) (hr : ∀ v, w = .inl v → r (some (.int (zI v.1)), rd v.2)) (hk : ∀ x, w = .inr x → eG o 176 168 [none, none, none, none, none, none, none] [] (rd S) r), eG o 176 2 [some (.ref 49), some (.int (zI l1)), some (.int (zI l2)), some (.int (zI l3)), none, none, none] [] (rd S) r := by
  intro n
  induction n with
  | zero => intro S l1 l2 l3 w r h hr hk; unfold fM_buildBy_1 at h; cases h
  | succ n ih =>
    intro S l1 l2 l3 w r h hr hk
    unfold fM_buildBy_1 at h
    refine g_run 2 4 [some (.ref 49), some (.int (zI l1)), some (.int (zI l2)), some (.int (zI l3)), none, none, none] [.int (zI l1), .int (zI l3)] (rd S) rfl ?_
    refine s_join (α := Int) (fun z => eG o 176 15 [some (.ref 49), some (.int (zI l1)), some (.int (zI l2)), some (.int (zI l3)), none, none, none] [.int (zI z), .int (zI l3)] (rd S) r) h (fun z1 h => ?_) (fun z1 h j => ?_)
    · show eG _ 176 15 [some (.ref 49), some (.int (zI l1)), some (.int (zI l2)), some (.int (zI l3)), none, none, none] [.int (zI z1), .int (zI l3)] (rd S) _
      refine s_icmp_ge rfl h (fun h => ?_) (fun h => ?_)
      · show eG _ 176 168 [some (.ref 49), some (.int (zI l1)), some (.int (zI l2)), some (.int (zI l3)), none, none, none] [] (rd S) _
        refine g_fgt [true, true, true, true, true, true, true] ?_
        show eG _ 176 168 [none, none, none, none, none, none, none] [] (rd S) _
        cases h
        exact hk _ rfl
      · show eG _ 176 18 [some (.ref 49), some (.int (zI l1)), some (.int (zI l2)), some (.int (zI l3)), none, none, none] [] (rd S) _
        refine g_run 1 19 [some (.ref 49), some (.int (zI l1)), some (.int (zI l2)), some (.int (zI l3)), none, none, none] [.int (zI l1)] (rd S) rfl ?_
        refine s_join (α := Int) (fun z => eG o 176 46 [some (.ref 49), some (.int (zI l1)), some (.int (zI l2)), some (.int (zI l3)), none, none, none] [.int (zI z)] (rd S) r) h (fun z2 h => ?_) (fun z2 h j => ?_)
        · show eG _ 176 46 [some (.ref 49), some (.int (zI l1)), some (.int (zI l2)), some (.int (zI l3)), none, none, none] [.int (zI z2)] (rd S) _
          refine g_run 3 51 [some (.ref 49), some (.int (zI l1)), some (.int (zI l2)), some (.int (zI l3)), some (.int (zI z2)), some (.int (zI 0)), none] [] (rd S) rfl ?_
          rcases zRR_inv h with ⟨v, h1, e⟩ | ⟨z3, h1, h⟩
          · exact sM_buildBy_2 o n S l1 l2 l3 z2 0 h1 (fun v' e' => by cases e'; exact hr _ e) (fun x e' => by cases e')
          refine sM_buildBy_2 o n S l1 l2 l3 z2 0 h1 (fun v e => by cases e) (fun x e => ?_)
          cases e
          show eG _ 176 162 [some (.ref 49), some (.int (zI l1)), some (.int (zI l2)), some (.int (zI l3)), none, none, none] [] (rd S) _
          refine s_iinc (L' := [some (.ref 49), some (.int (zI l1)), some (.int (zI l2)), some (.int (zI (l3 + 1))), none, none, none]) rfl rfl rfl ?_
          refine g_run 1 2 [some (.ref 49), some (.int (zI l1)), some (.int (zI l2)), some (.int (zI (l3 + 1))), none, none, none] [] (rd S) rfl ?_
          exact ih S l1 l2 (l3 + 1) h hr hk
        · skip
          refine s_if_eq rfl h (fun h => ?_) (fun h => ?_)
          · show eG _ 176 45 [some (.ref 49), some (.int (zI l1)), some (.int (zI l2)), some (.int (zI l3)), none, none, none] [] (rd S) _
            refine g_run 1 46 [some (.ref 49), some (.int (zI l1)), some (.int (zI l2)), some (.int (zI l3)), none, none, none] [.int (zI 0)] (rd S) rfl ?_
            cases h
            exact j
          · show eG _ 176 22 [some (.ref 49), some (.int (zI l1)), some (.int (zI l2)), some (.int (zI l3)), none, none, none] [] (rd S) _
            refine g_run 2 24 [some (.ref 49), some (.int (zI l1)), some (.int (zI l2)), some (.int (zI l3)), none, none, none] [.ref 49, .int (zI 1)] (rd S) rfl ?_
            refine g_getf rfl rfl (rd_o49 _) rfl ?_
            show eG _ 176 27 [some (.ref 49), some (.int (zI l1)), some (.int (zI l2)), some (.int (zI l3)), none, none, none] [.ref 66, .int (zI 1)] (rd S) _
            refine g_run 1 28 [some (.ref 49), some (.int (zI l1)), some (.int (zI l2)), some (.int (zI l3)), none, none, none] [.int (zI l3), .ref 66, .int (zI 1)] (rd S) rfl ?_
            refine s_iald rfl (rd_a66 _) h (fun h => ?_)
            show eG _ 176 29 [some (.ref 49), some (.int (zI l1)), some (.int (zI l2)), some (.int (zI l3)), none, none, none] [.int (zI (zA S 66 l3)), .int (zI 1)] (rd S) _
            refine s_ishl rfl ?_
            refine g_run 1 31 [some (.ref 49), some (.int (zI l1)), some (.int (zI l2)), some (.int (zI l3)), none, none, none] [.ref 49, .int (zI (zshl 1 (zA S 66 l3)))] (rd S) rfl ?_
            refine g_getf rfl rfl (rd_o49 _) rfl ?_
            show eG _ 176 34 [some (.ref 49), some (.int (zI l1)), some (.int (zI l2)), some (.int (zI l3)), none, none, none] [.int (zI (zF S 49 2)), .int (zI (zshl 1 (zA S 66 l3)))] (rd S) _
            refine s_iand rfl ?_
            refine g_run 1 36 [some (.ref 49), some (.int (zI l1)), some (.int (zI l2)), some (.int (zI l3)), none, none, none] [.ref 49, .int (zI (zand (zshl 1 (zA S 66 l3)) (zF S 49 2)))] (rd S) rfl ?_
            refine g_getf rfl rfl (rd_o49 _) rfl ?_
            show eG _ 176 39 [some (.ref 49), some (.int (zI l1)), some (.int (zI l2)), some (.int (zI l3)), none, none, none] [.int (zI (zF S 49 3)), .int (zI (zand (zshl 1 (zA S 66 l3)) (zF S 49 2)))] (rd S) _
            refine g_run 1 40 [some (.ref 49), some (.int (zI l1)), some (.int (zI l2)), some (.int (zI l3)), none, none, none] [.int (zI (-1)), .int (zI (zF S 49 3)), .int (zI (zand (zshl 1 (zA S 66 l3)) (zF S 49 2)))] (rd S) rfl ?_
            refine s_ixor rfl ?_
            refine s_iand rfl ?_
            refine g_run 1 46 [some (.ref 49), some (.int (zI l1)), some (.int (zI l2)), some (.int (zI l3)), none, none, none] [.int (zI (zand (zand (zshl 1 (zA S 66 l3)) (zF S 49 2)) (zxor (zF S 49 3) (-1))))] (rd S) rfl ?_
            cases h
            exact j
    · skip
      refine s_if_eq rfl h (fun h => ?_) (fun h => ?_)
      · show eG _ 176 14 [some (.ref 49), some (.int (zI l1)), some (.int (zI l2)), some (.int (zI l3)), none, none, none] [.int (zI l3)] (rd S) _
        refine g_run 1 15 [some (.ref 49), some (.int (zI l1)), some (.int (zI l2)), some (.int (zI l3)), none, none, none] [.int (zI 1), .int (zI l3)] (rd S) rfl ?_
        cases h
        exact j
      · show eG _ 176 7 [some (.ref 49), some (.int (zI l1)), some (.int (zI l2)), some (.int (zI l3)), none, none, none] [.int (zI l3)] (rd S) _
        refine g_run 1 8 [some (.ref 49), some (.int (zI l1)), some (.int (zI l2)), some (.int (zI l3)), none, none, none] [.ref 49, .int (zI l3)] (rd S) rfl ?_
        refine g_getf rfl rfl (rd_o49 _) rfl ?_
        show eG _ 176 11 [some (.ref 49), some (.int (zI l1)), some (.int (zI l2)), some (.int (zI l3)), none, none, none] [.int (zI (zF S 49 1)), .int (zI l3)] (rd S) _
        refine g_run 1 15 [some (.ref 49), some (.int (zI l1)), some (.int (zI l2)), some (.int (zI l3)), none, none, none] [.int (zI (zF S 49 1)), .int (zI l3)] (rd S) rfl ?_
        cases h
        exact j
def fM_buildBy (n : Nat) (S : ZS) (l1 l2 : Int) : Option (Int × ZS) := zR (fM_buildBy_1 n S l1 l2 0) fun z1 => gB 0 (some (0, S))
set_option maxRecDepth 100000 in
set_option maxHeartbeats 4000000 in
theorem sM_buildBy (o : eO) (n : Nat) (S : ZS) (l1 l2 : Int) {w : Int × ZS} (h : fM_buildBy n S l1 l2 = some w) : eG o 176 0 (eEnt 176 [.ref 49, .int (zI l1), .int (zI l2)]) [] (rd S) (rv (some (.int (zI w.1))) (rd w.2)) := by
  unfold fM_buildBy at h
  show eG o 176 0 [some (.ref 49), some (.int (zI l1)), some (.int (zI l2)), none, none, none, none] [] (rd S) _
  refine g_run 2 2 [some (.ref 49), some (.int (zI l1)), some (.int (zI l2)), some (.int (zI 0)), none, none, none] [] (rd S) rfl ?_
  rcases zR_inv h with h1 | ⟨z1, h1, h⟩
  · exact sM_buildBy_1 o n S l1 l2 0 h1 (fun v e => by cases e; rfl) (fun x e => by cases e)
  refine sM_buildBy_1 o n S l1 l2 0 h1 (fun v e => by cases e) (fun x e => ?_)
  cases e
  show eG _ 176 168 [none, none, none, none, none, none, none] [] (rd S) _
  refine g_run 1 169 [none, none, none, none, none, none, none] [.int (zI 0)] (rd S) rfl ?_
  exact s_retB rfl rfl h (fun h => by cases h; exact rfl)
