def fT_takeOver_15_1 (n : Nat) (S : ZS) : Option (ZS) := gY 0 0 8 8 8 (gY 0 0 8 8 8 (gY 0 0 8 8 8 (gY 0 0 8 8 8 (gY 0 0 8 8 8 (gY 0 0 4 4 4 (some (wF (wF (wF (wF (wF (wF (wR (wR (wR (wR (wR (wR S 16 (zc (S.1 2) (S.1 16) 0 0 8)) 17 (zc (S.1 3) (S.1 17) 0 0 8)) 18 (zc (S.1 4) (S.1 18) 0 0 8)) 19 (zc (S.1 5) (S.1 19) 0 0 8)) 20 (zc (S.1 6) (S.1 20) 0 0 8)) 21 (zc (S.1 7) (S.1 21) 0 0 4)) 15 6 (zF S 1 6)) 15 7 (zF S 1 7)) 15 8 (zF S 1 8)) 15 9 (zF S 1 9)) 15 10 (zF S 1 10)) 15 11 (zF S 1 11))))))))
set_option maxRecDepth 100000 in
set_option maxHeartbeats 4000000 in
theorem sT_takeOver_15_1 (o : eO) (n : Nat) (S : ZS) {w : ZS} (h : fT_takeOver_15_1 n S = some w) : eG o 31 0 (eEnt 31 [.ref 15, .ref 1]) [] (rd S) (rv (none) (rd w)) := by
  unfold fT_takeOver_15_1 at h
  show eG o 31 0 [some (.ref 15), some (.ref 1)] [] (rd S) _
  refine g_run 1 1 [some (.ref 15), some (.ref 1)] [.ref 1] (rd S) rfl ?_
  refine g_getf rfl rfl (rd_o1 _) rfl ?_
  show eG _ 31 4 [some (.ref 15), some (.ref 1)] [.ref 2] (rd S) _
  refine g_run 2 6 [some (.ref 15), some (.ref 1)] [.ref 15, .int (zI 0), .ref 2] (rd S) rfl ?_
  refine g_getf rfl rfl (rd_o15 _) rfl ?_
  show eG _ 31 9 [some (.ref 15), some (.ref 1)] [.ref 16, .int (zI 0), .ref 2] (rd S) _
  refine g_run 2 12 [some (.ref 15), some (.ref 1)] [.int (zI 8), .int (zI 0), .ref 16, .int (zI 0), .ref 2] (rd S) rfl ?_
  refine s_cpy rfl rfl (rd_a2 _) (rd_a16 _) rfl (rw_a16 _ _) h (fun h => ?_)
  show eG _ 31 15 [some (.ref 15), some (.ref 1)] [] (rd (wR S 16 (zc (S.1 2) (S.1 16) 0 0 8))) _
  refine g_run 1 16 [some (.ref 15), some (.ref 1)] [.ref 1] (rd (wR S 16 (zc (S.1 2) (S.1 16) 0 0 8))) rfl ?_
  refine g_getf rfl rfl (rd_o1 _) rfl ?_
  show eG _ 31 19 [some (.ref 15), some (.ref 1)] [.ref 3] (rd (wR S 16 (zc (S.1 2) (S.1 16) 0 0 8))) _
  refine g_run 2 21 [some (.ref 15), some (.ref 1)] [.ref 15, .int (zI 0), .ref 3] (rd (wR S 16 (zc (S.1 2) (S.1 16) 0 0 8))) rfl ?_
  refine g_getf rfl rfl (rd_o15 _) rfl ?_
  show eG _ 31 24 [some (.ref 15), some (.ref 1)] [.ref 17, .int (zI 0), .ref 3] (rd (wR S 16 (zc (S.1 2) (S.1 16) 0 0 8))) _
  refine g_run 2 27 [some (.ref 15), some (.ref 1)] [.int (zI 8), .int (zI 0), .ref 17, .int (zI 0), .ref 3] (rd (wR S 16 (zc (S.1 2) (S.1 16) 0 0 8))) rfl ?_
  refine s_cpy rfl rfl (rd_a3 _) (rd_a17 _) rfl (rw_a17 _ _) h (fun h => ?_)
  show eG _ 31 30 [some (.ref 15), some (.ref 1)] [] (rd (wR (wR S 16 (zc (S.1 2) (S.1 16) 0 0 8)) 17 (zc (S.1 3) (S.1 17) 0 0 8))) _
  refine g_run 1 31 [some (.ref 15), some (.ref 1)] [.ref 1] (rd (wR (wR S 16 (zc (S.1 2) (S.1 16) 0 0 8)) 17 (zc (S.1 3) (S.1 17) 0 0 8))) rfl ?_
  refine g_getf rfl rfl (rd_o1 _) rfl ?_
  show eG _ 31 34 [some (.ref 15), some (.ref 1)] [.ref 4] (rd (wR (wR S 16 (zc (S.1 2) (S.1 16) 0 0 8)) 17 (zc (S.1 3) (S.1 17) 0 0 8))) _
  refine g_run 2 36 [some (.ref 15), some (.ref 1)] [.ref 15, .int (zI 0), .ref 4] (rd (wR (wR S 16 (zc (S.1 2) (S.1 16) 0 0 8)) 17 (zc (S.1 3) (S.1 17) 0 0 8))) rfl ?_
  refine g_getf rfl rfl (rd_o15 _) rfl ?_
  show eG _ 31 39 [some (.ref 15), some (.ref 1)] [.ref 18, .int (zI 0), .ref 4] (rd (wR (wR S 16 (zc (S.1 2) (S.1 16) 0 0 8)) 17 (zc (S.1 3) (S.1 17) 0 0 8))) _
  refine g_run 2 42 [some (.ref 15), some (.ref 1)] [.int (zI 8), .int (zI 0), .ref 18, .int (zI 0), .ref 4] (rd (wR (wR S 16 (zc (S.1 2) (S.1 16) 0 0 8)) 17 (zc (S.1 3) (S.1 17) 0 0 8))) rfl ?_
  refine s_cpy rfl rfl (rd_a4 _) (rd_a18 _) rfl (rw_a18 _ _) h (fun h => ?_)
  show eG _ 31 45 [some (.ref 15), some (.ref 1)] [] (rd (wR (wR (wR S 16 (zc (S.1 2) (S.1 16) 0 0 8)) 17 (zc (S.1 3) (S.1 17) 0 0 8)) 18 (zc (S.1 4) (S.1 18) 0 0 8))) _
  refine g_run 1 46 [some (.ref 15), some (.ref 1)] [.ref 1] (rd (wR (wR (wR S 16 (zc (S.1 2) (S.1 16) 0 0 8)) 17 (zc (S.1 3) (S.1 17) 0 0 8)) 18 (zc (S.1 4) (S.1 18) 0 0 8))) rfl ?_
  refine g_getf rfl rfl (rd_o1 _) rfl ?_
  show eG _ 31 49 [some (.ref 15), some (.ref 1)] [.ref 5] (rd (wR (wR (wR S 16 (zc (S.1 2) (S.1 16) 0 0 8)) 17 (zc (S.1 3) (S.1 17) 0 0 8)) 18 (zc (S.1 4) (S.1 18) 0 0 8))) _
  refine g_run 2 51 [some (.ref 15), some (.ref 1)] [.ref 15, .int (zI 0), .ref 5] (rd (wR (wR (wR S 16 (zc (S.1 2) (S.1 16) 0 0 8)) 17 (zc (S.1 3) (S.1 17) 0 0 8)) 18 (zc (S.1 4) (S.1 18) 0 0 8))) rfl ?_
  refine g_getf rfl rfl (rd_o15 _) rfl ?_
  show eG _ 31 54 [some (.ref 15), some (.ref 1)] [.ref 19, .int (zI 0), .ref 5] (rd (wR (wR (wR S 16 (zc (S.1 2) (S.1 16) 0 0 8)) 17 (zc (S.1 3) (S.1 17) 0 0 8)) 18 (zc (S.1 4) (S.1 18) 0 0 8))) _
  refine g_run 2 57 [some (.ref 15), some (.ref 1)] [.int (zI 8), .int (zI 0), .ref 19, .int (zI 0), .ref 5] (rd (wR (wR (wR S 16 (zc (S.1 2) (S.1 16) 0 0 8)) 17 (zc (S.1 3) (S.1 17) 0 0 8)) 18 (zc (S.1 4) (S.1 18) 0 0 8))) rfl ?_
  refine s_cpy rfl rfl (rd_a5 _) (rd_a19 _) rfl (rw_a19 _ _) h (fun h => ?_)
  show eG _ 31 60 [some (.ref 15), some (.ref 1)] [] (rd (wR (wR (wR (wR S 16 (zc (S.1 2) (S.1 16) 0 0 8)) 17 (zc (S.1 3) (S.1 17) 0 0 8)) 18 (zc (S.1 4) (S.1 18) 0 0 8)) 19 (zc (S.1 5) (S.1 19) 0 0 8))) _
  refine g_run 1 61 [some (.ref 15), some (.ref 1)] [.ref 1] (rd (wR (wR (wR (wR S 16 (zc (S.1 2) (S.1 16) 0 0 8)) 17 (zc (S.1 3) (S.1 17) 0 0 8)) 18 (zc (S.1 4) (S.1 18) 0 0 8)) 19 (zc (S.1 5) (S.1 19) 0 0 8))) rfl ?_
  refine g_getf rfl rfl (rd_o1 _) rfl ?_
  show eG _ 31 64 [some (.ref 15), some (.ref 1)] [.ref 6] (rd (wR (wR (wR (wR S 16 (zc (S.1 2) (S.1 16) 0 0 8)) 17 (zc (S.1 3) (S.1 17) 0 0 8)) 18 (zc (S.1 4) (S.1 18) 0 0 8)) 19 (zc (S.1 5) (S.1 19) 0 0 8))) _
  refine g_run 2 66 [some (.ref 15), some (.ref 1)] [.ref 15, .int (zI 0), .ref 6] (rd (wR (wR (wR (wR S 16 (zc (S.1 2) (S.1 16) 0 0 8)) 17 (zc (S.1 3) (S.1 17) 0 0 8)) 18 (zc (S.1 4) (S.1 18) 0 0 8)) 19 (zc (S.1 5) (S.1 19) 0 0 8))) rfl ?_
  refine g_getf rfl rfl (rd_o15 _) rfl ?_
  show eG _ 31 69 [some (.ref 15), some (.ref 1)] [.ref 20, .int (zI 0), .ref 6] (rd (wR (wR (wR (wR S 16 (zc (S.1 2) (S.1 16) 0 0 8)) 17 (zc (S.1 3) (S.1 17) 0 0 8)) 18 (zc (S.1 4) (S.1 18) 0 0 8)) 19 (zc (S.1 5) (S.1 19) 0 0 8))) _
  refine g_run 2 72 [some (.ref 15), some (.ref 1)] [.int (zI 8), .int (zI 0), .ref 20, .int (zI 0), .ref 6] (rd (wR (wR (wR (wR S 16 (zc (S.1 2) (S.1 16) 0 0 8)) 17 (zc (S.1 3) (S.1 17) 0 0 8)) 18 (zc (S.1 4) (S.1 18) 0 0 8)) 19 (zc (S.1 5) (S.1 19) 0 0 8))) rfl ?_
  refine s_cpy rfl rfl (rd_a6 _) (rd_a20 _) rfl (rw_a20 _ _) h (fun h => ?_)
  show eG _ 31 75 [some (.ref 15), some (.ref 1)] [] (rd (wR (wR (wR (wR (wR S 16 (zc (S.1 2) (S.1 16) 0 0 8)) 17 (zc (S.1 3) (S.1 17) 0 0 8)) 18 (zc (S.1 4) (S.1 18) 0 0 8)) 19 (zc (S.1 5) (S.1 19) 0 0 8)) 20 (zc (S.1 6) (S.1 20) 0 0 8))) _
  refine g_run 1 76 [some (.ref 15), some (.ref 1)] [.ref 1] (rd (wR (wR (wR (wR (wR S 16 (zc (S.1 2) (S.1 16) 0 0 8)) 17 (zc (S.1 3) (S.1 17) 0 0 8)) 18 (zc (S.1 4) (S.1 18) 0 0 8)) 19 (zc (S.1 5) (S.1 19) 0 0 8)) 20 (zc (S.1 6) (S.1 20) 0 0 8))) rfl ?_
  refine g_getf rfl rfl (rd_o1 _) rfl ?_
  show eG _ 31 79 [some (.ref 15), some (.ref 1)] [.ref 7] (rd (wR (wR (wR (wR (wR S 16 (zc (S.1 2) (S.1 16) 0 0 8)) 17 (zc (S.1 3) (S.1 17) 0 0 8)) 18 (zc (S.1 4) (S.1 18) 0 0 8)) 19 (zc (S.1 5) (S.1 19) 0 0 8)) 20 (zc (S.1 6) (S.1 20) 0 0 8))) _
  refine g_run 2 81 [some (.ref 15), some (.ref 1)] [.ref 15, .int (zI 0), .ref 7] (rd (wR (wR (wR (wR (wR S 16 (zc (S.1 2) (S.1 16) 0 0 8)) 17 (zc (S.1 3) (S.1 17) 0 0 8)) 18 (zc (S.1 4) (S.1 18) 0 0 8)) 19 (zc (S.1 5) (S.1 19) 0 0 8)) 20 (zc (S.1 6) (S.1 20) 0 0 8))) rfl ?_
  refine g_getf rfl rfl (rd_o15 _) rfl ?_
  show eG _ 31 84 [some (.ref 15), some (.ref 1)] [.ref 21, .int (zI 0), .ref 7] (rd (wR (wR (wR (wR (wR S 16 (zc (S.1 2) (S.1 16) 0 0 8)) 17 (zc (S.1 3) (S.1 17) 0 0 8)) 18 (zc (S.1 4) (S.1 18) 0 0 8)) 19 (zc (S.1 5) (S.1 19) 0 0 8)) 20 (zc (S.1 6) (S.1 20) 0 0 8))) _
  refine g_run 2 86 [some (.ref 15), some (.ref 1)] [.int (zI 4), .int (zI 0), .ref 21, .int (zI 0), .ref 7] (rd (wR (wR (wR (wR (wR S 16 (zc (S.1 2) (S.1 16) 0 0 8)) 17 (zc (S.1 3) (S.1 17) 0 0 8)) 18 (zc (S.1 4) (S.1 18) 0 0 8)) 19 (zc (S.1 5) (S.1 19) 0 0 8)) 20 (zc (S.1 6) (S.1 20) 0 0 8))) rfl ?_
  refine s_cpy rfl rfl (rd_a7 _) (rd_a21 _) rfl (rw_a21 _ _) h (fun h => ?_)
  show eG _ 31 89 [some (.ref 15), some (.ref 1)] [] (rd (wR (wR (wR (wR (wR (wR S 16 (zc (S.1 2) (S.1 16) 0 0 8)) 17 (zc (S.1 3) (S.1 17) 0 0 8)) 18 (zc (S.1 4) (S.1 18) 0 0 8)) 19 (zc (S.1 5) (S.1 19) 0 0 8)) 20 (zc (S.1 6) (S.1 20) 0 0 8)) 21 (zc (S.1 7) (S.1 21) 0 0 4))) _
  refine g_run 2 91 [some (.ref 15), some (.ref 1)] [.ref 1, .ref 15] (rd (wR (wR (wR (wR (wR (wR S 16 (zc (S.1 2) (S.1 16) 0 0 8)) 17 (zc (S.1 3) (S.1 17) 0 0 8)) 18 (zc (S.1 4) (S.1 18) 0 0 8)) 19 (zc (S.1 5) (S.1 19) 0 0 8)) 20 (zc (S.1 6) (S.1 20) 0 0 8)) 21 (zc (S.1 7) (S.1 21) 0 0 4))) rfl ?_
  refine g_getf rfl rfl (rd_o1 _) rfl ?_
  show eG _ 31 94 [some (.ref 15), some (.ref 1)] [.int (zI (zF S 1 6)), .ref 15] (rd (wR (wR (wR (wR (wR (wR S 16 (zc (S.1 2) (S.1 16) 0 0 8)) 17 (zc (S.1 3) (S.1 17) 0 0 8)) 18 (zc (S.1 4) (S.1 18) 0 0 8)) 19 (zc (S.1 5) (S.1 19) 0 0 8)) 20 (zc (S.1 6) (S.1 20) 0 0 8)) 21 (zc (S.1 7) (S.1 21) 0 0 4))) _
  refine s_putf rfl rfl (rd_o15 _) rfl rfl rfl rfl rfl (rw_o15_6 _ _) ?_
  show eG _ 31 97 [some (.ref 15), some (.ref 1)] [] (rd (wF (wR (wR (wR (wR (wR (wR S 16 (zc (S.1 2) (S.1 16) 0 0 8)) 17 (zc (S.1 3) (S.1 17) 0 0 8)) 18 (zc (S.1 4) (S.1 18) 0 0 8)) 19 (zc (S.1 5) (S.1 19) 0 0 8)) 20 (zc (S.1 6) (S.1 20) 0 0 8)) 21 (zc (S.1 7) (S.1 21) 0 0 4)) 15 6 (zF S 1 6))) _
  refine g_run 2 99 [some (.ref 15), some (.ref 1)] [.ref 1, .ref 15] (rd (wF (wR (wR (wR (wR (wR (wR S 16 (zc (S.1 2) (S.1 16) 0 0 8)) 17 (zc (S.1 3) (S.1 17) 0 0 8)) 18 (zc (S.1 4) (S.1 18) 0 0 8)) 19 (zc (S.1 5) (S.1 19) 0 0 8)) 20 (zc (S.1 6) (S.1 20) 0 0 8)) 21 (zc (S.1 7) (S.1 21) 0 0 4)) 15 6 (zF S 1 6))) rfl ?_
  refine g_getf rfl rfl (rd_o1 _) rfl ?_
  show eG _ 31 102 [some (.ref 15), some (.ref 1)] [.int (zI (zF S 1 7)), .ref 15] (rd (wF (wR (wR (wR (wR (wR (wR S 16 (zc (S.1 2) (S.1 16) 0 0 8)) 17 (zc (S.1 3) (S.1 17) 0 0 8)) 18 (zc (S.1 4) (S.1 18) 0 0 8)) 19 (zc (S.1 5) (S.1 19) 0 0 8)) 20 (zc (S.1 6) (S.1 20) 0 0 8)) 21 (zc (S.1 7) (S.1 21) 0 0 4)) 15 6 (zF S 1 6))) _
  refine s_putf rfl rfl (rd_o15 _) rfl rfl rfl rfl rfl (rw_o15_7 _ _) ?_
  show eG _ 31 105 [some (.ref 15), some (.ref 1)] [] (rd (wF (wF (wR (wR (wR (wR (wR (wR S 16 (zc (S.1 2) (S.1 16) 0 0 8)) 17 (zc (S.1 3) (S.1 17) 0 0 8)) 18 (zc (S.1 4) (S.1 18) 0 0 8)) 19 (zc (S.1 5) (S.1 19) 0 0 8)) 20 (zc (S.1 6) (S.1 20) 0 0 8)) 21 (zc (S.1 7) (S.1 21) 0 0 4)) 15 6 (zF S 1 6)) 15 7 (zF S 1 7))) _
  refine g_run 2 107 [some (.ref 15), some (.ref 1)] [.ref 1, .ref 15] (rd (wF (wF (wR (wR (wR (wR (wR (wR S 16 (zc (S.1 2) (S.1 16) 0 0 8)) 17 (zc (S.1 3) (S.1 17) 0 0 8)) 18 (zc (S.1 4) (S.1 18) 0 0 8)) 19 (zc (S.1 5) (S.1 19) 0 0 8)) 20 (zc (S.1 6) (S.1 20) 0 0 8)) 21 (zc (S.1 7) (S.1 21) 0 0 4)) 15 6 (zF S 1 6)) 15 7 (zF S 1 7))) rfl ?_
  refine g_getf rfl rfl (rd_o1 _) rfl ?_
  show eG _ 31 110 [some (.ref 15), some (.ref 1)] [.int (zI (zF S 1 8)), .ref 15] (rd (wF (wF (wR (wR (wR (wR (wR (wR S 16 (zc (S.1 2) (S.1 16) 0 0 8)) 17 (zc (S.1 3) (S.1 17) 0 0 8)) 18 (zc (S.1 4) (S.1 18) 0 0 8)) 19 (zc (S.1 5) (S.1 19) 0 0 8)) 20 (zc (S.1 6) (S.1 20) 0 0 8)) 21 (zc (S.1 7) (S.1 21) 0 0 4)) 15 6 (zF S 1 6)) 15 7 (zF S 1 7))) _
  refine s_putf rfl rfl (rd_o15 _) rfl rfl rfl rfl rfl (rw_o15_8 _ _) ?_
  show eG _ 31 113 [some (.ref 15), some (.ref 1)] [] (rd (wF (wF (wF (wR (wR (wR (wR (wR (wR S 16 (zc (S.1 2) (S.1 16) 0 0 8)) 17 (zc (S.1 3) (S.1 17) 0 0 8)) 18 (zc (S.1 4) (S.1 18) 0 0 8)) 19 (zc (S.1 5) (S.1 19) 0 0 8)) 20 (zc (S.1 6) (S.1 20) 0 0 8)) 21 (zc (S.1 7) (S.1 21) 0 0 4)) 15 6 (zF S 1 6)) 15 7 (zF S 1 7)) 15 8 (zF S 1 8))) _
  refine g_run 2 115 [some (.ref 15), some (.ref 1)] [.ref 1, .ref 15] (rd (wF (wF (wF (wR (wR (wR (wR (wR (wR S 16 (zc (S.1 2) (S.1 16) 0 0 8)) 17 (zc (S.1 3) (S.1 17) 0 0 8)) 18 (zc (S.1 4) (S.1 18) 0 0 8)) 19 (zc (S.1 5) (S.1 19) 0 0 8)) 20 (zc (S.1 6) (S.1 20) 0 0 8)) 21 (zc (S.1 7) (S.1 21) 0 0 4)) 15 6 (zF S 1 6)) 15 7 (zF S 1 7)) 15 8 (zF S 1 8))) rfl ?_
  refine g_getf rfl rfl (rd_o1 _) rfl ?_
  show eG _ 31 118 [some (.ref 15), some (.ref 1)] [.int (zI (zF S 1 9)), .ref 15] (rd (wF (wF (wF (wR (wR (wR (wR (wR (wR S 16 (zc (S.1 2) (S.1 16) 0 0 8)) 17 (zc (S.1 3) (S.1 17) 0 0 8)) 18 (zc (S.1 4) (S.1 18) 0 0 8)) 19 (zc (S.1 5) (S.1 19) 0 0 8)) 20 (zc (S.1 6) (S.1 20) 0 0 8)) 21 (zc (S.1 7) (S.1 21) 0 0 4)) 15 6 (zF S 1 6)) 15 7 (zF S 1 7)) 15 8 (zF S 1 8))) _
  refine s_putf rfl rfl (rd_o15 _) rfl rfl rfl rfl rfl (rw_o15_9 _ _) ?_
  show eG _ 31 121 [some (.ref 15), some (.ref 1)] [] (rd (wF (wF (wF (wF (wR (wR (wR (wR (wR (wR S 16 (zc (S.1 2) (S.1 16) 0 0 8)) 17 (zc (S.1 3) (S.1 17) 0 0 8)) 18 (zc (S.1 4) (S.1 18) 0 0 8)) 19 (zc (S.1 5) (S.1 19) 0 0 8)) 20 (zc (S.1 6) (S.1 20) 0 0 8)) 21 (zc (S.1 7) (S.1 21) 0 0 4)) 15 6 (zF S 1 6)) 15 7 (zF S 1 7)) 15 8 (zF S 1 8)) 15 9 (zF S 1 9))) _
  refine g_run 2 123 [some (.ref 15), some (.ref 1)] [.ref 1, .ref 15] (rd (wF (wF (wF (wF (wR (wR (wR (wR (wR (wR S 16 (zc (S.1 2) (S.1 16) 0 0 8)) 17 (zc (S.1 3) (S.1 17) 0 0 8)) 18 (zc (S.1 4) (S.1 18) 0 0 8)) 19 (zc (S.1 5) (S.1 19) 0 0 8)) 20 (zc (S.1 6) (S.1 20) 0 0 8)) 21 (zc (S.1 7) (S.1 21) 0 0 4)) 15 6 (zF S 1 6)) 15 7 (zF S 1 7)) 15 8 (zF S 1 8)) 15 9 (zF S 1 9))) rfl ?_
  refine g_getf rfl rfl (rd_o1 _) rfl ?_
  show eG _ 31 126 [some (.ref 15), some (.ref 1)] [.int (zI (zF S 1 10)), .ref 15] (rd (wF (wF (wF (wF (wR (wR (wR (wR (wR (wR S 16 (zc (S.1 2) (S.1 16) 0 0 8)) 17 (zc (S.1 3) (S.1 17) 0 0 8)) 18 (zc (S.1 4) (S.1 18) 0 0 8)) 19 (zc (S.1 5) (S.1 19) 0 0 8)) 20 (zc (S.1 6) (S.1 20) 0 0 8)) 21 (zc (S.1 7) (S.1 21) 0 0 4)) 15 6 (zF S 1 6)) 15 7 (zF S 1 7)) 15 8 (zF S 1 8)) 15 9 (zF S 1 9))) _
  refine s_putf rfl rfl (rd_o15 _) rfl rfl rfl rfl rfl (rw_o15_10 _ _) ?_
  show eG _ 31 129 [some (.ref 15), some (.ref 1)] [] (rd (wF (wF (wF (wF (wF (wR (wR (wR (wR (wR (wR S 16 (zc (S.1 2) (S.1 16) 0 0 8)) 17 (zc (S.1 3) (S.1 17) 0 0 8)) 18 (zc (S.1 4) (S.1 18) 0 0 8)) 19 (zc (S.1 5) (S.1 19) 0 0 8)) 20 (zc (S.1 6) (S.1 20) 0 0 8)) 21 (zc (S.1 7) (S.1 21) 0 0 4)) 15 6 (zF S 1 6)) 15 7 (zF S 1 7)) 15 8 (zF S 1 8)) 15 9 (zF S 1 9)) 15 10 (zF S 1 10))) _
  refine g_run 2 131 [some (.ref 15), some (.ref 1)] [.ref 1, .ref 15] (rd (wF (wF (wF (wF (wF (wR (wR (wR (wR (wR (wR S 16 (zc (S.1 2) (S.1 16) 0 0 8)) 17 (zc (S.1 3) (S.1 17) 0 0 8)) 18 (zc (S.1 4) (S.1 18) 0 0 8)) 19 (zc (S.1 5) (S.1 19) 0 0 8)) 20 (zc (S.1 6) (S.1 20) 0 0 8)) 21 (zc (S.1 7) (S.1 21) 0 0 4)) 15 6 (zF S 1 6)) 15 7 (zF S 1 7)) 15 8 (zF S 1 8)) 15 9 (zF S 1 9)) 15 10 (zF S 1 10))) rfl ?_
  refine g_getf rfl rfl (rd_o1 _) rfl ?_
  show eG _ 31 134 [some (.ref 15), some (.ref 1)] [.int (zI (zF S 1 11)), .ref 15] (rd (wF (wF (wF (wF (wF (wR (wR (wR (wR (wR (wR S 16 (zc (S.1 2) (S.1 16) 0 0 8)) 17 (zc (S.1 3) (S.1 17) 0 0 8)) 18 (zc (S.1 4) (S.1 18) 0 0 8)) 19 (zc (S.1 5) (S.1 19) 0 0 8)) 20 (zc (S.1 6) (S.1 20) 0 0 8)) 21 (zc (S.1 7) (S.1 21) 0 0 4)) 15 6 (zF S 1 6)) 15 7 (zF S 1 7)) 15 8 (zF S 1 8)) 15 9 (zF S 1 9)) 15 10 (zF S 1 10))) _
  refine s_putf rfl rfl (rd_o15 _) rfl rfl rfl rfl rfl (rw_o15_11 _ _) ?_
  show eG _ 31 137 [some (.ref 15), some (.ref 1)] [] (rd (wF (wF (wF (wF (wF (wF (wR (wR (wR (wR (wR (wR S 16 (zc (S.1 2) (S.1 16) 0 0 8)) 17 (zc (S.1 3) (S.1 17) 0 0 8)) 18 (zc (S.1 4) (S.1 18) 0 0 8)) 19 (zc (S.1 5) (S.1 19) 0 0 8)) 20 (zc (S.1 6) (S.1 20) 0 0 8)) 21 (zc (S.1 7) (S.1 21) 0 0 4)) 15 6 (zF S 1 6)) 15 7 (zF S 1 7)) 15 8 (zF S 1 8)) 15 9 (zF S 1 9)) 15 10 (zF S 1 10)) 15 11 (zF S 1 11))) _
  cases h
  exact g_retv rfl rfl rfl
def fT_raze_15 (n : Nat) (S : ZS) : Option (ZS) := some (wF (wF (wF (wF S 15 6 0) 15 7 0) 15 8 0) 15 9 0)
set_option maxRecDepth 100000 in
set_option maxHeartbeats 4000000 in
theorem sT_raze_15 (o : eO) (n : Nat) (S : ZS) {w : ZS} (h : fT_raze_15 n S = some w) : eG o 32 0 (eEnt 32 [.ref 15]) [] (rd S) (rv (none) (rd w)) := by
  unfold fT_raze_15 at h
  show eG o 32 0 [some (.ref 15)] [] (rd S) _
  refine g_run 2 2 [some (.ref 15)] [.int (zI 0), .ref 15] (rd S) rfl ?_
  refine s_putf rfl rfl (rd_o15 _) rfl rfl rfl rfl rfl (rw_o15_6 _ _) ?_
  show eG _ 32 5 [some (.ref 15)] [] (rd (wF S 15 6 0)) _
  refine g_run 2 7 [some (.ref 15)] [.int (zI 0), .ref 15] (rd (wF S 15 6 0)) rfl ?_
  refine s_putf rfl rfl (rd_o15 _) rfl rfl rfl rfl rfl (rw_o15_7 _ _) ?_
  show eG _ 32 10 [some (.ref 15)] [] (rd (wF (wF S 15 6 0) 15 7 0)) _
  refine g_run 2 12 [some (.ref 15)] [.int (zI 0), .ref 15] (rd (wF (wF S 15 6 0) 15 7 0)) rfl ?_
  refine s_putf rfl rfl (rd_o15 _) rfl rfl rfl rfl rfl (rw_o15_8 _ _) ?_
  show eG _ 32 15 [some (.ref 15)] [] (rd (wF (wF (wF S 15 6 0) 15 7 0) 15 8 0)) _
  refine g_run 2 17 [some (.ref 15)] [.int (zI 0), .ref 15] (rd (wF (wF (wF S 15 6 0) 15 7 0) 15 8 0)) rfl ?_
  refine s_putf rfl rfl (rd_o15 _) rfl rfl rfl rfl rfl (rw_o15_9 _ _) ?_
  show eG _ 32 20 [some (.ref 15)] [] (rd (wF (wF (wF (wF S 15 6 0) 15 7 0) 15 8 0) 15 9 0)) _
  cases h
  exact g_retv rfl rfl rfl
def fP_next_1 : Nat → ZS → Option (ZS)
  | 0, _ => none
  | n + 1, S => gC (zF S 22 2) (zF S 22 1) (if (zF S 22 2) < (zF S 22 1) then gX (zF S 22 2) 160 (gC (zA S 23 (zF S 22 2)) 32 (if (zA S 23 (zF S 22 2)) = 32 then fP_next_1 n (wF S 22 2 ((zF S 22 2) + 1)) else some S)) else some S)
set_option maxRecDepth 100000 in
set_option maxHeartbeats 4000000 in
theorem sP_next_1 (o : eO) : ∀ (n : Nat) (S : ZS) {w : ZS} {r : eP} (h : fP_next_1 n S = some w) (hk : eG o 35 38 [some (.ref 22)] [] (rd w) r), eG o 35 0 [some (.ref 22)] [] (rd S) r := by
  intro n
  induction n with
  | zero => intro S  w r h hk; unfold fP_next_1 at h; cases h
  | succ n ih =>
    intro S  w r h hk
    unfold fP_next_1 at h
    refine g_run 1 1 [some (.ref 22)] [.ref 22] (rd S) rfl ?_
    refine g_getf rfl rfl (rd_o22 _) rfl ?_
    show eG _ 35 4 [some (.ref 22)] [.int (zI (zF S 22 2))] (rd S) _
    refine g_run 1 5 [some (.ref 22)] [.ref 22, .int (zI (zF S 22 2))] (rd S) rfl ?_
    refine g_getf rfl rfl (rd_o22 _) rfl ?_
    show eG _ 35 8 [some (.ref 22)] [.int (zI (zF S 22 1)), .int (zI (zF S 22 2))] (rd S) _
    refine s_icmp_ge rfl h (fun h => ?_) (fun h => ?_)
    · show eG _ 35 38 [some (.ref 22)] [] (rd S) _
      cases h
      exact hk
    · show eG _ 35 11 [some (.ref 22)] [] (rd S) _
      refine g_run 1 12 [some (.ref 22)] [.ref 22] (rd S) rfl ?_
      refine g_getf rfl rfl (rd_o22 _) rfl ?_
      show eG _ 35 15 [some (.ref 22)] [.ref 23] (rd S) _
      refine g_run 1 16 [some (.ref 22)] [.ref 22, .ref 23] (rd S) rfl ?_
      refine g_getf rfl rfl (rd_o22 _) rfl ?_
      show eG _ 35 19 [some (.ref 22)] [.int (zI (zF S 22 2)), .ref 23] (rd S) _
      refine s_cald rfl (rd_a23 _) h (fun h => ?_)
      show eG _ 35 20 [some (.ref 22)] [.int (zI (zA S 23 (zF S 22 2)))] (rd S) _
      refine g_run 1 22 [some (.ref 22)] [.int (zI 32), .int (zI (zA S 23 (zF S 22 2)))] (rd S) rfl ?_
      refine s_icmp_ne rfl h (fun h => ?_) (fun h => ?_)
      · show eG _ 35 38 [some (.ref 22)] [] (rd S) _
        cases h
        exact hk
      · show eG _ 35 25 [some (.ref 22)] [] (rd S) _
        refine g_run 2 27 [some (.ref 22)] [.ref 22, .ref 22] (rd S) rfl ?_
        refine g_getf rfl rfl (rd_o22 _) rfl ?_
        show eG _ 35 30 [some (.ref 22)] [.int (zI (zF S 22 2)), .ref 22] (rd S) _
        refine g_run 1 31 [some (.ref 22)] [.int (zI 1), .int (zI (zF S 22 2)), .ref 22] (rd S) rfl ?_
        refine s_iadd rfl ?_
        refine s_putf rfl rfl (rd_o22 _) rfl rfl rfl rfl rfl (rw_o22_2 _ _) ?_
        show eG _ 35 35 [some (.ref 22)] [] (rd (wF S 22 2 ((zF S 22 2) + 1))) _
        refine g_run 1 0 [some (.ref 22)] [] (rd (wF S 22 2 ((zF S 22 2) + 1))) rfl ?_
        exact ih (wF S 22 2 ((zF S 22 2) + 1)) h hk
def fP_next (n : Nat) (S : ZS) : Option (Int × ZS) := (fP_next_1 n S).bind fun z1 => gC (zF z1 22 2) (zF z1 22 1) (if (zF z1 22 2) < (zF z1 22 1) then gX (zF z1 22 2) 160 (gH (zA z1 23 (zF z1 22 2)) (some (zA z1 23 (zF z1 22 2), z1))) else gH 0 (some (0, z1)))
set_option maxRecDepth 100000 in
set_option maxHeartbeats 4000000 in
theorem sP_next (o : eO) (n : Nat) (S : ZS) {w : Int × ZS} (h : fP_next n S = some w) : eG o 35 0 (eEnt 35 [.ref 22]) [] (rd S) (rv (some (.int (zI w.1))) (rd w.2)) := by
  unfold fP_next at h
  show eG o 35 0 [some (.ref 22)] [] (rd S) _
  obtain ⟨z1, h1, h⟩ := zB_inv h
  refine sP_next_1 o n S h1 ?_
  show eG _ 35 38 [some (.ref 22)] [] (rd z1) _
  refine g_run 1 39 [some (.ref 22)] [.ref 22] (rd z1) rfl ?_
  refine g_getf rfl rfl (rd_o22 _) rfl ?_
  show eG _ 35 42 [some (.ref 22)] [.int (zI (zF z1 22 2))] (rd z1) _
  refine g_run 1 43 [some (.ref 22)] [.ref 22, .int (zI (zF z1 22 2))] (rd z1) rfl ?_
  refine g_getf rfl rfl (rd_o22 _) rfl ?_
  show eG _ 35 46 [some (.ref 22)] [.int (zI (zF z1 22 1)), .int (zI (zF z1 22 2))] (rd z1) _
  refine s_icmp_ge rfl h (fun h => ?_) (fun h => ?_)
  · show eG _ 35 61 [some (.ref 22)] [] (rd z1) _
    refine g_run 1 62 [some (.ref 22)] [.int (zI 0)] (rd z1) rfl ?_
    exact s_retH rfl rfl h (fun h => by cases h; exact rfl)
  · show eG _ 35 49 [some (.ref 22)] [] (rd z1) _
    refine g_run 1 50 [some (.ref 22)] [.ref 22] (rd z1) rfl ?_
    refine g_getf rfl rfl (rd_o22 _) rfl ?_
    show eG _ 35 53 [some (.ref 22)] [.ref 23] (rd z1) _
    refine g_run 1 54 [some (.ref 22)] [.ref 22, .ref 23] (rd z1) rfl ?_
    refine g_getf rfl rfl (rd_o22 _) rfl ?_
    show eG _ 35 57 [some (.ref 22)] [.int (zI (zF z1 22 2)), .ref 23] (rd z1) _
    refine s_cald rfl (rd_a23 _) h (fun h => ?_)
    show eG _ 35 58 [some (.ref 22)] [.int (zI (zA z1 23 (zF z1 22 2)))] (rd z1) _
    refine g_run 1 62 [some (.ref 22)] [.int (zI (zA z1 23 (zF z1 22 2)))] (rd z1) rfl ?_
    exact s_retH rfl rfl h (fun h => by cases h; exact rfl)
def fP_isDigit (n : Nat) (S : ZS) (l0 : Int) : Option (Int) := gC l0 48 (if l0 < 48 then gB 0 (some 0) else gC l0 57 (if 57 < l0 then gB 0 (some 0) else gB 1 (some 1)))
set_option maxRecDepth 100000 in
set_option maxHeartbeats 4000000 in
theorem sP_isDigit (o : eO) (n : Nat) (S : ZS) (l0 : Int) {w : Int} (h : fP_isDigit n S l0 = some w) : eG o 39 0 (eEnt 39 [.int (zI l0)]) [] (rd S) (rv (some (.int (zI w))) (rd S)) := by
  unfold fP_isDigit at h
  show eG o 39 0 [some (.int (zI l0))] [] (rd S) _
  refine g_run 2 3 [some (.int (zI l0))] [.int (zI 48), .int (zI l0)] (rd S) rfl ?_
  refine s_icmp_lt rfl h (fun h => ?_) (fun h => ?_)
  · show eG _ 39 16 [some (.int (zI l0))] [] (rd S) _
    refine g_run 1 17 [some (.int (zI l0))] [.int (zI 0)] (rd S) rfl ?_
    exact s_retB rfl rfl h (fun h => by cases h; exact rfl)
  · show eG _ 39 6 [some (.int (zI l0))] [] (rd S) _
    refine g_run 2 9 [some (.int (zI l0))] [.int (zI 57), .int (zI l0)] (rd S) rfl ?_
    refine s_icmp_gt rfl h (fun h => ?_) (fun h => ?_)
    · show eG _ 39 16 [some (.int (zI l0))] [] (rd S) _
      refine g_run 1 17 [some (.int (zI l0))] [.int (zI 0)] (rd S) rfl ?_
      exact s_retB rfl rfl h (fun h => by cases h; exact rfl)
    · show eG _ 39 12 [some (.int (zI l0))] [] (rd S) _
      refine g_run 2 17 [some (.int (zI l0))] [.int (zI 1)] (rd S) rfl ?_
      exact s_retB rfl rfl h (fun h => by cases h; exact rfl)
def fP_readNumber_1 : Nat → ZS → Int → Int → Int → Int → Option (Int × ZS)
  | 0, _, _, _, _, _ => none
  | n + 1, S, l1, l2, l3, l4 => gC (zF S 22 2) (zF S 22 1) (if (zF S 22 2) < (zF S 22 1) then gX (zF S 22 2) 160 ((fP_isDigit n S (zA S 23 (zF S 22 2))).bind fun z1 => gC z1 0 (if z1 = 0 then some (l4, S) else gX (zF S 22 2) 160 (gC (l2 + 1) (((l4 * 10) + (zA S 23 (zF S 22 2))) - 48) (fP_readNumber_1 n (wF S 22 2 ((zF S 22 2) + 1)) l1 l2 l3 (min (l2 + 1) (((l4 * 10) + (zA S 23 (zF S 22 2))) - 48)))))) else some (l4, S))
set_option maxRecDepth 100000 in
set_option maxHeartbeats 4000000 in
theorem sP_readNumber_1 (o : eO) : ∀ (n : Nat) (S : ZS) (l1 l2 l3 l4 : Int) {w : Int × ZS} {r : eP} (h : fP_readNumber_1 n S l1 l2 l3 l4 = some w) (hk : eG o 38 78 [some (.ref 22), some (.int (zI l1)), some (.int (zI l2)), some (.int (zI l3)), some (.int (zI w.1))] [] (rd w.2) r), eG o 38 13 [some (.ref 22), some (.int (zI l1)), some (.int (zI l2)), some (.int (zI l3)), some (.int (zI l4))] [] (rd S) r := by
  intro n
  induction n with
  | zero => intro S l1 l2 l3 l4 w r h hk; unfold fP_readNumber_1 at h; cases h
  | succ n ih =>
    intro S l1 l2 l3 l4 w r h hk
    unfold fP_readNumber_1 at h
    refine g_run 1 14 [some (.ref 22), some (.int (zI l1)), some (.int (zI l2)), some (.int (zI l3)), some (.int (zI l4))] [.ref 22] (rd S) rfl ?_
    refine g_getf rfl rfl (rd_o22 _) rfl ?_
    show eG _ 38 17 [some (.ref 22), some (.int (zI l1)), some (.int (zI l2)), some (.int (zI l3)), some (.int (zI l4))] [.int (zI (zF S 22 2))] (rd S) _
    refine g_run 1 18 [some (.ref 22), some (.int (zI l1)), some (.int (zI l2)), some (.int (zI l3)), some (.int (zI l4))] [.ref 22, .int (zI (zF S 22 2))] (rd S) rfl ?_
    refine g_getf rfl rfl (rd_o22 _) rfl ?_
    show eG _ 38 21 [some (.ref 22), some (.int (zI l1)), some (.int (zI l2)), some (.int (zI l3)), some (.int (zI l4))] [.int (zI (zF S 22 1)), .int (zI (zF S 22 2))] (rd S) _
    refine s_icmp_ge rfl h (fun h => ?_) (fun h => ?_)
    · show eG _ 38 78 [some (.ref 22), some (.int (zI l1)), some (.int (zI l2)), some (.int (zI l3)), some (.int (zI l4))] [] (rd S) _
      cases h
      exact hk
    · show eG _ 38 24 [some (.ref 22), some (.int (zI l1)), some (.int (zI l2)), some (.int (zI l3)), some (.int (zI l4))] [] (rd S) _
      refine g_run 1 25 [some (.ref 22), some (.int (zI l1)), some (.int (zI l2)), some (.int (zI l3)), some (.int (zI l4))] [.ref 22] (rd S) rfl ?_
      refine g_getf rfl rfl (rd_o22 _) rfl ?_
      show eG _ 38 28 [some (.ref 22), some (.int (zI l1)), some (.int (zI l2)), some (.int (zI l3)), some (.int (zI l4))] [.ref 23] (rd S) _
      refine g_run 1 29 [some (.ref 22), some (.int (zI l1)), some (.int (zI l2)), some (.int (zI l3)), some (.int (zI l4))] [.ref 22, .ref 23] (rd S) rfl ?_
      refine g_getf rfl rfl (rd_o22 _) rfl ?_
      show eG _ 38 32 [some (.ref 22), some (.int (zI l1)), some (.int (zI l2)), some (.int (zI l3)), some (.int (zI l4))] [.int (zI (zF S 22 2)), .ref 23] (rd S) _
      refine s_cald rfl (rd_a23 _) h (fun h => ?_)
      show eG _ 38 33 [some (.ref 22), some (.int (zI l1)), some (.int (zI l2)), some (.int (zI l3)), some (.int (zI l4))] [.int (zI (zA S 23 (zF S 22 2)))] (rd S) _
      refine s_sta (fun z => some (.int (zI z))) (fun _ => rd S) rfl rfl rfl rfl rfl rfl rfl (fun z hz => sP_isDigit o n S (zA S 23 (zF S 22 2)) hz) rfl h (fun z1 h => ?_)
      show eG _ 38 36 [some (.ref 22), some (.int (zI l1)), some (.int (zI l2)), some (.int (zI l3)), some (.int (zI l4))] [.int (zI z1)] (rd S) _
      refine s_if_eq rfl h (fun h => ?_) (fun h => ?_)
      · show eG _ 38 78 [some (.ref 22), some (.int (zI l1)), some (.int (zI l2)), some (.int (zI l3)), some (.int (zI l4))] [] (rd S) _
        cases h
        exact hk
      · show eG _ 38 39 [some (.ref 22), some (.int (zI l1)), some (.int (zI l2)), some (.int (zI l3)), some (.int (zI l4))] [] (rd S) _
        refine g_run 2 41 [some (.ref 22), some (.int (zI l1)), some (.int (zI l2)), some (.int (zI l3)), some (.int (zI l4))] [.int (zI 1), .int (zI l2)] (rd S) rfl ?_
        refine s_iadd rfl ?_
        refine g_run 2 46 [some (.ref 22), some (.int (zI l1)), some (.int (zI l2)), some (.int (zI l3)), some (.int (zI l4))] [.int (zI 10), .int (zI l4), .int (zI (l2 + 1))] (rd S) rfl ?_
        refine s_imul rfl ?_
        refine g_run 1 48 [some (.ref 22), some (.int (zI l1)), some (.int (zI l2)), some (.int (zI l3)), some (.int (zI l4))] [.ref 22, .int (zI (l4 * 10)), .int (zI (l2 + 1))] (rd S) rfl ?_
        refine g_getf rfl rfl (rd_o22 _) rfl ?_
        show eG _ 38 51 [some (.ref 22), some (.int (zI l1)), some (.int (zI l2)), some (.int (zI l3)), some (.int (zI l4))] [.ref 23, .int (zI (l4 * 10)), .int (zI (l2 + 1))] (rd S) _
        refine g_run 1 52 [some (.ref 22), some (.int (zI l1)), some (.int (zI l2)), some (.int (zI l3)), some (.int (zI l4))] [.ref 22, .ref 23, .int (zI (l4 * 10)), .int (zI (l2 + 1))] (rd S) rfl ?_
        refine g_getf rfl rfl (rd_o22 _) rfl ?_
        show eG _ 38 55 [some (.ref 22), some (.int (zI l1)), some (.int (zI l2)), some (.int (zI l3)), some (.int (zI l4))] [.int (zI (zF S 22 2)), .ref 23, .int (zI (l4 * 10)), .int (zI (l2 + 1))] (rd S) _
        refine s_cald rfl (rd_a23 _) h (fun h => ?_)
        show eG _ 38 56 [some (.ref 22), some (.int (zI l1)), some (.int (zI l2)), some (.int (zI l3)), some (.int (zI l4))] [.int (zI (zA S 23 (zF S 22 2))), .int (zI (l4 * 10)), .int (zI (l2 + 1))] (rd S) _
        refine s_iadd rfl ?_
        refine g_run 1 59 [some (.ref 22), some (.int (zI l1)), some (.int (zI l2)), some (.int (zI l3)), some (.int (zI l4))] [.int (zI 48), .int (zI ((l4 * 10) + (zA S 23 (zF S 22 2)))), .int (zI (l2 + 1))] (rd S) rfl ?_
        refine s_isub rfl ?_
        refine s_min rfl rfl rfl rfl h (fun h => ?_)
        refine g_run 3 67 [some (.ref 22), some (.int (zI l1)), some (.int (zI l2)), some (.int (zI l3)), some (.int (zI (min (l2 + 1) (((l4 * 10) + (zA S 23 (zF S 22 2))) - 48))))] [.ref 22, .ref 22] (rd S) rfl ?_
        refine g_getf rfl rfl (rd_o22 _) rfl ?_
        show eG _ 38 70 [some (.ref 22), some (.int (zI l1)), some (.int (zI l2)), some (.int (zI l3)), some (.int (zI (min (l2 + 1) (((l4 * 10) + (zA S 23 (zF S 22 2))) - 48))))] [.int (zI (zF S 22 2)), .ref 22] (rd S) _
        refine g_run 1 71 [some (.ref 22), some (.int (zI l1)), some (.int (zI l2)), some (.int (zI l3)), some (.int (zI (min (l2 + 1) (((l4 * 10) + (zA S 23 (zF S 22 2))) - 48))))] [.int (zI 1), .int (zI (zF S 22 2)), .ref 22] (rd S) rfl ?_
        refine s_iadd rfl ?_
        refine s_putf rfl rfl (rd_o22 _) rfl rfl rfl rfl rfl (rw_o22_2 _ _) ?_
        show eG _ 38 75 [some (.ref 22), some (.int (zI l1)), some (.int (zI l2)), some (.int (zI l3)), some (.int (zI (min (l2 + 1) (((l4 * 10) + (zA S 23 (zF S 22 2))) - 48))))] [] (rd (wF S 22 2 ((zF S 22 2) + 1))) _
        refine g_run 1 13 [some (.ref 22), some (.int (zI l1)), some (.int (zI l2)), some (.int (zI l3)), some (.int (zI (min (l2 + 1) (((l4 * 10) + (zA S 23 (zF S 22 2))) - 48))))] [] (rd (wF S 22 2 ((zF S 22 2) + 1))) rfl ?_
        exact ih (wF S 22 2 ((zF S 22 2) + 1)) l1 l2 l3 (min (l2 + 1) (((l4 * 10) + (zA S 23 (zF S 22 2))) - 48)) h hk
def fP_readNumber (n : Nat) (S : ZS) (l1 l2 : Int) : Option (Int × ZS) := (fP_next n S).bind fun z1 => (fP_readNumber_1 n z1.2 l1 l2 (zF z1.2 22 2) 0).bind fun z2 => gC (zF z2.2 22 2) (zF z1.2 22 2) (if (zF z2.2 22 2) = (zF z1.2 22 2) then some (-1, wF z2.2 22 2 (zF z1.2 22 2)) else gC z2.1 l1 (if z2.1 < l1 then some (-1, wF z2.2 22 2 (zF z1.2 22 2)) else gC z2.1 l2 (if l2 < z2.1 then some (-1, wF z2.2 22 2 (zF z1.2 22 2)) else some (z2.1, z2.2))))
set_option maxRecDepth 100000 in
set_option maxHeartbeats 4000000 in
theorem sP_readNumber (o : eO) (n : Nat) (S : ZS) (l1 l2 : Int) {w : Int × ZS} (h : fP_readNumber n S l1 l2 = some w) : eG o 38 0 (eEnt 38 [.ref 22, .int (zI l1), .int (zI l2)]) [] (rd S) (rv (some (.int (zI w.1))) (rd w.2)) := by
  unfold fP_readNumber at h
  show eG o 38 0 [some (.ref 22), some (.int (zI l1)), some (.int (zI l2)), none, none] [] (rd S) _
  refine g_run 1 1 [some (.ref 22), some (.int (zI l1)), some (.int (zI l2)), none, none] [.ref 22] (rd S) rfl ?_
  refine s_vir (fun z => some (.int (zI z.1))) (fun z => rd z.2) rfl rfl rfl (rd_o22 _) rfl rfl (fun z hz => sP_next o n S hz) rfl h (fun z1 h => ?_)
  show eG _ 38 4 [some (.ref 22), some (.int (zI l1)), some (.int (zI l2)), none, none] [.int (zI z1.1)] (rd z1.2) _
  refine g_run 2 6 [some (.ref 22), some (.int (zI l1)), some (.int (zI l2)), none, none] [.ref 22] (rd z1.2) rfl ?_
  refine g_getf rfl rfl (rd_o22 _) rfl ?_
  show eG _ 38 9 [some (.ref 22), some (.int (zI l1)), some (.int (zI l2)), none, none] [.int (zI (zF z1.2 22 2))] (rd z1.2) _
  refine g_run 3 13 [some (.ref 22), some (.int (zI l1)), some (.int (zI l2)), some (.int (zI (zF z1.2 22 2))), some (.int (zI 0))] [] (rd z1.2) rfl ?_
  obtain ⟨z2, h1, h⟩ := zB_inv h
  refine sP_readNumber_1 o n z1.2 l1 l2 (zF z1.2 22 2) 0 h1 ?_
  show eG _ 38 78 [some (.ref 22), some (.int (zI l1)), some (.int (zI l2)), some (.int (zI (zF z1.2 22 2))), some (.int (zI z2.1))] [] (rd z2.2) _
  refine g_run 1 79 [some (.ref 22), some (.int (zI l1)), some (.int (zI l2)), some (.int (zI (zF z1.2 22 2))), some (.int (zI z2.1))] [.ref 22] (rd z2.2) rfl ?_
  refine g_getf rfl rfl (rd_o22 _) rfl ?_
  show eG _ 38 82 [some (.ref 22), some (.int (zI l1)), some (.int (zI l2)), some (.int (zI (zF z1.2 22 2))), some (.int (zI z2.1))] [.int (zI (zF z2.2 22 2))] (rd z2.2) _
  refine g_run 1 83 [some (.ref 22), some (.int (zI l1)), some (.int (zI l2)), some (.int (zI (zF z1.2 22 2))), some (.int (zI z2.1))] [.int (zI (zF z1.2 22 2)), .int (zI (zF z2.2 22 2))] (rd z2.2) rfl ?_
  refine s_icmp_eq rfl h (fun h => ?_) (fun h => ?_)
  · show eG _ 38 98 [some (.ref 22), some (.int (zI l1)), some (.int (zI l2)), some (.int (zI (zF z1.2 22 2))), some (.int (zI z2.1))] [] (rd z2.2) _
    refine g_run 2 100 [some (.ref 22), some (.int (zI l1)), some (.int (zI l2)), some (.int (zI (zF z1.2 22 2))), some (.int (zI z2.1))] [.int (zI (zF z1.2 22 2)), .ref 22] (rd z2.2) rfl ?_
    refine s_putf rfl rfl (rd_o22 _) rfl rfl rfl rfl rfl (rw_o22_2 _ _) ?_
    show eG _ 38 103 [some (.ref 22), some (.int (zI l1)), some (.int (zI l2)), some (.int (zI (zF z1.2 22 2))), some (.int (zI z2.1))] [] (rd (wF z2.2 22 2 (zF z1.2 22 2))) _
    refine g_run 1 104 [some (.ref 22), some (.int (zI l1)), some (.int (zI l2)), some (.int (zI (zF z1.2 22 2))), some (.int (zI z2.1))] [.int (zI (-1))] (rd (wF z2.2 22 2 (zF z1.2 22 2))) rfl ?_
    cases h
    exact s_ret rfl rfl rfl
  · show eG _ 38 86 [some (.ref 22), some (.int (zI l1)), some (.int (zI l2)), some (.int (zI (zF z1.2 22 2))), some (.int (zI z2.1))] [] (rd z2.2) _
    refine g_run 2 89 [some (.ref 22), some (.int (zI l1)), some (.int (zI l2)), some (.int (zI (zF z1.2 22 2))), some (.int (zI z2.1))] [.int (zI l1), .int (zI z2.1)] (rd z2.2) rfl ?_
    refine s_icmp_lt rfl h (fun h => ?_) (fun h => ?_)
    · show eG _ 38 98 [some (.ref 22), some (.int (zI l1)), some (.int (zI l2)), some (.int (zI (zF z1.2 22 2))), some (.int (zI z2.1))] [] (rd z2.2) _
      refine g_run 2 100 [some (.ref 22), some (.int (zI l1)), some (.int (zI l2)), some (.int (zI (zF z1.2 22 2))), some (.int (zI z2.1))] [.int (zI (zF z1.2 22 2)), .ref 22] (rd z2.2) rfl ?_
      refine s_putf rfl rfl (rd_o22 _) rfl rfl rfl rfl rfl (rw_o22_2 _ _) ?_
      show eG _ 38 103 [some (.ref 22), some (.int (zI l1)), some (.int (zI l2)), some (.int (zI (zF z1.2 22 2))), some (.int (zI z2.1))] [] (rd (wF z2.2 22 2 (zF z1.2 22 2))) _
      refine g_run 1 104 [some (.ref 22), some (.int (zI l1)), some (.int (zI l2)), some (.int (zI (zF z1.2 22 2))), some (.int (zI z2.1))] [.int (zI (-1))] (rd (wF z2.2 22 2 (zF z1.2 22 2))) rfl ?_
      cases h
      exact s_ret rfl rfl rfl
    · show eG _ 38 92 [some (.ref 22), some (.int (zI l1)), some (.int (zI l2)), some (.int (zI (zF z1.2 22 2))), some (.int (zI z2.1))] [] (rd z2.2) _
      refine g_run 2 95 [some (.ref 22), some (.int (zI l1)), some (.int (zI l2)), some (.int (zI (zF z1.2 22 2))), some (.int (zI z2.1))] [.int (zI l2), .int (zI z2.1)] (rd z2.2) rfl ?_
      refine s_icmp_le rfl h (fun h => ?_) (fun h => ?_)
      · show eG _ 38 105 [some (.ref 22), some (.int (zI l1)), some (.int (zI l2)), some (.int (zI (zF z1.2 22 2))), some (.int (zI z2.1))] [] (rd z2.2) _
        refine g_run 1 107 [some (.ref 22), some (.int (zI l1)), some (.int (zI l2)), some (.int (zI (zF z1.2 22 2))), some (.int (zI z2.1))] [.int (zI z2.1)] (rd z2.2) rfl ?_
        cases h
        exact s_ret rfl rfl rfl
      · show eG _ 38 98 [some (.ref 22), some (.int (zI l1)), some (.int (zI l2)), some (.int (zI (zF z1.2 22 2))), some (.int (zI z2.1))] [] (rd z2.2) _
        refine g_run 2 100 [some (.ref 22), some (.int (zI l1)), some (.int (zI l2)), some (.int (zI (zF z1.2 22 2))), some (.int (zI z2.1))] [.int (zI (zF z1.2 22 2)), .ref 22] (rd z2.2) rfl ?_
        refine s_putf rfl rfl (rd_o22 _) rfl rfl rfl rfl rfl (rw_o22_2 _ _) ?_
        show eG _ 38 103 [some (.ref 22), some (.int (zI l1)), some (.int (zI l2)), some (.int (zI (zF z1.2 22 2))), some (.int (zI z2.1))] [] (rd (wF z2.2 22 2 (zF z1.2 22 2))) _
        refine g_run 1 104 [some (.ref 22), some (.int (zI l1)), some (.int (zI l2)), some (.int (zI (zF z1.2 22 2))), some (.int (zI z2.1))] [.int (zI (-1))] (rd (wF z2.2 22 2 (zF z1.2 22 2))) rfl ?_
        cases h
        exact s_ret rfl rfl rfl
def fP_take (n : Nat) (S : ZS) (l1 : Int) : Option (Int × ZS) := (fP_next n S).bind fun z1 => gC z1.1 l1 (if z1.1 = l1 then gB 1 (some (1, wF z1.2 22 2 ((zF z1.2 22 2) + 1))) else gB 0 (some (0, z1.2)))
set_option maxRecDepth 100000 in
set_option maxHeartbeats 4000000 in
theorem sP_take (o : eO) (n : Nat) (S : ZS) (l1 : Int) {w : Int × ZS} (h : fP_take n S l1 = some w) : eG o 40 0 (eEnt 40 [.ref 22, .int (zI l1)]) [] (rd S) (rv (some (.int (zI w.1))) (rd w.2)) := by
  unfold fP_take at h
  show eG o 40 0 [some (.ref 22), some (.int (zI l1))] [] (rd S) _
  refine g_run 1 1 [some (.ref 22), some (.int (zI l1))] [.ref 22] (rd S) rfl ?_
  refine s_vir (fun z => some (.int (zI z.1))) (fun z => rd z.2) rfl rfl rfl (rd_o22 _) rfl rfl (fun z hz => sP_next o n S hz) rfl h (fun z1 h => ?_)
  show eG _ 40 4 [some (.ref 22), some (.int (zI l1))] [.int (zI z1.1)] (rd z1.2) _
  refine g_run 1 5 [some (.ref 22), some (.int (zI l1))] [.int (zI l1), .int (zI z1.1)] (rd z1.2) rfl ?_
  refine s_icmp_eq rfl h (fun h => ?_) (fun h => ?_)
  · show eG _ 40 10 [some (.ref 22), some (.int (zI l1))] [] (rd z1.2) _
    refine g_run 2 12 [some (.ref 22), some (.int (zI l1))] [.ref 22, .ref 22] (rd z1.2) rfl ?_
    refine g_getf rfl rfl (rd_o22 _) rfl ?_
    show eG _ 40 15 [some (.ref 22), some (.int (zI l1))] [.int (zI (zF z1.2 22 2)), .ref 22] (rd z1.2) _
    refine g_run 1 16 [some (.ref 22), some (.int (zI l1))] [.int (zI 1), .int (zI (zF z1.2 22 2)), .ref 22] (rd z1.2) rfl ?_
    refine s_iadd rfl ?_
    refine s_putf rfl rfl (rd_o22 _) rfl rfl rfl rfl rfl (rw_o22_2 _ _) ?_
    show eG _ 40 20 [some (.ref 22), some (.int (zI l1))] [] (rd (wF z1.2 22 2 ((zF z1.2 22 2) + 1))) _
    refine g_run 1 21 [some (.ref 22), some (.int (zI l1))] [.int (zI 1)] (rd (wF z1.2 22 2 ((zF z1.2 22 2) + 1))) rfl ?_
    exact s_retB rfl rfl h (fun h => by cases h; exact rfl)
  · show eG _ 40 8 [some (.ref 22), some (.int (zI l1))] [] (rd z1.2) _
    refine g_run 1 9 [some (.ref 22), some (.int (zI l1))] [.int (zI 0)] (rd z1.2) rfl ?_
    exact s_retB rfl rfl h (fun h => by cases h; exact rfl)
def fP_readDigit (n : Nat) (S : ZS) (l1 : Int) : Option (Int × ZS) := (fP_next n S).bind fun z1 => (fP_isDigit n z1.2 z1.1).bind fun z2 => gC z2 0 (if z2 = 0 then some (-1, z1.2) else gC (z1.1 - 48) l1 (if (z1.1 - 48) < l1 then some (z1.1 - 48, wF z1.2 22 2 ((zF z1.2 22 2) + 1)) else some (-1, z1.2)))
set_option maxRecDepth 100000 in
set_option maxHeartbeats 4000000 in
theorem sP_readDigit (o : eO) (n : Nat) (S : ZS) (l1 : Int) {w : Int × ZS} (h : fP_readDigit n S l1 = some w) : eG o 41 0 (eEnt 41 [.ref 22, .int (zI l1)]) [] (rd S) (rv (some (.int (zI w.1))) (rd w.2)) := by
  unfold fP_readDigit at h
  show eG o 41 0 [some (.ref 22), some (.int (zI l1)), none] [] (rd S) _
  refine g_run 1 1 [some (.ref 22), some (.int (zI l1)), none] [.ref 22] (rd S) rfl ?_
  refine s_vir (fun z => some (.int (zI z.1))) (fun z => rd z.2) rfl rfl rfl (rd_o22 _) rfl rfl (fun z hz => sP_next o n S hz) rfl h (fun z1 h => ?_)
  show eG _ 41 4 [some (.ref 22), some (.int (zI l1)), none] [.int (zI z1.1)] (rd z1.2) _
  refine g_run 2 6 [some (.ref 22), some (.int (zI l1)), some (.int (zI z1.1))] [.int (zI z1.1)] (rd z1.2) rfl ?_
  refine s_sta (fun z => some (.int (zI z))) (fun _ => rd z1.2) rfl rfl rfl rfl rfl rfl rfl (fun z hz => sP_isDigit o n z1.2 z1.1 hz) rfl h (fun z2 h => ?_)
  show eG _ 41 9 [some (.ref 22), some (.int (zI l1)), some (.int (zI z1.1))] [.int (zI z2)] (rd z1.2) _
  refine s_if_eq rfl h (fun h => ?_) (fun h => ?_)
  · show eG _ 41 20 [some (.ref 22), some (.int (zI l1)), some (.int (zI z1.1))] [] (rd z1.2) _
    refine g_run 1 21 [some (.ref 22), some (.int (zI l1)), some (.int (zI z1.1))] [.int (zI (-1))] (rd z1.2) rfl ?_
    cases h
    exact s_ret rfl rfl rfl
  · show eG _ 41 12 [some (.ref 22), some (.int (zI l1)), some (.int (zI z1.1))] [] (rd z1.2) _
    refine g_run 2 15 [some (.ref 22), some (.int (zI l1)), some (.int (zI z1.1))] [.int (zI 48), .int (zI z1.1)] (rd z1.2) rfl ?_
    refine s_isub rfl ?_
    refine g_run 1 17 [some (.ref 22), some (.int (zI l1)), some (.int (zI z1.1))] [.int (zI l1), .int (zI (z1.1 - 48))] (rd z1.2) rfl ?_
    refine s_icmp_lt rfl h (fun h => ?_) (fun h => ?_)
    · show eG _ 41 22 [some (.ref 22), some (.int (zI l1)), some (.int (zI z1.1))] [] (rd z1.2) _
      refine g_run 2 24 [some (.ref 22), some (.int (zI l1)), some (.int (zI z1.1))] [.ref 22, .ref 22] (rd z1.2) rfl ?_
      refine g_getf rfl rfl (rd_o22 _) rfl ?_
      show eG _ 41 27 [some (.ref 22), some (.int (zI l1)), some (.int (zI z1.1))] [.int (zI (zF z1.2 22 2)), .ref 22] (rd z1.2) _
      refine g_run 1 28 [some (.ref 22), some (.int (zI l1)), some (.int (zI z1.1))] [.int (zI 1), .int (zI (zF z1.2 22 2)), .ref 22] (rd z1.2) rfl ?_
      refine s_iadd rfl ?_
      refine s_putf rfl rfl (rd_o22 _) rfl rfl rfl rfl rfl (rw_o22_2 _ _) ?_
      show eG _ 41 32 [some (.ref 22), some (.int (zI l1)), some (.int (zI z1.1))] [] (rd (wF z1.2 22 2 ((zF z1.2 22 2) + 1))) _
      refine g_run 2 35 [some (.ref 22), some (.int (zI l1)), some (.int (zI z1.1))] [.int (zI 48), .int (zI z1.1)] (rd (wF z1.2 22 2 ((zF z1.2 22 2) + 1))) rfl ?_
      refine s_isub rfl ?_
      cases h
      exact s_ret rfl rfl rfl
    · show eG _ 41 20 [some (.ref 22), some (.int (zI l1)), some (.int (zI z1.1))] [] (rd z1.2) _
      refine g_run 1 21 [some (.ref 22), some (.int (zI l1)), some (.int (zI z1.1))] [.int (zI (-1))] (rd z1.2) rfl ?_
      cases h
      exact s_ret rfl rfl rfl
def fP_readParts_1 : Nat → ZS → Int → Int → Int → Option ((Int × ZS) ⊕ (Int × ZS))
  | 0, _, _, _, _ => none
  | n + 1, S, l1, l2, l3 => gC l3 160 (if l3 < 160 then gC l2 0 (if l2 = 0 then (fP_readDigit n S l1).bind fun z1 => gC z1.1 0 (if z1.1 < 0 then some (.inl (-1, z1.2)) else gC (zand (zshr l2 z1.1) 1) 1 (if (zand (zshr l2 z1.1) 1) = 1 then some (.inl (-1, wF z1.2 22 2 ((zF z1.2 22 2) - 1))) else fP_readParts_1 n z1.2 l1 (zor l2 (zshl 1 z1.1)) (l3 + 1))) else (fP_next n S).bind fun z2 => (fP_isDigit n z2.2 z2.1).bind fun z3 => gC z3 0 (if z3 = 0 then some (.inr (l2, z2.2)) else (fP_readDigit n z2.2 l1).bind fun z4 => gC z4.1 0 (if z4.1 < 0 then some (.inl (-1, z4.2)) else gC (zand (zshr l2 z4.1) 1) 1 (if (zand (zshr l2 z4.1) 1) = 1 then some (.inl (-1, wF z4.2 22 2 ((zF z4.2 22 2) - 1))) else fP_readParts_1 n z4.2 l1 (zor l2 (zshl 1 z4.1)) (l3 + 1))))) else some (.inr (l2, S)))
set_option maxRecDepth 100000 in
set_option maxHeartbeats 4000000 in
theorem sP_readParts_1 (o : eO) : ∀ (n : Nat) (S : ZS) (l1 l2 l3 : Int) {w : (Int × ZS) ⊕ (Int × ZS)} {r : eP} (h : fP_readParts_1 n S l1 l2 l3 = some w) (hr : ∀ v, w = .inl v → r (some (.int (zI v.1)), rd v.2)) (hk : ∀ x, w = .inr x → eG o 42 74 [none, none, some (.int (zI x.1)), none, none] [] (rd x.2) r), eG o 42 4 [some (.ref 22), some (.int (zI l1)), some (.int (zI l2)), some (.int (zI l3)), none] [] (rd S) r := by
  intro n
  induction n with
  | zero => intro S l1 l2 l3 w r h hr hk; unfold fP_readParts_1 at h; cases h
  | succ n ih =>
    intro S l1 l2 l3 w r h hr hk
    unfold fP_readParts_1 at h
    refine g_run 2 8 [some (.ref 22), some (.int (zI l1)), some (.int (zI l2)), some (.int (zI l3)), none] [.int (zI 160), .int (zI l3)] (rd S) rfl ?_
    refine s_icmp_ge rfl h (fun h => ?_) (fun h => ?_)
    · show eG _ 42 74 [some (.ref 22), some (.int (zI l1)), some (.int (zI l2)), some (.int (zI l3)), none] [] (rd S) _
      refine g_fgt [true, true, false, true, true] ?_
      show eG _ 42 74 [none, none, some (.int (zI l2)), none, none] [] (rd S) _
      cases h
      exact hk _ rfl
    · show eG _ 42 11 [some (.ref 22), some (.int (zI l1)), some (.int (zI l2)), some (.int (zI l3)), none] [] (rd S) _
      refine g_run 1 12 [some (.ref 22), some (.int (zI l1)), some (.int (zI l2)), some (.int (zI l3)), none] [.int (zI l2)] (rd S) rfl ?_
      refine s_if_eq rfl h (fun h => ?_) (fun h => ?_)
      · show eG _ 42 25 [some (.ref 22), some (.int (zI l1)), some (.int (zI l2)), some (.int (zI l3)), none] [] (rd S) _
        refine g_run 2 27 [some (.ref 22), some (.int (zI l1)), some (.int (zI l2)), some (.int (zI l3)), none] [.int (zI l1), .ref 22] (rd S) rfl ?_
        refine s_vir (fun z => some (.int (zI z.1))) (fun z => rd z.2) rfl rfl rfl (rd_o22 _) rfl rfl (fun z hz => sP_readDigit o n S l1 hz) rfl h (fun z1 h => ?_)
        show eG _ 42 30 [some (.ref 22), some (.int (zI l1)), some (.int (zI l2)), some (.int (zI l3)), none] [.int (zI z1.1)] (rd z1.2) _
        refine g_run 2 34 [some (.ref 22), some (.int (zI l1)), some (.int (zI l2)), some (.int (zI l3)), some (.int (zI z1.1))] [.int (zI z1.1)] (rd z1.2) rfl ?_
        refine s_if_ge rfl h (fun h => ?_) (fun h => ?_)
        · show eG _ 42 39 [some (.ref 22), some (.int (zI l1)), some (.int (zI l2)), some (.int (zI l3)), some (.int (zI z1.1))] [] (rd z1.2) _
          refine g_run 2 42 [some (.ref 22), some (.int (zI l1)), some (.int (zI l2)), some (.int (zI l3)), some (.int (zI z1.1))] [.int (zI z1.1), .int (zI l2)] (rd z1.2) rfl ?_
          refine s_ishr rfl ?_
          refine g_run 1 44 [some (.ref 22), some (.int (zI l1)), some (.int (zI l2)), some (.int (zI l3)), some (.int (zI z1.1))] [.int (zI 1), .int (zI (zshr l2 z1.1))] (rd z1.2) rfl ?_
          refine s_iand rfl ?_
          refine g_run 1 46 [some (.ref 22), some (.int (zI l1)), some (.int (zI l2)), some (.int (zI l3)), some (.int (zI z1.1))] [.int (zI 1), .int (zI (zand (zshr l2 z1.1) 1))] (rd z1.2) rfl ?_
          refine s_icmp_ne rfl h (fun h => ?_) (fun h => ?_)
          · show eG _ 42 61 [some (.ref 22), some (.int (zI l1)), some (.int (zI l2)), some (.int (zI l3)), some (.int (zI z1.1))] [] (rd z1.2) _
            refine g_run 3 65 [some (.ref 22), some (.int (zI l1)), some (.int (zI l2)), some (.int (zI l3)), some (.int (zI z1.1))] [.int (zI z1.1), .int (zI 1), .int (zI l2)] (rd z1.2) rfl ?_
            refine s_ishl rfl ?_
            refine s_ior rfl ?_
            refine g_run 1 68 [some (.ref 22), some (.int (zI l1)), some (.int (zI (zor l2 (zshl 1 z1.1)))), some (.int (zI l3)), some (.int (zI z1.1))] [] (rd z1.2) rfl ?_
            refine s_iinc (L' := [some (.ref 22), some (.int (zI l1)), some (.int (zI (zor l2 (zshl 1 z1.1)))), some (.int (zI (l3 + 1))), some (.int (zI z1.1))]) rfl rfl rfl ?_
            refine g_run 1 4 [some (.ref 22), some (.int (zI l1)), some (.int (zI (zor l2 (zshl 1 z1.1)))), some (.int (zI (l3 + 1))), some (.int (zI z1.1))] [] (rd z1.2) rfl ?_
            refine g_fgt [false, false, false, false, true] ?_
            show eG _ 42 4 [some (.ref 22), some (.int (zI l1)), some (.int (zI (zor l2 (zshl 1 z1.1)))), some (.int (zI (l3 + 1))), none] [] (rd z1.2) _
            exact ih z1.2 l1 (zor l2 (zshl 1 z1.1)) (l3 + 1) h hr hk
          · show eG _ 42 49 [some (.ref 22), some (.int (zI l1)), some (.int (zI l2)), some (.int (zI l3)), some (.int (zI z1.1))] [] (rd z1.2) _
            refine g_run 2 51 [some (.ref 22), some (.int (zI l1)), some (.int (zI l2)), some (.int (zI l3)), some (.int (zI z1.1))] [.ref 22, .ref 22] (rd z1.2) rfl ?_
            refine g_getf rfl rfl (rd_o22 _) rfl ?_
            show eG _ 42 54 [some (.ref 22), some (.int (zI l1)), some (.int (zI l2)), some (.int (zI l3)), some (.int (zI z1.1))] [.int (zI (zF z1.2 22 2)), .ref 22] (rd z1.2) _
            refine g_run 1 55 [some (.ref 22), some (.int (zI l1)), some (.int (zI l2)), some (.int (zI l3)), some (.int (zI z1.1))] [.int (zI 1), .int (zI (zF z1.2 22 2)), .ref 22] (rd z1.2) rfl ?_
            refine s_isub rfl ?_
            refine s_putf rfl rfl (rd_o22 _) rfl rfl rfl rfl rfl (rw_o22_2 _ _) ?_
            show eG _ 42 59 [some (.ref 22), some (.int (zI l1)), some (.int (zI l2)), some (.int (zI l3)), some (.int (zI z1.1))] [] (rd (wF z1.2 22 2 ((zF z1.2 22 2) - 1))) _
            refine g_run 1 60 [some (.ref 22), some (.int (zI l1)), some (.int (zI l2)), some (.int (zI l3)), some (.int (zI z1.1))] [.int (zI (-1))] (rd (wF z1.2 22 2 ((zF z1.2 22 2) - 1))) rfl ?_
            cases h
            exact s_ret rfl rfl (hr _ rfl)
        · show eG _ 42 37 [some (.ref 22), some (.int (zI l1)), some (.int (zI l2)), some (.int (zI l3)), some (.int (zI z1.1))] [] (rd z1.2) _
          refine g_run 1 38 [some (.ref 22), some (.int (zI l1)), some (.int (zI l2)), some (.int (zI l3)), some (.int (zI z1.1))] [.int (zI (-1))] (rd z1.2) rfl ?_
          cases h
          exact s_ret rfl rfl (hr _ rfl)
      · show eG _ 42 15 [some (.ref 22), some (.int (zI l1)), some (.int (zI l2)), some (.int (zI l3)), none] [] (rd S) _
        refine g_run 1 16 [some (.ref 22), some (.int (zI l1)), some (.int (zI l2)), some (.int (zI l3)), none] [.ref 22] (rd S) rfl ?_
        refine s_vir (fun z => some (.int (zI z.1))) (fun z => rd z.2) rfl rfl rfl (rd_o22 _) rfl rfl (fun z hz => sP_next o n S hz) rfl h (fun z2 h => ?_)
        show eG _ 42 19 [some (.ref 22), some (.int (zI l1)), some (.int (zI l2)), some (.int (zI l3)), none] [.int (zI z2.1)] (rd z2.2) _
        refine s_sta (fun z => some (.int (zI z))) (fun _ => rd z2.2) rfl rfl rfl rfl rfl rfl rfl (fun z hz => sP_isDigit o n z2.2 z2.1 hz) rfl h (fun z3 h => ?_)
        show eG _ 42 22 [some (.ref 22), some (.int (zI l1)), some (.int (zI l2)), some (.int (zI l3)), none] [.int (zI z3)] (rd z2.2) _
        refine s_if_eq rfl h (fun h => ?_) (fun h => ?_)
        · show eG _ 42 74 [some (.ref 22), some (.int (zI l1)), some (.int (zI l2)), some (.int (zI l3)), none] [] (rd z2.2) _
          refine g_fgt [true, true, false, true, true] ?_
          show eG _ 42 74 [none, none, some (.int (zI l2)), none, none] [] (rd z2.2) _
          cases h
          exact hk _ rfl
        · show eG _ 42 25 [some (.ref 22), some (.int (zI l1)), some (.int (zI l2)), some (.int (zI l3)), none] [] (rd z2.2) _
          refine g_run 2 27 [some (.ref 22), some (.int (zI l1)), some (.int (zI l2)), some (.int (zI l3)), none] [.int (zI l1), .ref 22] (rd z2.2) rfl ?_
          refine s_vir (fun z => some (.int (zI z.1))) (fun z => rd z.2) rfl rfl rfl (rd_o22 _) rfl rfl (fun z hz => sP_readDigit o n z2.2 l1 hz) rfl h (fun z4 h => ?_)
          show eG _ 42 30 [some (.ref 22), some (.int (zI l1)), some (.int (zI l2)), some (.int (zI l3)), none] [.int (zI z4.1)] (rd z4.2) _
          refine g_run 2 34 [some (.ref 22), some (.int (zI l1)), some (.int (zI l2)), some (.int (zI l3)), some (.int (zI z4.1))] [.int (zI z4.1)] (rd z4.2) rfl ?_
          refine s_if_ge rfl h (fun h => ?_) (fun h => ?_)
          · show eG _ 42 39 [some (.ref 22), some (.int (zI l1)), some (.int (zI l2)), some (.int (zI l3)), some (.int (zI z4.1))] [] (rd z4.2) _
            refine g_run 2 42 [some (.ref 22), some (.int (zI l1)), some (.int (zI l2)), some (.int (zI l3)), some (.int (zI z4.1))] [.int (zI z4.1), .int (zI l2)] (rd z4.2) rfl ?_
            refine s_ishr rfl ?_
            refine g_run 1 44 [some (.ref 22), some (.int (zI l1)), some (.int (zI l2)), some (.int (zI l3)), some (.int (zI z4.1))] [.int (zI 1), .int (zI (zshr l2 z4.1))] (rd z4.2) rfl ?_
            refine s_iand rfl ?_
            refine g_run 1 46 [some (.ref 22), some (.int (zI l1)), some (.int (zI l2)), some (.int (zI l3)), some (.int (zI z4.1))] [.int (zI 1), .int (zI (zand (zshr l2 z4.1) 1))] (rd z4.2) rfl ?_
            refine s_icmp_ne rfl h (fun h => ?_) (fun h => ?_)
            · show eG _ 42 61 [some (.ref 22), some (.int (zI l1)), some (.int (zI l2)), some (.int (zI l3)), some (.int (zI z4.1))] [] (rd z4.2) _
              refine g_run 3 65 [some (.ref 22), some (.int (zI l1)), some (.int (zI l2)), some (.int (zI l3)), some (.int (zI z4.1))] [.int (zI z4.1), .int (zI 1), .int (zI l2)] (rd z4.2) rfl ?_
              refine s_ishl rfl ?_
              refine s_ior rfl ?_
              refine g_run 1 68 [some (.ref 22), some (.int (zI l1)), some (.int (zI (zor l2 (zshl 1 z4.1)))), some (.int (zI l3)), some (.int (zI z4.1))] [] (rd z4.2) rfl ?_
              refine s_iinc (L' := [some (.ref 22), some (.int (zI l1)), some (.int (zI (zor l2 (zshl 1 z4.1)))), some (.int (zI (l3 + 1))), some (.int (zI z4.1))]) rfl rfl rfl ?_
              refine g_run 1 4 [some (.ref 22), some (.int (zI l1)), some (.int (zI (zor l2 (zshl 1 z4.1)))), some (.int (zI (l3 + 1))), some (.int (zI z4.1))] [] (rd z4.2) rfl ?_
              refine g_fgt [false, false, false, false, true] ?_
              show eG _ 42 4 [some (.ref 22), some (.int (zI l1)), some (.int (zI (zor l2 (zshl 1 z4.1)))), some (.int (zI (l3 + 1))), none] [] (rd z4.2) _
              exact ih z4.2 l1 (zor l2 (zshl 1 z4.1)) (l3 + 1) h hr hk
            · show eG _ 42 49 [some (.ref 22), some (.int (zI l1)), some (.int (zI l2)), some (.int (zI l3)), some (.int (zI z4.1))] [] (rd z4.2) _
              refine g_run 2 51 [some (.ref 22), some (.int (zI l1)), some (.int (zI l2)), some (.int (zI l3)), some (.int (zI z4.1))] [.ref 22, .ref 22] (rd z4.2) rfl ?_
              refine g_getf rfl rfl (rd_o22 _) rfl ?_
              show eG _ 42 54 [some (.ref 22), some (.int (zI l1)), some (.int (zI l2)), some (.int (zI l3)), some (.int (zI z4.1))] [.int (zI (zF z4.2 22 2)), .ref 22] (rd z4.2) _
              refine g_run 1 55 [some (.ref 22), some (.int (zI l1)), some (.int (zI l2)), some (.int (zI l3)), some (.int (zI z4.1))] [.int (zI 1), .int (zI (zF z4.2 22 2)), .ref 22] (rd z4.2) rfl ?_
              refine s_isub rfl ?_
              refine s_putf rfl rfl (rd_o22 _) rfl rfl rfl rfl rfl (rw_o22_2 _ _) ?_
              show eG _ 42 59 [some (.ref 22), some (.int (zI l1)), some (.int (zI l2)), some (.int (zI l3)), some (.int (zI z4.1))] [] (rd (wF z4.2 22 2 ((zF z4.2 22 2) - 1))) _
              refine g_run 1 60 [some (.ref 22), some (.int (zI l1)), some (.int (zI l2)), some (.int (zI l3)), some (.int (zI z4.1))] [.int (zI (-1))] (rd (wF z4.2 22 2 ((zF z4.2 22 2) - 1))) rfl ?_
              cases h
              exact s_ret rfl rfl (hr _ rfl)
          · show eG _ 42 37 [some (.ref 22), some (.int (zI l1)), some (.int (zI l2)), some (.int (zI l3)), some (.int (zI z4.1))] [] (rd z4.2) _
            refine g_run 1 38 [some (.ref 22), some (.int (zI l1)), some (.int (zI l2)), some (.int (zI l3)), some (.int (zI z4.1))] [.int (zI (-1))] (rd z4.2) rfl ?_
            cases h
            exact s_ret rfl rfl (hr _ rfl)
def fP_readParts (n : Nat) (S : ZS) (l1 : Int) : Option (Int × ZS) := zR (fP_readParts_1 n S l1 0 0) fun z1 => some (z1.1, z1.2)
set_option maxRecDepth 100000 in
set_option maxHeartbeats 4000000 in
theorem sP_readParts (o : eO) (n : Nat) (S : ZS) (l1 : Int) {w : Int × ZS} (h : fP_readParts n S l1 = some w) : eG o 42 0 (eEnt 42 [.ref 22, .int (zI l1)]) [] (rd S) (rv (some (.int (zI w.1))) (rd w.2)) := by
  unfold fP_readParts at h
  show eG o 42 0 [some (.ref 22), some (.int (zI l1)), none, none, none] [] (rd S) _
  refine g_run 4 4 [some (.ref 22), some (.int (zI l1)), some (.int (zI 0)), some (.int (zI 0)), none] [] (rd S) rfl ?_
  rcases zR_inv h with h1 | ⟨z1, h1, h⟩
  · exact sP_readParts_1 o n S l1 0 0 h1 (fun v e => by cases e; rfl) (fun x e => by cases e)
  refine sP_readParts_1 o n S l1 0 0 h1 (fun v e => by cases e) (fun x e => ?_)
  cases e
  show eG _ 42 74 [none, none, some (.int (zI z1.1)), none, none] [] (rd z1.2) _
  refine g_run 1 75 [none, none, some (.int (zI z1.1)), none, none] [.int (zI z1.1)] (rd z1.2) rfl ?_
  cases h
  exact s_ret rfl rfl rfl
def fT_addPart_15 (n : Nat) (S : ZS) (l1 l2 l3 l4 l5 : Int) : Option (ZS) := gX (zF S 15 6) 8 (gX (zF S 15 6) 8 (gX (zF S 15 6) 8 (gX (zF S 15 6) 8 (gX (zF S 15 6) 8 (some (wF (wA (wA (wA (wA (wA S 16 (zF S 15 6) l1) 17 (zF S 15 6) l2) 18 (zF S 15 6) l3) 19 (zF S 15 6) l4) 20 (zF S 15 6) l5) 15 6 ((zF S 15 6) + 1)))))))
set_option maxRecDepth 100000 in
set_option maxHeartbeats 4000000 in
theorem sT_addPart_15 (o : eO) (n : Nat) (S : ZS) (l1 l2 l3 l4 l5 : Int) {w : ZS} (h : fT_addPart_15 n S l1 l2 l3 l4 l5 = some w) : eG o 15 0 (eEnt 15 [.ref 15, .int (zI l1), .int (zI l2), .int (zI l3), .int (zI l4), .int (zI l5)]) [] (rd S) (rv (none) (rd w)) := by
  unfold fT_addPart_15 at h
  show eG o 15 0 [some (.ref 15), some (.int (zI l1)), some (.int (zI l2)), some (.int (zI l3)), some (.int (zI l4)), some (.int (zI l5))] [] (rd S) _
  refine g_run 1 1 [some (.ref 15), some (.int (zI l1)), some (.int (zI l2)), some (.int (zI l3)), some (.int (zI l4)), some (.int (zI l5))] [.ref 15] (rd S) rfl ?_
  refine g_getf rfl rfl (rd_o15 _) rfl ?_
  show eG _ 15 4 [some (.ref 15), some (.int (zI l1)), some (.int (zI l2)), some (.int (zI l3)), some (.int (zI l4)), some (.int (zI l5))] [.ref 16] (rd S) _
  refine g_run 1 5 [some (.ref 15), some (.int (zI l1)), some (.int (zI l2)), some (.int (zI l3)), some (.int (zI l4)), some (.int (zI l5))] [.ref 15, .ref 16] (rd S) rfl ?_
  refine g_getf rfl rfl (rd_o15 _) rfl ?_
  show eG _ 15 8 [some (.ref 15), some (.int (zI l1)), some (.int (zI l2)), some (.int (zI l3)), some (.int (zI l4)), some (.int (zI l5))] [.int (zI (zF S 15 6)), .ref 16] (rd S) _
  refine g_run 1 9 [some (.ref 15), some (.int (zI l1)), some (.int (zI l2)), some (.int (zI l3)), some (.int (zI l4)), some (.int (zI l5))] [.int (zI l1), .int (zI (zF S 15 6)), .ref 16] (rd S) rfl ?_
  refine s_iast rfl (rd_a16 _) (rw_a16 _ _) h (fun h => ?_)
  show eG _ 15 10 [some (.ref 15), some (.int (zI l1)), some (.int (zI l2)), some (.int (zI l3)), some (.int (zI l4)), some (.int (zI l5))] [] (rd (wA S 16 (zF S 15 6) l1)) _
  refine g_run 1 11 [some (.ref 15), some (.int (zI l1)), some (.int (zI l2)), some (.int (zI l3)), some (.int (zI l4)), some (.int (zI l5))] [.ref 15] (rd (wA S 16 (zF S 15 6) l1)) rfl ?_
  refine g_getf rfl rfl (rd_o15 _) rfl ?_
  show eG _ 15 14 [some (.ref 15), some (.int (zI l1)), some (.int (zI l2)), some (.int (zI l3)), some (.int (zI l4)), some (.int (zI l5))] [.ref 17] (rd (wA S 16 (zF S 15 6) l1)) _
  refine g_run 1 15 [some (.ref 15), some (.int (zI l1)), some (.int (zI l2)), some (.int (zI l3)), some (.int (zI l4)), some (.int (zI l5))] [.ref 15, .ref 17] (rd (wA S 16 (zF S 15 6) l1)) rfl ?_
  refine g_getf rfl rfl (rd_o15 _) rfl ?_
  show eG _ 15 18 [some (.ref 15), some (.int (zI l1)), some (.int (zI l2)), some (.int (zI l3)), some (.int (zI l4)), some (.int (zI l5))] [.int (zI (zF S 15 6)), .ref 17] (rd (wA S 16 (zF S 15 6) l1)) _
  refine g_run 1 19 [some (.ref 15), some (.int (zI l1)), some (.int (zI l2)), some (.int (zI l3)), some (.int (zI l4)), some (.int (zI l5))] [.int (zI l2), .int (zI (zF S 15 6)), .ref 17] (rd (wA S 16 (zF S 15 6) l1)) rfl ?_
  refine s_iast rfl (rd_a17 _) (rw_a17 _ _) h (fun h => ?_)
  show eG _ 15 20 [some (.ref 15), some (.int (zI l1)), some (.int (zI l2)), some (.int (zI l3)), some (.int (zI l4)), some (.int (zI l5))] [] (rd (wA (wA S 16 (zF S 15 6) l1) 17 (zF S 15 6) l2)) _
  refine g_run 1 21 [some (.ref 15), some (.int (zI l1)), some (.int (zI l2)), some (.int (zI l3)), some (.int (zI l4)), some (.int (zI l5))] [.ref 15] (rd (wA (wA S 16 (zF S 15 6) l1) 17 (zF S 15 6) l2)) rfl ?_
  refine g_getf rfl rfl (rd_o15 _) rfl ?_
  show eG _ 15 24 [some (.ref 15), some (.int (zI l1)), some (.int (zI l2)), some (.int (zI l3)), some (.int (zI l4)), some (.int (zI l5))] [.ref 18] (rd (wA (wA S 16 (zF S 15 6) l1) 17 (zF S 15 6) l2)) _
  refine g_run 1 25 [some (.ref 15), some (.int (zI l1)), some (.int (zI l2)), some (.int (zI l3)), some (.int (zI l4)), some (.int (zI l5))] [.ref 15, .ref 18] (rd (wA (wA S 16 (zF S 15 6) l1) 17 (zF S 15 6) l2)) rfl ?_
  refine g_getf rfl rfl (rd_o15 _) rfl ?_
  show eG _ 15 28 [some (.ref 15), some (.int (zI l1)), some (.int (zI l2)), some (.int (zI l3)), some (.int (zI l4)), some (.int (zI l5))] [.int (zI (zF S 15 6)), .ref 18] (rd (wA (wA S 16 (zF S 15 6) l1) 17 (zF S 15 6) l2)) _
  refine g_run 1 29 [some (.ref 15), some (.int (zI l1)), some (.int (zI l2)), some (.int (zI l3)), some (.int (zI l4)), some (.int (zI l5))] [.int (zI l3), .int (zI (zF S 15 6)), .ref 18] (rd (wA (wA S 16 (zF S 15 6) l1) 17 (zF S 15 6) l2)) rfl ?_
  refine s_iast rfl (rd_a18 _) (rw_a18 _ _) h (fun h => ?_)
  show eG _ 15 30 [some (.ref 15), some (.int (zI l1)), some (.int (zI l2)), some (.int (zI l3)), some (.int (zI l4)), some (.int (zI l5))] [] (rd (wA (wA (wA S 16 (zF S 15 6) l1) 17 (zF S 15 6) l2) 18 (zF S 15 6) l3)) _
  refine g_run 1 31 [some (.ref 15), some (.int (zI l1)), some (.int (zI l2)), some (.int (zI l3)), some (.int (zI l4)), some (.int (zI l5))] [.ref 15] (rd (wA (wA (wA S 16 (zF S 15 6) l1) 17 (zF S 15 6) l2) 18 (zF S 15 6) l3)) rfl ?_
  refine g_getf rfl rfl (rd_o15 _) rfl ?_
  show eG _ 15 34 [some (.ref 15), some (.int (zI l1)), some (.int (zI l2)), some (.int (zI l3)), some (.int (zI l4)), some (.int (zI l5))] [.ref 19] (rd (wA (wA (wA S 16 (zF S 15 6) l1) 17 (zF S 15 6) l2) 18 (zF S 15 6) l3)) _
  refine g_run 1 35 [some (.ref 15), some (.int (zI l1)), some (.int (zI l2)), some (.int (zI l3)), some (.int (zI l4)), some (.int (zI l5))] [.ref 15, .ref 19] (rd (wA (wA (wA S 16 (zF S 15 6) l1) 17 (zF S 15 6) l2) 18 (zF S 15 6) l3)) rfl ?_
  refine g_getf rfl rfl (rd_o15 _) rfl ?_
  show eG _ 15 38 [some (.ref 15), some (.int (zI l1)), some (.int (zI l2)), some (.int (zI l3)), some (.int (zI l4)), some (.int (zI l5))] [.int (zI (zF S 15 6)), .ref 19] (rd (wA (wA (wA S 16 (zF S 15 6) l1) 17 (zF S 15 6) l2) 18 (zF S 15 6) l3)) _
  refine g_run 1 40 [some (.ref 15), some (.int (zI l1)), some (.int (zI l2)), some (.int (zI l3)), some (.int (zI l4)), some (.int (zI l5))] [.int (zI l4), .int (zI (zF S 15 6)), .ref 19] (rd (wA (wA (wA S 16 (zF S 15 6) l1) 17 (zF S 15 6) l2) 18 (zF S 15 6) l3)) rfl ?_
  refine s_iast rfl (rd_a19 _) (rw_a19 _ _) h (fun h => ?_)
  show eG _ 15 41 [some (.ref 15), some (.int (zI l1)), some (.int (zI l2)), some (.int (zI l3)), some (.int (zI l4)), some (.int (zI l5))] [] (rd (wA (wA (wA (wA S 16 (zF S 15 6) l1) 17 (zF S 15 6) l2) 18 (zF S 15 6) l3) 19 (zF S 15 6) l4)) _
  refine g_run 1 42 [some (.ref 15), some (.int (zI l1)), some (.int (zI l2)), some (.int (zI l3)), some (.int (zI l4)), some (.int (zI l5))] [.ref 15] (rd (wA (wA (wA (wA S 16 (zF S 15 6) l1) 17 (zF S 15 6) l2) 18 (zF S 15 6) l3) 19 (zF S 15 6) l4)) rfl ?_
  refine g_getf rfl rfl (rd_o15 _) rfl ?_
  show eG _ 15 45 [some (.ref 15), some (.int (zI l1)), some (.int (zI l2)), some (.int (zI l3)), some (.int (zI l4)), some (.int (zI l5))] [.ref 20] (rd (wA (wA (wA (wA S 16 (zF S 15 6) l1) 17 (zF S 15 6) l2) 18 (zF S 15 6) l3) 19 (zF S 15 6) l4)) _
  refine g_run 1 46 [some (.ref 15), some (.int (zI l1)), some (.int (zI l2)), some (.int (zI l3)), some (.int (zI l4)), some (.int (zI l5))] [.ref 15, .ref 20] (rd (wA (wA (wA (wA S 16 (zF S 15 6) l1) 17 (zF S 15 6) l2) 18 (zF S 15 6) l3) 19 (zF S 15 6) l4)) rfl ?_
  refine g_getf rfl rfl (rd_o15 _) rfl ?_
  show eG _ 15 49 [some (.ref 15), some (.int (zI l1)), some (.int (zI l2)), some (.int (zI l3)), some (.int (zI l4)), some (.int (zI l5))] [.int (zI (zF S 15 6)), .ref 20] (rd (wA (wA (wA (wA S 16 (zF S 15 6) l1) 17 (zF S 15 6) l2) 18 (zF S 15 6) l3) 19 (zF S 15 6) l4)) _
  refine g_run 1 51 [some (.ref 15), some (.int (zI l1)), some (.int (zI l2)), some (.int (zI l3)), some (.int (zI l4)), some (.int (zI l5))] [.int (zI l5), .int (zI (zF S 15 6)), .ref 20] (rd (wA (wA (wA (wA S 16 (zF S 15 6) l1) 17 (zF S 15 6) l2) 18 (zF S 15 6) l3) 19 (zF S 15 6) l4)) rfl ?_
  refine s_iast rfl (rd_a20 _) (rw_a20 _ _) h (fun h => ?_)
  show eG _ 15 52 [some (.ref 15), some (.int (zI l1)), some (.int (zI l2)), some (.int (zI l3)), some (.int (zI l4)), some (.int (zI l5))] [] (rd (wA (wA (wA (wA (wA S 16 (zF S 15 6) l1) 17 (zF S 15 6) l2) 18 (zF S 15 6) l3) 19 (zF S 15 6) l4) 20 (zF S 15 6) l5)) _
  refine g_run 2 54 [some (.ref 15), some (.int (zI l1)), some (.int (zI l2)), some (.int (zI l3)), some (.int (zI l4)), some (.int (zI l5))] [.ref 15, .ref 15] (rd (wA (wA (wA (wA (wA S 16 (zF S 15 6) l1) 17 (zF S 15 6) l2) 18 (zF S 15 6) l3) 19 (zF S 15 6) l4) 20 (zF S 15 6) l5)) rfl ?_
  refine g_getf rfl rfl (rd_o15 _) rfl ?_
  show eG _ 15 57 [some (.ref 15), some (.int (zI l1)), some (.int (zI l2)), some (.int (zI l3)), some (.int (zI l4)), some (.int (zI l5))] [.int (zI (zF S 15 6)), .ref 15] (rd (wA (wA (wA (wA (wA S 16 (zF S 15 6) l1) 17 (zF S 15 6) l2) 18 (zF S 15 6) l3) 19 (zF S 15 6) l4) 20 (zF S 15 6) l5)) _
  refine g_run 1 58 [some (.ref 15), some (.int (zI l1)), some (.int (zI l2)), some (.int (zI l3)), some (.int (zI l4)), some (.int (zI l5))] [.int (zI 1), .int (zI (zF S 15 6)), .ref 15] (rd (wA (wA (wA (wA (wA S 16 (zF S 15 6) l1) 17 (zF S 15 6) l2) 18 (zF S 15 6) l3) 19 (zF S 15 6) l4) 20 (zF S 15 6) l5)) rfl ?_
  refine s_iadd rfl ?_
  refine s_putf rfl rfl (rd_o15 _) rfl rfl rfl rfl rfl (rw_o15_6 _ _) ?_
  show eG _ 15 62 [some (.ref 15), some (.int (zI l1)), some (.int (zI l2)), some (.int (zI l3)), some (.int (zI l4)), some (.int (zI l5))] [] (rd (wF (wA (wA (wA (wA (wA S 16 (zF S 15 6) l1) 17 (zF S 15 6) l2) 18 (zF S 15 6) l3) 19 (zF S 15 6) l4) 20 (zF S 15 6) l5) 15 6 ((zF S 15 6) + 1))) _
  cases h
  exact g_retv rfl rfl rfl
def fP_readPart (n : Nat) (S : ZS) : Option (Int × ZS) := (fP_next n S).bind fun z1 => gH z1.1 (gC (kix z1.1) 0 (if (kix z1.1) < 0 then gB 0 (some (0, z1.2)) else (fP_readNumber n (wF z1.2 22 2 ((zF z1.2 22 2) + 1)) 1 99).bind fun z2 => gC z2.1 0 (if z2.1 < 0 then gB 0 (some (0, z2.2)) else (fP_take n z2.2 64).bind fun z3 => (gC z3.1 0 (if z3.1 = 0 then some (0, z3.2) else (fP_readNumber n z3.2 0 99).bind fun z17 => some (z17.1, z17.2))).bind fun z4 => gC z4.1 0 (if z4.1 < 0 then gB 0 (some (0, z4.2)) else (fP_take n z4.2 111).bind fun z5 => (gC z5.1 0 (if z5.1 = 0 then some (0, z5.2) else (fP_readDigit n z5.2 4).bind fun z16 => some (z16.1, z16.2))).bind fun z6 => gC z6.1 0 (if z6.1 < 0 then gB 0 (some (0, z6.2)) else (fP_take n z6.2 47).bind fun z7 => (gC z7.1 0 (if z7.1 = 0 then some (0, z7.2) else (fP_readParts n z7.2 (zF z7.2 15 6)).bind fun z15 => some (z15.1, z15.2))).bind fun z8 => gC z8.1 0 (if z8.1 < 0 then gB 0 (some (0, z8.2)) else (fP_next n z8.2).bind fun z9 => (gC z9.1 42 (if z9.1 = 42 then some 1 else some 0)).bind fun z10 => gC z10 0 (if z10 = 0 then (gC z10 0 (if z10 = 0 then some z9.2 else some (wF (wF z9.2 22 2 ((zF z9.2 22 2) + 1)) 15 8 (zor (zF z9.2 15 8) (zshl 1 (zF z9.2 15 6)))))).bind fun z11 => (fT_addPart_15 n z11 (kix z1.1) z2.1 z4.1 z6.1 z8.1).bind fun z12 => gB 1 (some (1, z12)) else gC (zand z8.1 (zxor (zF z9.2 15 8) (-1))) 0 (if (zand z8.1 (zxor (zF z9.2 15 8) (-1))) = 0 then (gC z10 0 (if z10 = 0 then some z9.2 else some (wF (wF z9.2 22 2 ((zF z9.2 22 2) + 1)) 15 8 (zor (zF z9.2 15 8) (zshl 1 (zF z9.2 15 6)))))).bind fun z13 => (fT_addPart_15 n z13 (kix z1.1) z2.1 z4.1 z6.1 z8.1).bind fun z14 => gB 1 (some (1, z14)) else gB 0 (some (0, z9.2))))))))))
set_option maxRecDepth 100000 in
set_option maxHeartbeats 4000000 in
theorem sP_readPart (o : eO) (n : Nat) (S : ZS) {w : Int × ZS} (h : fP_readPart n S = some w) : eG o 34 0 (eEnt 34 [.ref 22, .ref 15]) [] (rd S) (rv (some (.int (zI w.1))) (rd w.2)) := by
  unfold fP_readPart at h
  show eG o 34 0 [some (.ref 22), some (.ref 15), none, none, none, none, none, none] [] (rd S) _
  refine g_run 2 3 [some (.ref 22), some (.ref 15), none, none, none, none, none, none] [.ref 22, .retAddr 2] (rd S) rfl ?_
  refine s_vir (fun z => some (.int (zI z.1))) (fun z => rd z.2) rfl rfl rfl (rd_o22 _) rfl rfl (fun z hz => sP_next o n S hz) rfl h (fun z1 h => ?_)
  show eG _ 34 6 [some (.ref 22), some (.ref 15), none, none, none, none, none, none] [.int (zI z1.1), .retAddr 2] (rd z1.2) _
  refine s_kix rfl h (fun h => ?_)
  show eG _ 34 9 [some (.ref 22), some (.ref 15), none, none, none, none, none, none] [.int (zI (kix z1.1))] (rd z1.2) _
  refine g_run 2 11 [some (.ref 22), some (.ref 15), some (.int (zI (kix z1.1))), none, none, none, none, none] [.int (zI (kix z1.1))] (rd z1.2) rfl ?_
  refine s_if_ge rfl h (fun h => ?_) (fun h => ?_)
  · show eG _ 34 16 [some (.ref 22), some (.ref 15), some (.int (zI (kix z1.1))), none, none, none, none, none] [] (rd z1.2) _
    refine g_run 2 18 [some (.ref 22), some (.ref 15), some (.int (zI (kix z1.1))), none, none, none, none, none] [.ref 22, .ref 22] (rd z1.2) rfl ?_
    refine g_getf rfl rfl (rd_o22 _) rfl ?_
    show eG _ 34 21 [some (.ref 22), some (.ref 15), some (.int (zI (kix z1.1))), none, none, none, none, none] [.int (zI (zF z1.2 22 2)), .ref 22] (rd z1.2) _
    refine g_run 1 22 [some (.ref 22), some (.ref 15), some (.int (zI (kix z1.1))), none, none, none, none, none] [.int (zI 1), .int (zI (zF z1.2 22 2)), .ref 22] (rd z1.2) rfl ?_
    refine s_iadd rfl ?_
    refine s_putf rfl rfl (rd_o22 _) rfl rfl rfl rfl rfl (rw_o22_2 _ _) ?_
    show eG _ 34 26 [some (.ref 22), some (.ref 15), some (.int (zI (kix z1.1))), none, none, none, none, none] [] (rd (wF z1.2 22 2 ((zF z1.2 22 2) + 1))) _
    refine g_run 3 30 [some (.ref 22), some (.ref 15), some (.int (zI (kix z1.1))), none, none, none, none, none] [.int (zI 99), .int (zI 1), .ref 22] (rd (wF z1.2 22 2 ((zF z1.2 22 2) + 1))) rfl ?_
    refine s_vir (fun z => some (.int (zI z.1))) (fun z => rd z.2) rfl rfl rfl (rd_o22 _) rfl rfl (fun z hz => sP_readNumber o n (wF z1.2 22 2 ((zF z1.2 22 2) + 1)) 1 99 hz) rfl h (fun z2 h => ?_)
    show eG _ 34 33 [some (.ref 22), some (.ref 15), some (.int (zI (kix z1.1))), none, none, none, none, none] [.int (zI z2.1)] (rd z2.2) _
    refine g_run 2 35 [some (.ref 22), some (.ref 15), some (.int (zI (kix z1.1))), some (.int (zI z2.1)), none, none, none, none] [.int (zI z2.1)] (rd z2.2) rfl ?_
    refine s_if_ge rfl h (fun h => ?_) (fun h => ?_)
    · show eG _ 34 40 [some (.ref 22), some (.ref 15), some (.int (zI (kix z1.1))), some (.int (zI z2.1)), none, none, none, none] [] (rd z2.2) _
      refine g_run 2 43 [some (.ref 22), some (.ref 15), some (.int (zI (kix z1.1))), some (.int (zI z2.1)), none, none, none, none] [.int (zI 64), .ref 22] (rd z2.2) rfl ?_
      refine s_vir (fun z => some (.int (zI z.1))) (fun z => rd z.2) rfl rfl rfl (rd_o22 _) rfl rfl (fun z hz => sP_take o n z2.2 64 hz) rfl h (fun z3 h => ?_)
      show eG _ 34 46 [some (.ref 22), some (.ref 15), some (.int (zI (kix z1.1))), some (.int (zI z2.1)), none, none, none, none] [.int (zI z3.1)] (rd z3.2) _
      refine s_join (α := Int × ZS) (fun z => eG o 34 60 [some (.ref 22), some (.ref 15), some (.int (zI (kix z1.1))), some (.int (zI z2.1)), none, none, none, none] [.int (zI z.1)] (rd z.2) (rv (some (.int (zI w.1))) (rd w.2))) h (fun z4 h => ?_) (fun z4 h j => ?_)
      · show eG _ 34 60 [some (.ref 22), some (.ref 15), some (.int (zI (kix z1.1))), some (.int (zI z2.1)), none, none, none, none] [.int (zI z4.1)] (rd z4.2) _
        refine g_run 2 64 [some (.ref 22), some (.ref 15), some (.int (zI (kix z1.1))), some (.int (zI z2.1)), some (.int (zI z4.1)), none, none, none] [.int (zI z4.1)] (rd z4.2) rfl ?_
        refine s_if_ge rfl h (fun h => ?_) (fun h => ?_)
        · show eG _ 34 69 [some (.ref 22), some (.ref 15), some (.int (zI (kix z1.1))), some (.int (zI z2.1)), some (.int (zI z4.1)), none, none, none] [] (rd z4.2) _
          refine g_run 2 72 [some (.ref 22), some (.ref 15), some (.int (zI (kix z1.1))), some (.int (zI z2.1)), some (.int (zI z4.1)), none, none, none] [.int (zI 111), .ref 22] (rd z4.2) rfl ?_
          refine s_vir (fun z => some (.int (zI z.1))) (fun z => rd z.2) rfl rfl rfl (rd_o22 _) rfl rfl (fun z hz => sP_take o n z4.2 111 hz) rfl h (fun z5 h => ?_)
          show eG _ 34 75 [some (.ref 22), some (.ref 15), some (.int (zI (kix z1.1))), some (.int (zI z2.1)), some (.int (zI z4.1)), none, none, none] [.int (zI z5.1)] (rd z5.2) _
          refine s_join (α := Int × ZS) (fun z => eG o 34 87 [some (.ref 22), some (.ref 15), some (.int (zI (kix z1.1))), some (.int (zI z2.1)), some (.int (zI z4.1)), none, none, none] [.int (zI z.1)] (rd z.2) (rv (some (.int (zI w.1))) (rd w.2))) h (fun z6 h => ?_) (fun z6 h j => ?_)
          · show eG _ 34 87 [some (.ref 22), some (.ref 15), some (.int (zI (kix z1.1))), some (.int (zI z2.1)), some (.int (zI z4.1)), none, none, none] [.int (zI z6.1)] (rd z6.2) _
            refine g_run 2 91 [some (.ref 22), some (.ref 15), some (.int (zI (kix z1.1))), some (.int (zI z2.1)), some (.int (zI z4.1)), some (.int (zI z6.1)), none, none] [.int (zI z6.1)] (rd z6.2) rfl ?_
            refine s_if_ge rfl h (fun h => ?_) (fun h => ?_)
            · show eG _ 34 96 [some (.ref 22), some (.ref 15), some (.int (zI (kix z1.1))), some (.int (zI z2.1)), some (.int (zI z4.1)), some (.int (zI z6.1)), none, none] [] (rd z6.2) _
              refine g_run 2 99 [some (.ref 22), some (.ref 15), some (.int (zI (kix z1.1))), some (.int (zI z2.1)), some (.int (zI z4.1)), some (.int (zI z6.1)), none, none] [.int (zI 47), .ref 22] (rd z6.2) rfl ?_
              refine s_vir (fun z => some (.int (zI z.1))) (fun z => rd z.2) rfl rfl rfl (rd_o22 _) rfl rfl (fun z hz => sP_take o n z6.2 47 hz) rfl h (fun z7 h => ?_)
              show eG _ 34 102 [some (.ref 22), some (.ref 15), some (.int (zI (kix z1.1))), some (.int (zI z2.1)), some (.int (zI z4.1)), some (.int (zI z6.1)), none, none] [.int (zI z7.1)] (rd z7.2) _
              refine s_join (α := Int × ZS) (fun z => eG o 34 117 [some (.ref 22), some (.ref 15), some (.int (zI (kix z1.1))), some (.int (zI z2.1)), some (.int (zI z4.1)), some (.int (zI z6.1)), none, none] [.int (zI z.1)] (rd z.2) (rv (some (.int (zI w.1))) (rd w.2))) h (fun z8 h => ?_) (fun z8 h j => ?_)
              · show eG _ 34 117 [some (.ref 22), some (.ref 15), some (.int (zI (kix z1.1))), some (.int (zI z2.1)), some (.int (zI z4.1)), some (.int (zI z6.1)), none, none] [.int (zI z8.1)] (rd z8.2) _
                refine g_run 2 121 [some (.ref 22), some (.ref 15), some (.int (zI (kix z1.1))), some (.int (zI z2.1)), some (.int (zI z4.1)), some (.int (zI z6.1)), some (.int (zI z8.1)), none] [.int (zI z8.1)] (rd z8.2) rfl ?_
                refine s_if_ge rfl h (fun h => ?_) (fun h => ?_)
                · show eG _ 34 126 [some (.ref 22), some (.ref 15), some (.int (zI (kix z1.1))), some (.int (zI z2.1)), some (.int (zI z4.1)), some (.int (zI z6.1)), some (.int (zI z8.1)), none] [] (rd z8.2) _
                  refine g_run 1 127 [some (.ref 22), some (.ref 15), some (.int (zI (kix z1.1))), some (.int (zI z2.1)), some (.int (zI z4.1)), some (.int (zI z6.1)), some (.int (zI z8.1)), none] [.ref 22] (rd z8.2) rfl ?_
                  refine s_vir (fun z => some (.int (zI z.1))) (fun z => rd z.2) rfl rfl rfl (rd_o22 _) rfl rfl (fun z hz => sP_next o n z8.2 hz) rfl h (fun z9 h => ?_)
                  show eG _ 34 130 [some (.ref 22), some (.ref 15), some (.int (zI (kix z1.1))), some (.int (zI z2.1)), some (.int (zI z4.1)), some (.int (zI z6.1)), some (.int (zI z8.1)), none] [.int (zI z9.1)] (rd z9.2) _
                  refine g_run 1 132 [some (.ref 22), some (.ref 15), some (.int (zI (kix z1.1))), some (.int (zI z2.1)), some (.int (zI z4.1)), some (.int (zI z6.1)), some (.int (zI z8.1)), none] [.int (zI 42), .int (zI z9.1)] (rd z9.2) rfl ?_
                  refine s_join (α := Int) (fun z => eG o 34 140 [some (.ref 22), some (.ref 15), some (.int (zI (kix z1.1))), some (.int (zI z2.1)), some (.int (zI z4.1)), some (.int (zI z6.1)), some (.int (zI z8.1)), none] [.int (zI z)] (rd z9.2) (rv (some (.int (zI w.1))) (rd w.2))) h (fun z10 h => ?_) (fun z10 h j => ?_)
                  · show eG _ 34 140 [some (.ref 22), some (.ref 15), some (.int (zI (kix z1.1))), some (.int (zI z2.1)), some (.int (zI z4.1)), some (.int (zI z6.1)), some (.int (zI z8.1)), none] [.int (zI z10)] (rd z9.2) _
                    refine g_run 2 144 [some (.ref 22), some (.ref 15), some (.int (zI (kix z1.1))), some (.int (zI z2.1)), some (.int (zI z4.1)), some (.int (zI z6.1)), some (.int (zI z8.1)), some (.int (zI z10))] [.int (zI z10)] (rd z9.2) rfl ?_
                    refine s_if_eq rfl h (fun h => ?_) (fun h => ?_)
                    · show eG _ 34 161 [some (.ref 22), some (.ref 15), some (.int (zI (kix z1.1))), some (.int (zI z2.1)), some (.int (zI z4.1)), some (.int (zI z6.1)), some (.int (zI z8.1)), some (.int (zI z10))] [] (rd z9.2) _
                      refine g_run 1 163 [some (.ref 22), some (.ref 15), some (.int (zI (kix z1.1))), some (.int (zI z2.1)), some (.int (zI z4.1)), some (.int (zI z6.1)), some (.int (zI z8.1)), some (.int (zI z10))] [.int (zI z10)] (rd z9.2) rfl ?_
                      refine s_join (α := ZS) (fun z => eG o 34 191 [none, some (.ref 15), some (.int (zI (kix z1.1))), some (.int (zI z2.1)), some (.int (zI z4.1)), some (.int (zI z6.1)), some (.int (zI z8.1)), none] [] (rd z) (rv (some (.int (zI w.1))) (rd w.2))) h (fun z11 h => ?_) (fun z11 h j => ?_)
                      · show eG _ 34 191 [none, some (.ref 15), some (.int (zI (kix z1.1))), some (.int (zI z2.1)), some (.int (zI z4.1)), some (.int (zI z6.1)), some (.int (zI z8.1)), none] [] (rd z11) _
                        refine g_run 6 200 [none, some (.ref 15), some (.int (zI (kix z1.1))), some (.int (zI z2.1)), some (.int (zI z4.1)), some (.int (zI z6.1)), some (.int (zI z8.1)), none] [.int (zI z8.1), .int (zI z6.1), .int (zI z4.1), .int (zI z2.1), .int (zI (kix z1.1)), .ref 15] (rd z11) rfl ?_
                        refine s_vir (fun _ => none) (fun z => rd z) rfl rfl rfl (rd_o15 _) rfl rfl (fun z hz => sT_addPart_15 o n z11 (kix z1.1) z2.1 z4.1 z6.1 z8.1 hz) rfl h (fun z12 h => ?_)
                        show eG _ 34 203 [none, some (.ref 15), some (.int (zI (kix z1.1))), some (.int (zI z2.1)), some (.int (zI z4.1)), some (.int (zI z6.1)), some (.int (zI z8.1)), none] [] (rd z12) _
                        refine g_run 1 204 [none, some (.ref 15), some (.int (zI (kix z1.1))), some (.int (zI z2.1)), some (.int (zI z4.1)), some (.int (zI z6.1)), some (.int (zI z8.1)), none] [.int (zI 1)] (rd z12) rfl ?_
                        exact s_retB rfl rfl h (fun h => by cases h; exact rfl)
                      · skip
                        refine s_if_eq rfl h (fun h => ?_) (fun h => ?_)
                        · show eG _ 34 191 [some (.ref 22), some (.ref 15), some (.int (zI (kix z1.1))), some (.int (zI z2.1)), some (.int (zI z4.1)), some (.int (zI z6.1)), some (.int (zI z8.1)), some (.int (zI z10))] [] (rd z9.2) _
                          refine g_fgt [true, false, false, false, false, false, false, true] ?_
                          show eG _ 34 191 [none, some (.ref 15), some (.int (zI (kix z1.1))), some (.int (zI z2.1)), some (.int (zI z4.1)), some (.int (zI z6.1)), some (.int (zI z8.1)), none] [] (rd z9.2) _
                          cases h
                          exact j
                        · show eG _ 34 166 [some (.ref 22), some (.ref 15), some (.int (zI (kix z1.1))), some (.int (zI z2.1)), some (.int (zI z4.1)), some (.int (zI z6.1)), some (.int (zI z8.1)), some (.int (zI z10))] [] (rd z9.2) _
                          refine g_run 2 168 [some (.ref 22), some (.ref 15), some (.int (zI (kix z1.1))), some (.int (zI z2.1)), some (.int (zI z4.1)), some (.int (zI z6.1)), some (.int (zI z8.1)), some (.int (zI z10))] [.ref 22, .ref 22] (rd z9.2) rfl ?_
                          refine g_getf rfl rfl (rd_o22 _) rfl ?_
                          show eG _ 34 171 [some (.ref 22), some (.ref 15), some (.int (zI (kix z1.1))), some (.int (zI z2.1)), some (.int (zI z4.1)), some (.int (zI z6.1)), some (.int (zI z8.1)), some (.int (zI z10))] [.int (zI (zF z9.2 22 2)), .ref 22] (rd z9.2) _
                          refine g_run 1 172 [some (.ref 22), some (.ref 15), some (.int (zI (kix z1.1))), some (.int (zI z2.1)), some (.int (zI z4.1)), some (.int (zI z6.1)), some (.int (zI z8.1)), some (.int (zI z10))] [.int (zI 1), .int (zI (zF z9.2 22 2)), .ref 22] (rd z9.2) rfl ?_
                          refine s_iadd rfl ?_
                          refine s_putf rfl rfl (rd_o22 _) rfl rfl rfl rfl rfl (rw_o22_2 _ _) ?_
                          show eG _ 34 176 [some (.ref 22), some (.ref 15), some (.int (zI (kix z1.1))), some (.int (zI z2.1)), some (.int (zI z4.1)), some (.int (zI z6.1)), some (.int (zI z8.1)), some (.int (zI z10))] [] (rd (wF z9.2 22 2 ((zF z9.2 22 2) + 1))) _
                          refine g_run 2 178 [some (.ref 22), some (.ref 15), some (.int (zI (kix z1.1))), some (.int (zI z2.1)), some (.int (zI z4.1)), some (.int (zI z6.1)), some (.int (zI z8.1)), some (.int (zI z10))] [.ref 15, .ref 15] (rd (wF z9.2 22 2 ((zF z9.2 22 2) + 1))) rfl ?_
                          refine g_getf rfl rfl (rd_o15 _) rfl ?_
                          show eG _ 34 181 [some (.ref 22), some (.ref 15), some (.int (zI (kix z1.1))), some (.int (zI z2.1)), some (.int (zI z4.1)), some (.int (zI z6.1)), some (.int (zI z8.1)), some (.int (zI z10))] [.int (zI (zF z9.2 15 8)), .ref 15] (rd (wF z9.2 22 2 ((zF z9.2 22 2) + 1))) _
                          refine g_run 2 183 [some (.ref 22), some (.ref 15), some (.int (zI (kix z1.1))), some (.int (zI z2.1)), some (.int (zI z4.1)), some (.int (zI z6.1)), some (.int (zI z8.1)), some (.int (zI z10))] [.ref 15, .int (zI 1), .int (zI (zF z9.2 15 8)), .ref 15] (rd (wF z9.2 22 2 ((zF z9.2 22 2) + 1))) rfl ?_
                          refine g_getf rfl rfl (rd_o15 _) rfl ?_
                          show eG _ 34 186 [some (.ref 22), some (.ref 15), some (.int (zI (kix z1.1))), some (.int (zI z2.1)), some (.int (zI z4.1)), some (.int (zI z6.1)), some (.int (zI z8.1)), some (.int (zI z10))] [.int (zI (zF z9.2 15 6)), .int (zI 1), .int (zI (zF z9.2 15 8)), .ref 15] (rd (wF z9.2 22 2 ((zF z9.2 22 2) + 1))) _
                          refine s_ishl rfl ?_
                          refine s_ior rfl ?_
                          refine s_putf rfl rfl (rd_o15 _) rfl rfl rfl rfl rfl (rw_o15_8 _ _) ?_
                          show eG _ 34 191 [some (.ref 22), some (.ref 15), some (.int (zI (kix z1.1))), some (.int (zI z2.1)), some (.int (zI z4.1)), some (.int (zI z6.1)), some (.int (zI z8.1)), some (.int (zI z10))] [] (rd (wF (wF z9.2 22 2 ((zF z9.2 22 2) + 1)) 15 8 (zor (zF z9.2 15 8) (zshl 1 (zF z9.2 15 6))))) _
                          refine g_fgt [true, false, false, false, false, false, false, true] ?_
                          show eG _ 34 191 [none, some (.ref 15), some (.int (zI (kix z1.1))), some (.int (zI z2.1)), some (.int (zI z4.1)), some (.int (zI z6.1)), some (.int (zI z8.1)), none] [] (rd (wF (wF z9.2 22 2 ((zF z9.2 22 2) + 1)) 15 8 (zor (zF z9.2 15 8) (zshl 1 (zF z9.2 15 6))))) _
                          cases h
                          exact j
                    · show eG _ 34 147 [some (.ref 22), some (.ref 15), some (.int (zI (kix z1.1))), some (.int (zI z2.1)), some (.int (zI z4.1)), some (.int (zI z6.1)), some (.int (zI z8.1)), some (.int (zI z10))] [] (rd z9.2) _
                      refine g_run 2 150 [some (.ref 22), some (.ref 15), some (.int (zI (kix z1.1))), some (.int (zI z2.1)), some (.int (zI z4.1)), some (.int (zI z6.1)), some (.int (zI z8.1)), some (.int (zI z10))] [.ref 15, .int (zI z8.1)] (rd z9.2) rfl ?_
                      refine g_getf rfl rfl (rd_o15 _) rfl ?_
                      show eG _ 34 153 [some (.ref 22), some (.ref 15), some (.int (zI (kix z1.1))), some (.int (zI z2.1)), some (.int (zI z4.1)), some (.int (zI z6.1)), some (.int (zI z8.1)), some (.int (zI z10))] [.int (zI (zF z9.2 15 8)), .int (zI z8.1)] (rd z9.2) _
                      refine g_run 1 154 [some (.ref 22), some (.ref 15), some (.int (zI (kix z1.1))), some (.int (zI z2.1)), some (.int (zI z4.1)), some (.int (zI z6.1)), some (.int (zI z8.1)), some (.int (zI z10))] [.int (zI (-1)), .int (zI (zF z9.2 15 8)), .int (zI z8.1)] (rd z9.2) rfl ?_
                      refine s_ixor rfl ?_
                      refine s_iand rfl ?_
                      refine s_if_eq rfl h (fun h => ?_) (fun h => ?_)
                      · show eG _ 34 161 [some (.ref 22), some (.ref 15), some (.int (zI (kix z1.1))), some (.int (zI z2.1)), some (.int (zI z4.1)), some (.int (zI z6.1)), some (.int (zI z8.1)), some (.int (zI z10))] [] (rd z9.2) _
                        refine g_run 1 163 [some (.ref 22), some (.ref 15), some (.int (zI (kix z1.1))), some (.int (zI z2.1)), some (.int (zI z4.1)), some (.int (zI z6.1)), some (.int (zI z8.1)), some (.int (zI z10))] [.int (zI z10)] (rd z9.2) rfl ?_
                        refine s_join (α := ZS) (fun z => eG o 34 191 [none, some (.ref 15), some (.int (zI (kix z1.1))), some (.int (zI z2.1)), some (.int (zI z4.1)), some (.int (zI z6.1)), some (.int (zI z8.1)), none] [] (rd z) (rv (some (.int (zI w.1))) (rd w.2))) h (fun z13 h => ?_) (fun z13 h j => ?_)
                        · show eG _ 34 191 [none, some (.ref 15), some (.int (zI (kix z1.1))), some (.int (zI z2.1)), some (.int (zI z4.1)), some (.int (zI z6.1)), some (.int (zI z8.1)), none] [] (rd z13) _
                          refine g_run 6 200 [none, some (.ref 15), some (.int (zI (kix z1.1))), some (.int (zI z2.1)), some (.int (zI z4.1)), some (.int (zI z6.1)), some (.int (zI z8.1)), none] [.int (zI z8.1), .int (zI z6.1), .int (zI z4.1), .int (zI z2.1), .int (zI (kix z1.1)), .ref 15] (rd z13) rfl ?_
                          refine s_vir (fun _ => none) (fun z => rd z) rfl rfl rfl (rd_o15 _) rfl rfl (fun z hz => sT_addPart_15 o n z13 (kix z1.1) z2.1 z4.1 z6.1 z8.1 hz) rfl h (fun z14 h => ?_)
                          show eG _ 34 203 [none, some (.ref 15), some (.int (zI (kix z1.1))), some (.int (zI z2.1)), some (.int (zI z4.1)), some (.int (zI z6.1)), some (.int (zI z8.1)), none] [] (rd z14) _
                          refine g_run 1 204 [none, some (.ref 15), some (.int (zI (kix z1.1))), some (.int (zI z2.1)), some (.int (zI z4.1)), some (.int (zI z6.1)), some (.int (zI z8.1)), none] [.int (zI 1)] (rd z14) rfl ?_
                          exact s_retB rfl rfl h (fun h => by cases h; exact rfl)
                        · skip
                          refine s_if_eq rfl h (fun h => ?_) (fun h => ?_)
                          · show eG _ 34 191 [some (.ref 22), some (.ref 15), some (.int (zI (kix z1.1))), some (.int (zI z2.1)), some (.int (zI z4.1)), some (.int (zI z6.1)), some (.int (zI z8.1)), some (.int (zI z10))] [] (rd z9.2) _
                            refine g_fgt [true, false, false, false, false, false, false, true] ?_
                            show eG _ 34 191 [none, some (.ref 15), some (.int (zI (kix z1.1))), some (.int (zI z2.1)), some (.int (zI z4.1)), some (.int (zI z6.1)), some (.int (zI z8.1)), none] [] (rd z9.2) _
                            cases h
                            exact j
                          · show eG _ 34 166 [some (.ref 22), some (.ref 15), some (.int (zI (kix z1.1))), some (.int (zI z2.1)), some (.int (zI z4.1)), some (.int (zI z6.1)), some (.int (zI z8.1)), some (.int (zI z10))] [] (rd z9.2) _
                            refine g_run 2 168 [some (.ref 22), some (.ref 15), some (.int (zI (kix z1.1))), some (.int (zI z2.1)), some (.int (zI z4.1)), some (.int (zI z6.1)), some (.int (zI z8.1)), some (.int (zI z10))] [.ref 22, .ref 22] (rd z9.2) rfl ?_
                            refine g_getf rfl rfl (rd_o22 _) rfl ?_
                            show eG _ 34 171 [some (.ref 22), some (.ref 15), some (.int (zI (kix z1.1))), some (.int (zI z2.1)), some (.int (zI z4.1)), some (.int (zI z6.1)), some (.int (zI z8.1)), some (.int (zI z10))] [.int (zI (zF z9.2 22 2)), .ref 22] (rd z9.2) _
                            refine g_run 1 172 [some (.ref 22), some (.ref 15), some (.int (zI (kix z1.1))), some (.int (zI z2.1)), some (.int (zI z4.1)), some (.int (zI z6.1)), some (.int (zI z8.1)), some (.int (zI z10))] [.int (zI 1), .int (zI (zF z9.2 22 2)), .ref 22] (rd z9.2) rfl ?_
                            refine s_iadd rfl ?_
                            refine s_putf rfl rfl (rd_o22 _) rfl rfl rfl rfl rfl (rw_o22_2 _ _) ?_
                            show eG _ 34 176 [some (.ref 22), some (.ref 15), some (.int (zI (kix z1.1))), some (.int (zI z2.1)), some (.int (zI z4.1)), some (.int (zI z6.1)), some (.int (zI z8.1)), some (.int (zI z10))] [] (rd (wF z9.2 22 2 ((zF z9.2 22 2) + 1))) _
                            refine g_run 2 178 [some (.ref 22), some (.ref 15), some (.int (zI (kix z1.1))), some (.int (zI z2.1)), some (.int (zI z4.1)), some (.int (zI z6.1)), some (.int (zI z8.1)), some (.int (zI z10))] [.ref 15, .ref 15] (rd (wF z9.2 22 2 ((zF z9.2 22 2) + 1))) rfl ?_
                            refine g_getf rfl rfl (rd_o15 _) rfl ?_
                            show eG _ 34 181 [some (.ref 22), some (.ref 15), some (.int (zI (kix z1.1))), some (.int (zI z2.1)), some (.int (zI z4.1)), some (.int (zI z6.1)), some (.int (zI z8.1)), some (.int (zI z10))] [.int (zI (zF z9.2 15 8)), .ref 15] (rd (wF z9.2 22 2 ((zF z9.2 22 2) + 1))) _
                            refine g_run 2 183 [some (.ref 22), some (.ref 15), some (.int (zI (kix z1.1))), some (.int (zI z2.1)), some (.int (zI z4.1)), some (.int (zI z6.1)), some (.int (zI z8.1)), some (.int (zI z10))] [.ref 15, .int (zI 1), .int (zI (zF z9.2 15 8)), .ref 15] (rd (wF z9.2 22 2 ((zF z9.2 22 2) + 1))) rfl ?_
                            refine g_getf rfl rfl (rd_o15 _) rfl ?_
                            show eG _ 34 186 [some (.ref 22), some (.ref 15), some (.int (zI (kix z1.1))), some (.int (zI z2.1)), some (.int (zI z4.1)), some (.int (zI z6.1)), some (.int (zI z8.1)), some (.int (zI z10))] [.int (zI (zF z9.2 15 6)), .int (zI 1), .int (zI (zF z9.2 15 8)), .ref 15] (rd (wF z9.2 22 2 ((zF z9.2 22 2) + 1))) _
                            refine s_ishl rfl ?_
                            refine s_ior rfl ?_
                            refine s_putf rfl rfl (rd_o15 _) rfl rfl rfl rfl rfl (rw_o15_8 _ _) ?_
                            show eG _ 34 191 [some (.ref 22), some (.ref 15), some (.int (zI (kix z1.1))), some (.int (zI z2.1)), some (.int (zI z4.1)), some (.int (zI z6.1)), some (.int (zI z8.1)), some (.int (zI z10))] [] (rd (wF (wF z9.2 22 2 ((zF z9.2 22 2) + 1)) 15 8 (zor (zF z9.2 15 8) (zshl 1 (zF z9.2 15 6))))) _
                            refine g_fgt [true, false, false, false, false, false, false, true] ?_
                            show eG _ 34 191 [none, some (.ref 15), some (.int (zI (kix z1.1))), some (.int (zI z2.1)), some (.int (zI z4.1)), some (.int (zI z6.1)), some (.int (zI z8.1)), none] [] (rd (wF (wF z9.2 22 2 ((zF z9.2 22 2) + 1)) 15 8 (zor (zF z9.2 15 8) (zshl 1 (zF z9.2 15 6))))) _
                            cases h
                            exact j
                      · show eG _ 34 159 [some (.ref 22), some (.ref 15), some (.int (zI (kix z1.1))), some (.int (zI z2.1)), some (.int (zI z4.1)), some (.int (zI z6.1)), some (.int (zI z8.1)), some (.int (zI z10))] [] (rd z9.2) _
                        refine g_run 1 160 [some (.ref 22), some (.ref 15), some (.int (zI (kix z1.1))), some (.int (zI z2.1)), some (.int (zI z4.1)), some (.int (zI z6.1)), some (.int (zI z8.1)), some (.int (zI z10))] [.int (zI 0)] (rd z9.2) rfl ?_
                        exact s_retB rfl rfl h (fun h => by cases h; exact rfl)
                  · skip
                    refine s_icmp_ne rfl h (fun h => ?_) (fun h => ?_)
                    · show eG _ 34 139 [some (.ref 22), some (.ref 15), some (.int (zI (kix z1.1))), some (.int (zI z2.1)), some (.int (zI z4.1)), some (.int (zI z6.1)), some (.int (zI z8.1)), none] [] (rd z9.2) _
                      refine g_run 1 140 [some (.ref 22), some (.ref 15), some (.int (zI (kix z1.1))), some (.int (zI z2.1)), some (.int (zI z4.1)), some (.int (zI z6.1)), some (.int (zI z8.1)), none] [.int (zI 0)] (rd z9.2) rfl ?_
                      cases h
                      exact j
                    · show eG _ 34 135 [some (.ref 22), some (.ref 15), some (.int (zI (kix z1.1))), some (.int (zI z2.1)), some (.int (zI z4.1)), some (.int (zI z6.1)), some (.int (zI z8.1)), none] [] (rd z9.2) _
                      refine g_run 2 140 [some (.ref 22), some (.ref 15), some (.int (zI (kix z1.1))), some (.int (zI z2.1)), some (.int (zI z4.1)), some (.int (zI z6.1)), some (.int (zI z8.1)), none] [.int (zI 1)] (rd z9.2) rfl ?_
                      cases h
                      exact j
                · show eG _ 34 124 [some (.ref 22), some (.ref 15), some (.int (zI (kix z1.1))), some (.int (zI z2.1)), some (.int (zI z4.1)), some (.int (zI z6.1)), some (.int (zI z8.1)), none] [] (rd z8.2) _
                  refine g_run 1 125 [some (.ref 22), some (.ref 15), some (.int (zI (kix z1.1))), some (.int (zI z2.1)), some (.int (zI z4.1)), some (.int (zI z6.1)), some (.int (zI z8.1)), none] [.int (zI 0)] (rd z8.2) rfl ?_
                  exact s_retB rfl rfl h (fun h => by cases h; exact rfl)
              · skip
                refine s_if_eq rfl h (fun h => ?_) (fun h => ?_)
                · show eG _ 34 116 [some (.ref 22), some (.ref 15), some (.int (zI (kix z1.1))), some (.int (zI z2.1)), some (.int (zI z4.1)), some (.int (zI z6.1)), none, none] [] (rd z7.2) _
                  refine g_run 1 117 [some (.ref 22), some (.ref 15), some (.int (zI (kix z1.1))), some (.int (zI z2.1)), some (.int (zI z4.1)), some (.int (zI z6.1)), none, none] [.int (zI 0)] (rd z7.2) rfl ?_
                  cases h
                  exact j
                · show eG _ 34 105 [some (.ref 22), some (.ref 15), some (.int (zI (kix z1.1))), some (.int (zI z2.1)), some (.int (zI z4.1)), some (.int (zI z6.1)), none, none] [] (rd z7.2) _
                  refine g_run 2 107 [some (.ref 22), some (.ref 15), some (.int (zI (kix z1.1))), some (.int (zI z2.1)), some (.int (zI z4.1)), some (.int (zI z6.1)), none, none] [.ref 15, .ref 22] (rd z7.2) rfl ?_
                  refine g_getf rfl rfl (rd_o15 _) rfl ?_
                  show eG _ 34 110 [some (.ref 22), some (.ref 15), some (.int (zI (kix z1.1))), some (.int (zI z2.1)), some (.int (zI z4.1)), some (.int (zI z6.1)), none, none] [.int (zI (zF z7.2 15 6)), .ref 22] (rd z7.2) _
                  refine s_vir (fun z => some (.int (zI z.1))) (fun z => rd z.2) rfl rfl rfl (rd_o22 _) rfl rfl (fun z hz => sP_readParts o n z7.2 (zF z7.2 15 6) hz) rfl h (fun z15 h => ?_)
                  show eG _ 34 113 [some (.ref 22), some (.ref 15), some (.int (zI (kix z1.1))), some (.int (zI z2.1)), some (.int (zI z4.1)), some (.int (zI z6.1)), none, none] [.int (zI z15.1)] (rd z15.2) _
                  refine g_run 1 117 [some (.ref 22), some (.ref 15), some (.int (zI (kix z1.1))), some (.int (zI z2.1)), some (.int (zI z4.1)), some (.int (zI z6.1)), none, none] [.int (zI z15.1)] (rd z15.2) rfl ?_
                  cases h
                  exact j
            · show eG _ 34 94 [some (.ref 22), some (.ref 15), some (.int (zI (kix z1.1))), some (.int (zI z2.1)), some (.int (zI z4.1)), some (.int (zI z6.1)), none, none] [] (rd z6.2) _
              refine g_run 1 95 [some (.ref 22), some (.ref 15), some (.int (zI (kix z1.1))), some (.int (zI z2.1)), some (.int (zI z4.1)), some (.int (zI z6.1)), none, none] [.int (zI 0)] (rd z6.2) rfl ?_
              exact s_retB rfl rfl h (fun h => by cases h; exact rfl)
          · skip
            refine s_if_eq rfl h (fun h => ?_) (fun h => ?_)
            · show eG _ 34 86 [some (.ref 22), some (.ref 15), some (.int (zI (kix z1.1))), some (.int (zI z2.1)), some (.int (zI z4.1)), none, none, none] [] (rd z5.2) _
              refine g_run 1 87 [some (.ref 22), some (.ref 15), some (.int (zI (kix z1.1))), some (.int (zI z2.1)), some (.int (zI z4.1)), none, none, none] [.int (zI 0)] (rd z5.2) rfl ?_
              cases h
              exact j
            · show eG _ 34 78 [some (.ref 22), some (.ref 15), some (.int (zI (kix z1.1))), some (.int (zI z2.1)), some (.int (zI z4.1)), none, none, none] [] (rd z5.2) _
              refine g_run 2 80 [some (.ref 22), some (.ref 15), some (.int (zI (kix z1.1))), some (.int (zI z2.1)), some (.int (zI z4.1)), none, none, none] [.int (zI 4), .ref 22] (rd z5.2) rfl ?_
              refine s_vir (fun z => some (.int (zI z.1))) (fun z => rd z.2) rfl rfl rfl (rd_o22 _) rfl rfl (fun z hz => sP_readDigit o n z5.2 4 hz) rfl h (fun z16 h => ?_)
              show eG _ 34 83 [some (.ref 22), some (.ref 15), some (.int (zI (kix z1.1))), some (.int (zI z2.1)), some (.int (zI z4.1)), none, none, none] [.int (zI z16.1)] (rd z16.2) _
              refine g_run 1 87 [some (.ref 22), some (.ref 15), some (.int (zI (kix z1.1))), some (.int (zI z2.1)), some (.int (zI z4.1)), none, none, none] [.int (zI z16.1)] (rd z16.2) rfl ?_
              cases h
              exact j
        · show eG _ 34 67 [some (.ref 22), some (.ref 15), some (.int (zI (kix z1.1))), some (.int (zI z2.1)), some (.int (zI z4.1)), none, none, none] [] (rd z4.2) _
          refine g_run 1 68 [some (.ref 22), some (.ref 15), some (.int (zI (kix z1.1))), some (.int (zI z2.1)), some (.int (zI z4.1)), none, none, none] [.int (zI 0)] (rd z4.2) rfl ?_
          exact s_retB rfl rfl h (fun h => by cases h; exact rfl)
      · skip
        refine s_if_eq rfl h (fun h => ?_) (fun h => ?_)
        · show eG _ 34 59 [some (.ref 22), some (.ref 15), some (.int (zI (kix z1.1))), some (.int (zI z2.1)), none, none, none, none] [] (rd z3.2) _
          refine g_run 1 60 [some (.ref 22), some (.ref 15), some (.int (zI (kix z1.1))), some (.int (zI z2.1)), none, none, none, none] [.int (zI 0)] (rd z3.2) rfl ?_
          cases h
          exact j
        · show eG _ 34 49 [some (.ref 22), some (.ref 15), some (.int (zI (kix z1.1))), some (.int (zI z2.1)), none, none, none, none] [] (rd z3.2) _
          refine g_run 3 53 [some (.ref 22), some (.ref 15), some (.int (zI (kix z1.1))), some (.int (zI z2.1)), none, none, none, none] [.int (zI 99), .int (zI 0), .ref 22] (rd z3.2) rfl ?_
          refine s_vir (fun z => some (.int (zI z.1))) (fun z => rd z.2) rfl rfl rfl (rd_o22 _) rfl rfl (fun z hz => sP_readNumber o n z3.2 0 99 hz) rfl h (fun z17 h => ?_)
          show eG _ 34 56 [some (.ref 22), some (.ref 15), some (.int (zI (kix z1.1))), some (.int (zI z2.1)), none, none, none, none] [.int (zI z17.1)] (rd z17.2) _
          refine g_run 1 60 [some (.ref 22), some (.ref 15), some (.int (zI (kix z1.1))), some (.int (zI z2.1)), none, none, none, none] [.int (zI z17.1)] (rd z17.2) rfl ?_
          cases h
          exact j
    · show eG _ 34 38 [some (.ref 22), some (.ref 15), some (.int (zI (kix z1.1))), some (.int (zI z2.1)), none, none, none, none] [] (rd z2.2) _
      refine g_run 1 39 [some (.ref 22), some (.ref 15), some (.int (zI (kix z1.1))), some (.int (zI z2.1)), none, none, none, none] [.int (zI 0)] (rd z2.2) rfl ?_
      exact s_retB rfl rfl h (fun h => by cases h; exact rfl)
  · show eG _ 34 14 [some (.ref 22), some (.ref 15), some (.int (zI (kix z1.1))), none, none, none, none, none] [] (rd z1.2) _
    refine g_run 1 15 [some (.ref 22), some (.ref 15), some (.int (zI (kix z1.1))), none, none, none, none, none] [.int (zI 0)] (rd z1.2) rfl ?_
    exact s_retB rfl rfl h (fun h => by cases h; exact rfl)
