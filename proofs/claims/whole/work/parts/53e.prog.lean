def fW_traceFirst_1 : Nat → ZS → Int → Int → Int → Option (ZS)
  | 0, _, _, _, _ => none
  | n + 1, S, l2, l3, l4 => gC l4 (zF S 24 9) (if l4 < (zF S 24 9) then (fW_leastStep n S l2 l3 ((((zF S 24 9) - 1) - l4) * 256)).bind fun z1 => (fW_given n S l2 z1).bind fun z2 => gC 999 (l3 + z2) (gX l4 256 (fW_traceFirst_1 n (wA S 32 l4 z1) z1 (min 999 (l3 + z2)) (l4 + 1))) else some S)
set_option maxRecDepth 100000 in
set_option maxHeartbeats 4000000 in
theorem sW_traceFirst_1 (o : eO) : ∀ (n : Nat) (S : ZS) (l2 l3 l4 : Int) {w : ZS} {r : eP} (h : fW_traceFirst_1 n S l2 l3 l4 = some w) (hk : eG o 71 78 [none, none, none, none, none, none] [] (rd w) r), eG o 71 13 [some (.ref 24), some (.ref 1), some (.int (zI l2)), some (.int (zI l3)), some (.int (zI l4)), none] [] (rd S) r := by
  intro n
  induction n with
  | zero => intro S l2 l3 l4 w r h hk; unfold fW_traceFirst_1 at h; cases h
  | succ n ih =>
    intro S l2 l3 l4 w r h hk
    unfold fW_traceFirst_1 at h
    refine g_run 2 16 [some (.ref 24), some (.ref 1), some (.int (zI l2)), some (.int (zI l3)), some (.int (zI l4)), none] [.ref 24, .int (zI l4)] (rd S) rfl ?_
    refine g_getf rfl rfl (rd_o24 _) rfl ?_
    show eG _ 71 19 [some (.ref 24), some (.ref 1), some (.int (zI l2)), some (.int (zI l3)), some (.int (zI l4)), none] [.int (zI (zF S 24 9)), .int (zI l4)] (rd S) _
    refine s_icmp_ge rfl h (fun h => ?_) (fun h => ?_)
    · show eG _ 71 78 [some (.ref 24), some (.ref 1), some (.int (zI l2)), some (.int (zI l3)), some (.int (zI l4)), none] [] (rd S) _
      refine g_fgt [true, true, true, true, true, true] ?_
      show eG _ 71 78 [none, none, none, none, none, none] [] (rd S) _
      cases h
      exact hk
    · show eG _ 71 22 [some (.ref 24), some (.ref 1), some (.int (zI l2)), some (.int (zI l3)), some (.int (zI l4)), none] [] (rd S) _
      refine g_run 5 27 [some (.ref 24), some (.ref 1), some (.int (zI l2)), some (.int (zI l3)), some (.int (zI l4)), none] [.ref 24, .int (zI l3), .int (zI l2), .ref 1, .ref 24] (rd S) rfl ?_
      refine g_getf rfl rfl (rd_o24 _) rfl ?_
      show eG _ 71 30 [some (.ref 24), some (.ref 1), some (.int (zI l2)), some (.int (zI l3)), some (.int (zI l4)), none] [.int (zI (zF S 24 9)), .int (zI l3), .int (zI l2), .ref 1, .ref 24] (rd S) _
      refine g_run 1 31 [some (.ref 24), some (.ref 1), some (.int (zI l2)), some (.int (zI l3)), some (.int (zI l4)), none] [.int (zI 1), .int (zI (zF S 24 9)), .int (zI l3), .int (zI l2), .ref 1, .ref 24] (rd S) rfl ?_
      refine s_isub rfl ?_
      refine g_run 1 34 [some (.ref 24), some (.ref 1), some (.int (zI l2)), some (.int (zI l3)), some (.int (zI l4)), none] [.int (zI l4), .int (zI ((zF S 24 9) - 1)), .int (zI l3), .int (zI l2), .ref 1, .ref 24] (rd S) rfl ?_
      refine s_isub rfl ?_
      refine g_run 1 38 [some (.ref 24), some (.ref 1), some (.int (zI l2)), some (.int (zI l3)), some (.int (zI l4)), none] [.int (zI 256), .int (zI (((zF S 24 9) - 1) - l4)), .int (zI l3), .int (zI l2), .ref 1, .ref 24] (rd S) rfl ?_
      refine s_imul rfl ?_
      refine s_vir (fun z => some (.int (zI z))) (fun _ => rd S) rfl rfl rfl (rd_o24 _) rfl rfl (fun z hz => sW_leastStep o n S l2 l3 ((((zF S 24 9) - 1) - l4) * 256) hz) rfl h (fun z1 h => ?_)
      show eG _ 71 42 [some (.ref 24), some (.ref 1), some (.int (zI l2)), some (.int (zI l3)), some (.int (zI l4)), none] [.int (zI z1)] (rd S) _
      refine g_run 6 52 [some (.ref 24), some (.ref 1), some (.int (zI l2)), some (.int (zI l3)), some (.int (zI l4)), some (.int (zI z1))] [.int (zI z1), .int (zI l2), .ref 24, .int (zI l3), .int (zI 999)] (rd S) rfl ?_
      refine s_vir (fun z => some (.int (zI z))) (fun _ => rd S) rfl rfl rfl (rd_o24 _) rfl rfl (fun z hz => sW_given o n S l2 z1 hz) rfl h (fun z2 h => ?_)
      show eG _ 71 55 [some (.ref 24), some (.ref 1), some (.int (zI l2)), some (.int (zI l3)), some (.int (zI l4)), some (.int (zI z1))] [.int (zI z2), .int (zI l3), .int (zI 999)] (rd S) _
      refine s_iadd rfl ?_
      refine s_min rfl rfl rfl rfl h (fun h => ?_)
      refine g_run 2 61 [some (.ref 24), some (.ref 1), some (.int (zI l2)), some (.int (zI (min 999 (l3 + z2)))), some (.int (zI l4)), some (.int (zI z1))] [.ref 24] (rd S) rfl ?_
      refine g_getf rfl rfl (rd_o24 _) rfl ?_
      show eG _ 71 64 [some (.ref 24), some (.ref 1), some (.int (zI l2)), some (.int (zI (min 999 (l3 + z2)))), some (.int (zI l4)), some (.int (zI z1))] [.ref 32] (rd S) _
      refine g_run 2 68 [some (.ref 24), some (.ref 1), some (.int (zI l2)), some (.int (zI (min 999 (l3 + z2)))), some (.int (zI l4)), some (.int (zI z1))] [.int (zI z1), .int (zI l4), .ref 32] (rd S) rfl ?_
      refine s_iast rfl (rd_a32 _) (rw_a32 _ _) h (fun h => ?_)
      show eG _ 71 69 [some (.ref 24), some (.ref 1), some (.int (zI l2)), some (.int (zI (min 999 (l3 + z2)))), some (.int (zI l4)), some (.int (zI z1))] [] (rd (wA S 32 l4 z1)) _
      refine g_run 2 72 [some (.ref 24), some (.ref 1), some (.int (zI z1)), some (.int (zI (min 999 (l3 + z2)))), some (.int (zI l4)), some (.int (zI z1))] [] (rd (wA S 32 l4 z1)) rfl ?_
      refine s_iinc (L' := [some (.ref 24), some (.ref 1), some (.int (zI z1)), some (.int (zI (min 999 (l3 + z2)))), some (.int (zI (l4 + 1))), some (.int (zI z1))]) rfl rfl rfl ?_
      refine g_run 1 13 [some (.ref 24), some (.ref 1), some (.int (zI z1)), some (.int (zI (min 999 (l3 + z2)))), some (.int (zI (l4 + 1))), some (.int (zI z1))] [] (rd (wA S 32 l4 z1)) rfl ?_
      refine g_fgt [false, false, false, false, false, true] ?_
      show eG _ 71 13 [some (.ref 24), some (.ref 1), some (.int (zI z1)), some (.int (zI (min 999 (l3 + z2)))), some (.int (zI (l4 + 1))), none] [] (rd (wA S 32 l4 z1)) _
      exact ih (wA S 32 l4 z1) z1 (min 999 (l3 + z2)) (l4 + 1) h hk
def fW_traceFirst (n : Nat) (S : ZS) : Option (ZS) := (fW_traceFirst_1 n S (zF S 1 8) (zF S 1 10) 0).bind fun z1 => some z1
set_option maxRecDepth 100000 in
set_option maxHeartbeats 4000000 in
theorem sW_traceFirst (o : eO) (n : Nat) (S : ZS) {w : ZS} (h : fW_traceFirst n S = some w) : eG o 71 0 (eEnt 71 [.ref 24, .ref 1]) [] (rd S) (rv (none) (rd w)) := by
  unfold fW_traceFirst at h
  show eG o 71 0 [some (.ref 24), some (.ref 1), none, none, none, none] [] (rd S) _
  refine g_run 1 1 [some (.ref 24), some (.ref 1), none, none, none, none] [.ref 1] (rd S) rfl ?_
  refine g_getf rfl rfl (rd_o1 _) rfl ?_
  show eG _ 71 4 [some (.ref 24), some (.ref 1), none, none, none, none] [.int (zI (zF S 1 8))] (rd S) _
  refine g_run 2 6 [some (.ref 24), some (.ref 1), some (.int (zI (zF S 1 8))), none, none, none] [.ref 1] (rd S) rfl ?_
  refine g_getf rfl rfl (rd_o1 _) rfl ?_
  show eG _ 71 9 [some (.ref 24), some (.ref 1), some (.int (zI (zF S 1 8))), none, none, none] [.int (zI (zF S 1 10))] (rd S) _
  refine g_run 3 13 [some (.ref 24), some (.ref 1), some (.int (zI (zF S 1 8))), some (.int (zI (zF S 1 10))), some (.int (zI 0)), none] [] (rd S) rfl ?_
  obtain ⟨z1, h1, h⟩ := zB_inv h
  refine sW_traceFirst_1 o n S (zF S 1 8) (zF S 1 10) 0 h1 ?_
  show eG _ 71 78 [none, none, none, none, none, none] [] (rd z1) _
  cases h
  exact g_retv rfl rfl rfl
def fW_seekWanted (n : Nat) (S : ZS) : Option (ZS) := gC (zF S 24 15) 0 (if (zF S 24 15) = 0 then (fT_all n S 1).bind fun z1 => (fW_seek n S z1).bind fun z2 => gB z2.1 (gX (((zF z2.2 24 12) * 256) + (zF z2.2 1 8)) (nn z2.2) ((gC z2.1 0 (if z2.1 = 0 then some 0 else some (zF z2.2 24 12))).bind fun z3 => gC z2.1 0 (if z2.1 = 0 then gB 1 (some (wF (wF (wF (wF z2.2 24 8 z2.1) 24 10 (zA z2.2 31 (((zF z2.2 24 12) * 256) + (zF z2.2 1 8)))) 24 9 z3) 24 15 1)) else (fW_traceFirst n (wF (wF (wF z2.2 24 8 z2.1) 24 10 (zA z2.2 31 (((zF z2.2 24 12) * 256) + (zF z2.2 1 8)))) 24 9 z3)).bind fun z4 => gB 1 (some (wF z4 24 15 1))))) else some S)
set_option maxRecDepth 100000 in
set_option maxHeartbeats 4000000 in
theorem sW_seekWanted (o : eO) (n : Nat) (S : ZS) {w : ZS} (h : fW_seekWanted n S = some w) : eG o 60 0 (eEnt 60 [.ref 24, .ref 1]) [] (rd S) (rv (none) (rd w)) := by
  unfold fW_seekWanted at h
  show eG o 60 0 [some (.ref 24), some (.ref 1)] [] (rd S) _
  refine g_run 1 1 [some (.ref 24), some (.ref 1)] [.ref 24] (rd S) rfl ?_
  refine g_getf rfl rfl (rd_o24 _) rfl ?_
  show eG _ 60 4 [some (.ref 24), some (.ref 1)] [.int (zI (zF S 24 15))] (rd S) _
  refine s_if_eq rfl h (fun h => ?_) (fun h => ?_)
  · show eG _ 60 8 [some (.ref 24), some (.ref 1)] [] (rd S) _
    refine g_run 4 12 [some (.ref 24), some (.ref 1)] [.ref 1, .ref 1, .ref 24, .ref 24] (rd S) rfl ?_
    refine s_vir (fun z => some (.int (zI z))) (fun _ => rd S) rfl rfl rfl (rd_o1 _) rfl rfl (fun z hz => sT_all o n S 1 (Or.inl rfl) hz) rfl h (fun z1 h => ?_)
    show eG _ 60 15 [some (.ref 24), some (.ref 1)] [.int (zI z1), .ref 1, .ref 24, .ref 24] (rd S) _
    refine s_vir (fun z => some (.int (zI z.1))) (fun z => rd z.2) rfl rfl rfl (rd_o24 _) rfl rfl (fun z hz => sW_seek o n S z1 hz) rfl h (fun z2 h => ?_)
    show eG _ 60 18 [some (.ref 24), some (.ref 1)] [.int (zI z2.1), .ref 24] (rd z2.2) _
    refine s_putb rfl rfl (rd_o24 _) rfl rfl rfl rfl (rw_o24_8 _ _) h (fun h => ?_)
    show eG _ 60 21 [some (.ref 24), some (.ref 1)] [] (rd (wF z2.2 24 8 z2.1)) _
    refine g_run 2 23 [some (.ref 24), some (.ref 1)] [.ref 24, .ref 24] (rd (wF z2.2 24 8 z2.1)) rfl ?_
    refine g_getf rfl rfl (rd_o24 _) rfl ?_
    show eG _ 60 26 [some (.ref 24), some (.ref 1)] [.ref (nd z2.2), .ref 24] (rd (wF z2.2 24 8 z2.1)) _
    refine g_run 1 27 [some (.ref 24), some (.ref 1)] [.ref 24, .ref (nd z2.2), .ref 24] (rd (wF z2.2 24 8 z2.1)) rfl ?_
    refine g_getf rfl rfl (rd_o24 _) rfl ?_
    show eG _ 60 30 [some (.ref 24), some (.ref 1)] [.int (zI (zF z2.2 24 12)), .ref (nd z2.2), .ref 24] (rd (wF z2.2 24 8 z2.1)) _
    refine g_run 1 33 [some (.ref 24), some (.ref 1)] [.int (zI 256), .int (zI (zF z2.2 24 12)), .ref (nd z2.2), .ref 24] (rd (wF z2.2 24 8 z2.1)) rfl ?_
    refine s_imul rfl ?_
    refine g_run 1 35 [some (.ref 24), some (.ref 1)] [.ref 1, .int (zI ((zF z2.2 24 12) * 256)), .ref (nd z2.2), .ref 24] (rd (wF z2.2 24 8 z2.1)) rfl ?_
    refine g_getf rfl rfl (rd_o1 _) rfl ?_
    show eG _ 60 38 [some (.ref 24), some (.ref 1)] [.int (zI (zF z2.2 1 8)), .int (zI ((zF z2.2 24 12) * 256)), .ref (nd z2.2), .ref 24] (rd (wF z2.2 24 8 z2.1)) _
    refine s_iadd rfl ?_
    refine s_iald rfl (rd_nd _) h (fun h => ?_)
    show eG _ 60 40 [some (.ref 24), some (.ref 1)] [.int (zI (zA z2.2 31 (((zF z2.2 24 12) * 256) + (zF z2.2 1 8)))), .ref 24] (rd (wF z2.2 24 8 z2.1)) _
    refine s_putf rfl rfl (rd_o24 _) rfl rfl rfl rfl rfl (rw_o24_10 _ _) ?_
    show eG _ 60 43 [some (.ref 24), some (.ref 1)] [] (rd (wF (wF z2.2 24 8 z2.1) 24 10 (zA z2.2 31 (((zF z2.2 24 12) * 256) + (zF z2.2 1 8))))) _
    refine g_run 2 45 [some (.ref 24), some (.ref 1)] [.ref 24, .ref 24] (rd (wF (wF z2.2 24 8 z2.1) 24 10 (zA z2.2 31 (((zF z2.2 24 12) * 256) + (zF z2.2 1 8))))) rfl ?_
    refine g_getf rfl rfl (rd_o24 _) rfl ?_
    show eG _ 60 48 [some (.ref 24), some (.ref 1)] [.int (zI z2.1), .ref 24] (rd (wF (wF z2.2 24 8 z2.1) 24 10 (zA z2.2 31 (((zF z2.2 24 12) * 256) + (zF z2.2 1 8))))) _
    refine s_join (α := Int) (fun z => eG o 60 59 [some (.ref 24), some (.ref 1)] [.int (zI z), .ref 24] (rd (wF (wF z2.2 24 8 z2.1) 24 10 (zA z2.2 31 (((zF z2.2 24 12) * 256) + (zF z2.2 1 8))))) (rv (none) (rd w))) h (fun z3 h => ?_) (fun z3 h j => ?_)
    · show eG _ 60 59 [some (.ref 24), some (.ref 1)] [.int (zI z3), .ref 24] (rd (wF (wF z2.2 24 8 z2.1) 24 10 (zA z2.2 31 (((zF z2.2 24 12) * 256) + (zF z2.2 1 8))))) _
      refine s_putf rfl rfl (rd_o24 _) rfl rfl rfl rfl rfl (rw_o24_9 _ _) ?_
      show eG _ 60 62 [some (.ref 24), some (.ref 1)] [] (rd (wF (wF (wF z2.2 24 8 z2.1) 24 10 (zA z2.2 31 (((zF z2.2 24 12) * 256) + (zF z2.2 1 8)))) 24 9 z3)) _
      refine g_run 1 63 [some (.ref 24), some (.ref 1)] [.ref 24] (rd (wF (wF (wF z2.2 24 8 z2.1) 24 10 (zA z2.2 31 (((zF z2.2 24 12) * 256) + (zF z2.2 1 8)))) 24 9 z3)) rfl ?_
      refine g_getf rfl rfl (rd_o24 _) rfl ?_
      show eG _ 60 66 [some (.ref 24), some (.ref 1)] [.int (zI z2.1)] (rd (wF (wF (wF z2.2 24 8 z2.1) 24 10 (zA z2.2 31 (((zF z2.2 24 12) * 256) + (zF z2.2 1 8)))) 24 9 z3)) _
      refine s_if_eq rfl h (fun h => ?_) (fun h => ?_)
      · show eG _ 60 74 [some (.ref 24), some (.ref 1)] [] (rd (wF (wF (wF z2.2 24 8 z2.1) 24 10 (zA z2.2 31 (((zF z2.2 24 12) * 256) + (zF z2.2 1 8)))) 24 9 z3)) _
        refine g_run 2 76 [some (.ref 24), some (.ref 1)] [.int (zI 1), .ref 24] (rd (wF (wF (wF z2.2 24 8 z2.1) 24 10 (zA z2.2 31 (((zF z2.2 24 12) * 256) + (zF z2.2 1 8)))) 24 9 z3)) rfl ?_
        refine s_putb rfl rfl (rd_o24 _) rfl rfl rfl rfl (rw_o24_15 _ _) h (fun h => ?_)
        show eG _ 60 79 [some (.ref 24), some (.ref 1)] [] (rd (wF (wF (wF (wF z2.2 24 8 z2.1) 24 10 (zA z2.2 31 (((zF z2.2 24 12) * 256) + (zF z2.2 1 8)))) 24 9 z3) 24 15 1)) _
        cases h
        exact g_retv rfl rfl rfl
      · show eG _ 60 69 [some (.ref 24), some (.ref 1)] [] (rd (wF (wF (wF z2.2 24 8 z2.1) 24 10 (zA z2.2 31 (((zF z2.2 24 12) * 256) + (zF z2.2 1 8)))) 24 9 z3)) _
        refine g_run 2 71 [some (.ref 24), some (.ref 1)] [.ref 1, .ref 24] (rd (wF (wF (wF z2.2 24 8 z2.1) 24 10 (zA z2.2 31 (((zF z2.2 24 12) * 256) + (zF z2.2 1 8)))) 24 9 z3)) rfl ?_
        refine s_vir (fun _ => none) (fun z => rd z) rfl rfl rfl (rd_o24 _) rfl rfl (fun z hz => sW_traceFirst o n (wF (wF (wF z2.2 24 8 z2.1) 24 10 (zA z2.2 31 (((zF z2.2 24 12) * 256) + (zF z2.2 1 8)))) 24 9 z3) hz) rfl h (fun z4 h => ?_)
        show eG _ 60 74 [some (.ref 24), some (.ref 1)] [] (rd z4) _
        refine g_run 2 76 [some (.ref 24), some (.ref 1)] [.int (zI 1), .ref 24] (rd z4) rfl ?_
        refine s_putb rfl rfl (rd_o24 _) rfl rfl rfl rfl (rw_o24_15 _ _) h (fun h => ?_)
        show eG _ 60 79 [some (.ref 24), some (.ref 1)] [] (rd (wF z4 24 15 1)) _
        cases h
        exact g_retv rfl rfl rfl
    · skip
      refine s_if_eq rfl h (fun h => ?_) (fun h => ?_)
      · show eG _ 60 58 [some (.ref 24), some (.ref 1)] [.ref 24] (rd (wF (wF z2.2 24 8 z2.1) 24 10 (zA z2.2 31 (((zF z2.2 24 12) * 256) + (zF z2.2 1 8))))) _
        refine g_run 1 59 [some (.ref 24), some (.ref 1)] [.int (zI 0), .ref 24] (rd (wF (wF z2.2 24 8 z2.1) 24 10 (zA z2.2 31 (((zF z2.2 24 12) * 256) + (zF z2.2 1 8))))) rfl ?_
        cases h
        exact j
      · show eG _ 60 51 [some (.ref 24), some (.ref 1)] [.ref 24] (rd (wF (wF z2.2 24 8 z2.1) 24 10 (zA z2.2 31 (((zF z2.2 24 12) * 256) + (zF z2.2 1 8))))) _
        refine g_run 1 52 [some (.ref 24), some (.ref 1)] [.ref 24, .ref 24] (rd (wF (wF z2.2 24 8 z2.1) 24 10 (zA z2.2 31 (((zF z2.2 24 12) * 256) + (zF z2.2 1 8))))) rfl ?_
        refine g_getf rfl rfl (rd_o24 _) rfl ?_
        show eG _ 60 55 [some (.ref 24), some (.ref 1)] [.int (zI (zF z2.2 24 12)), .ref 24] (rd (wF (wF z2.2 24 8 z2.1) 24 10 (zA z2.2 31 (((zF z2.2 24 12) * 256) + (zF z2.2 1 8))))) _
        refine g_run 1 59 [some (.ref 24), some (.ref 1)] [.int (zI (zF z2.2 24 12)), .ref 24] (rd (wF (wF z2.2 24 8 z2.1) 24 10 (zA z2.2 31 (((zF z2.2 24 12) * 256) + (zF z2.2 1 8))))) rfl ?_
        cases h
        exact j
  · show eG _ 60 7 [some (.ref 24), some (.ref 1)] [] (rd S) _
    cases h
    exact g_retv rfl rfl rfl
def fD_can (n : Nat) (S : ZS) (l1 : Int) : Option (Int × ZS) := gC l1 (-1) (if l1 < (-1) then some (-1, S) else gC l1 255 (if 255 < l1 then some (-1, S) else (fW_seekWanted n S).bind fun z1 => gC (zF z1 24 8) 0 (if (zF z1 24 8) = 0 then some (-4, z1) else gC l1 (zF z1 24 9) (if l1 < (zF z1 24 9) then gC l1 (-1) (if l1 = (-1) then some (zF z1 24 9, z1) else gX l1 256 (some (zA z1 32 l1, z1))) else some (-4, z1)))))
set_option maxRecDepth 100000 in
set_option maxHeartbeats 4000000 in
theorem sD_can (o : eO) (n : Nat) (S : ZS) (l1 : Int) {w : Int × ZS} (h : fD_can n S l1 = some w) : eG o 59 0 (eEnt 59 [.ref 0, .int (zI l1)]) [] (rd S) (rv (some (.int (zI w.1))) (rd w.2)) := by
  unfold fD_can at h
  show eG o 59 0 [some (.ref 0), some (.int (zI l1))] [] (rd S) _
  refine g_run 2 2 [some (.ref 0), some (.int (zI l1))] [.int (zI (-1)), .int (zI l1)] (rd S) rfl ?_
  refine s_icmp_lt rfl h (fun h => ?_) (fun h => ?_)
  · show eG _ 59 12 [some (.ref 0), some (.int (zI l1))] [] (rd S) _
    refine g_run 1 13 [some (.ref 0), some (.int (zI l1))] [.int (zI (-1))] (rd S) rfl ?_
    cases h
    exact s_ret rfl rfl rfl
  · show eG _ 59 5 [some (.ref 0), some (.int (zI l1))] [] (rd S) _
    refine g_run 2 9 [some (.ref 0), some (.int (zI l1))] [.int (zI 255), .int (zI l1)] (rd S) rfl ?_
    refine s_icmp_le rfl h (fun h => ?_) (fun h => ?_)
    · show eG _ 59 14 [some (.ref 0), some (.int (zI l1))] [] (rd S) _
      refine g_run 1 15 [some (.ref 0), some (.int (zI l1))] [.ref 0] (rd S) rfl ?_
      refine g_getf rfl rfl (rd_o0 _) rfl ?_
      show eG _ 59 18 [some (.ref 0), some (.int (zI l1))] [.ref 24] (rd S) _
      refine g_run 1 19 [some (.ref 0), some (.int (zI l1))] [.ref 0, .ref 24] (rd S) rfl ?_
      refine g_getf rfl rfl (rd_o0 _) rfl ?_
      show eG _ 59 22 [some (.ref 0), some (.int (zI l1))] [.ref 1, .ref 24] (rd S) _
      refine s_vir (fun _ => none) (fun z => rd z) rfl rfl rfl (rd_o24 _) rfl rfl (fun z hz => sW_seekWanted o n S hz) rfl h (fun z1 h => ?_)
      show eG _ 59 25 [some (.ref 0), some (.int (zI l1))] [] (rd z1) _
      refine g_run 1 26 [some (.ref 0), some (.int (zI l1))] [.ref 0] (rd z1) rfl ?_
      refine g_getf rfl rfl (rd_o0 _) rfl ?_
      show eG _ 59 29 [some (.ref 0), some (.int (zI l1))] [.ref 24] (rd z1) _
      refine g_getf rfl rfl (rd_o24 _) rfl ?_
      show eG _ 59 32 [some (.ref 0), some (.int (zI l1))] [.int (zI (zF z1 24 8))] (rd z1) _
      refine s_if_eq rfl h (fun h => ?_) (fun h => ?_)
      · show eG _ 59 46 [some (.ref 0), some (.int (zI l1))] [] (rd z1) _
        refine g_run 1 48 [some (.ref 0), some (.int (zI l1))] [.int (zI (-4))] (rd z1) rfl ?_
        cases h
        exact s_ret rfl rfl rfl
      · show eG _ 59 35 [some (.ref 0), some (.int (zI l1))] [] (rd z1) _
        refine g_run 2 37 [some (.ref 0), some (.int (zI l1))] [.ref 0, .int (zI l1)] (rd z1) rfl ?_
        refine g_getf rfl rfl (rd_o0 _) rfl ?_
        show eG _ 59 40 [some (.ref 0), some (.int (zI l1))] [.ref 24, .int (zI l1)] (rd z1) _
        refine g_getf rfl rfl (rd_o24 _) rfl ?_
        show eG _ 59 43 [some (.ref 0), some (.int (zI l1))] [.int (zI (zF z1 24 9)), .int (zI l1)] (rd z1) _
        refine s_icmp_lt rfl h (fun h => ?_) (fun h => ?_)
        · show eG _ 59 49 [some (.ref 0), some (.int (zI l1))] [] (rd z1) _
          refine g_run 2 51 [some (.ref 0), some (.int (zI l1))] [.int (zI (-1)), .int (zI l1)] (rd z1) rfl ?_
          refine s_icmp_ne rfl h (fun h => ?_) (fun h => ?_)
          · show eG _ 59 64 [some (.ref 0), some (.int (zI l1))] [] (rd z1) _
            refine g_run 1 65 [some (.ref 0), some (.int (zI l1))] [.ref 0] (rd z1) rfl ?_
            refine g_getf rfl rfl (rd_o0 _) rfl ?_
            show eG _ 59 68 [some (.ref 0), some (.int (zI l1))] [.ref 24] (rd z1) _
            refine g_getf rfl rfl (rd_o24 _) rfl ?_
            show eG _ 59 71 [some (.ref 0), some (.int (zI l1))] [.ref 32] (rd z1) _
            refine g_run 1 72 [some (.ref 0), some (.int (zI l1))] [.int (zI l1), .ref 32] (rd z1) rfl ?_
            refine s_iald rfl (rd_a32 _) h (fun h => ?_)
            show eG _ 59 73 [some (.ref 0), some (.int (zI l1))] [.int (zI (zA z1 32 l1))] (rd z1) _
            cases h
            exact s_ret rfl rfl rfl
          · show eG _ 59 54 [some (.ref 0), some (.int (zI l1))] [] (rd z1) _
            refine g_run 1 55 [some (.ref 0), some (.int (zI l1))] [.ref 0] (rd z1) rfl ?_
            refine g_getf rfl rfl (rd_o0 _) rfl ?_
            show eG _ 59 58 [some (.ref 0), some (.int (zI l1))] [.ref 24] (rd z1) _
            refine g_getf rfl rfl (rd_o24 _) rfl ?_
            show eG _ 59 61 [some (.ref 0), some (.int (zI l1))] [.int (zI (zF z1 24 9))] (rd z1) _
            refine g_run 1 73 [some (.ref 0), some (.int (zI l1))] [.int (zI (zF z1 24 9))] (rd z1) rfl ?_
            cases h
            exact s_ret rfl rfl rfl
        · show eG _ 59 46 [some (.ref 0), some (.int (zI l1))] [] (rd z1) _
          refine g_run 1 48 [some (.ref 0), some (.int (zI l1))] [.int (zI (-4))] (rd z1) rfl ?_
          cases h
          exact s_ret rfl rfl rfl
    · show eG _ 59 12 [some (.ref 0), some (.int (zI l1))] [] (rd S) _
      refine g_run 1 13 [some (.ref 0), some (.int (zI l1))] [.int (zI (-1))] (rd S) rfl ?_
      cases h
      exact s_ret rfl rfl rfl
def fD_more (n : Nat) (S : ZS) : Option (Int × ZS) := (fW_seekWanted n S).bind fun z1 => gC (zF z1 24 8) 0 (if (zF z1 24 8) = 0 then gC (zF z1 24 10) 999 (if 999 < (zF z1 24 10) then some (-4, z1) else some ((zF z1 24 10) - (zF z1 1 10), z1)) else some (0, z1))
set_option maxRecDepth 100000 in
set_option maxHeartbeats 4000000 in
theorem sD_more (o : eO) (n : Nat) (S : ZS) {w : Int × ZS} (h : fD_more n S = some w) : eG o 73 0 (eEnt 73 [.ref 0]) [] (rd S) (rv (some (.int (zI w.1))) (rd w.2)) := by
  unfold fD_more at h
  show eG o 73 0 [some (.ref 0)] [] (rd S) _
  refine g_run 1 1 [some (.ref 0)] [.ref 0] (rd S) rfl ?_
  refine g_getf rfl rfl (rd_o0 _) rfl ?_
  show eG _ 73 4 [some (.ref 0)] [.ref 24] (rd S) _
  refine g_run 1 5 [some (.ref 0)] [.ref 0, .ref 24] (rd S) rfl ?_
  refine g_getf rfl rfl (rd_o0 _) rfl ?_
  show eG _ 73 8 [some (.ref 0)] [.ref 1, .ref 24] (rd S) _
  refine s_vir (fun _ => none) (fun z => rd z) rfl rfl rfl (rd_o24 _) rfl rfl (fun z hz => sW_seekWanted o n S hz) rfl h (fun z1 h => ?_)
  show eG _ 73 11 [some (.ref 0)] [] (rd z1) _
  refine g_run 1 12 [some (.ref 0)] [.ref 0] (rd z1) rfl ?_
  refine g_getf rfl rfl (rd_o0 _) rfl ?_
  show eG _ 73 15 [some (.ref 0)] [.ref 24] (rd z1) _
  refine g_getf rfl rfl (rd_o24 _) rfl ?_
  show eG _ 73 18 [some (.ref 0)] [.int (zI (zF z1 24 8))] (rd z1) _
  refine s_if_eq rfl h (fun h => ?_) (fun h => ?_)
  · show eG _ 73 23 [some (.ref 0)] [] (rd z1) _
    refine g_run 1 24 [some (.ref 0)] [.ref 0] (rd z1) rfl ?_
    refine g_getf rfl rfl (rd_o0 _) rfl ?_
    show eG _ 73 27 [some (.ref 0)] [.ref 24] (rd z1) _
    refine g_getf rfl rfl (rd_o24 _) rfl ?_
    show eG _ 73 30 [some (.ref 0)] [.int (zI (zF z1 24 10))] (rd z1) _
    refine g_run 1 33 [some (.ref 0)] [.int (zI 999), .int (zI (zF z1 24 10))] (rd z1) rfl ?_
    refine s_icmp_gt rfl h (fun h => ?_) (fun h => ?_)
    · show eG _ 73 54 [some (.ref 0)] [] (rd z1) _
      refine g_run 1 56 [some (.ref 0)] [.int (zI (-4))] (rd z1) rfl ?_
      cases h
      exact s_ret rfl rfl rfl
    · show eG _ 73 36 [some (.ref 0)] [] (rd z1) _
      refine g_run 1 37 [some (.ref 0)] [.ref 0] (rd z1) rfl ?_
      refine g_getf rfl rfl (rd_o0 _) rfl ?_
      show eG _ 73 40 [some (.ref 0)] [.ref 24] (rd z1) _
      refine g_getf rfl rfl (rd_o24 _) rfl ?_
      show eG _ 73 43 [some (.ref 0)] [.int (zI (zF z1 24 10))] (rd z1) _
      refine g_run 1 44 [some (.ref 0)] [.ref 0, .int (zI (zF z1 24 10))] (rd z1) rfl ?_
      refine g_getf rfl rfl (rd_o0 _) rfl ?_
      show eG _ 73 47 [some (.ref 0)] [.ref 1, .int (zI (zF z1 24 10))] (rd z1) _
      refine g_getf rfl rfl (rd_o1 _) rfl ?_
      show eG _ 73 50 [some (.ref 0)] [.int (zI (zF z1 1 10)), .int (zI (zF z1 24 10))] (rd z1) _
      refine s_isub rfl ?_
      refine g_run 1 56 [some (.ref 0)] [.int (zI ((zF z1 24 10) - (zF z1 1 10)))] (rd z1) rfl ?_
      cases h
      exact s_ret rfl rfl rfl
  · show eG _ 73 21 [some (.ref 0)] [] (rd z1) _
    refine g_run 1 22 [some (.ref 0)] [.int (zI 0)] (rd z1) rfl ?_
    cases h
    exact s_ret rfl rfl rfl
def fA_fill_42_1 : Nat → ZS → Int → Int → Int → Option (ZS)
  | 0, _, _, _, _ => none
  | n + 1, S, l1, l2, l3 => gC l2 l3 (if l2 < l3 then gX l2 72 (fA_fill_42_1 n (wA S 42 l2 l1) l1 (l2 + 1) l3) else some S)
set_option maxRecDepth 100000 in
set_option maxHeartbeats 4000000 in
theorem sA_fill_42_1 (o : eO) : ∀ (n : Nat) (S : ZS) (l1 l2 l3 : Int) {w : ZS} {r : eP} (h : fA_fill_42_1 n S l1 l2 l3 = some w) (hk : eG o 76 20 [none, none, none, none] [] (rd w) r), eG o 76 5 [some (.ref 42), some (.int (zI l1)), some (.int (zI l2)), some (.int (zI l3))] [] (rd S) r := by
  intro n
  induction n with
  | zero => intro S l1 l2 l3 w r h hk; unfold fA_fill_42_1 at h; cases h
  | succ n ih =>
    intro S l1 l2 l3 w r h hk
    unfold fA_fill_42_1 at h
    refine g_run 2 7 [some (.ref 42), some (.int (zI l1)), some (.int (zI l2)), some (.int (zI l3))] [.int (zI l3), .int (zI l2)] (rd S) rfl ?_
    refine s_icmp_ge rfl h (fun h => ?_) (fun h => ?_)
    · show eG _ 76 20 [some (.ref 42), some (.int (zI l1)), some (.int (zI l2)), some (.int (zI l3))] [] (rd S) _
      refine g_fgt [true, true, true, true] ?_
      show eG _ 76 20 [none, none, none, none] [] (rd S) _
      cases h
      exact hk
    · show eG _ 76 10 [some (.ref 42), some (.int (zI l1)), some (.int (zI l2)), some (.int (zI l3))] [] (rd S) _
      refine g_run 3 13 [some (.ref 42), some (.int (zI l1)), some (.int (zI l2)), some (.int (zI l3))] [.int (zI l1), .int (zI l2), .ref 42] (rd S) rfl ?_
      refine s_iast rfl (rd_a42 _) (rw_a42 _ _) h (fun h => ?_)
      show eG _ 76 14 [some (.ref 42), some (.int (zI l1)), some (.int (zI l2)), some (.int (zI l3))] [] (rd (wA S 42 l2 l1)) _
      refine s_iinc (L' := [some (.ref 42), some (.int (zI l1)), some (.int (zI (l2 + 1))), some (.int (zI l3))]) rfl rfl rfl ?_
      refine g_run 1 5 [some (.ref 42), some (.int (zI l1)), some (.int (zI (l2 + 1))), some (.int (zI l3))] [] (rd (wA S 42 l2 l1)) rfl ?_
      exact ih (wA S 42 l2 l1) l1 (l2 + 1) l3 h hk
def fA_fill_42 (n : Nat) (S : ZS) (l1 : Int) : Option (ZS) := (fA_fill_42_1 n S l1 0 72).bind fun z1 => some z1
set_option maxRecDepth 100000 in
set_option maxHeartbeats 4000000 in
theorem sA_fill_42 (o : eO) (n : Nat) (S : ZS) (l1 : Int) {w : ZS} (h : fA_fill_42 n S l1 = some w) : eG o 76 0 (eEnt 76 [.ref 42, .int (zI l1)]) [] (rd S) (rv (none) (rd w)) := by
  unfold fA_fill_42 at h
  show eG o 76 0 [some (.ref 42), some (.int (zI l1)), none, none] [] (rd S) _
  refine g_run 3 3 [some (.ref 42), some (.int (zI l1)), some (.int (zI 0)), none] [.ref 42] (rd S) rfl ?_
  refine s_alen rfl (rd_a42 _) rfl ?_
  show eG _ 76 4 [some (.ref 42), some (.int (zI l1)), some (.int (zI 0)), none] [.int (zI 72)] (rd S) _
  refine g_run 1 5 [some (.ref 42), some (.int (zI l1)), some (.int (zI 0)), some (.int (zI 72))] [] (rd S) rfl ?_
  obtain ⟨z1, h1, h⟩ := zB_inv h
  refine sA_fill_42_1 o n S l1 0 72 h1 ?_
  show eG _ 76 20 [none, none, none, none] [] (rd z1) _
  cases h
  exact g_retv rfl rfl rfl
def fC_addHeap (n : Nat) (S : ZS) (l1 l2 : Int) : Option (ZS) := gX (zF S 33 9) 9 (gX (zF S 33 9) 9 (some (wF (wF (wA (wA S 34 (zF S 33 9) l1) 35 (zF S 33 9) l2) 33 9 ((zF S 33 9) + 1)) 33 12 ((zF S 33 12) + l2))))
set_option maxRecDepth 100000 in
set_option maxHeartbeats 4000000 in
theorem sC_addHeap (o : eO) (n : Nat) (S : ZS) (l1 l2 : Int) {w : ZS} (h : fC_addHeap n S l1 l2 = some w) : eG o 77 0 (eEnt 77 [.ref 33, .int (zI l1), .int (zI l2)]) [] (rd S) (rv (none) (rd w)) := by
  unfold fC_addHeap at h
  show eG o 77 0 [some (.ref 33), some (.int (zI l1)), some (.int (zI l2))] [] (rd S) _
  refine g_run 1 1 [some (.ref 33), some (.int (zI l1)), some (.int (zI l2))] [.ref 33] (rd S) rfl ?_
  refine g_getf rfl rfl (rd_o33 _) rfl ?_
  show eG _ 77 4 [some (.ref 33), some (.int (zI l1)), some (.int (zI l2))] [.ref 34] (rd S) _
  refine g_run 1 5 [some (.ref 33), some (.int (zI l1)), some (.int (zI l2))] [.ref 33, .ref 34] (rd S) rfl ?_
  refine g_getf rfl rfl (rd_o33 _) rfl ?_
  show eG _ 77 8 [some (.ref 33), some (.int (zI l1)), some (.int (zI l2))] [.int (zI (zF S 33 9)), .ref 34] (rd S) _
  refine g_run 1 9 [some (.ref 33), some (.int (zI l1)), some (.int (zI l2))] [.int (zI l1), .int (zI (zF S 33 9)), .ref 34] (rd S) rfl ?_
  refine s_iast rfl (rd_a34 _) (rw_a34 _ _) h (fun h => ?_)
  show eG _ 77 10 [some (.ref 33), some (.int (zI l1)), some (.int (zI l2))] [] (rd (wA S 34 (zF S 33 9) l1)) _
  refine g_run 1 11 [some (.ref 33), some (.int (zI l1)), some (.int (zI l2))] [.ref 33] (rd (wA S 34 (zF S 33 9) l1)) rfl ?_
  refine g_getf rfl rfl (rd_o33 _) rfl ?_
  show eG _ 77 14 [some (.ref 33), some (.int (zI l1)), some (.int (zI l2))] [.ref 35] (rd (wA S 34 (zF S 33 9) l1)) _
  refine g_run 1 15 [some (.ref 33), some (.int (zI l1)), some (.int (zI l2))] [.ref 33, .ref 35] (rd (wA S 34 (zF S 33 9) l1)) rfl ?_
  refine g_getf rfl rfl (rd_o33 _) rfl ?_
  show eG _ 77 18 [some (.ref 33), some (.int (zI l1)), some (.int (zI l2))] [.int (zI (zF S 33 9)), .ref 35] (rd (wA S 34 (zF S 33 9) l1)) _
  refine g_run 1 19 [some (.ref 33), some (.int (zI l1)), some (.int (zI l2))] [.int (zI l2), .int (zI (zF S 33 9)), .ref 35] (rd (wA S 34 (zF S 33 9) l1)) rfl ?_
  refine s_iast rfl (rd_a35 _) (rw_a35 _ _) h (fun h => ?_)
  show eG _ 77 20 [some (.ref 33), some (.int (zI l1)), some (.int (zI l2))] [] (rd (wA (wA S 34 (zF S 33 9) l1) 35 (zF S 33 9) l2)) _
  refine g_run 2 22 [some (.ref 33), some (.int (zI l1)), some (.int (zI l2))] [.ref 33, .ref 33] (rd (wA (wA S 34 (zF S 33 9) l1) 35 (zF S 33 9) l2)) rfl ?_
  refine g_getf rfl rfl (rd_o33 _) rfl ?_
  show eG _ 77 25 [some (.ref 33), some (.int (zI l1)), some (.int (zI l2))] [.int (zI (zF S 33 9)), .ref 33] (rd (wA (wA S 34 (zF S 33 9) l1) 35 (zF S 33 9) l2)) _
  refine g_run 1 26 [some (.ref 33), some (.int (zI l1)), some (.int (zI l2))] [.int (zI 1), .int (zI (zF S 33 9)), .ref 33] (rd (wA (wA S 34 (zF S 33 9) l1) 35 (zF S 33 9) l2)) rfl ?_
  refine s_iadd rfl ?_
  refine s_putf rfl rfl (rd_o33 _) rfl rfl rfl rfl rfl (rw_o33_9 _ _) ?_
  show eG _ 77 30 [some (.ref 33), some (.int (zI l1)), some (.int (zI l2))] [] (rd (wF (wA (wA S 34 (zF S 33 9) l1) 35 (zF S 33 9) l2) 33 9 ((zF S 33 9) + 1))) _
  refine g_run 2 32 [some (.ref 33), some (.int (zI l1)), some (.int (zI l2))] [.ref 33, .ref 33] (rd (wF (wA (wA S 34 (zF S 33 9) l1) 35 (zF S 33 9) l2) 33 9 ((zF S 33 9) + 1))) rfl ?_
  refine g_getf rfl rfl (rd_o33 _) rfl ?_
  show eG _ 77 35 [some (.ref 33), some (.int (zI l1)), some (.int (zI l2))] [.int (zI (zF S 33 12)), .ref 33] (rd (wF (wA (wA S 34 (zF S 33 9) l1) 35 (zF S 33 9) l2) 33 9 ((zF S 33 9) + 1))) _
  refine g_run 1 36 [some (.ref 33), some (.int (zI l1)), some (.int (zI l2))] [.int (zI l2), .int (zI (zF S 33 12)), .ref 33] (rd (wF (wA (wA S 34 (zF S 33 9) l1) 35 (zF S 33 9) l2) 33 9 ((zF S 33 9) + 1))) rfl ?_
  refine s_iadd rfl ?_
  refine s_putf rfl rfl (rd_o33 _) rfl rfl rfl rfl rfl (rw_o33_12 _ _) ?_
  show eG _ 77 40 [some (.ref 33), some (.int (zI l1)), some (.int (zI l2))] [] (rd (wF (wF (wA (wA S 34 (zF S 33 9) l1) 35 (zF S 33 9) l2) 33 9 ((zF S 33 9) + 1)) 33 12 ((zF S 33 12) + l2))) _
  cases h
  exact g_retv rfl rfl rfl
def fC_addSite (n : Nat) (S : ZS) (l1 l2 : Int) : Option (ZS) := gX (zF S 33 10) 8 (gX (zF S 33 10) 8 (some (wF (wF (wA (wA S 38 (zF S 33 10) l1) 39 (zF S 33 10) l2) 33 10 ((zF S 33 10) + 1)) 33 11 ((zF S 33 11) + l2))))
set_option maxRecDepth 100000 in
set_option maxHeartbeats 4000000 in
theorem sC_addSite (o : eO) (n : Nat) (S : ZS) (l1 l2 : Int) {w : ZS} (h : fC_addSite n S l1 l2 = some w) : eG o 78 0 (eEnt 78 [.ref 33, .int (zI l1), .int (zI l2)]) [] (rd S) (rv (none) (rd w)) := by
  unfold fC_addSite at h
  show eG o 78 0 [some (.ref 33), some (.int (zI l1)), some (.int (zI l2))] [] (rd S) _
  refine g_run 1 1 [some (.ref 33), some (.int (zI l1)), some (.int (zI l2))] [.ref 33] (rd S) rfl ?_
  refine g_getf rfl rfl (rd_o33 _) rfl ?_
  show eG _ 78 4 [some (.ref 33), some (.int (zI l1)), some (.int (zI l2))] [.ref 38] (rd S) _
  refine g_run 1 5 [some (.ref 33), some (.int (zI l1)), some (.int (zI l2))] [.ref 33, .ref 38] (rd S) rfl ?_
  refine g_getf rfl rfl (rd_o33 _) rfl ?_
  show eG _ 78 8 [some (.ref 33), some (.int (zI l1)), some (.int (zI l2))] [.int (zI (zF S 33 10)), .ref 38] (rd S) _
  refine g_run 1 9 [some (.ref 33), some (.int (zI l1)), some (.int (zI l2))] [.int (zI l1), .int (zI (zF S 33 10)), .ref 38] (rd S) rfl ?_
  refine s_iast rfl (rd_a38 _) (rw_a38 _ _) h (fun h => ?_)
  show eG _ 78 10 [some (.ref 33), some (.int (zI l1)), some (.int (zI l2))] [] (rd (wA S 38 (zF S 33 10) l1)) _
  refine g_run 1 11 [some (.ref 33), some (.int (zI l1)), some (.int (zI l2))] [.ref 33] (rd (wA S 38 (zF S 33 10) l1)) rfl ?_
  refine g_getf rfl rfl (rd_o33 _) rfl ?_
  show eG _ 78 14 [some (.ref 33), some (.int (zI l1)), some (.int (zI l2))] [.ref 39] (rd (wA S 38 (zF S 33 10) l1)) _
  refine g_run 1 15 [some (.ref 33), some (.int (zI l1)), some (.int (zI l2))] [.ref 33, .ref 39] (rd (wA S 38 (zF S 33 10) l1)) rfl ?_
  refine g_getf rfl rfl (rd_o33 _) rfl ?_
  show eG _ 78 18 [some (.ref 33), some (.int (zI l1)), some (.int (zI l2))] [.int (zI (zF S 33 10)), .ref 39] (rd (wA S 38 (zF S 33 10) l1)) _
  refine g_run 1 19 [some (.ref 33), some (.int (zI l1)), some (.int (zI l2))] [.int (zI l2), .int (zI (zF S 33 10)), .ref 39] (rd (wA S 38 (zF S 33 10) l1)) rfl ?_
  refine s_iast rfl (rd_a39 _) (rw_a39 _ _) h (fun h => ?_)
  show eG _ 78 20 [some (.ref 33), some (.int (zI l1)), some (.int (zI l2))] [] (rd (wA (wA S 38 (zF S 33 10) l1) 39 (zF S 33 10) l2)) _
  refine g_run 2 22 [some (.ref 33), some (.int (zI l1)), some (.int (zI l2))] [.ref 33, .ref 33] (rd (wA (wA S 38 (zF S 33 10) l1) 39 (zF S 33 10) l2)) rfl ?_
  refine g_getf rfl rfl (rd_o33 _) rfl ?_
  show eG _ 78 25 [some (.ref 33), some (.int (zI l1)), some (.int (zI l2))] [.int (zI (zF S 33 10)), .ref 33] (rd (wA (wA S 38 (zF S 33 10) l1) 39 (zF S 33 10) l2)) _
  refine g_run 1 26 [some (.ref 33), some (.int (zI l1)), some (.int (zI l2))] [.int (zI 1), .int (zI (zF S 33 10)), .ref 33] (rd (wA (wA S 38 (zF S 33 10) l1) 39 (zF S 33 10) l2)) rfl ?_
  refine s_iadd rfl ?_
  refine s_putf rfl rfl (rd_o33 _) rfl rfl rfl rfl rfl (rw_o33_10 _ _) ?_
  show eG _ 78 30 [some (.ref 33), some (.int (zI l1)), some (.int (zI l2))] [] (rd (wF (wA (wA S 38 (zF S 33 10) l1) 39 (zF S 33 10) l2) 33 10 ((zF S 33 10) + 1))) _
  refine g_run 2 32 [some (.ref 33), some (.int (zI l1)), some (.int (zI l2))] [.ref 33, .ref 33] (rd (wF (wA (wA S 38 (zF S 33 10) l1) 39 (zF S 33 10) l2) 33 10 ((zF S 33 10) + 1))) rfl ?_
  refine g_getf rfl rfl (rd_o33 _) rfl ?_
  show eG _ 78 35 [some (.ref 33), some (.int (zI l1)), some (.int (zI l2))] [.int (zI (zF S 33 11)), .ref 33] (rd (wF (wA (wA S 38 (zF S 33 10) l1) 39 (zF S 33 10) l2) 33 10 ((zF S 33 10) + 1))) _
  refine g_run 1 36 [some (.ref 33), some (.int (zI l1)), some (.int (zI l2))] [.int (zI l2), .int (zI (zF S 33 11)), .ref 33] (rd (wF (wA (wA S 38 (zF S 33 10) l1) 39 (zF S 33 10) l2) 33 10 ((zF S 33 10) + 1))) rfl ?_
  refine s_iadd rfl ?_
  refine s_putf rfl rfl (rd_o33 _) rfl rfl rfl rfl rfl (rw_o33_11 _ _) ?_
  show eG _ 78 40 [some (.ref 33), some (.int (zI l1)), some (.int (zI l2))] [] (rd (wF (wF (wA (wA S 38 (zF S 33 10) l1) 39 (zF S 33 10) l2) 33 10 ((zF S 33 10) + 1)) 33 11 ((zF S 33 11) + l2))) _
  cases h
  exact g_retv rfl rfl rfl
def fC_load_1 : Nat → ZS → Int → Int → Int → Option (ZS)
  | 0, _, _, _, _ => none
  | n + 1, S, l2, l3, l4 => gC l4 (zF S 1 6) (if l4 < (zF S 1 6) then gX l4 8 (gC (zA S 2 l4) 2 (if (zA S 2 l4) = 2 then fC_load_1 n S l2 l3 (l4 + 1) else gC (zand (zshr l2 l4) 1) 1 (if (zand (zshr l2 l4) 1) = 1 then gX l4 8 ((fT_givenByGoing n S 1 l4).bind fun z2 => (fC_addHeap n S (zA S 4 l4) z2).bind fun z3 => fC_load_1 n z3 l2 l3 (l4 + 1)) else gC (zand (zshr l3 l4) 1) 1 (if (zand (zshr l3 l4) 1) = 1 then gX l4 8 (gX l4 8 ((fC_addSite n S (zA S 4 l4) (zA S 3 l4)).bind fun z1 => fC_load_1 n z1 l2 l3 (l4 + 1))) else fC_load_1 n S l2 l3 (l4 + 1))))) else some S)
set_option maxRecDepth 100000 in
set_option maxHeartbeats 4000000 in
theorem sC_load_1 (o : eO) : ∀ (n : Nat) (S : ZS) (l2 l3 l4 : Int) {w : ZS} {r : eP} (h : fC_load_1 n S l2 l3 l4 = some w) (hk : eG o 75 124 [none, none, none, none, none] [] (rd w) r), eG o 75 40 [some (.ref 33), some (.ref 1), some (.int (zI l2)), some (.int (zI l3)), some (.int (zI l4))] [] (rd S) r := by
  intro n
  induction n with
  | zero => intro S l2 l3 l4 w r h hk; unfold fC_load_1 at h; cases h
  | succ n ih =>
    intro S l2 l3 l4 w r h hk
    unfold fC_load_1 at h
    refine g_run 2 43 [some (.ref 33), some (.ref 1), some (.int (zI l2)), some (.int (zI l3)), some (.int (zI l4))] [.ref 1, .int (zI l4)] (rd S) rfl ?_
    refine g_getf rfl rfl (rd_o1 _) rfl ?_
    show eG _ 75 46 [some (.ref 33), some (.ref 1), some (.int (zI l2)), some (.int (zI l3)), some (.int (zI l4))] [.int (zI (zF S 1 6)), .int (zI l4)] (rd S) _
    refine s_icmp_ge rfl h (fun h => ?_) (fun h => ?_)
    · show eG _ 75 124 [some (.ref 33), some (.ref 1), some (.int (zI l2)), some (.int (zI l3)), some (.int (zI l4))] [] (rd S) _
      refine g_fgt [true, true, true, true, true] ?_
      show eG _ 75 124 [none, none, none, none, none] [] (rd S) _
      cases h
      exact hk
    · show eG _ 75 49 [some (.ref 33), some (.ref 1), some (.int (zI l2)), some (.int (zI l3)), some (.int (zI l4))] [] (rd S) _
      refine g_run 1 50 [some (.ref 33), some (.ref 1), some (.int (zI l2)), some (.int (zI l3)), some (.int (zI l4))] [.ref 1] (rd S) rfl ?_
      refine g_getf rfl rfl (rd_o1 _) rfl ?_
      show eG _ 75 53 [some (.ref 33), some (.ref 1), some (.int (zI l2)), some (.int (zI l3)), some (.int (zI l4))] [.ref 2] (rd S) _
      refine g_run 1 55 [some (.ref 33), some (.ref 1), some (.int (zI l2)), some (.int (zI l3)), some (.int (zI l4))] [.int (zI l4), .ref 2] (rd S) rfl ?_
      refine s_iald rfl (rd_a2 _) h (fun h => ?_)
      show eG _ 75 56 [some (.ref 33), some (.ref 1), some (.int (zI l2)), some (.int (zI l3)), some (.int (zI l4))] [.int (zI (zA S 2 l4))] (rd S) _
      refine g_run 1 57 [some (.ref 33), some (.ref 1), some (.int (zI l2)), some (.int (zI l3)), some (.int (zI l4))] [.int (zI 2), .int (zI (zA S 2 l4))] (rd S) rfl ?_
      refine s_icmp_eq rfl h (fun h => ?_) (fun h => ?_)
      · show eG _ 75 118 [some (.ref 33), some (.ref 1), some (.int (zI l2)), some (.int (zI l3)), some (.int (zI l4))] [] (rd S) _
        refine s_iinc (L' := [some (.ref 33), some (.ref 1), some (.int (zI l2)), some (.int (zI l3)), some (.int (zI (l4 + 1)))]) rfl rfl rfl ?_
        refine g_run 1 40 [some (.ref 33), some (.ref 1), some (.int (zI l2)), some (.int (zI l3)), some (.int (zI (l4 + 1)))] [] (rd S) rfl ?_
        exact ih S l2 l3 (l4 + 1) h hk
      · show eG _ 75 60 [some (.ref 33), some (.ref 1), some (.int (zI l2)), some (.int (zI l3)), some (.int (zI l4))] [] (rd S) _
        refine g_run 2 63 [some (.ref 33), some (.ref 1), some (.int (zI l2)), some (.int (zI l3)), some (.int (zI l4))] [.int (zI l4), .int (zI l2)] (rd S) rfl ?_
        refine s_ishr rfl ?_
        refine g_run 1 65 [some (.ref 33), some (.ref 1), some (.int (zI l2)), some (.int (zI l3)), some (.int (zI l4))] [.int (zI 1), .int (zI (zshr l2 l4))] (rd S) rfl ?_
        refine s_iand rfl ?_
        refine g_run 1 67 [some (.ref 33), some (.ref 1), some (.int (zI l2)), some (.int (zI l3)), some (.int (zI l4))] [.int (zI 1), .int (zI (zand (zshr l2 l4) 1))] (rd S) rfl ?_
        refine s_icmp_ne rfl h (fun h => ?_) (fun h => ?_)
        · show eG _ 75 90 [some (.ref 33), some (.ref 1), some (.int (zI l2)), some (.int (zI l3)), some (.int (zI l4))] [] (rd S) _
          refine g_run 2 93 [some (.ref 33), some (.ref 1), some (.int (zI l2)), some (.int (zI l3)), some (.int (zI l4))] [.int (zI l4), .int (zI l3)] (rd S) rfl ?_
          refine s_ishr rfl ?_
          refine g_run 1 95 [some (.ref 33), some (.ref 1), some (.int (zI l2)), some (.int (zI l3)), some (.int (zI l4))] [.int (zI 1), .int (zI (zshr l3 l4))] (rd S) rfl ?_
          refine s_iand rfl ?_
          refine g_run 1 97 [some (.ref 33), some (.ref 1), some (.int (zI l2)), some (.int (zI l3)), some (.int (zI l4))] [.int (zI 1), .int (zI (zand (zshr l3 l4) 1))] (rd S) rfl ?_
          refine s_icmp_ne rfl h (fun h => ?_) (fun h => ?_)
          · show eG _ 75 118 [some (.ref 33), some (.ref 1), some (.int (zI l2)), some (.int (zI l3)), some (.int (zI l4))] [] (rd S) _
            refine s_iinc (L' := [some (.ref 33), some (.ref 1), some (.int (zI l2)), some (.int (zI l3)), some (.int (zI (l4 + 1)))]) rfl rfl rfl ?_
            refine g_run 1 40 [some (.ref 33), some (.ref 1), some (.int (zI l2)), some (.int (zI l3)), some (.int (zI (l4 + 1)))] [] (rd S) rfl ?_
            exact ih S l2 l3 (l4 + 1) h hk
          · show eG _ 75 100 [some (.ref 33), some (.ref 1), some (.int (zI l2)), some (.int (zI l3)), some (.int (zI l4))] [] (rd S) _
            refine g_run 2 102 [some (.ref 33), some (.ref 1), some (.int (zI l2)), some (.int (zI l3)), some (.int (zI l4))] [.ref 1, .ref 33] (rd S) rfl ?_
            refine g_getf rfl rfl (rd_o1 _) rfl ?_
            show eG _ 75 105 [some (.ref 33), some (.ref 1), some (.int (zI l2)), some (.int (zI l3)), some (.int (zI l4))] [.ref 4, .ref 33] (rd S) _
            refine g_run 1 107 [some (.ref 33), some (.ref 1), some (.int (zI l2)), some (.int (zI l3)), some (.int (zI l4))] [.int (zI l4), .ref 4, .ref 33] (rd S) rfl ?_
            refine s_iald rfl (rd_a4 _) h (fun h => ?_)
            show eG _ 75 108 [some (.ref 33), some (.ref 1), some (.int (zI l2)), some (.int (zI l3)), some (.int (zI l4))] [.int (zI (zA S 4 l4)), .ref 33] (rd S) _
            refine g_run 1 109 [some (.ref 33), some (.ref 1), some (.int (zI l2)), some (.int (zI l3)), some (.int (zI l4))] [.ref 1, .int (zI (zA S 4 l4)), .ref 33] (rd S) rfl ?_
            refine g_getf rfl rfl (rd_o1 _) rfl ?_
            show eG _ 75 112 [some (.ref 33), some (.ref 1), some (.int (zI l2)), some (.int (zI l3)), some (.int (zI l4))] [.ref 3, .int (zI (zA S 4 l4)), .ref 33] (rd S) _
            refine g_run 1 114 [some (.ref 33), some (.ref 1), some (.int (zI l2)), some (.int (zI l3)), some (.int (zI l4))] [.int (zI l4), .ref 3, .int (zI (zA S 4 l4)), .ref 33] (rd S) rfl ?_
            refine s_iald rfl (rd_a3 _) h (fun h => ?_)
            show eG _ 75 115 [some (.ref 33), some (.ref 1), some (.int (zI l2)), some (.int (zI l3)), some (.int (zI l4))] [.int (zI (zA S 3 l4)), .int (zI (zA S 4 l4)), .ref 33] (rd S) _
            refine s_vir (fun _ => none) (fun z => rd z) rfl rfl rfl (rd_o33 _) rfl rfl (fun z hz => sC_addSite o n S (zA S 4 l4) (zA S 3 l4) hz) rfl h (fun z1 h => ?_)
            show eG _ 75 118 [some (.ref 33), some (.ref 1), some (.int (zI l2)), some (.int (zI l3)), some (.int (zI l4))] [] (rd z1) _
            refine s_iinc (L' := [some (.ref 33), some (.ref 1), some (.int (zI l2)), some (.int (zI l3)), some (.int (zI (l4 + 1)))]) rfl rfl rfl ?_
            refine g_run 1 40 [some (.ref 33), some (.ref 1), some (.int (zI l2)), some (.int (zI l3)), some (.int (zI (l4 + 1)))] [] (rd z1) rfl ?_
            exact ih z1 l2 l3 (l4 + 1) h hk
        · show eG _ 75 70 [some (.ref 33), some (.ref 1), some (.int (zI l2)), some (.int (zI l3)), some (.int (zI l4))] [] (rd S) _
          refine g_run 2 72 [some (.ref 33), some (.ref 1), some (.int (zI l2)), some (.int (zI l3)), some (.int (zI l4))] [.ref 1, .ref 33] (rd S) rfl ?_
          refine g_getf rfl rfl (rd_o1 _) rfl ?_
          show eG _ 75 75 [some (.ref 33), some (.ref 1), some (.int (zI l2)), some (.int (zI l3)), some (.int (zI l4))] [.ref 4, .ref 33] (rd S) _
          refine g_run 1 77 [some (.ref 33), some (.ref 1), some (.int (zI l2)), some (.int (zI l3)), some (.int (zI l4))] [.int (zI l4), .ref 4, .ref 33] (rd S) rfl ?_
          refine s_iald rfl (rd_a4 _) h (fun h => ?_)
          show eG _ 75 78 [some (.ref 33), some (.ref 1), some (.int (zI l2)), some (.int (zI l3)), some (.int (zI l4))] [.int (zI (zA S 4 l4)), .ref 33] (rd S) _
          refine g_run 2 81 [some (.ref 33), some (.ref 1), some (.int (zI l2)), some (.int (zI l3)), some (.int (zI l4))] [.int (zI l4), .ref 1, .int (zI (zA S 4 l4)), .ref 33] (rd S) rfl ?_
          refine s_vir (fun z => some (.int (zI z))) (fun _ => rd S) rfl rfl rfl (rd_o1 _) rfl rfl (fun z hz => sT_givenByGoing o n S 1 (Or.inl rfl) l4 hz) rfl h (fun z2 h => ?_)
          show eG _ 75 84 [some (.ref 33), some (.ref 1), some (.int (zI l2)), some (.int (zI l3)), some (.int (zI l4))] [.int (zI z2), .int (zI (zA S 4 l4)), .ref 33] (rd S) _
          refine s_vir (fun _ => none) (fun z => rd z) rfl rfl rfl (rd_o33 _) rfl rfl (fun z hz => sC_addHeap o n S (zA S 4 l4) z2 hz) rfl h (fun z3 h => ?_)
          show eG _ 75 87 [some (.ref 33), some (.ref 1), some (.int (zI l2)), some (.int (zI l3)), some (.int (zI l4))] [] (rd z3) _
          refine g_run 1 118 [some (.ref 33), some (.ref 1), some (.int (zI l2)), some (.int (zI l3)), some (.int (zI l4))] [] (rd z3) rfl ?_
          refine s_iinc (L' := [some (.ref 33), some (.ref 1), some (.int (zI l2)), some (.int (zI l3)), some (.int (zI (l4 + 1)))]) rfl rfl rfl ?_
          refine g_run 1 40 [some (.ref 33), some (.ref 1), some (.int (zI l2)), some (.int (zI l3)), some (.int (zI (l4 + 1)))] [] (rd z3) rfl ?_
          exact ih z3 l2 l3 (l4 + 1) h hk
def fC_load (n : Nat) (S : ZS) (l2 l3 : Int) : Option (ZS) := (fA_fill_42 n (wF (wF (wF (wF S 33 9 0) 33 10 0) 33 11 0) 33 12 0) 0).bind fun z1 => (fC_addHeap n z1 0 (zF z1 1 10)).bind fun z2 => (fC_load_1 n z2 l2 l3 0).bind fun z3 => some z3
set_option maxRecDepth 100000 in
set_option maxHeartbeats 4000000 in
theorem sC_load (o : eO) (n : Nat) (S : ZS) (l2 l3 : Int) {w : ZS} (h : fC_load n S l2 l3 = some w) : eG o 75 0 (eEnt 75 [.ref 33, .ref 1, .int (zI l2), .int (zI l3)]) [] (rd S) (rv (none) (rd w)) := by
  unfold fC_load at h
  show eG o 75 0 [some (.ref 33), some (.ref 1), some (.int (zI l2)), some (.int (zI l3)), none] [] (rd S) _
  refine g_run 2 2 [some (.ref 33), some (.ref 1), some (.int (zI l2)), some (.int (zI l3)), none] [.int (zI 0), .ref 33] (rd S) rfl ?_
  refine s_putf rfl rfl (rd_o33 _) rfl rfl rfl rfl rfl (rw_o33_9 _ _) ?_
  show eG _ 75 5 [some (.ref 33), some (.ref 1), some (.int (zI l2)), some (.int (zI l3)), none] [] (rd (wF S 33 9 0)) _
  refine g_run 2 7 [some (.ref 33), some (.ref 1), some (.int (zI l2)), some (.int (zI l3)), none] [.int (zI 0), .ref 33] (rd (wF S 33 9 0)) rfl ?_
  refine s_putf rfl rfl (rd_o33 _) rfl rfl rfl rfl rfl (rw_o33_10 _ _) ?_
  show eG _ 75 10 [some (.ref 33), some (.ref 1), some (.int (zI l2)), some (.int (zI l3)), none] [] (rd (wF (wF S 33 9 0) 33 10 0)) _
  refine g_run 2 12 [some (.ref 33), some (.ref 1), some (.int (zI l2)), some (.int (zI l3)), none] [.int (zI 0), .ref 33] (rd (wF (wF S 33 9 0) 33 10 0)) rfl ?_
  refine s_putf rfl rfl (rd_o33 _) rfl rfl rfl rfl rfl (rw_o33_11 _ _) ?_
  show eG _ 75 15 [some (.ref 33), some (.ref 1), some (.int (zI l2)), some (.int (zI l3)), none] [] (rd (wF (wF (wF S 33 9 0) 33 10 0) 33 11 0)) _
  refine g_run 2 17 [some (.ref 33), some (.ref 1), some (.int (zI l2)), some (.int (zI l3)), none] [.int (zI 0), .ref 33] (rd (wF (wF (wF S 33 9 0) 33 10 0) 33 11 0)) rfl ?_
  refine s_putf rfl rfl (rd_o33 _) rfl rfl rfl rfl rfl (rw_o33_12 _ _) ?_
  show eG _ 75 20 [some (.ref 33), some (.ref 1), some (.int (zI l2)), some (.int (zI l3)), none] [] (rd (wF (wF (wF (wF S 33 9 0) 33 10 0) 33 11 0) 33 12 0)) _
  refine g_run 1 21 [some (.ref 33), some (.ref 1), some (.int (zI l2)), some (.int (zI l3)), none] [.ref 33] (rd (wF (wF (wF (wF S 33 9 0) 33 10 0) 33 11 0) 33 12 0)) rfl ?_
  refine g_getf rfl rfl (rd_o33 _) rfl ?_
  show eG _ 75 24 [some (.ref 33), some (.ref 1), some (.int (zI l2)), some (.int (zI l3)), none] [.ref 42] (rd (wF (wF (wF (wF S 33 9 0) 33 10 0) 33 11 0) 33 12 0)) _
  refine g_run 1 25 [some (.ref 33), some (.ref 1), some (.int (zI l2)), some (.int (zI l3)), none] [.int (zI 0), .ref 42] (rd (wF (wF (wF (wF S 33 9 0) 33 10 0) 33 11 0) 33 12 0)) rfl ?_
  refine s_sta (fun _ => none) (fun z => rd z) rfl rfl rfl rfl rfl rfl rfl (fun z hz => sA_fill_42 o n (wF (wF (wF (wF S 33 9 0) 33 10 0) 33 11 0) 33 12 0) 0 hz) rfl h (fun z1 h => ?_)
  show eG _ 75 28 [some (.ref 33), some (.ref 1), some (.int (zI l2)), some (.int (zI l3)), none] [] (rd z1) _
  refine g_run 3 31 [some (.ref 33), some (.ref 1), some (.int (zI l2)), some (.int (zI l3)), none] [.ref 1, .int (zI 0), .ref 33] (rd z1) rfl ?_
  refine g_getf rfl rfl (rd_o1 _) rfl ?_
  show eG _ 75 34 [some (.ref 33), some (.ref 1), some (.int (zI l2)), some (.int (zI l3)), none] [.int (zI (zF z1 1 10)), .int (zI 0), .ref 33] (rd z1) _
  refine s_vir (fun _ => none) (fun z => rd z) rfl rfl rfl (rd_o33 _) rfl rfl (fun z hz => sC_addHeap o n z1 0 (zF z1 1 10) hz) rfl h (fun z2 h => ?_)
  show eG _ 75 37 [some (.ref 33), some (.ref 1), some (.int (zI l2)), some (.int (zI l3)), none] [] (rd z2) _
  refine g_run 2 40 [some (.ref 33), some (.ref 1), some (.int (zI l2)), some (.int (zI l3)), some (.int (zI 0))] [] (rd z2) rfl ?_
  obtain ⟨z3, h1, h⟩ := zB_inv h
  refine sC_load_1 o n z2 l2 l3 0 h1 ?_
  show eG _ 75 124 [none, none, none, none, none] [] (rd z3) _
  cases h
  exact g_retv rfl rfl rfl
def fC_isEnough (n : Nat) (S : ZS) : Option (Int) := gC (zF S 33 12) (zF S 33 11) (if (zF S 33 12) < (zF S 33 11) then gB 0 (some 0) else gB 1 (some 1))
set_option maxRecDepth 100000 in
set_option maxHeartbeats 4000000 in
theorem sC_isEnough (o : eO) (n : Nat) (S : ZS) {w : Int} (h : fC_isEnough n S = some w) : eG o 79 0 (eEnt 79 [.ref 33]) [] (rd S) (rv (some (.int (zI w))) (rd S)) := by
  unfold fC_isEnough at h
  show eG o 79 0 [some (.ref 33)] [] (rd S) _
  refine g_run 1 1 [some (.ref 33)] [.ref 33] (rd S) rfl ?_
  refine g_getf rfl rfl (rd_o33 _) rfl ?_
  show eG _ 79 4 [some (.ref 33)] [.int (zI (zF S 33 12))] (rd S) _
  refine g_run 1 5 [some (.ref 33)] [.ref 33, .int (zI (zF S 33 12))] (rd S) rfl ?_
  refine g_getf rfl rfl (rd_o33 _) rfl ?_
  show eG _ 79 8 [some (.ref 33)] [.int (zI (zF S 33 11)), .int (zI (zF S 33 12))] (rd S) _
  refine s_icmp_lt rfl h (fun h => ?_) (fun h => ?_)
  · show eG _ 79 15 [some (.ref 33)] [] (rd S) _
    refine g_run 1 16 [some (.ref 33)] [.int (zI 0)] (rd S) rfl ?_
    exact s_retB rfl rfl h (fun h => by cases h; exact rfl)
  · show eG _ 79 11 [some (.ref 33)] [] (rd S) _
    refine g_run 2 16 [some (.ref 33)] [.int (zI 1)] (rd S) rfl ?_
    exact s_retB rfl rfl h (fun h => by cases h; exact rfl)
def fC_far (n : Nat) (S : ZS) (l1 l2 : Int) : Option (Int) := gX l1 9 (gX l2 8 (gC ((zA S 34 l1) - (zA S 38 l2)) 0 (some (zabs ((zA S 34 l1) - (zA S 38 l2))))))
set_option maxRecDepth 100000 in
set_option maxHeartbeats 4000000 in
theorem sC_far (o : eO) (n : Nat) (S : ZS) (l1 l2 : Int) {w : Int} (h : fC_far n S l1 l2 = some w) : eG o 83 0 (eEnt 83 [.ref 33, .int (zI l1), .int (zI l2)]) [] (rd S) (rv (some (.int (zI w))) (rd S)) := by
  unfold fC_far at h
  show eG o 83 0 [some (.ref 33), some (.int (zI l1)), some (.int (zI l2))] [] (rd S) _
  refine g_run 1 1 [some (.ref 33), some (.int (zI l1)), some (.int (zI l2))] [.ref 33] (rd S) rfl ?_
  refine g_getf rfl rfl (rd_o33 _) rfl ?_
  show eG _ 83 4 [some (.ref 33), some (.int (zI l1)), some (.int (zI l2))] [.ref 34] (rd S) _
  refine g_run 1 5 [some (.ref 33), some (.int (zI l1)), some (.int (zI l2))] [.int (zI l1), .ref 34] (rd S) rfl ?_
  refine s_iald rfl (rd_a34 _) h (fun h => ?_)
  show eG _ 83 6 [some (.ref 33), some (.int (zI l1)), some (.int (zI l2))] [.int (zI (zA S 34 l1))] (rd S) _
  refine g_run 1 7 [some (.ref 33), some (.int (zI l1)), some (.int (zI l2))] [.ref 33, .int (zI (zA S 34 l1))] (rd S) rfl ?_
  refine g_getf rfl rfl (rd_o33 _) rfl ?_
  show eG _ 83 10 [some (.ref 33), some (.int (zI l1)), some (.int (zI l2))] [.ref 38, .int (zI (zA S 34 l1))] (rd S) _
  refine g_run 1 11 [some (.ref 33), some (.int (zI l1)), some (.int (zI l2))] [.int (zI l2), .ref 38, .int (zI (zA S 34 l1))] (rd S) rfl ?_
  refine s_iald rfl (rd_a38 _) h (fun h => ?_)
  show eG _ 83 12 [some (.ref 33), some (.int (zI l1)), some (.int (zI l2))] [.int (zI (zA S 38 l2)), .int (zI (zA S 34 l1))] (rd S) _
  refine s_isub rfl ?_
  refine s_abs rfl rfl rfl rfl h (fun h => ?_)
  cases h
  exact s_ret rfl rfl rfl
def fC_shorten (n : Nat) (S : ZS) (l1 l2 : Int) : Option (Int × ZS) := gX l1 9 ((gC (zA S 36 l1) 1000000 (if (zA S 36 l1) < 1000000 then gX l1 9 ((fC_far n S l1 l2).bind fun z4 => gX l2 8 (gC ((zA S 36 l1) + z4) (zA S 40 l2) (if ((zA S 36 l1) + z4) < (zA S 40 l2) then gX l1 9 ((fC_far n S l1 l2).bind fun z5 => gX l2 8 (gX l2 8 (some (1, wA (wA S 40 l2 ((zA S 36 l1) + z5)) 41 l2 l1)))) else some (0, S)))) else some (0, S))).bind fun z1 => gX ((l1 * 8) + l2) 72 (gC (zA z1.2 42 ((l1 * 8) + l2)) 0 (if 0 < (zA z1.2 42 ((l1 * 8) + l2)) then gX l2 8 (gC (zA z1.2 41 l2) 0 (if (zA z1.2 41 l2) < 0 then gB z1.1 (some (z1.1, z1.2)) else gX l2 8 ((fC_far n z1.2 l1 l2).bind fun z2 => gX l1 9 (gC ((zA z1.2 40 l2) - z2) (zA z1.2 36 l1) (if ((zA z1.2 40 l2) - z2) < (zA z1.2 36 l1) then gX l2 8 ((fC_far n z1.2 l1 l2).bind fun z3 => gX l1 9 (gX l1 9 (gB 1 (some (1, wA (wA z1.2 36 l1 ((zA z1.2 40 l2) - z3)) 37 l1 l2))))) else gB z1.1 (some (z1.1, z1.2))))))) else gB z1.1 (some (z1.1, z1.2)))))
set_option maxRecDepth 100000 in
set_option maxHeartbeats 4000000 in
theorem sC_shorten (o : eO) (n : Nat) (S : ZS) (l1 l2 : Int) {w : Int × ZS} (h : fC_shorten n S l1 l2 = some w) : eG o 82 0 (eEnt 82 [.ref 33, .int (zI l1), .int (zI l2)]) [] (rd S) (rv (some (.int (zI w.1))) (rd w.2)) := by
  unfold fC_shorten at h
  show eG o 82 0 [some (.ref 33), some (.int (zI l1)), some (.int (zI l2)), none] [] (rd S) _
  refine g_run 3 3 [some (.ref 33), some (.int (zI l1)), some (.int (zI l2)), some (.int (zI 0))] [.ref 33] (rd S) rfl ?_
  refine g_getf rfl rfl (rd_o33 _) rfl ?_
  show eG _ 82 6 [some (.ref 33), some (.int (zI l1)), some (.int (zI l2)), some (.int (zI 0))] [.ref 36] (rd S) _
  refine g_run 1 7 [some (.ref 33), some (.int (zI l1)), some (.int (zI l2)), some (.int (zI 0))] [.int (zI l1), .ref 36] (rd S) rfl ?_
  refine s_iald rfl (rd_a36 _) h (fun h => ?_)
  show eG _ 82 8 [some (.ref 33), some (.int (zI l1)), some (.int (zI l2)), some (.int (zI 0))] [.int (zI (zA S 36 l1))] (rd S) _
  refine g_run 1 10 [some (.ref 33), some (.int (zI l1)), some (.int (zI l2)), some (.int (zI 0))] [.int (zI 1000000), .int (zI (zA S 36 l1))] (rd S) rfl ?_
  refine s_join (α := Int × ZS) (fun z => eG o 82 63 [some (.ref 33), some (.int (zI l1)), some (.int (zI l2)), some (.int (zI z.1))] [] (rd z.2) (rv (some (.int (zI w.1))) (rd w.2))) h (fun z1 h => ?_) (fun z1 h j => ?_)
  · show eG _ 82 63 [some (.ref 33), some (.int (zI l1)), some (.int (zI l2)), some (.int (zI z1.1))] [] (rd z1.2) _
    refine g_run 1 64 [some (.ref 33), some (.int (zI l1)), some (.int (zI l2)), some (.int (zI z1.1))] [.ref 33] (rd z1.2) rfl ?_
    refine g_getf rfl rfl (rd_o33 _) rfl ?_
    show eG _ 82 67 [some (.ref 33), some (.int (zI l1)), some (.int (zI l2)), some (.int (zI z1.1))] [.ref 42] (rd z1.2) _
    refine g_run 2 70 [some (.ref 33), some (.int (zI l1)), some (.int (zI l2)), some (.int (zI z1.1))] [.int (zI 8), .int (zI l1), .ref 42] (rd z1.2) rfl ?_
    refine s_imul rfl ?_
    refine g_run 1 72 [some (.ref 33), some (.int (zI l1)), some (.int (zI l2)), some (.int (zI z1.1))] [.int (zI l2), .int (zI (l1 * 8)), .ref 42] (rd z1.2) rfl ?_
    refine s_iadd rfl ?_
    refine s_iald rfl (rd_a42 _) h (fun h => ?_)
    show eG _ 82 74 [some (.ref 33), some (.int (zI l1)), some (.int (zI l2)), some (.int (zI z1.1))] [.int (zI (zA z1.2 42 ((l1 * 8) + l2)))] (rd z1.2) _
    refine s_if_le rfl h (fun h => ?_) (fun h => ?_)
    · show eG _ 82 136 [some (.ref 33), some (.int (zI l1)), some (.int (zI l2)), some (.int (zI z1.1))] [] (rd z1.2) _
      refine g_run 1 137 [some (.ref 33), some (.int (zI l1)), some (.int (zI l2)), some (.int (zI z1.1))] [.int (zI z1.1)] (rd z1.2) rfl ?_
      exact s_retB rfl rfl h (fun h => by cases h; exact rfl)
    · show eG _ 82 77 [some (.ref 33), some (.int (zI l1)), some (.int (zI l2)), some (.int (zI z1.1))] [] (rd z1.2) _
      refine g_run 1 78 [some (.ref 33), some (.int (zI l1)), some (.int (zI l2)), some (.int (zI z1.1))] [.ref 33] (rd z1.2) rfl ?_
      refine g_getf rfl rfl (rd_o33 _) rfl ?_
      show eG _ 82 81 [some (.ref 33), some (.int (zI l1)), some (.int (zI l2)), some (.int (zI z1.1))] [.ref 41] (rd z1.2) _
      refine g_run 1 82 [some (.ref 33), some (.int (zI l1)), some (.int (zI l2)), some (.int (zI z1.1))] [.int (zI l2), .ref 41] (rd z1.2) rfl ?_
      refine s_iald rfl (rd_a41 _) h (fun h => ?_)
      show eG _ 82 83 [some (.ref 33), some (.int (zI l1)), some (.int (zI l2)), some (.int (zI z1.1))] [.int (zI (zA z1.2 41 l2))] (rd z1.2) _
      refine s_if_lt rfl h (fun h => ?_) (fun h => ?_)
      · show eG _ 82 136 [some (.ref 33), some (.int (zI l1)), some (.int (zI l2)), some (.int (zI z1.1))] [] (rd z1.2) _
        refine g_run 1 137 [some (.ref 33), some (.int (zI l1)), some (.int (zI l2)), some (.int (zI z1.1))] [.int (zI z1.1)] (rd z1.2) rfl ?_
        exact s_retB rfl rfl h (fun h => by cases h; exact rfl)
      · show eG _ 82 86 [some (.ref 33), some (.int (zI l1)), some (.int (zI l2)), some (.int (zI z1.1))] [] (rd z1.2) _
        refine g_run 1 87 [some (.ref 33), some (.int (zI l1)), some (.int (zI l2)), some (.int (zI z1.1))] [.ref 33] (rd z1.2) rfl ?_
        refine g_getf rfl rfl (rd_o33 _) rfl ?_
        show eG _ 82 90 [some (.ref 33), some (.int (zI l1)), some (.int (zI l2)), some (.int (zI z1.1))] [.ref 40] (rd z1.2) _
        refine g_run 1 91 [some (.ref 33), some (.int (zI l1)), some (.int (zI l2)), some (.int (zI z1.1))] [.int (zI l2), .ref 40] (rd z1.2) rfl ?_
        refine s_iald rfl (rd_a40 _) h (fun h => ?_)
        show eG _ 82 92 [some (.ref 33), some (.int (zI l1)), some (.int (zI l2)), some (.int (zI z1.1))] [.int (zI (zA z1.2 40 l2))] (rd z1.2) _
        refine g_run 3 95 [some (.ref 33), some (.int (zI l1)), some (.int (zI l2)), some (.int (zI z1.1))] [.int (zI l2), .int (zI l1), .ref 33, .int (zI (zA z1.2 40 l2))] (rd z1.2) rfl ?_
        refine s_vir (fun z => some (.int (zI z))) (fun _ => rd z1.2) rfl rfl rfl (rd_o33 _) rfl rfl (fun z hz => sC_far o n z1.2 l1 l2 hz) rfl h (fun z2 h => ?_)
        show eG _ 82 98 [some (.ref 33), some (.int (zI l1)), some (.int (zI l2)), some (.int (zI z1.1))] [.int (zI z2), .int (zI (zA z1.2 40 l2))] (rd z1.2) _
        refine s_isub rfl ?_
        refine g_run 1 100 [some (.ref 33), some (.int (zI l1)), some (.int (zI l2)), some (.int (zI z1.1))] [.ref 33, .int (zI ((zA z1.2 40 l2) - z2))] (rd z1.2) rfl ?_
        refine g_getf rfl rfl (rd_o33 _) rfl ?_
        show eG _ 82 103 [some (.ref 33), some (.int (zI l1)), some (.int (zI l2)), some (.int (zI z1.1))] [.ref 36, .int (zI ((zA z1.2 40 l2) - z2))] (rd z1.2) _
        refine g_run 1 104 [some (.ref 33), some (.int (zI l1)), some (.int (zI l2)), some (.int (zI z1.1))] [.int (zI l1), .ref 36, .int (zI ((zA z1.2 40 l2) - z2))] (rd z1.2) rfl ?_
        refine s_iald rfl (rd_a36 _) h (fun h => ?_)
        show eG _ 82 105 [some (.ref 33), some (.int (zI l1)), some (.int (zI l2)), some (.int (zI z1.1))] [.int (zI (zA z1.2 36 l1)), .int (zI ((zA z1.2 40 l2) - z2))] (rd z1.2) _
        refine s_icmp_ge rfl h (fun h => ?_) (fun h => ?_)
        · show eG _ 82 136 [some (.ref 33), some (.int (zI l1)), some (.int (zI l2)), some (.int (zI z1.1))] [] (rd z1.2) _
          refine g_run 1 137 [some (.ref 33), some (.int (zI l1)), some (.int (zI l2)), some (.int (zI z1.1))] [.int (zI z1.1)] (rd z1.2) rfl ?_
          exact s_retB rfl rfl h (fun h => by cases h; exact rfl)
        · show eG _ 82 108 [some (.ref 33), some (.int (zI l1)), some (.int (zI l2)), some (.int (zI z1.1))] [] (rd z1.2) _
          refine g_run 1 109 [some (.ref 33), some (.int (zI l1)), some (.int (zI l2)), some (.int (zI z1.1))] [.ref 33] (rd z1.2) rfl ?_
          refine g_getf rfl rfl (rd_o33 _) rfl ?_
          show eG _ 82 112 [some (.ref 33), some (.int (zI l1)), some (.int (zI l2)), some (.int (zI z1.1))] [.ref 36] (rd z1.2) _
          refine g_run 2 114 [some (.ref 33), some (.int (zI l1)), some (.int (zI l2)), some (.int (zI z1.1))] [.ref 33, .int (zI l1), .ref 36] (rd z1.2) rfl ?_
          refine g_getf rfl rfl (rd_o33 _) rfl ?_
          show eG _ 82 117 [some (.ref 33), some (.int (zI l1)), some (.int (zI l2)), some (.int (zI z1.1))] [.ref 40, .int (zI l1), .ref 36] (rd z1.2) _
          refine g_run 1 118 [some (.ref 33), some (.int (zI l1)), some (.int (zI l2)), some (.int (zI z1.1))] [.int (zI l2), .ref 40, .int (zI l1), .ref 36] (rd z1.2) rfl ?_
          refine s_iald rfl (rd_a40 _) h (fun h => ?_)
          show eG _ 82 119 [some (.ref 33), some (.int (zI l1)), some (.int (zI l2)), some (.int (zI z1.1))] [.int (zI (zA z1.2 40 l2)), .int (zI l1), .ref 36] (rd z1.2) _
          refine g_run 3 122 [some (.ref 33), some (.int (zI l1)), some (.int (zI l2)), some (.int (zI z1.1))] [.int (zI l2), .int (zI l1), .ref 33, .int (zI (zA z1.2 40 l2)), .int (zI l1), .ref 36] (rd z1.2) rfl ?_
          refine s_vir (fun z => some (.int (zI z))) (fun _ => rd z1.2) rfl rfl rfl (rd_o33 _) rfl rfl (fun z hz => sC_far o n z1.2 l1 l2 hz) rfl h (fun z3 h => ?_)
          show eG _ 82 125 [some (.ref 33), some (.int (zI l1)), some (.int (zI l2)), some (.int (zI z1.1))] [.int (zI z3), .int (zI (zA z1.2 40 l2)), .int (zI l1), .ref 36] (rd z1.2) _
          refine s_isub rfl ?_
          refine s_iast rfl (rd_a36 _) (rw_a36 _ _) h (fun h => ?_)
          show eG _ 82 127 [some (.ref 33), some (.int (zI l1)), some (.int (zI l2)), some (.int (zI z1.1))] [] (rd (wA z1.2 36 l1 ((zA z1.2 40 l2) - z3))) _
          refine g_run 1 128 [some (.ref 33), some (.int (zI l1)), some (.int (zI l2)), some (.int (zI z1.1))] [.ref 33] (rd (wA z1.2 36 l1 ((zA z1.2 40 l2) - z3))) rfl ?_
          refine g_getf rfl rfl (rd_o33 _) rfl ?_
          show eG _ 82 131 [some (.ref 33), some (.int (zI l1)), some (.int (zI l2)), some (.int (zI z1.1))] [.ref 37] (rd (wA z1.2 36 l1 ((zA z1.2 40 l2) - z3))) _
          refine g_run 2 133 [some (.ref 33), some (.int (zI l1)), some (.int (zI l2)), some (.int (zI z1.1))] [.int (zI l2), .int (zI l1), .ref 37] (rd (wA z1.2 36 l1 ((zA z1.2 40 l2) - z3))) rfl ?_
          refine s_iast rfl (rd_a37 _) (rw_a37 _ _) h (fun h => ?_)
          show eG _ 82 134 [some (.ref 33), some (.int (zI l1)), some (.int (zI l2)), some (.int (zI z1.1))] [] (rd (wA (wA z1.2 36 l1 ((zA z1.2 40 l2) - z3)) 37 l1 l2)) _
          refine g_run 3 137 [some (.ref 33), some (.int (zI l1)), some (.int (zI l2)), some (.int (zI 1))] [.int (zI 1)] (rd (wA (wA z1.2 36 l1 ((zA z1.2 40 l2) - z3)) 37 l1 l2)) rfl ?_
          exact s_retB rfl rfl h (fun h => by cases h; exact rfl)
  · skip
    refine s_icmp_ge rfl h (fun h => ?_) (fun h => ?_)
    · show eG _ 82 63 [some (.ref 33), some (.int (zI l1)), some (.int (zI l2)), some (.int (zI 0))] [] (rd S) _
      cases h
      exact j
    · show eG _ 82 13 [some (.ref 33), some (.int (zI l1)), some (.int (zI l2)), some (.int (zI 0))] [] (rd S) _
      refine g_run 1 14 [some (.ref 33), some (.int (zI l1)), some (.int (zI l2)), some (.int (zI 0))] [.ref 33] (rd S) rfl ?_
      refine g_getf rfl rfl (rd_o33 _) rfl ?_
      show eG _ 82 17 [some (.ref 33), some (.int (zI l1)), some (.int (zI l2)), some (.int (zI 0))] [.ref 36] (rd S) _
      refine g_run 1 18 [some (.ref 33), some (.int (zI l1)), some (.int (zI l2)), some (.int (zI 0))] [.int (zI l1), .ref 36] (rd S) rfl ?_
      refine s_iald rfl (rd_a36 _) h (fun h => ?_)
      show eG _ 82 19 [some (.ref 33), some (.int (zI l1)), some (.int (zI l2)), some (.int (zI 0))] [.int (zI (zA S 36 l1))] (rd S) _
      refine g_run 3 22 [some (.ref 33), some (.int (zI l1)), some (.int (zI l2)), some (.int (zI 0))] [.int (zI l2), .int (zI l1), .ref 33, .int (zI (zA S 36 l1))] (rd S) rfl ?_
      refine s_vir (fun z => some (.int (zI z))) (fun _ => rd S) rfl rfl rfl (rd_o33 _) rfl rfl (fun z hz => sC_far o n S l1 l2 hz) rfl h (fun z4 h => ?_)
      show eG _ 82 25 [some (.ref 33), some (.int (zI l1)), some (.int (zI l2)), some (.int (zI 0))] [.int (zI z4), .int (zI (zA S 36 l1))] (rd S) _
      refine s_iadd rfl ?_
      refine g_run 1 27 [some (.ref 33), some (.int (zI l1)), some (.int (zI l2)), some (.int (zI 0))] [.ref 33, .int (zI ((zA S 36 l1) + z4))] (rd S) rfl ?_
      refine g_getf rfl rfl (rd_o33 _) rfl ?_
      show eG _ 82 30 [some (.ref 33), some (.int (zI l1)), some (.int (zI l2)), some (.int (zI 0))] [.ref 40, .int (zI ((zA S 36 l1) + z4))] (rd S) _
      refine g_run 1 31 [some (.ref 33), some (.int (zI l1)), some (.int (zI l2)), some (.int (zI 0))] [.int (zI l2), .ref 40, .int (zI ((zA S 36 l1) + z4))] (rd S) rfl ?_
      refine s_iald rfl (rd_a40 _) h (fun h => ?_)
      show eG _ 82 32 [some (.ref 33), some (.int (zI l1)), some (.int (zI l2)), some (.int (zI 0))] [.int (zI (zA S 40 l2)), .int (zI ((zA S 36 l1) + z4))] (rd S) _
      refine s_icmp_ge rfl h (fun h => ?_) (fun h => ?_)
      · show eG _ 82 63 [some (.ref 33), some (.int (zI l1)), some (.int (zI l2)), some (.int (zI 0))] [] (rd S) _
        cases h
        exact j
      · show eG _ 82 35 [some (.ref 33), some (.int (zI l1)), some (.int (zI l2)), some (.int (zI 0))] [] (rd S) _
        refine g_run 1 36 [some (.ref 33), some (.int (zI l1)), some (.int (zI l2)), some (.int (zI 0))] [.ref 33] (rd S) rfl ?_
        refine g_getf rfl rfl (rd_o33 _) rfl ?_
        show eG _ 82 39 [some (.ref 33), some (.int (zI l1)), some (.int (zI l2)), some (.int (zI 0))] [.ref 40] (rd S) _
        refine g_run 2 41 [some (.ref 33), some (.int (zI l1)), some (.int (zI l2)), some (.int (zI 0))] [.ref 33, .int (zI l2), .ref 40] (rd S) rfl ?_
        refine g_getf rfl rfl (rd_o33 _) rfl ?_
        show eG _ 82 44 [some (.ref 33), some (.int (zI l1)), some (.int (zI l2)), some (.int (zI 0))] [.ref 36, .int (zI l2), .ref 40] (rd S) _
        refine g_run 1 45 [some (.ref 33), some (.int (zI l1)), some (.int (zI l2)), some (.int (zI 0))] [.int (zI l1), .ref 36, .int (zI l2), .ref 40] (rd S) rfl ?_
        refine s_iald rfl (rd_a36 _) h (fun h => ?_)
        show eG _ 82 46 [some (.ref 33), some (.int (zI l1)), some (.int (zI l2)), some (.int (zI 0))] [.int (zI (zA S 36 l1)), .int (zI l2), .ref 40] (rd S) _
        refine g_run 3 49 [some (.ref 33), some (.int (zI l1)), some (.int (zI l2)), some (.int (zI 0))] [.int (zI l2), .int (zI l1), .ref 33, .int (zI (zA S 36 l1)), .int (zI l2), .ref 40] (rd S) rfl ?_
        refine s_vir (fun z => some (.int (zI z))) (fun _ => rd S) rfl rfl rfl (rd_o33 _) rfl rfl (fun z hz => sC_far o n S l1 l2 hz) rfl h (fun z5 h => ?_)
        show eG _ 82 52 [some (.ref 33), some (.int (zI l1)), some (.int (zI l2)), some (.int (zI 0))] [.int (zI z5), .int (zI (zA S 36 l1)), .int (zI l2), .ref 40] (rd S) _
        refine s_iadd rfl ?_
        refine s_iast rfl (rd_a40 _) (rw_a40 _ _) h (fun h => ?_)
        show eG _ 82 54 [some (.ref 33), some (.int (zI l1)), some (.int (zI l2)), some (.int (zI 0))] [] (rd (wA S 40 l2 ((zA S 36 l1) + z5))) _
        refine g_run 1 55 [some (.ref 33), some (.int (zI l1)), some (.int (zI l2)), some (.int (zI 0))] [.ref 33] (rd (wA S 40 l2 ((zA S 36 l1) + z5))) rfl ?_
        refine g_getf rfl rfl (rd_o33 _) rfl ?_
        show eG _ 82 58 [some (.ref 33), some (.int (zI l1)), some (.int (zI l2)), some (.int (zI 0))] [.ref 41] (rd (wA S 40 l2 ((zA S 36 l1) + z5))) _
        refine g_run 2 60 [some (.ref 33), some (.int (zI l1)), some (.int (zI l2)), some (.int (zI 0))] [.int (zI l1), .int (zI l2), .ref 41] (rd (wA S 40 l2 ((zA S 36 l1) + z5))) rfl ?_
        refine s_iast rfl (rd_a41 _) (rw_a41 _ _) h (fun h => ?_)
        show eG _ 82 61 [some (.ref 33), some (.int (zI l1)), some (.int (zI l2)), some (.int (zI 0))] [] (rd (wA (wA S 40 l2 ((zA S 36 l1) + z5)) 41 l2 l1)) _
        refine g_run 2 63 [some (.ref 33), some (.int (zI l1)), some (.int (zI l2)), some (.int (zI 1))] [] (rd (wA (wA S 40 l2 ((zA S 36 l1) + z5)) 41 l2 l1)) rfl ?_
        cases h
        exact j
def fC_findWays_1 : Nat → ZS → Int → Option (ZS)
  | 0, _, _ => none
  | n + 1, S, l1 => gC l1 (zF S 33 9) (if l1 < (zF S 33 9) then gX l1 9 ((gC (zA S 35 l1) 0 (if 0 < (zA S 35 l1) then some 0 else some 1000000)).bind fun z1 => gX l1 9 (gX l1 9 (fC_findWays_1 n (wA (wA S 36 l1 z1) 37 l1 (-1)) (l1 + 1)))) else some S)
set_option maxRecDepth 100000 in
set_option maxHeartbeats 4000000 in
theorem sC_findWays_1 (o : eO) : ∀ (n : Nat) (S : ZS) (l1 : Int) {w : ZS} {r : eP} (h : fC_findWays_1 n S l1 = some w) (hk : eG o 81 44 [some (.ref 33), none, none, none, none] [] (rd w) r), eG o 81 2 [some (.ref 33), some (.int (zI l1)), none, none, none] [] (rd S) r := by
  intro n
  induction n with
  | zero => intro S l1 w r h hk; unfold fC_findWays_1 at h; cases h
  | succ n ih =>
    intro S l1 w r h hk
    unfold fC_findWays_1 at h
    refine g_run 2 4 [some (.ref 33), some (.int (zI l1)), none, none, none] [.ref 33, .int (zI l1)] (rd S) rfl ?_
    refine g_getf rfl rfl (rd_o33 _) rfl ?_
    show eG _ 81 7 [some (.ref 33), some (.int (zI l1)), none, none, none] [.int (zI (zF S 33 9)), .int (zI l1)] (rd S) _
    refine s_icmp_ge rfl h (fun h => ?_) (fun h => ?_)
    · show eG _ 81 44 [some (.ref 33), some (.int (zI l1)), none, none, none] [] (rd S) _
      refine g_fgt [false, true, true, true, true] ?_
      show eG _ 81 44 [some (.ref 33), none, none, none, none] [] (rd S) _
      cases h
      exact hk
    · show eG _ 81 10 [some (.ref 33), some (.int (zI l1)), none, none, none] [] (rd S) _
      refine g_run 1 11 [some (.ref 33), some (.int (zI l1)), none, none, none] [.ref 33] (rd S) rfl ?_
      refine g_getf rfl rfl (rd_o33 _) rfl ?_
      show eG _ 81 14 [some (.ref 33), some (.int (zI l1)), none, none, none] [.ref 36] (rd S) _
      refine g_run 2 16 [some (.ref 33), some (.int (zI l1)), none, none, none] [.ref 33, .int (zI l1), .ref 36] (rd S) rfl ?_
      refine g_getf rfl rfl (rd_o33 _) rfl ?_
      show eG _ 81 19 [some (.ref 33), some (.int (zI l1)), none, none, none] [.ref 35, .int (zI l1), .ref 36] (rd S) _
      refine g_run 1 20 [some (.ref 33), some (.int (zI l1)), none, none, none] [.int (zI l1), .ref 35, .int (zI l1), .ref 36] (rd S) rfl ?_
      refine s_iald rfl (rd_a35 _) h (fun h => ?_)
      show eG _ 81 21 [some (.ref 33), some (.int (zI l1)), none, none, none] [.int (zI (zA S 35 l1)), .int (zI l1), .ref 36] (rd S) _
      refine s_join (α := Int) (fun z => eG o 81 30 [some (.ref 33), some (.int (zI l1)), none, none, none] [.int (zI z), .int (zI l1), .ref 36] (rd S) r) h (fun z1 h => ?_) (fun z1 h j => ?_)
      · show eG _ 81 30 [some (.ref 33), some (.int (zI l1)), none, none, none] [.int (zI z1), .int (zI l1), .ref 36] (rd S) _
        refine s_iast rfl (rd_a36 _) (rw_a36 _ _) h (fun h => ?_)
        show eG _ 81 31 [some (.ref 33), some (.int (zI l1)), none, none, none] [] (rd (wA S 36 l1 z1)) _
        refine g_run 1 32 [some (.ref 33), some (.int (zI l1)), none, none, none] [.ref 33] (rd (wA S 36 l1 z1)) rfl ?_
        refine g_getf rfl rfl (rd_o33 _) rfl ?_
        show eG _ 81 35 [some (.ref 33), some (.int (zI l1)), none, none, none] [.ref 37] (rd (wA S 36 l1 z1)) _
        refine g_run 2 37 [some (.ref 33), some (.int (zI l1)), none, none, none] [.int (zI (-1)), .int (zI l1), .ref 37] (rd (wA S 36 l1 z1)) rfl ?_
        refine s_iast rfl (rd_a37 _) (rw_a37 _ _) h (fun h => ?_)
        show eG _ 81 38 [some (.ref 33), some (.int (zI l1)), none, none, none] [] (rd (wA (wA S 36 l1 z1) 37 l1 (-1))) _
        refine s_iinc (L' := [some (.ref 33), some (.int (zI (l1 + 1))), none, none, none]) rfl rfl rfl ?_
        refine g_run 1 2 [some (.ref 33), some (.int (zI (l1 + 1))), none, none, none] [] (rd (wA (wA S 36 l1 z1) 37 l1 (-1))) rfl ?_
        exact ih (wA (wA S 36 l1 z1) 37 l1 (-1)) (l1 + 1) h hk
      · skip
        refine s_if_le rfl h (fun h => ?_) (fun h => ?_)
        · show eG _ 81 28 [some (.ref 33), some (.int (zI l1)), none, none, none] [.int (zI l1), .ref 36] (rd S) _
          refine g_run 1 30 [some (.ref 33), some (.int (zI l1)), none, none, none] [.int (zI 1000000), .int (zI l1), .ref 36] (rd S) rfl ?_
          cases h
          exact j
        · show eG _ 81 24 [some (.ref 33), some (.int (zI l1)), none, none, none] [.int (zI l1), .ref 36] (rd S) _
          refine g_run 2 30 [some (.ref 33), some (.int (zI l1)), none, none, none] [.int (zI 0), .int (zI l1), .ref 36] (rd S) rfl ?_
          cases h
          exact j
def fC_findWays_2 : Nat → ZS → Int → Option (ZS)
  | 0, _, _ => none
  | n + 1, S, l1 => gC l1 (zF S 33 10) (if l1 < (zF S 33 10) then gX l1 8 (gX l1 8 (fC_findWays_2 n (wA (wA S 40 l1 1000000) 41 l1 (-1)) (l1 + 1))) else some S)
set_option maxRecDepth 100000 in
set_option maxHeartbeats 4000000 in
theorem sC_findWays_2 (o : eO) : ∀ (n : Nat) (S : ZS) (l1 : Int) {w : ZS} {r : eP} (h : fC_findWays_2 n S l1 = some w) (hk : eG o 81 75 [some (.ref 33), none, none, none, none] [] (rd w) r), eG o 81 46 [some (.ref 33), some (.int (zI l1)), none, none, none] [] (rd S) r := by
  intro n
  induction n with
  | zero => intro S l1 w r h hk; unfold fC_findWays_2 at h; cases h
  | succ n ih =>
    intro S l1 w r h hk
    unfold fC_findWays_2 at h
    refine g_run 2 48 [some (.ref 33), some (.int (zI l1)), none, none, none] [.ref 33, .int (zI l1)] (rd S) rfl ?_
    refine g_getf rfl rfl (rd_o33 _) rfl ?_
    show eG _ 81 51 [some (.ref 33), some (.int (zI l1)), none, none, none] [.int (zI (zF S 33 10)), .int (zI l1)] (rd S) _
    refine s_icmp_ge rfl h (fun h => ?_) (fun h => ?_)
    · show eG _ 81 75 [some (.ref 33), some (.int (zI l1)), none, none, none] [] (rd S) _
      refine g_fgt [false, true, true, true, true] ?_
      show eG _ 81 75 [some (.ref 33), none, none, none, none] [] (rd S) _
      cases h
      exact hk
    · show eG _ 81 54 [some (.ref 33), some (.int (zI l1)), none, none, none] [] (rd S) _
      refine g_run 1 55 [some (.ref 33), some (.int (zI l1)), none, none, none] [.ref 33] (rd S) rfl ?_
      refine g_getf rfl rfl (rd_o33 _) rfl ?_
      show eG _ 81 58 [some (.ref 33), some (.int (zI l1)), none, none, none] [.ref 40] (rd S) _
      refine g_run 2 61 [some (.ref 33), some (.int (zI l1)), none, none, none] [.int (zI 1000000), .int (zI l1), .ref 40] (rd S) rfl ?_
      refine s_iast rfl (rd_a40 _) (rw_a40 _ _) h (fun h => ?_)
      show eG _ 81 62 [some (.ref 33), some (.int (zI l1)), none, none, none] [] (rd (wA S 40 l1 1000000)) _
      refine g_run 1 63 [some (.ref 33), some (.int (zI l1)), none, none, none] [.ref 33] (rd (wA S 40 l1 1000000)) rfl ?_
      refine g_getf rfl rfl (rd_o33 _) rfl ?_
      show eG _ 81 66 [some (.ref 33), some (.int (zI l1)), none, none, none] [.ref 41] (rd (wA S 40 l1 1000000)) _
      refine g_run 2 68 [some (.ref 33), some (.int (zI l1)), none, none, none] [.int (zI (-1)), .int (zI l1), .ref 41] (rd (wA S 40 l1 1000000)) rfl ?_
      refine s_iast rfl (rd_a41 _) (rw_a41 _ _) h (fun h => ?_)
      show eG _ 81 69 [some (.ref 33), some (.int (zI l1)), none, none, none] [] (rd (wA (wA S 40 l1 1000000) 41 l1 (-1))) _
      refine s_iinc (L' := [some (.ref 33), some (.int (zI (l1 + 1))), none, none, none]) rfl rfl rfl ?_
      refine g_run 1 46 [some (.ref 33), some (.int (zI (l1 + 1))), none, none, none] [] (rd (wA (wA S 40 l1 1000000) 41 l1 (-1))) rfl ?_
      exact ih (wA (wA S 40 l1 1000000) 41 l1 (-1)) (l1 + 1) h hk
def fC_findWays_5 : Nat → ZS → Int → Int → Int → Int → Option (Int × ZS)
  | 0, _, _, _, _, _ => none
  | n + 1, S, l1, l2, l3, l4 => gC l4 (zF S 33 10) (if l4 < (zF S 33 10) then (fC_shorten n S l3 l4).bind fun z1 => gC z1.1 0 (if z1.1 = 0 then fC_findWays_5 n z1.2 l1 l2 l3 (l4 + 1) else fC_findWays_5 n z1.2 1 l2 l3 (l4 + 1)) else some (l1, S))
set_option maxRecDepth 100000 in
set_option maxHeartbeats 4000000 in
theorem sC_findWays_5 (o : eO) : ∀ (n : Nat) (S : ZS) (l1 l2 l3 l4 : Int) {w : Int × ZS} {r : eP} (h : fC_findWays_5 n S l1 l2 l3 l4 = some w) (hk : eG o 81 131 [some (.ref 33), some (.int (zI w.1)), some (.int (zI l2)), some (.int (zI l3)), none] [] (rd w.2) r), eG o 81 104 [some (.ref 33), some (.int (zI l1)), some (.int (zI l2)), some (.int (zI l3)), some (.int (zI l4))] [] (rd S) r := by
  intro n
  induction n with
  | zero => intro S l1 l2 l3 l4 w r h hk; unfold fC_findWays_5 at h; cases h
  | succ n ih =>
    intro S l1 l2 l3 l4 w r h hk
    unfold fC_findWays_5 at h
    refine g_run 2 107 [some (.ref 33), some (.int (zI l1)), some (.int (zI l2)), some (.int (zI l3)), some (.int (zI l4))] [.ref 33, .int (zI l4)] (rd S) rfl ?_
    refine g_getf rfl rfl (rd_o33 _) rfl ?_
    show eG _ 81 110 [some (.ref 33), some (.int (zI l1)), some (.int (zI l2)), some (.int (zI l3)), some (.int (zI l4))] [.int (zI (zF S 33 10)), .int (zI l4)] (rd S) _
    refine s_icmp_ge rfl h (fun h => ?_) (fun h => ?_)
    · show eG _ 81 131 [some (.ref 33), some (.int (zI l1)), some (.int (zI l2)), some (.int (zI l3)), some (.int (zI l4))] [] (rd S) _
      refine g_fgt [false, false, false, false, true] ?_
      show eG _ 81 131 [some (.ref 33), some (.int (zI l1)), some (.int (zI l2)), some (.int (zI l3)), none] [] (rd S) _
      cases h
      exact hk
    · show eG _ 81 113 [some (.ref 33), some (.int (zI l1)), some (.int (zI l2)), some (.int (zI l3)), some (.int (zI l4))] [] (rd S) _
      refine g_run 3 117 [some (.ref 33), some (.int (zI l1)), some (.int (zI l2)), some (.int (zI l3)), some (.int (zI l4))] [.int (zI l4), .int (zI l3), .ref 33] (rd S) rfl ?_
      refine s_vir (fun z => some (.int (zI z.1))) (fun z => rd z.2) rfl rfl rfl (rd_o33 _) rfl rfl (fun z hz => sC_shorten o n S l3 l4 hz) rfl h (fun z1 h => ?_)
      show eG _ 81 120 [some (.ref 33), some (.int (zI l1)), some (.int (zI l2)), some (.int (zI l3)), some (.int (zI l4))] [.int (zI z1.1)] (rd z1.2) _
      refine s_if_eq rfl h (fun h => ?_) (fun h => ?_)
      · show eG _ 81 125 [some (.ref 33), some (.int (zI l1)), some (.int (zI l2)), some (.int (zI l3)), some (.int (zI l4))] [] (rd z1.2) _
        refine s_iinc (L' := [some (.ref 33), some (.int (zI l1)), some (.int (zI l2)), some (.int (zI l3)), some (.int (zI (l4 + 1)))]) rfl rfl rfl ?_
        refine g_run 1 104 [some (.ref 33), some (.int (zI l1)), some (.int (zI l2)), some (.int (zI l3)), some (.int (zI (l4 + 1)))] [] (rd z1.2) rfl ?_
        exact ih z1.2 l1 l2 l3 (l4 + 1) h hk
      · show eG _ 81 123 [some (.ref 33), some (.int (zI l1)), some (.int (zI l2)), some (.int (zI l3)), some (.int (zI l4))] [] (rd z1.2) _
        refine g_run 2 125 [some (.ref 33), some (.int (zI 1)), some (.int (zI l2)), some (.int (zI l3)), some (.int (zI l4))] [] (rd z1.2) rfl ?_
        refine s_iinc (L' := [some (.ref 33), some (.int (zI 1)), some (.int (zI l2)), some (.int (zI l3)), some (.int (zI (l4 + 1)))]) rfl rfl rfl ?_
        refine g_run 1 104 [some (.ref 33), some (.int (zI 1)), some (.int (zI l2)), some (.int (zI l3)), some (.int (zI (l4 + 1)))] [] (rd z1.2) rfl ?_
        exact ih z1.2 1 l2 l3 (l4 + 1) h hk
def fC_findWays_4 : Nat → ZS → Int → Int → Int → Option (Int × ZS)
  | 0, _, _, _, _ => none
  | n + 1, S, l1, l2, l3 => gC l3 (zF S 33 9) (if l3 < (zF S 33 9) then (fC_findWays_5 n S l1 l2 l3 0).bind fun z1 => fC_findWays_4 n z1.2 z1.1 l2 (l3 + 1) else some (l1, S))
set_option maxRecDepth 100000 in
set_option maxHeartbeats 4000000 in
theorem sC_findWays_4 (o : eO) : ∀ (n : Nat) (S : ZS) (l1 l2 l3 : Int) {w : Int × ZS} {r : eP} (h : fC_findWays_4 n S l1 l2 l3 = some w) (hk : eG o 81 137 [some (.ref 33), some (.int (zI w.1)), some (.int (zI l2)), none, none] [] (rd w.2) r), eG o 81 93 [some (.ref 33), some (.int (zI l1)), some (.int (zI l2)), some (.int (zI l3)), none] [] (rd S) r := by
  intro n
  induction n with
  | zero => intro S l1 l2 l3 w r h hk; unfold fC_findWays_4 at h; cases h
  | succ n ih =>
    intro S l1 l2 l3 w r h hk
    unfold fC_findWays_4 at h
    refine g_run 2 95 [some (.ref 33), some (.int (zI l1)), some (.int (zI l2)), some (.int (zI l3)), none] [.ref 33, .int (zI l3)] (rd S) rfl ?_
    refine g_getf rfl rfl (rd_o33 _) rfl ?_
    show eG _ 81 98 [some (.ref 33), some (.int (zI l1)), some (.int (zI l2)), some (.int (zI l3)), none] [.int (zI (zF S 33 9)), .int (zI l3)] (rd S) _
    refine s_icmp_ge rfl h (fun h => ?_) (fun h => ?_)
    · show eG _ 81 137 [some (.ref 33), some (.int (zI l1)), some (.int (zI l2)), some (.int (zI l3)), none] [] (rd S) _
      refine g_fgt [false, false, false, true, true] ?_
      show eG _ 81 137 [some (.ref 33), some (.int (zI l1)), some (.int (zI l2)), none, none] [] (rd S) _
      cases h
      exact hk
    · show eG _ 81 101 [some (.ref 33), some (.int (zI l1)), some (.int (zI l2)), some (.int (zI l3)), none] [] (rd S) _
      refine g_run 2 104 [some (.ref 33), some (.int (zI l1)), some (.int (zI l2)), some (.int (zI l3)), some (.int (zI 0))] [] (rd S) rfl ?_
      obtain ⟨z1, h1, h⟩ := zB_inv h
      refine sC_findWays_5 o n S l1 l2 l3 0 h1 ?_
      show eG _ 81 131 [some (.ref 33), some (.int (zI z1.1)), some (.int (zI l2)), some (.int (zI l3)), none] [] (rd z1.2) _
      refine s_iinc (L' := [some (.ref 33), some (.int (zI z1.1)), some (.int (zI l2)), some (.int (zI (l3 + 1))), none]) rfl rfl rfl ?_
      refine g_run 1 93 [some (.ref 33), some (.int (zI z1.1)), some (.int (zI l2)), some (.int (zI (l3 + 1))), none] [] (rd z1.2) rfl ?_
      exact ih z1.2 z1.1 l2 (l3 + 1) h hk
def fC_findWays_3 : Nat → ZS → Int → Int → Option (ZS)
  | 0, _, _, _ => none
  | n + 1, S, l1, l2 => gC l2 17 (if l2 < 17 then gC l1 0 (if l1 = 0 then some S else (fC_findWays_4 n S 0 l2 0).bind fun z1 => fC_findWays_3 n z1.2 z1.1 (l2 + 1)) else some S)
set_option maxRecDepth 100000 in
set_option maxHeartbeats 4000000 in
theorem sC_findWays_3 (o : eO) : ∀ (n : Nat) (S : ZS) (l1 l2 : Int) {w : ZS} {r : eP} (h : fC_findWays_3 n S l1 l2 = some w) (hk : eG o 81 143 [none, none, none, none, none] [] (rd w) r), eG o 81 79 [some (.ref 33), some (.int (zI l1)), some (.int (zI l2)), none, none] [] (rd S) r := by
  intro n
  induction n with
  | zero => intro S l1 l2 w r h hk; unfold fC_findWays_3 at h; cases h
  | succ n ih =>
    intro S l1 l2 w r h hk
    unfold fC_findWays_3 at h
    refine g_run 2 82 [some (.ref 33), some (.int (zI l1)), some (.int (zI l2)), none, none] [.int (zI 17), .int (zI l2)] (rd S) rfl ?_
    refine s_icmp_ge rfl h (fun h => ?_) (fun h => ?_)
    · show eG _ 81 143 [some (.ref 33), some (.int (zI l1)), some (.int (zI l2)), none, none] [] (rd S) _
      refine g_fgt [true, true, true, true, true] ?_
      show eG _ 81 143 [none, none, none, none, none] [] (rd S) _
      cases h
      exact hk
    · show eG _ 81 85 [some (.ref 33), some (.int (zI l1)), some (.int (zI l2)), none, none] [] (rd S) _
      refine g_run 1 86 [some (.ref 33), some (.int (zI l1)), some (.int (zI l2)), none, none] [.int (zI l1)] (rd S) rfl ?_
      refine s_if_eq rfl h (fun h => ?_) (fun h => ?_)
      · show eG _ 81 143 [some (.ref 33), some (.int (zI l1)), some (.int (zI l2)), none, none] [] (rd S) _
        refine g_fgt [true, true, true, true, true] ?_
        show eG _ 81 143 [none, none, none, none, none] [] (rd S) _
        cases h
        exact hk
      · show eG _ 81 89 [some (.ref 33), some (.int (zI l1)), some (.int (zI l2)), none, none] [] (rd S) _
        refine g_run 4 93 [some (.ref 33), some (.int (zI 0)), some (.int (zI l2)), some (.int (zI 0)), none] [] (rd S) rfl ?_
        obtain ⟨z1, h1, h⟩ := zB_inv h
        refine sC_findWays_4 o n S 0 l2 0 h1 ?_
        show eG _ 81 137 [some (.ref 33), some (.int (zI z1.1)), some (.int (zI l2)), none, none] [] (rd z1.2) _
        refine s_iinc (L' := [some (.ref 33), some (.int (zI z1.1)), some (.int (zI (l2 + 1))), none, none]) rfl rfl rfl ?_
        refine g_run 1 79 [some (.ref 33), some (.int (zI z1.1)), some (.int (zI (l2 + 1))), none, none] [] (rd z1.2) rfl ?_
        exact ih z1.2 z1.1 (l2 + 1) h hk
def fC_findWays (n : Nat) (S : ZS) : Option (ZS) := (fC_findWays_1 n S 0).bind fun z1 => (fC_findWays_2 n z1 0).bind fun z2 => (fC_findWays_3 n z2 1 0).bind fun z3 => some z3
set_option maxRecDepth 100000 in
set_option maxHeartbeats 4000000 in
theorem sC_findWays (o : eO) (n : Nat) (S : ZS) {w : ZS} (h : fC_findWays n S = some w) : eG o 81 0 (eEnt 81 [.ref 33]) [] (rd S) (rv (none) (rd w)) := by
  unfold fC_findWays at h
  show eG o 81 0 [some (.ref 33), none, none, none, none] [] (rd S) _
  refine g_run 2 2 [some (.ref 33), some (.int (zI 0)), none, none, none] [] (rd S) rfl ?_
  obtain ⟨z1, h1, h⟩ := zB_inv h
  refine sC_findWays_1 o n S 0 h1 ?_
  show eG _ 81 44 [some (.ref 33), none, none, none, none] [] (rd z1) _
  refine g_run 2 46 [some (.ref 33), some (.int (zI 0)), none, none, none] [] (rd z1) rfl ?_
  obtain ⟨z2, h1, h⟩ := zB_inv h
  refine sC_findWays_2 o n z1 0 h1 ?_
  show eG _ 81 75 [some (.ref 33), none, none, none, none] [] (rd z2) _
  refine g_run 4 79 [some (.ref 33), some (.int (zI 1)), some (.int (zI 0)), none, none] [] (rd z2) rfl ?_
  obtain ⟨z3, h1, h⟩ := zB_inv h
  refine sC_findWays_3 o n z2 1 0 h1 ?_
  show eG _ 81 143 [none, none, none, none, none] [] (rd z3) _
  cases h
  exact g_retv rfl rfl rfl
def fC_nearestSite_1 : Nat → ZS → Int → Int → Option (Int)
  | 0, _, _, _ => none
  | n + 1, S, l1, l2 => gC l2 (zF S 33 10) (if l2 < (zF S 33 10) then gX l2 8 ((gC (zA S 39 l2) 0 (if 0 < (zA S 39 l2) then gX l2 8 (gC (zA S 41 l2) 0 (if (zA S 41 l2) < 0 then some l1 else gC l1 0 (if l1 < 0 then some l2 else gX l2 8 (gX l1 8 (gC (zA S 40 l2) (zA S 40 l1) (if (zA S 40 l2) < (zA S 40 l1) then some l2 else some l1)))))) else some l1)).bind fun z1 => fC_nearestSite_1 n S z1 (l2 + 1)) else some l1)
set_option maxRecDepth 100000 in
set_option maxHeartbeats 4000000 in
theorem sC_nearestSite_1 (o : eO) : ∀ (n : Nat) (S : ZS) (l1 l2 : Int) {w : Int} {r : eP} (h : fC_nearestSite_1 n S l1 l2 = some w) (hk : eG o 85 57 [none, some (.int (zI w)), none] [] (rd S) r), eG o 85 4 [some (.ref 33), some (.int (zI l1)), some (.int (zI l2))] [] (rd S) r := by
  intro n
  induction n with
  | zero => intro S l1 l2 w r h hk; unfold fC_nearestSite_1 at h; cases h
  | succ n ih =>
    intro S l1 l2 w r h hk
    unfold fC_nearestSite_1 at h
    refine g_run 2 6 [some (.ref 33), some (.int (zI l1)), some (.int (zI l2))] [.ref 33, .int (zI l2)] (rd S) rfl ?_
    refine g_getf rfl rfl (rd_o33 _) rfl ?_
    show eG _ 85 9 [some (.ref 33), some (.int (zI l1)), some (.int (zI l2))] [.int (zI (zF S 33 10)), .int (zI l2)] (rd S) _
    refine s_icmp_ge rfl h (fun h => ?_) (fun h => ?_)
    · show eG _ 85 57 [some (.ref 33), some (.int (zI l1)), some (.int (zI l2))] [] (rd S) _
      refine g_fgt [true, false, true] ?_
      show eG _ 85 57 [none, some (.int (zI l1)), none] [] (rd S) _
      cases h
      exact hk
    · show eG _ 85 12 [some (.ref 33), some (.int (zI l1)), some (.int (zI l2))] [] (rd S) _
      refine g_run 1 13 [some (.ref 33), some (.int (zI l1)), some (.int (zI l2))] [.ref 33] (rd S) rfl ?_
      refine g_getf rfl rfl (rd_o33 _) rfl ?_
      show eG _ 85 16 [some (.ref 33), some (.int (zI l1)), some (.int (zI l2))] [.ref 39] (rd S) _
      refine g_run 1 17 [some (.ref 33), some (.int (zI l1)), some (.int (zI l2))] [.int (zI l2), .ref 39] (rd S) rfl ?_
      refine s_iald rfl (rd_a39 _) h (fun h => ?_)
      show eG _ 85 18 [some (.ref 33), some (.int (zI l1)), some (.int (zI l2))] [.int (zI (zA S 39 l2))] (rd S) _
      refine s_join (α := Int) (fun z => eG o 85 51 [some (.ref 33), some (.int (zI z)), some (.int (zI l2))] [] (rd S) r) h (fun z1 h => ?_) (fun z1 h j => ?_)
      · show eG _ 85 51 [some (.ref 33), some (.int (zI z1)), some (.int (zI l2))] [] (rd S) _
        refine s_iinc (L' := [some (.ref 33), some (.int (zI z1)), some (.int (zI (l2 + 1)))]) rfl rfl rfl ?_
        refine g_run 1 4 [some (.ref 33), some (.int (zI z1)), some (.int (zI (l2 + 1)))] [] (rd S) rfl ?_
        exact ih S z1 (l2 + 1) h hk
      · skip
        refine s_if_le rfl h (fun h => ?_) (fun h => ?_)
        · show eG _ 85 51 [some (.ref 33), some (.int (zI l1)), some (.int (zI l2))] [] (rd S) _
          cases h
          exact j
        · show eG _ 85 21 [some (.ref 33), some (.int (zI l1)), some (.int (zI l2))] [] (rd S) _
          refine g_run 1 22 [some (.ref 33), some (.int (zI l1)), some (.int (zI l2))] [.ref 33] (rd S) rfl ?_
          refine g_getf rfl rfl (rd_o33 _) rfl ?_
          show eG _ 85 25 [some (.ref 33), some (.int (zI l1)), some (.int (zI l2))] [.ref 41] (rd S) _
          refine g_run 1 26 [some (.ref 33), some (.int (zI l1)), some (.int (zI l2))] [.int (zI l2), .ref 41] (rd S) rfl ?_
          refine s_iald rfl (rd_a41 _) h (fun h => ?_)
          show eG _ 85 27 [some (.ref 33), some (.int (zI l1)), some (.int (zI l2))] [.int (zI (zA S 41 l2))] (rd S) _
          refine s_if_lt rfl h (fun h => ?_) (fun h => ?_)
          · show eG _ 85 51 [some (.ref 33), some (.int (zI l1)), some (.int (zI l2))] [] (rd S) _
            cases h
            exact j
          · show eG _ 85 30 [some (.ref 33), some (.int (zI l1)), some (.int (zI l2))] [] (rd S) _
            refine g_run 1 31 [some (.ref 33), some (.int (zI l1)), some (.int (zI l2))] [.int (zI l1)] (rd S) rfl ?_
            refine s_if_lt rfl h (fun h => ?_) (fun h => ?_)
            · show eG _ 85 49 [some (.ref 33), some (.int (zI l1)), some (.int (zI l2))] [] (rd S) _
              refine g_run 2 51 [some (.ref 33), some (.int (zI l2)), some (.int (zI l2))] [] (rd S) rfl ?_
              cases h
              exact j
            · show eG _ 85 34 [some (.ref 33), some (.int (zI l1)), some (.int (zI l2))] [] (rd S) _
              refine g_run 1 35 [some (.ref 33), some (.int (zI l1)), some (.int (zI l2))] [.ref 33] (rd S) rfl ?_
              refine g_getf rfl rfl (rd_o33 _) rfl ?_
              show eG _ 85 38 [some (.ref 33), some (.int (zI l1)), some (.int (zI l2))] [.ref 40] (rd S) _
              refine g_run 1 39 [some (.ref 33), some (.int (zI l1)), some (.int (zI l2))] [.int (zI l2), .ref 40] (rd S) rfl ?_
              refine s_iald rfl (rd_a40 _) h (fun h => ?_)
              show eG _ 85 40 [some (.ref 33), some (.int (zI l1)), some (.int (zI l2))] [.int (zI (zA S 40 l2))] (rd S) _
              refine g_run 1 41 [some (.ref 33), some (.int (zI l1)), some (.int (zI l2))] [.ref 33, .int (zI (zA S 40 l2))] (rd S) rfl ?_
              refine g_getf rfl rfl (rd_o33 _) rfl ?_
              show eG _ 85 44 [some (.ref 33), some (.int (zI l1)), some (.int (zI l2))] [.ref 40, .int (zI (zA S 40 l2))] (rd S) _
              refine g_run 1 45 [some (.ref 33), some (.int (zI l1)), some (.int (zI l2))] [.int (zI l1), .ref 40, .int (zI (zA S 40 l2))] (rd S) rfl ?_
              refine s_iald rfl (rd_a40 _) h (fun h => ?_)
              show eG _ 85 46 [some (.ref 33), some (.int (zI l1)), some (.int (zI l2))] [.int (zI (zA S 40 l1)), .int (zI (zA S 40 l2))] (rd S) _
              refine s_icmp_ge rfl h (fun h => ?_) (fun h => ?_)
              · show eG _ 85 51 [some (.ref 33), some (.int (zI l1)), some (.int (zI l2))] [] (rd S) _
                cases h
                exact j
              · show eG _ 85 49 [some (.ref 33), some (.int (zI l1)), some (.int (zI l2))] [] (rd S) _
                refine g_run 2 51 [some (.ref 33), some (.int (zI l2)), some (.int (zI l2))] [] (rd S) rfl ?_
                cases h
                exact j
def fC_nearestSite (n : Nat) (S : ZS) : Option (Int) := (fC_nearestSite_1 n S (-1) 0).bind fun z1 => some z1
set_option maxRecDepth 100000 in
set_option maxHeartbeats 4000000 in
theorem sC_nearestSite (o : eO) (n : Nat) (S : ZS) {w : Int} (h : fC_nearestSite n S = some w) : eG o 85 0 (eEnt 85 [.ref 33]) [] (rd S) (rv (some (.int (zI w))) (rd S)) := by
  unfold fC_nearestSite at h
  show eG o 85 0 [some (.ref 33), none, none] [] (rd S) _
  refine g_run 4 4 [some (.ref 33), some (.int (zI (-1))), some (.int (zI 0))] [] (rd S) rfl ?_
  obtain ⟨z1, h1, h⟩ := zB_inv h
  refine sC_nearestSite_1 o n S (-1) 0 h1 ?_
  show eG _ 85 57 [none, some (.int (zI z1)), none] [] (rd S) _
  refine g_run 1 58 [none, some (.int (zI z1)), none] [.int (zI z1)] (rd S) rfl ?_
  cases h
  exact s_ret rfl rfl rfl
