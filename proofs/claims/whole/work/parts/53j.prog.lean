def fM_readNumber_1 : Nat → ZS → Int → Int → Int → Int → Option (Int × ZS)
  | 0, _, _, _, _, _ => none
  | n + 1, S, l1, l2, l3, l4 => gC (zF S 49 10) (zF S 49 9) (if (zF S 49 10) < (zF S 49 9) then gX (zF S 49 10) 160 (gC (zA S 52 (zF S 49 10)) 0 ((fM_in n S (zA S 52 (zF S 49 10)) 48 57).bind fun z1 => gC z1 0 (if z1 = 0 then some (l4, S) else gC l4 999 (if 999 < l4 then fM_readNumber_1 n (wF S 49 10 ((zF S 49 10) + 1)) l1 l2 l3 l4 else gX (zF S 49 10) 160 (fM_readNumber_1 n (wF S 49 10 ((zF S 49 10) + 1)) l1 l2 l3 (((10 * l4) + (zA S 52 (zF S 49 10))) - 48)))))) else some (l4, S))
set_option maxRecDepth 100000 in
set_option maxHeartbeats 4000000 in
theorem sM_readNumber_1 (o : eO) : ∀ (n : Nat) (S : ZS) (l1 l2 l3 l4 : Int) {w : Int × ZS} {r : eP} (h : fM_readNumber_1 n S l1 l2 l3 l4 = some w) (hk : eG o 148 92 [some (.ref 49), some (.int (zI l1)), some (.int (zI l2)), some (.int (zI l3)), some (.int (zI w.1))] [] (rd w.2) r), eG o 148 13 [some (.ref 49), some (.int (zI l1)), some (.int (zI l2)), some (.int (zI l3)), some (.int (zI l4))] [] (rd S) r := by
  intro n
  induction n with
  | zero => intro S l1 l2 l3 l4 w r h hk; unfold fM_readNumber_1 at h; cases h
  | succ n ih =>
    intro S l1 l2 l3 l4 w r h hk
    unfold fM_readNumber_1 at h
    refine g_run 1 14 [some (.ref 49), some (.int (zI l1)), some (.int (zI l2)), some (.int (zI l3)), some (.int (zI l4))] [.ref 49] (rd S) rfl ?_
    refine g_getf rfl rfl (rd_o49 _) rfl ?_
    show eG _ 148 17 [some (.ref 49), some (.int (zI l1)), some (.int (zI l2)), some (.int (zI l3)), some (.int (zI l4))] [.int (zI (zF S 49 10))] (rd S) _
    refine g_run 1 18 [some (.ref 49), some (.int (zI l1)), some (.int (zI l2)), some (.int (zI l3)), some (.int (zI l4))] [.ref 49, .int (zI (zF S 49 10))] (rd S) rfl ?_
    refine g_getf rfl rfl (rd_o49 _) rfl ?_
    show eG _ 148 21 [some (.ref 49), some (.int (zI l1)), some (.int (zI l2)), some (.int (zI l3)), some (.int (zI l4))] [.int (zI (zF S 49 9)), .int (zI (zF S 49 10))] (rd S) _
    refine s_icmp_ge rfl h (fun h => ?_) (fun h => ?_)
    · show eG _ 148 92 [some (.ref 49), some (.int (zI l1)), some (.int (zI l2)), some (.int (zI l3)), some (.int (zI l4))] [] (rd S) _
      cases h
      exact hk
    · show eG _ 148 24 [some (.ref 49), some (.int (zI l1)), some (.int (zI l2)), some (.int (zI l3)), some (.int (zI l4))] [] (rd S) _
      refine g_run 1 25 [some (.ref 49), some (.int (zI l1)), some (.int (zI l2)), some (.int (zI l3)), some (.int (zI l4))] [.ref 49] (rd S) rfl ?_
      refine g_getf rfl rfl (rd_o49 _) rfl ?_
      show eG _ 148 28 [some (.ref 49), some (.int (zI l1)), some (.int (zI l2)), some (.int (zI l3)), some (.int (zI l4))] [.ref 52] (rd S) _
      refine g_run 1 29 [some (.ref 49), some (.int (zI l1)), some (.int (zI l2)), some (.int (zI l3)), some (.int (zI l4))] [.ref 49, .ref 52] (rd S) rfl ?_
      refine g_getf rfl rfl (rd_o49 _) rfl ?_
      show eG _ 148 32 [some (.ref 49), some (.int (zI l1)), some (.int (zI l2)), some (.int (zI l3)), some (.int (zI l4))] [.int (zI (zF S 49 10)), .ref 52] (rd S) _
      refine s_iald rfl (rd_a52 _) h (fun h => ?_)
      show eG _ 148 33 [some (.ref 49), some (.int (zI l1)), some (.int (zI l2)), some (.int (zI l3)), some (.int (zI l4))] [.int (zI (zA S 52 (zF S 49 10)))] (rd S) _
      refine s_i2l rfl h (fun h => ?_)
      refine g_run 2 40 [some (.ref 49), some (.int (zI l1)), some (.int (zI l2)), some (.int (zI l3)), some (.int (zI l4))] [.long (zL 57), .long (zL 48), .long (zL (zA S 52 (zF S 49 10)))] (rd S) rfl ?_
      refine s_sta (fun z => some (.int (zI z))) (fun _ => rd S) rfl rfl rfl rfl rfl rfl rfl (fun z hz => sM_in o n S (zA S 52 (zF S 49 10)) 48 57 hz) rfl h (fun z1 h => ?_)
      show eG _ 148 43 [some (.ref 49), some (.int (zI l1)), some (.int (zI l2)), some (.int (zI l3)), some (.int (zI l4))] [.int (zI z1)] (rd S) _
      refine s_if_eq rfl h (fun h => ?_) (fun h => ?_)
      · show eG _ 148 92 [some (.ref 49), some (.int (zI l1)), some (.int (zI l2)), some (.int (zI l3)), some (.int (zI l4))] [] (rd S) _
        cases h
        exact hk
      · show eG _ 148 46 [some (.ref 49), some (.int (zI l1)), some (.int (zI l2)), some (.int (zI l3)), some (.int (zI l4))] [] (rd S) _
        refine g_run 2 51 [some (.ref 49), some (.int (zI l1)), some (.int (zI l2)), some (.int (zI l3)), some (.int (zI l4))] [.int (zI 999), .int (zI l4)] (rd S) rfl ?_
        refine s_icmp_le rfl h (fun h => ?_) (fun h => ?_)
        · show eG _ 148 59 [some (.ref 49), some (.int (zI l1)), some (.int (zI l2)), some (.int (zI l3)), some (.int (zI l4))] [] (rd S) _
          refine g_run 2 63 [some (.ref 49), some (.int (zI l1)), some (.int (zI l2)), some (.int (zI l3)), some (.int (zI l4))] [.int (zI l4), .int (zI 10)] (rd S) rfl ?_
          refine s_imul rfl ?_
          refine g_run 1 65 [some (.ref 49), some (.int (zI l1)), some (.int (zI l2)), some (.int (zI l3)), some (.int (zI l4))] [.ref 49, .int (zI (10 * l4))] (rd S) rfl ?_
          refine g_getf rfl rfl (rd_o49 _) rfl ?_
          show eG _ 148 68 [some (.ref 49), some (.int (zI l1)), some (.int (zI l2)), some (.int (zI l3)), some (.int (zI l4))] [.ref 52, .int (zI (10 * l4))] (rd S) _
          refine g_run 1 69 [some (.ref 49), some (.int (zI l1)), some (.int (zI l2)), some (.int (zI l3)), some (.int (zI l4))] [.ref 49, .ref 52, .int (zI (10 * l4))] (rd S) rfl ?_
          refine g_getf rfl rfl (rd_o49 _) rfl ?_
          show eG _ 148 72 [some (.ref 49), some (.int (zI l1)), some (.int (zI l2)), some (.int (zI l3)), some (.int (zI l4))] [.int (zI (zF S 49 10)), .ref 52, .int (zI (10 * l4))] (rd S) _
          refine s_iald rfl (rd_a52 _) h (fun h => ?_)
          show eG _ 148 73 [some (.ref 49), some (.int (zI l1)), some (.int (zI l2)), some (.int (zI l3)), some (.int (zI l4))] [.int (zI (zA S 52 (zF S 49 10))), .int (zI (10 * l4))] (rd S) _
          refine s_iadd rfl ?_
          refine g_run 1 76 [some (.ref 49), some (.int (zI l1)), some (.int (zI l2)), some (.int (zI l3)), some (.int (zI l4))] [.int (zI 48), .int (zI ((10 * l4) + (zA S 52 (zF S 49 10))))] (rd S) rfl ?_
          refine s_isub rfl ?_
          refine g_run 3 81 [some (.ref 49), some (.int (zI l1)), some (.int (zI l2)), some (.int (zI l3)), some (.int (zI (((10 * l4) + (zA S 52 (zF S 49 10))) - 48)))] [.ref 49, .ref 49] (rd S) rfl ?_
          refine g_getf rfl rfl (rd_o49 _) rfl ?_
          show eG _ 148 84 [some (.ref 49), some (.int (zI l1)), some (.int (zI l2)), some (.int (zI l3)), some (.int (zI (((10 * l4) + (zA S 52 (zF S 49 10))) - 48)))] [.int (zI (zF S 49 10)), .ref 49] (rd S) _
          refine g_run 1 85 [some (.ref 49), some (.int (zI l1)), some (.int (zI l2)), some (.int (zI l3)), some (.int (zI (((10 * l4) + (zA S 52 (zF S 49 10))) - 48)))] [.int (zI 1), .int (zI (zF S 49 10)), .ref 49] (rd S) rfl ?_
          refine s_iadd rfl ?_
          refine s_putf rfl rfl (rd_o49 _) rfl rfl rfl rfl rfl (rw_o49_10 _ _) ?_
          show eG _ 148 89 [some (.ref 49), some (.int (zI l1)), some (.int (zI l2)), some (.int (zI l3)), some (.int (zI (((10 * l4) + (zA S 52 (zF S 49 10))) - 48)))] [] (rd (wF S 49 10 ((zF S 49 10) + 1))) _
          refine g_run 1 13 [some (.ref 49), some (.int (zI l1)), some (.int (zI l2)), some (.int (zI l3)), some (.int (zI (((10 * l4) + (zA S 52 (zF S 49 10))) - 48)))] [] (rd (wF S 49 10 ((zF S 49 10) + 1))) rfl ?_
          exact ih (wF S 49 10 ((zF S 49 10) + 1)) l1 l2 l3 (((10 * l4) + (zA S 52 (zF S 49 10))) - 48) h hk
        · show eG _ 148 54 [some (.ref 49), some (.int (zI l1)), some (.int (zI l2)), some (.int (zI l3)), some (.int (zI l4))] [] (rd S) _
          refine g_run 5 81 [some (.ref 49), some (.int (zI l1)), some (.int (zI l2)), some (.int (zI l3)), some (.int (zI l4))] [.ref 49, .ref 49] (rd S) rfl ?_
          refine g_getf rfl rfl (rd_o49 _) rfl ?_
          show eG _ 148 84 [some (.ref 49), some (.int (zI l1)), some (.int (zI l2)), some (.int (zI l3)), some (.int (zI l4))] [.int (zI (zF S 49 10)), .ref 49] (rd S) _
          refine g_run 1 85 [some (.ref 49), some (.int (zI l1)), some (.int (zI l2)), some (.int (zI l3)), some (.int (zI l4))] [.int (zI 1), .int (zI (zF S 49 10)), .ref 49] (rd S) rfl ?_
          refine s_iadd rfl ?_
          refine s_putf rfl rfl (rd_o49 _) rfl rfl rfl rfl rfl (rw_o49_10 _ _) ?_
          show eG _ 148 89 [some (.ref 49), some (.int (zI l1)), some (.int (zI l2)), some (.int (zI l3)), some (.int (zI l4))] [] (rd (wF S 49 10 ((zF S 49 10) + 1))) _
          refine g_run 1 13 [some (.ref 49), some (.int (zI l1)), some (.int (zI l2)), some (.int (zI l3)), some (.int (zI l4))] [] (rd (wF S 49 10 ((zF S 49 10) + 1))) rfl ?_
          exact ih (wF S 49 10 ((zF S 49 10) + 1)) l1 l2 l3 l4 h hk
def fM_readNumber (n : Nat) (S : ZS) (l1 l2 : Int) : Option (Int × ZS) := (fM_nextByte n S).bind fun z1 => (fM_readNumber_1 n z1.2 l1 l2 (zF z1.2 49 10) 0).bind fun z2 => gC (zF z2.2 49 10) (zF z1.2 49 10) (if (zF z2.2 49 10) = (zF z1.2 49 10) then some (-1, z2.2) else gC z2.1 0 (gC l1 0 (gC l2 0 ((fM_in n z2.2 z2.1 l1 l2).bind fun z3 => gC z3 0 (if z3 = 0 then some (-1, wF z2.2 49 10 (zF z1.2 49 10)) else some (z2.1, z2.2))))))
set_option maxRecDepth 100000 in
set_option maxHeartbeats 4000000 in
theorem sM_readNumber (o : eO) (n : Nat) (S : ZS) (l1 l2 : Int) {w : Int × ZS} (h : fM_readNumber n S l1 l2 = some w) : eG o 148 0 (eEnt 148 [.ref 49, .int (zI l1), .int (zI l2)]) [] (rd S) (rv (some (.int (zI w.1))) (rd w.2)) := by
  unfold fM_readNumber at h
  show eG o 148 0 [some (.ref 49), some (.int (zI l1)), some (.int (zI l2)), none, none] [] (rd S) _
  refine g_run 1 1 [some (.ref 49), some (.int (zI l1)), some (.int (zI l2)), none, none] [.ref 49] (rd S) rfl ?_
  refine s_vir (fun z => some (.int (zI z.1))) (fun z => rd z.2) rfl rfl rfl (rd_o49 _) rfl rfl (fun z hz => sM_nextByte o n S hz) rfl h (fun z1 h => ?_)
  show eG _ 148 4 [some (.ref 49), some (.int (zI l1)), some (.int (zI l2)), none, none] [.int (zI z1.1)] (rd z1.2) _
  refine g_run 2 6 [some (.ref 49), some (.int (zI l1)), some (.int (zI l2)), none, none] [.ref 49] (rd z1.2) rfl ?_
  refine g_getf rfl rfl (rd_o49 _) rfl ?_
  show eG _ 148 9 [some (.ref 49), some (.int (zI l1)), some (.int (zI l2)), none, none] [.int (zI (zF z1.2 49 10))] (rd z1.2) _
  refine g_run 3 13 [some (.ref 49), some (.int (zI l1)), some (.int (zI l2)), some (.int (zI (zF z1.2 49 10))), some (.int (zI 0))] [] (rd z1.2) rfl ?_
  obtain ⟨z2, h1, h⟩ := zB_inv h
  refine sM_readNumber_1 o n z1.2 l1 l2 (zF z1.2 49 10) 0 h1 ?_
  show eG _ 148 92 [some (.ref 49), some (.int (zI l1)), some (.int (zI l2)), some (.int (zI (zF z1.2 49 10))), some (.int (zI z2.1))] [] (rd z2.2) _
  refine g_run 1 93 [some (.ref 49), some (.int (zI l1)), some (.int (zI l2)), some (.int (zI (zF z1.2 49 10))), some (.int (zI z2.1))] [.ref 49] (rd z2.2) rfl ?_
  refine g_getf rfl rfl (rd_o49 _) rfl ?_
  show eG _ 148 96 [some (.ref 49), some (.int (zI l1)), some (.int (zI l2)), some (.int (zI (zF z1.2 49 10))), some (.int (zI z2.1))] [.int (zI (zF z2.2 49 10))] (rd z2.2) _
  refine g_run 1 97 [some (.ref 49), some (.int (zI l1)), some (.int (zI l2)), some (.int (zI (zF z1.2 49 10))), some (.int (zI z2.1))] [.int (zI (zF z1.2 49 10)), .int (zI (zF z2.2 49 10))] (rd z2.2) rfl ?_
  refine s_icmp_ne rfl h (fun h => ?_) (fun h => ?_)
  · show eG _ 148 102 [some (.ref 49), some (.int (zI l1)), some (.int (zI l2)), some (.int (zI (zF z1.2 49 10))), some (.int (zI z2.1))] [] (rd z2.2) _
    refine g_run 1 104 [some (.ref 49), some (.int (zI l1)), some (.int (zI l2)), some (.int (zI (zF z1.2 49 10))), some (.int (zI z2.1))] [.int (zI z2.1)] (rd z2.2) rfl ?_
    refine s_i2l rfl h (fun h => ?_)
    refine g_run 1 106 [some (.ref 49), some (.int (zI l1)), some (.int (zI l2)), some (.int (zI (zF z1.2 49 10))), some (.int (zI z2.1))] [.int (zI l1), .long (zL z2.1)] (rd z2.2) rfl ?_
    refine s_i2l rfl h (fun h => ?_)
    refine g_run 1 108 [some (.ref 49), some (.int (zI l1)), some (.int (zI l2)), some (.int (zI (zF z1.2 49 10))), some (.int (zI z2.1))] [.int (zI l2), .long (zL l1), .long (zL z2.1)] (rd z2.2) rfl ?_
    refine s_i2l rfl h (fun h => ?_)
    refine s_sta (fun z => some (.int (zI z))) (fun _ => rd z2.2) rfl rfl rfl rfl rfl rfl rfl (fun z hz => sM_in o n z2.2 z2.1 l1 l2 hz) rfl h (fun z3 h => ?_)
    show eG _ 148 112 [some (.ref 49), some (.int (zI l1)), some (.int (zI l2)), some (.int (zI (zF z1.2 49 10))), some (.int (zI z2.1))] [.int (zI z3)] (rd z2.2) _
    refine s_if_ne rfl h (fun h => ?_) (fun h => ?_)
    · show eG _ 148 122 [some (.ref 49), some (.int (zI l1)), some (.int (zI l2)), some (.int (zI (zF z1.2 49 10))), some (.int (zI z2.1))] [] (rd z2.2) _
      refine g_run 1 124 [some (.ref 49), some (.int (zI l1)), some (.int (zI l2)), some (.int (zI (zF z1.2 49 10))), some (.int (zI z2.1))] [.int (zI z2.1)] (rd z2.2) rfl ?_
      cases h
      exact s_ret rfl rfl rfl
    · show eG _ 148 115 [some (.ref 49), some (.int (zI l1)), some (.int (zI l2)), some (.int (zI (zF z1.2 49 10))), some (.int (zI z2.1))] [] (rd z2.2) _
      refine g_run 2 117 [some (.ref 49), some (.int (zI l1)), some (.int (zI l2)), some (.int (zI (zF z1.2 49 10))), some (.int (zI z2.1))] [.int (zI (zF z1.2 49 10)), .ref 49] (rd z2.2) rfl ?_
      refine s_putf rfl rfl (rd_o49 _) rfl rfl rfl rfl rfl (rw_o49_10 _ _) ?_
      show eG _ 148 120 [some (.ref 49), some (.int (zI l1)), some (.int (zI l2)), some (.int (zI (zF z1.2 49 10))), some (.int (zI z2.1))] [] (rd (wF z2.2 49 10 (zF z1.2 49 10))) _
      refine g_run 1 121 [some (.ref 49), some (.int (zI l1)), some (.int (zI l2)), some (.int (zI (zF z1.2 49 10))), some (.int (zI z2.1))] [.int (zI (-1))] (rd (wF z2.2 49 10 (zF z1.2 49 10))) rfl ?_
      cases h
      exact s_ret rfl rfl rfl
  · show eG _ 148 100 [some (.ref 49), some (.int (zI l1)), some (.int (zI l2)), some (.int (zI (zF z1.2 49 10))), some (.int (zI z2.1))] [] (rd z2.2) _
    refine g_run 1 101 [some (.ref 49), some (.int (zI l1)), some (.int (zI l2)), some (.int (zI (zF z1.2 49 10))), some (.int (zI z2.1))] [.int (zI (-1))] (rd z2.2) rfl ?_
    cases h
    exact s_ret rfl rfl rfl
def fM_takes (n : Nat) (S : ZS) (l1 : Int) : Option (Int × ZS) := (fM_nextByte n S).bind fun z1 => (gC z1.1 l1 (if z1.1 = l1 then some 1 else some 0)).bind fun z2 => gC z2 0 (if z2 = 0 then gB z2 (some (z2, wF z1.2 49 10 ((zF z1.2 49 10) + 0))) else gB z2 (some (z2, wF z1.2 49 10 ((zF z1.2 49 10) + 1))))
set_option maxRecDepth 100000 in
set_option maxHeartbeats 4000000 in
theorem sM_takes (o : eO) (n : Nat) (S : ZS) (l1 : Int) {w : Int × ZS} (h : fM_takes n S l1 = some w) : eG o 149 0 (eEnt 149 [.ref 49, .int (zI l1)]) [] (rd S) (rv (some (.int (zI w.1))) (rd w.2)) := by
  unfold fM_takes at h
  show eG o 149 0 [some (.ref 49), some (.int (zI l1)), none] [] (rd S) _
  refine g_run 1 1 [some (.ref 49), some (.int (zI l1)), none] [.ref 49] (rd S) rfl ?_
  refine s_vir (fun z => some (.int (zI z.1))) (fun z => rd z.2) rfl rfl rfl (rd_o49 _) rfl rfl (fun z hz => sM_nextByte o n S hz) rfl h (fun z1 h => ?_)
  show eG _ 149 4 [some (.ref 49), some (.int (zI l1)), none] [.int (zI z1.1)] (rd z1.2) _
  refine g_run 1 5 [some (.ref 49), some (.int (zI l1)), none] [.int (zI l1), .int (zI z1.1)] (rd z1.2) rfl ?_
  refine s_join (α := Int) (fun z => eG o 149 13 [some (.ref 49), none, none] [.int (zI z)] (rd z1.2) (rv (some (.int (zI w.1))) (rd w.2))) h (fun z2 h => ?_) (fun z2 h j => ?_)
  · show eG _ 149 13 [some (.ref 49), none, none] [.int (zI z2)] (rd z1.2) _
    refine g_run 3 16 [some (.ref 49), none, some (.int (zI z2))] [.ref 49, .ref 49] (rd z1.2) rfl ?_
    refine g_getf rfl rfl (rd_o49 _) rfl ?_
    show eG _ 149 19 [some (.ref 49), none, some (.int (zI z2))] [.int (zI (zF z1.2 49 10)), .ref 49] (rd z1.2) _
    refine g_run 1 20 [some (.ref 49), none, some (.int (zI z2))] [.int (zI z2), .int (zI (zF z1.2 49 10)), .ref 49] (rd z1.2) rfl ?_
    refine s_if_eq rfl h (fun h => ?_) (fun h => ?_)
    · show eG _ 149 27 [some (.ref 49), none, some (.int (zI z2))] [.int (zI (zF z1.2 49 10)), .ref 49] (rd z1.2) _
      refine g_run 1 28 [some (.ref 49), none, some (.int (zI z2))] [.int (zI 0), .int (zI (zF z1.2 49 10)), .ref 49] (rd z1.2) rfl ?_
      refine s_iadd rfl ?_
      refine s_putf rfl rfl (rd_o49 _) rfl rfl rfl rfl rfl (rw_o49_10 _ _) ?_
      show eG _ 149 32 [some (.ref 49), none, some (.int (zI z2))] [] (rd (wF z1.2 49 10 ((zF z1.2 49 10) + 0))) _
      refine g_run 1 33 [some (.ref 49), none, some (.int (zI z2))] [.int (zI z2)] (rd (wF z1.2 49 10 ((zF z1.2 49 10) + 0))) rfl ?_
      exact s_retB rfl rfl h (fun h => by cases h; exact rfl)
    · show eG _ 149 23 [some (.ref 49), none, some (.int (zI z2))] [.int (zI (zF z1.2 49 10)), .ref 49] (rd z1.2) _
      refine g_run 2 28 [some (.ref 49), none, some (.int (zI z2))] [.int (zI 1), .int (zI (zF z1.2 49 10)), .ref 49] (rd z1.2) rfl ?_
      refine s_iadd rfl ?_
      refine s_putf rfl rfl (rd_o49 _) rfl rfl rfl rfl rfl (rw_o49_10 _ _) ?_
      show eG _ 149 32 [some (.ref 49), none, some (.int (zI z2))] [] (rd (wF z1.2 49 10 ((zF z1.2 49 10) + 1))) _
      refine g_run 1 33 [some (.ref 49), none, some (.int (zI z2))] [.int (zI z2)] (rd (wF z1.2 49 10 ((zF z1.2 49 10) + 1))) rfl ?_
      exact s_retB rfl rfl h (fun h => by cases h; exact rfl)
  · skip
    refine s_icmp_ne rfl h (fun h => ?_) (fun h => ?_)
    · show eG _ 149 12 [some (.ref 49), some (.int (zI l1)), none] [] (rd z1.2) _
      refine g_run 1 13 [some (.ref 49), some (.int (zI l1)), none] [.int (zI 0)] (rd z1.2) rfl ?_
      refine g_fgt [false, true, true] ?_
      show eG _ 149 13 [some (.ref 49), none, none] [.int (zI 0)] (rd z1.2) _
      cases h
      exact j
    · show eG _ 149 8 [some (.ref 49), some (.int (zI l1)), none] [] (rd z1.2) _
      refine g_run 2 13 [some (.ref 49), some (.int (zI l1)), none] [.int (zI 1)] (rd z1.2) rfl ?_
      refine g_fgt [false, true, true] ?_
      show eG _ 149 13 [some (.ref 49), none, none] [.int (zI 1)] (rd z1.2) _
      cases h
      exact j
def fM_readPart (n : Nat) (S : ZS) (l1 : Int) : Option (Int × ZS) := (fM_nextByte n S).bind fun z1 => (gC z1.1 104 (if z1.1 = 104 then some 0 else gC z1.1 98 (if z1.1 = 98 then some 1 else gC z1.1 99 (if z1.1 = 99 then some 2 else gC z1.1 114 (if z1.1 = 114 then some 3 else some (-1)))))).bind fun z2 => gX (5 * l1) 40 (gX (5 * l1) 40 (gC (zA (wA z1.2 53 (5 * l1) z2) 53 (5 * l1)) 0 (if (zA (wA z1.2 53 (5 * l1) z2) 53 (5 * l1)) < 0 then gB 0 (some (0, wA z1.2 53 (5 * l1) z2)) else (fM_readNumber n (wF (wA z1.2 53 (5 * l1) z2) 49 10 ((zF z1.2 49 10) + 1)) 1 99).bind fun z3 => gX ((5 * l1) + 1) 40 (gX ((5 * l1) + 1) 40 (gC (zA (wA z3.2 53 ((5 * l1) + 1) z3.1) 53 ((5 * l1) + 1)) 0 (if (zA (wA z3.2 53 ((5 * l1) + 1) z3.1) 53 ((5 * l1) + 1)) < 0 then gB 0 (some (0, wA z3.2 53 ((5 * l1) + 1) z3.1)) else (fM_takes n (wA z3.2 53 ((5 * l1) + 1) z3.1) 64).bind fun z4 => (gC z4.1 0 (if z4.1 = 0 then some (0, z4.2) else (fM_readNumber n z4.2 0 99).bind fun z17 => some (z17.1, z17.2))).bind fun z5 => gX ((5 * l1) + 2) 40 (gX ((5 * l1) + 2) 40 (gC (zA (wA z5.2 53 ((5 * l1) + 2) z5.1) 53 ((5 * l1) + 2)) 0 (if (zA (wA z5.2 53 ((5 * l1) + 2) z5.1) 53 ((5 * l1) + 2)) < 0 then gB 0 (some (0, wA z5.2 53 ((5 * l1) + 2) z5.1)) else gX ((5 * l1) + 3) 40 ((fM_takes n (wA (wA z5.2 53 ((5 * l1) + 2) z5.1) 53 ((5 * l1) + 3) 0) 111).bind fun z6 => gC z6.1 0 (if z6.1 = 0 then (fM_takes n z6.2 47).bind fun z7 => (gC z7.1 0 (if z7.1 = 0 then some (0, z7.2) else (fM_readSet n z7.2 l1).bind fun z10 => some (z10.1, z10.2))).bind fun z8 => gX ((5 * l1) + 4) 40 (gX ((5 * l1) + 4) 40 (gC (zA (wA z8.2 53 ((5 * l1) + 4) z8.1) 53 ((5 * l1) + 4)) 0 (if (zA (wA z8.2 53 ((5 * l1) + 4) z8.1) 53 ((5 * l1) + 4)) < 0 then gB 0 (some (0, wA z8.2 53 ((5 * l1) + 4) z8.1)) else (fM_nextByte n (wA z8.2 53 ((5 * l1) + 4) z8.1)).bind fun z9 => gC z9.1 42 (if z9.1 = 42 then gX ((5 * l1) + 4) 40 (gC (zand (zA z9.2 53 ((5 * l1) + 4)) (zxor (zF z9.2 49 12) (-1))) 0 (if (zand (zA z9.2 53 ((5 * l1) + 4)) (zxor (zF z9.2 49 12) (-1))) = 0 then gB 1 (some (1, wF (wF z9.2 49 12 (zor (zF z9.2 49 12) (zshl 1 l1))) 49 10 ((zF z9.2 49 10) + 1))) else gB 0 (some (0, z9.2)))) else gB 1 (some (1, z9.2)))))) else (fM_nextByte n z6.2).bind fun z11 => gX ((5 * l1) + 3) 40 (gX ((5 * l1) + 3) 40 (gC (zA (wA z11.2 53 ((5 * l1) + 3) (z11.1 - 48)) 53 ((5 * l1) + 3)) 0 ((fM_in n (wA z11.2 53 ((5 * l1) + 3) (z11.1 - 48)) (zA (wA z11.2 53 ((5 * l1) + 3) (z11.1 - 48)) 53 ((5 * l1) + 3)) 0 3).bind fun z12 => gC z12 0 (if z12 = 0 then gB 0 (some (0, wA z11.2 53 ((5 * l1) + 3) (z11.1 - 48))) else (fM_takes n (wF (wA z11.2 53 ((5 * l1) + 3) (z11.1 - 48)) 49 10 ((zF z11.2 49 10) + 1)) 47).bind fun z13 => (gC z13.1 0 (if z13.1 = 0 then some (0, z13.2) else (fM_readSet n z13.2 l1).bind fun z16 => some (z16.1, z16.2))).bind fun z14 => gX ((5 * l1) + 4) 40 (gX ((5 * l1) + 4) 40 (gC (zA (wA z14.2 53 ((5 * l1) + 4) z14.1) 53 ((5 * l1) + 4)) 0 (if (zA (wA z14.2 53 ((5 * l1) + 4) z14.1) 53 ((5 * l1) + 4)) < 0 then gB 0 (some (0, wA z14.2 53 ((5 * l1) + 4) z14.1)) else (fM_nextByte n (wA z14.2 53 ((5 * l1) + 4) z14.1)).bind fun z15 => gC z15.1 42 (if z15.1 = 42 then gX ((5 * l1) + 4) 40 (gC (zand (zA z15.2 53 ((5 * l1) + 4)) (zxor (zF z15.2 49 12) (-1))) 0 (if (zand (zA z15.2 53 ((5 * l1) + 4)) (zxor (zF z15.2 49 12) (-1))) = 0 then gB 1 (some (1, wF (wF z15.2 49 12 (zor (zF z15.2 49 12) (zshl 1 l1))) 49 10 ((zF z15.2 49 10) + 1))) else gB 0 (some (0, z15.2)))) else gB 1 (some (1, z15.2)))))))))))))))))))))
set_option maxRecDepth 100000 in
set_option maxHeartbeats 4000000 in
theorem sM_readPart (o : eO) (n : Nat) (S : ZS) (l1 : Int) {w : Int × ZS} (h : fM_readPart n S l1 = some w) : eG o 146 0 (eEnt 146 [.ref 49, .int (zI l1)]) [] (rd S) (rv (some (.int (zI w.1))) (rd w.2)) := by
  unfold fM_readPart at h
  show eG o 146 0 [some (.ref 49), some (.int (zI l1)), none, none] [] (rd S) _
  refine g_run 2 2 [some (.ref 49), some (.int (zI l1)), none, none] [.int (zI l1), .int (zI 5)] (rd S) rfl ?_
  refine s_imul rfl ?_
  refine g_run 2 5 [some (.ref 49), some (.int (zI l1)), some (.int (zI (5 * l1))), none] [.ref 49] (rd S) rfl ?_
  refine s_vir (fun z => some (.int (zI z.1))) (fun z => rd z.2) rfl rfl rfl (rd_o49 _) rfl rfl (fun z hz => sM_nextByte o n S hz) rfl h (fun z1 h => ?_)
  show eG _ 146 8 [some (.ref 49), some (.int (zI l1)), some (.int (zI (5 * l1))), none] [.int (zI z1.1)] (rd z1.2) _
  refine g_run 2 10 [some (.ref 49), some (.int (zI l1)), some (.int (zI (5 * l1))), some (.int (zI z1.1))] [.ref 49] (rd z1.2) rfl ?_
  refine g_getf rfl rfl (rd_o49 _) rfl ?_
  show eG _ 146 13 [some (.ref 49), some (.int (zI l1)), some (.int (zI (5 * l1))), some (.int (zI z1.1))] [.ref 53] (rd z1.2) _
  refine g_run 3 17 [some (.ref 49), some (.int (zI l1)), some (.int (zI (5 * l1))), some (.int (zI z1.1))] [.int (zI 104), .int (zI z1.1), .int (zI (5 * l1)), .ref 53] (rd z1.2) rfl ?_
  refine s_join (α := Int) (fun z => eG o 146 55 [some (.ref 49), some (.int (zI l1)), some (.int (zI (5 * l1))), none] [.int (zI z), .int (zI (5 * l1)), .ref 53] (rd z1.2) (rv (some (.int (zI w.1))) (rd w.2))) h (fun z2 h => ?_) (fun z2 h j => ?_)
  · show eG _ 146 55 [some (.ref 49), some (.int (zI l1)), some (.int (zI (5 * l1))), none] [.int (zI z2), .int (zI (5 * l1)), .ref 53] (rd z1.2) _
    refine s_iast rfl (rd_a53 _) (rw_a53 _ _) h (fun h => ?_)
    show eG _ 146 56 [some (.ref 49), some (.int (zI l1)), some (.int (zI (5 * l1))), none] [] (rd (wA z1.2 53 (5 * l1) z2)) _
    refine g_run 1 57 [some (.ref 49), some (.int (zI l1)), some (.int (zI (5 * l1))), none] [.ref 49] (rd (wA z1.2 53 (5 * l1) z2)) rfl ?_
    refine g_getf rfl rfl (rd_o49 _) rfl ?_
    show eG _ 146 60 [some (.ref 49), some (.int (zI l1)), some (.int (zI (5 * l1))), none] [.ref 53] (rd (wA z1.2 53 (5 * l1) z2)) _
    refine g_run 1 61 [some (.ref 49), some (.int (zI l1)), some (.int (zI (5 * l1))), none] [.int (zI (5 * l1)), .ref 53] (rd (wA z1.2 53 (5 * l1) z2)) rfl ?_
    refine s_iald rfl (rd_a53 _) h (fun h => ?_)
    show eG _ 146 62 [some (.ref 49), some (.int (zI l1)), some (.int (zI (5 * l1))), none] [.int (zI (zA (wA z1.2 53 (5 * l1) z2) 53 (5 * l1)))] (rd (wA z1.2 53 (5 * l1) z2)) _
    refine s_if_ge rfl h (fun h => ?_) (fun h => ?_)
    · show eG _ 146 67 [some (.ref 49), some (.int (zI l1)), some (.int (zI (5 * l1))), none] [] (rd (wA z1.2 53 (5 * l1) z2)) _
      refine g_run 2 69 [some (.ref 49), some (.int (zI l1)), some (.int (zI (5 * l1))), none] [.ref 49, .ref 49] (rd (wA z1.2 53 (5 * l1) z2)) rfl ?_
      refine g_getf rfl rfl (rd_o49 _) rfl ?_
      show eG _ 146 72 [some (.ref 49), some (.int (zI l1)), some (.int (zI (5 * l1))), none] [.int (zI (zF z1.2 49 10)), .ref 49] (rd (wA z1.2 53 (5 * l1) z2)) _
      refine g_run 1 73 [some (.ref 49), some (.int (zI l1)), some (.int (zI (5 * l1))), none] [.int (zI 1), .int (zI (zF z1.2 49 10)), .ref 49] (rd (wA z1.2 53 (5 * l1) z2)) rfl ?_
      refine s_iadd rfl ?_
      refine s_putf rfl rfl (rd_o49 _) rfl rfl rfl rfl rfl (rw_o49_10 _ _) ?_
      show eG _ 146 77 [some (.ref 49), some (.int (zI l1)), some (.int (zI (5 * l1))), none] [] (rd (wF (wA z1.2 53 (5 * l1) z2) 49 10 ((zF z1.2 49 10) + 1))) _
      refine g_run 1 78 [some (.ref 49), some (.int (zI l1)), some (.int (zI (5 * l1))), none] [.ref 49] (rd (wF (wA z1.2 53 (5 * l1) z2) 49 10 ((zF z1.2 49 10) + 1))) rfl ?_
      refine g_getf rfl rfl (rd_o49 _) rfl ?_
      show eG _ 146 81 [some (.ref 49), some (.int (zI l1)), some (.int (zI (5 * l1))), none] [.ref 53] (rd (wF (wA z1.2 53 (5 * l1) z2) 49 10 ((zF z1.2 49 10) + 1))) _
      refine g_run 2 83 [some (.ref 49), some (.int (zI l1)), some (.int (zI (5 * l1))), none] [.int (zI 1), .int (zI (5 * l1)), .ref 53] (rd (wF (wA z1.2 53 (5 * l1) z2) 49 10 ((zF z1.2 49 10) + 1))) rfl ?_
      refine s_iadd rfl ?_
      refine g_run 3 88 [some (.ref 49), some (.int (zI l1)), some (.int (zI (5 * l1))), none] [.int (zI 99), .int (zI 1), .ref 49, .int (zI ((5 * l1) + 1)), .ref 53] (rd (wF (wA z1.2 53 (5 * l1) z2) 49 10 ((zF z1.2 49 10) + 1))) rfl ?_
      refine s_vir (fun z => some (.int (zI z.1))) (fun z => rd z.2) rfl rfl rfl (rd_o49 _) rfl rfl (fun z hz => sM_readNumber o n (wF (wA z1.2 53 (5 * l1) z2) 49 10 ((zF z1.2 49 10) + 1)) 1 99 hz) rfl h (fun z3 h => ?_)
      show eG _ 146 91 [some (.ref 49), some (.int (zI l1)), some (.int (zI (5 * l1))), none] [.int (zI z3.1), .int (zI ((5 * l1) + 1)), .ref 53] (rd z3.2) _
      refine s_iast rfl (rd_a53 _) (rw_a53 _ _) h (fun h => ?_)
      show eG _ 146 92 [some (.ref 49), some (.int (zI l1)), some (.int (zI (5 * l1))), none] [] (rd (wA z3.2 53 ((5 * l1) + 1) z3.1)) _
      refine g_run 1 93 [some (.ref 49), some (.int (zI l1)), some (.int (zI (5 * l1))), none] [.ref 49] (rd (wA z3.2 53 ((5 * l1) + 1) z3.1)) rfl ?_
      refine g_getf rfl rfl (rd_o49 _) rfl ?_
      show eG _ 146 96 [some (.ref 49), some (.int (zI l1)), some (.int (zI (5 * l1))), none] [.ref 53] (rd (wA z3.2 53 ((5 * l1) + 1) z3.1)) _
      refine g_run 2 98 [some (.ref 49), some (.int (zI l1)), some (.int (zI (5 * l1))), none] [.int (zI 1), .int (zI (5 * l1)), .ref 53] (rd (wA z3.2 53 ((5 * l1) + 1) z3.1)) rfl ?_
      refine s_iadd rfl ?_
      refine s_iald rfl (rd_a53 _) h (fun h => ?_)
      show eG _ 146 100 [some (.ref 49), some (.int (zI l1)), some (.int (zI (5 * l1))), none] [.int (zI (zA (wA z3.2 53 ((5 * l1) + 1) z3.1) 53 ((5 * l1) + 1)))] (rd (wA z3.2 53 ((5 * l1) + 1) z3.1)) _
      refine s_if_ge rfl h (fun h => ?_) (fun h => ?_)
      · show eG _ 146 105 [some (.ref 49), some (.int (zI l1)), some (.int (zI (5 * l1))), none] [] (rd (wA z3.2 53 ((5 * l1) + 1) z3.1)) _
        refine g_run 1 106 [some (.ref 49), some (.int (zI l1)), some (.int (zI (5 * l1))), none] [.ref 49] (rd (wA z3.2 53 ((5 * l1) + 1) z3.1)) rfl ?_
        refine g_getf rfl rfl (rd_o49 _) rfl ?_
        show eG _ 146 109 [some (.ref 49), some (.int (zI l1)), some (.int (zI (5 * l1))), none] [.ref 53] (rd (wA z3.2 53 ((5 * l1) + 1) z3.1)) _
        refine g_run 2 111 [some (.ref 49), some (.int (zI l1)), some (.int (zI (5 * l1))), none] [.int (zI 2), .int (zI (5 * l1)), .ref 53] (rd (wA z3.2 53 ((5 * l1) + 1) z3.1)) rfl ?_
        refine s_iadd rfl ?_
        refine g_run 2 115 [some (.ref 49), some (.int (zI l1)), some (.int (zI (5 * l1))), none] [.int (zI 64), .ref 49, .int (zI ((5 * l1) + 2)), .ref 53] (rd (wA z3.2 53 ((5 * l1) + 1) z3.1)) rfl ?_
        refine s_vir (fun z => some (.int (zI z.1))) (fun z => rd z.2) rfl rfl rfl (rd_o49 _) rfl rfl (fun z hz => sM_takes o n (wA z3.2 53 ((5 * l1) + 1) z3.1) 64 hz) rfl h (fun z4 h => ?_)
        show eG _ 146 118 [some (.ref 49), some (.int (zI l1)), some (.int (zI (5 * l1))), none] [.int (zI z4.1), .int (zI ((5 * l1) + 2)), .ref 53] (rd z4.2) _
        refine s_join (α := Int × ZS) (fun z => eG o 146 132 [some (.ref 49), some (.int (zI l1)), some (.int (zI (5 * l1))), none] [.int (zI z.1), .int (zI ((5 * l1) + 2)), .ref 53] (rd z.2) (rv (some (.int (zI w.1))) (rd w.2))) h (fun z5 h => ?_) (fun z5 h j => ?_)
        · show eG _ 146 132 [some (.ref 49), some (.int (zI l1)), some (.int (zI (5 * l1))), none] [.int (zI z5.1), .int (zI ((5 * l1) + 2)), .ref 53] (rd z5.2) _
          refine s_iast rfl (rd_a53 _) (rw_a53 _ _) h (fun h => ?_)
          show eG _ 146 133 [some (.ref 49), some (.int (zI l1)), some (.int (zI (5 * l1))), none] [] (rd (wA z5.2 53 ((5 * l1) + 2) z5.1)) _
          refine g_run 1 134 [some (.ref 49), some (.int (zI l1)), some (.int (zI (5 * l1))), none] [.ref 49] (rd (wA z5.2 53 ((5 * l1) + 2) z5.1)) rfl ?_
          refine g_getf rfl rfl (rd_o49 _) rfl ?_
          show eG _ 146 137 [some (.ref 49), some (.int (zI l1)), some (.int (zI (5 * l1))), none] [.ref 53] (rd (wA z5.2 53 ((5 * l1) + 2) z5.1)) _
          refine g_run 2 139 [some (.ref 49), some (.int (zI l1)), some (.int (zI (5 * l1))), none] [.int (zI 2), .int (zI (5 * l1)), .ref 53] (rd (wA z5.2 53 ((5 * l1) + 2) z5.1)) rfl ?_
          refine s_iadd rfl ?_
          refine s_iald rfl (rd_a53 _) h (fun h => ?_)
          show eG _ 146 141 [some (.ref 49), some (.int (zI l1)), some (.int (zI (5 * l1))), none] [.int (zI (zA (wA z5.2 53 ((5 * l1) + 2) z5.1) 53 ((5 * l1) + 2)))] (rd (wA z5.2 53 ((5 * l1) + 2) z5.1)) _
          refine s_if_ge rfl h (fun h => ?_) (fun h => ?_)
          · show eG _ 146 146 [some (.ref 49), some (.int (zI l1)), some (.int (zI (5 * l1))), none] [] (rd (wA z5.2 53 ((5 * l1) + 2) z5.1)) _
            refine g_run 1 147 [some (.ref 49), some (.int (zI l1)), some (.int (zI (5 * l1))), none] [.ref 49] (rd (wA z5.2 53 ((5 * l1) + 2) z5.1)) rfl ?_
            refine g_getf rfl rfl (rd_o49 _) rfl ?_
            show eG _ 146 150 [some (.ref 49), some (.int (zI l1)), some (.int (zI (5 * l1))), none] [.ref 53] (rd (wA z5.2 53 ((5 * l1) + 2) z5.1)) _
            refine g_run 2 152 [some (.ref 49), some (.int (zI l1)), some (.int (zI (5 * l1))), none] [.int (zI 3), .int (zI (5 * l1)), .ref 53] (rd (wA z5.2 53 ((5 * l1) + 2) z5.1)) rfl ?_
            refine s_iadd rfl ?_
            refine g_run 1 154 [some (.ref 49), some (.int (zI l1)), some (.int (zI (5 * l1))), none] [.int (zI 0), .int (zI ((5 * l1) + 3)), .ref 53] (rd (wA z5.2 53 ((5 * l1) + 2) z5.1)) rfl ?_
            refine s_iast rfl (rd_a53 _) (rw_a53 _ _) h (fun h => ?_)
            show eG _ 146 155 [some (.ref 49), some (.int (zI l1)), some (.int (zI (5 * l1))), none] [] (rd (wA (wA z5.2 53 ((5 * l1) + 2) z5.1) 53 ((5 * l1) + 3) 0)) _
            refine g_run 2 158 [some (.ref 49), some (.int (zI l1)), some (.int (zI (5 * l1))), none] [.int (zI 111), .ref 49] (rd (wA (wA z5.2 53 ((5 * l1) + 2) z5.1) 53 ((5 * l1) + 3) 0)) rfl ?_
            refine s_vir (fun z => some (.int (zI z.1))) (fun z => rd z.2) rfl rfl rfl (rd_o49 _) rfl rfl (fun z hz => sM_takes o n (wA (wA z5.2 53 ((5 * l1) + 2) z5.1) 53 ((5 * l1) + 3) 0) 111 hz) rfl h (fun z6 h => ?_)
            show eG _ 146 161 [some (.ref 49), some (.int (zI l1)), some (.int (zI (5 * l1))), none] [.int (zI z6.1)] (rd z6.2) _
            refine s_if_eq rfl h (fun h => ?_) (fun h => ?_)
            · show eG _ 146 210 [some (.ref 49), some (.int (zI l1)), some (.int (zI (5 * l1))), none] [] (rd z6.2) _
              refine g_run 1 211 [some (.ref 49), some (.int (zI l1)), some (.int (zI (5 * l1))), none] [.ref 49] (rd z6.2) rfl ?_
              refine g_getf rfl rfl (rd_o49 _) rfl ?_
              show eG _ 146 214 [some (.ref 49), some (.int (zI l1)), some (.int (zI (5 * l1))), none] [.ref 53] (rd z6.2) _
              refine g_run 2 216 [some (.ref 49), some (.int (zI l1)), some (.int (zI (5 * l1))), none] [.int (zI 4), .int (zI (5 * l1)), .ref 53] (rd z6.2) rfl ?_
              refine s_iadd rfl ?_
              refine g_run 2 220 [some (.ref 49), some (.int (zI l1)), some (.int (zI (5 * l1))), none] [.int (zI 47), .ref 49, .int (zI ((5 * l1) + 4)), .ref 53] (rd z6.2) rfl ?_
              refine s_vir (fun z => some (.int (zI z.1))) (fun z => rd z.2) rfl rfl rfl (rd_o49 _) rfl rfl (fun z hz => sM_takes o n z6.2 47 hz) rfl h (fun z7 h => ?_)
              show eG _ 146 223 [some (.ref 49), some (.int (zI l1)), some (.int (zI (5 * l1))), none] [.int (zI z7.1), .int (zI ((5 * l1) + 4)), .ref 53] (rd z7.2) _
              refine s_join (α := Int × ZS) (fun z => eG o 146 235 [some (.ref 49), some (.int (zI l1)), some (.int (zI (5 * l1))), none] [.int (zI z.1), .int (zI ((5 * l1) + 4)), .ref 53] (rd z.2) (rv (some (.int (zI w.1))) (rd w.2))) h (fun z8 h => ?_) (fun z8 h j => ?_)
              · show eG _ 146 235 [some (.ref 49), some (.int (zI l1)), some (.int (zI (5 * l1))), none] [.int (zI z8.1), .int (zI ((5 * l1) + 4)), .ref 53] (rd z8.2) _
                refine s_iast rfl (rd_a53 _) (rw_a53 _ _) h (fun h => ?_)
                show eG _ 146 236 [some (.ref 49), some (.int (zI l1)), some (.int (zI (5 * l1))), none] [] (rd (wA z8.2 53 ((5 * l1) + 4) z8.1)) _
                refine g_run 1 237 [some (.ref 49), some (.int (zI l1)), some (.int (zI (5 * l1))), none] [.ref 49] (rd (wA z8.2 53 ((5 * l1) + 4) z8.1)) rfl ?_
                refine g_getf rfl rfl (rd_o49 _) rfl ?_
                show eG _ 146 240 [some (.ref 49), some (.int (zI l1)), some (.int (zI (5 * l1))), none] [.ref 53] (rd (wA z8.2 53 ((5 * l1) + 4) z8.1)) _
                refine g_run 2 242 [some (.ref 49), some (.int (zI l1)), some (.int (zI (5 * l1))), none] [.int (zI 4), .int (zI (5 * l1)), .ref 53] (rd (wA z8.2 53 ((5 * l1) + 4) z8.1)) rfl ?_
                refine s_iadd rfl ?_
                refine s_iald rfl (rd_a53 _) h (fun h => ?_)
                show eG _ 146 244 [some (.ref 49), some (.int (zI l1)), some (.int (zI (5 * l1))), none] [.int (zI (zA (wA z8.2 53 ((5 * l1) + 4) z8.1) 53 ((5 * l1) + 4)))] (rd (wA z8.2 53 ((5 * l1) + 4) z8.1)) _
                refine s_if_ge rfl h (fun h => ?_) (fun h => ?_)
                · show eG _ 146 249 [some (.ref 49), some (.int (zI l1)), some (.int (zI (5 * l1))), none] [] (rd (wA z8.2 53 ((5 * l1) + 4) z8.1)) _
                  refine g_run 1 250 [some (.ref 49), some (.int (zI l1)), some (.int (zI (5 * l1))), none] [.ref 49] (rd (wA z8.2 53 ((5 * l1) + 4) z8.1)) rfl ?_
                  refine s_vir (fun z => some (.int (zI z.1))) (fun z => rd z.2) rfl rfl rfl (rd_o49 _) rfl rfl (fun z hz => sM_nextByte o n (wA z8.2 53 ((5 * l1) + 4) z8.1) hz) rfl h (fun z9 h => ?_)
                  show eG _ 146 253 [some (.ref 49), some (.int (zI l1)), some (.int (zI (5 * l1))), none] [.int (zI z9.1)] (rd z9.2) _
                  refine g_run 1 255 [some (.ref 49), some (.int (zI l1)), some (.int (zI (5 * l1))), none] [.int (zI 42), .int (zI z9.1)] (rd z9.2) rfl ?_
                  refine s_icmp_ne rfl h (fun h => ?_) (fun h => ?_)
                  · show eG _ 146 300 [some (.ref 49), some (.int (zI l1)), some (.int (zI (5 * l1))), none] [] (rd z9.2) _
                    refine g_run 1 301 [some (.ref 49), some (.int (zI l1)), some (.int (zI (5 * l1))), none] [.int (zI 1)] (rd z9.2) rfl ?_
                    exact s_retB rfl rfl h (fun h => by cases h; exact rfl)
                  · show eG _ 146 258 [some (.ref 49), some (.int (zI l1)), some (.int (zI (5 * l1))), none] [] (rd z9.2) _
                    refine g_run 1 259 [some (.ref 49), some (.int (zI l1)), some (.int (zI (5 * l1))), none] [.ref 49] (rd z9.2) rfl ?_
                    refine g_getf rfl rfl (rd_o49 _) rfl ?_
                    show eG _ 146 262 [some (.ref 49), some (.int (zI l1)), some (.int (zI (5 * l1))), none] [.ref 53] (rd z9.2) _
                    refine g_run 2 264 [some (.ref 49), some (.int (zI l1)), some (.int (zI (5 * l1))), none] [.int (zI 4), .int (zI (5 * l1)), .ref 53] (rd z9.2) rfl ?_
                    refine s_iadd rfl ?_
                    refine s_iald rfl (rd_a53 _) h (fun h => ?_)
                    show eG _ 146 266 [some (.ref 49), some (.int (zI l1)), some (.int (zI (5 * l1))), none] [.int (zI (zA z9.2 53 ((5 * l1) + 4)))] (rd z9.2) _
                    refine g_run 1 267 [some (.ref 49), some (.int (zI l1)), some (.int (zI (5 * l1))), none] [.ref 49, .int (zI (zA z9.2 53 ((5 * l1) + 4)))] (rd z9.2) rfl ?_
                    refine g_getf rfl rfl (rd_o49 _) rfl ?_
                    show eG _ 146 270 [some (.ref 49), some (.int (zI l1)), some (.int (zI (5 * l1))), none] [.int (zI (zF z9.2 49 12)), .int (zI (zA z9.2 53 ((5 * l1) + 4)))] (rd z9.2) _
                    refine g_run 1 271 [some (.ref 49), some (.int (zI l1)), some (.int (zI (5 * l1))), none] [.int (zI (-1)), .int (zI (zF z9.2 49 12)), .int (zI (zA z9.2 53 ((5 * l1) + 4)))] (rd z9.2) rfl ?_
                    refine s_ixor rfl ?_
                    refine s_iand rfl ?_
                    refine s_if_eq rfl h (fun h => ?_) (fun h => ?_)
                    · show eG _ 146 278 [some (.ref 49), some (.int (zI l1)), some (.int (zI (5 * l1))), none] [] (rd z9.2) _
                      refine g_run 2 280 [some (.ref 49), some (.int (zI l1)), some (.int (zI (5 * l1))), none] [.ref 49, .ref 49] (rd z9.2) rfl ?_
                      refine g_getf rfl rfl (rd_o49 _) rfl ?_
                      show eG _ 146 283 [some (.ref 49), some (.int (zI l1)), some (.int (zI (5 * l1))), none] [.int (zI (zF z9.2 49 12)), .ref 49] (rd z9.2) _
                      refine g_run 2 285 [some (.ref 49), some (.int (zI l1)), some (.int (zI (5 * l1))), none] [.int (zI l1), .int (zI 1), .int (zI (zF z9.2 49 12)), .ref 49] (rd z9.2) rfl ?_
                      refine s_ishl rfl ?_
                      refine s_ior rfl ?_
                      refine s_putf rfl rfl (rd_o49 _) rfl rfl rfl rfl rfl (rw_o49_12 _ _) ?_
                      show eG _ 146 290 [some (.ref 49), some (.int (zI l1)), some (.int (zI (5 * l1))), none] [] (rd (wF z9.2 49 12 (zor (zF z9.2 49 12) (zshl 1 l1)))) _
                      refine g_run 2 292 [some (.ref 49), some (.int (zI l1)), some (.int (zI (5 * l1))), none] [.ref 49, .ref 49] (rd (wF z9.2 49 12 (zor (zF z9.2 49 12) (zshl 1 l1)))) rfl ?_
                      refine g_getf rfl rfl (rd_o49 _) rfl ?_
                      show eG _ 146 295 [some (.ref 49), some (.int (zI l1)), some (.int (zI (5 * l1))), none] [.int (zI (zF z9.2 49 10)), .ref 49] (rd (wF z9.2 49 12 (zor (zF z9.2 49 12) (zshl 1 l1)))) _
                      refine g_run 1 296 [some (.ref 49), some (.int (zI l1)), some (.int (zI (5 * l1))), none] [.int (zI 1), .int (zI (zF z9.2 49 10)), .ref 49] (rd (wF z9.2 49 12 (zor (zF z9.2 49 12) (zshl 1 l1)))) rfl ?_
                      refine s_iadd rfl ?_
                      refine s_putf rfl rfl (rd_o49 _) rfl rfl rfl rfl rfl (rw_o49_10 _ _) ?_
                      show eG _ 146 300 [some (.ref 49), some (.int (zI l1)), some (.int (zI (5 * l1))), none] [] (rd (wF (wF z9.2 49 12 (zor (zF z9.2 49 12) (zshl 1 l1))) 49 10 ((zF z9.2 49 10) + 1))) _
                      refine g_run 1 301 [some (.ref 49), some (.int (zI l1)), some (.int (zI (5 * l1))), none] [.int (zI 1)] (rd (wF (wF z9.2 49 12 (zor (zF z9.2 49 12) (zshl 1 l1))) 49 10 ((zF z9.2 49 10) + 1))) rfl ?_
                      exact s_retB rfl rfl h (fun h => by cases h; exact rfl)
                    · show eG _ 146 276 [some (.ref 49), some (.int (zI l1)), some (.int (zI (5 * l1))), none] [] (rd z9.2) _
                      refine g_run 1 277 [some (.ref 49), some (.int (zI l1)), some (.int (zI (5 * l1))), none] [.int (zI 0)] (rd z9.2) rfl ?_
                      exact s_retB rfl rfl h (fun h => by cases h; exact rfl)
                · show eG _ 146 247 [some (.ref 49), some (.int (zI l1)), some (.int (zI (5 * l1))), none] [] (rd (wA z8.2 53 ((5 * l1) + 4) z8.1)) _
                  refine g_run 1 248 [some (.ref 49), some (.int (zI l1)), some (.int (zI (5 * l1))), none] [.int (zI 0)] (rd (wA z8.2 53 ((5 * l1) + 4) z8.1)) rfl ?_
                  exact s_retB rfl rfl h (fun h => by cases h; exact rfl)
              · skip
                refine s_if_eq rfl h (fun h => ?_) (fun h => ?_)
                · show eG _ 146 234 [some (.ref 49), some (.int (zI l1)), some (.int (zI (5 * l1))), none] [.int (zI ((5 * l1) + 4)), .ref 53] (rd z7.2) _
                  refine g_run 1 235 [some (.ref 49), some (.int (zI l1)), some (.int (zI (5 * l1))), none] [.int (zI 0), .int (zI ((5 * l1) + 4)), .ref 53] (rd z7.2) rfl ?_
                  cases h
                  exact j
                · show eG _ 146 226 [some (.ref 49), some (.int (zI l1)), some (.int (zI (5 * l1))), none] [.int (zI ((5 * l1) + 4)), .ref 53] (rd z7.2) _
                  refine g_run 2 228 [some (.ref 49), some (.int (zI l1)), some (.int (zI (5 * l1))), none] [.int (zI l1), .ref 49, .int (zI ((5 * l1) + 4)), .ref 53] (rd z7.2) rfl ?_
                  refine s_vir (fun z => some (.int (zI z.1))) (fun z => rd z.2) rfl rfl rfl (rd_o49 _) rfl rfl (fun z hz => sM_readSet o n z7.2 l1 hz) rfl h (fun z10 h => ?_)
                  show eG _ 146 231 [some (.ref 49), some (.int (zI l1)), some (.int (zI (5 * l1))), none] [.int (zI z10.1), .int (zI ((5 * l1) + 4)), .ref 53] (rd z10.2) _
                  refine g_run 1 235 [some (.ref 49), some (.int (zI l1)), some (.int (zI (5 * l1))), none] [.int (zI z10.1), .int (zI ((5 * l1) + 4)), .ref 53] (rd z10.2) rfl ?_
                  cases h
                  exact j
            · show eG _ 146 164 [some (.ref 49), some (.int (zI l1)), some (.int (zI (5 * l1))), none] [] (rd z6.2) _
              refine g_run 1 165 [some (.ref 49), some (.int (zI l1)), some (.int (zI (5 * l1))), none] [.ref 49] (rd z6.2) rfl ?_
              refine g_getf rfl rfl (rd_o49 _) rfl ?_
              show eG _ 146 168 [some (.ref 49), some (.int (zI l1)), some (.int (zI (5 * l1))), none] [.ref 53] (rd z6.2) _
              refine g_run 2 170 [some (.ref 49), some (.int (zI l1)), some (.int (zI (5 * l1))), none] [.int (zI 3), .int (zI (5 * l1)), .ref 53] (rd z6.2) rfl ?_
              refine s_iadd rfl ?_
              refine g_run 1 172 [some (.ref 49), some (.int (zI l1)), some (.int (zI (5 * l1))), none] [.ref 49, .int (zI ((5 * l1) + 3)), .ref 53] (rd z6.2) rfl ?_
              refine s_vir (fun z => some (.int (zI z.1))) (fun z => rd z.2) rfl rfl rfl (rd_o49 _) rfl rfl (fun z hz => sM_nextByte o n z6.2 hz) rfl h (fun z11 h => ?_)
              show eG _ 146 175 [some (.ref 49), some (.int (zI l1)), some (.int (zI (5 * l1))), none] [.int (zI z11.1), .int (zI ((5 * l1) + 3)), .ref 53] (rd z11.2) _
              refine g_run 1 177 [some (.ref 49), some (.int (zI l1)), some (.int (zI (5 * l1))), none] [.int (zI 48), .int (zI z11.1), .int (zI ((5 * l1) + 3)), .ref 53] (rd z11.2) rfl ?_
              refine s_isub rfl ?_
              refine s_iast rfl (rd_a53 _) (rw_a53 _ _) h (fun h => ?_)
              show eG _ 146 179 [some (.ref 49), some (.int (zI l1)), some (.int (zI (5 * l1))), none] [] (rd (wA z11.2 53 ((5 * l1) + 3) (z11.1 - 48))) _
              refine g_run 1 180 [some (.ref 49), some (.int (zI l1)), some (.int (zI (5 * l1))), none] [.ref 49] (rd (wA z11.2 53 ((5 * l1) + 3) (z11.1 - 48))) rfl ?_
              refine g_getf rfl rfl (rd_o49 _) rfl ?_
              show eG _ 146 183 [some (.ref 49), some (.int (zI l1)), some (.int (zI (5 * l1))), none] [.ref 53] (rd (wA z11.2 53 ((5 * l1) + 3) (z11.1 - 48))) _
              refine g_run 2 185 [some (.ref 49), some (.int (zI l1)), some (.int (zI (5 * l1))), none] [.int (zI 3), .int (zI (5 * l1)), .ref 53] (rd (wA z11.2 53 ((5 * l1) + 3) (z11.1 - 48))) rfl ?_
              refine s_iadd rfl ?_
              refine s_iald rfl (rd_a53 _) h (fun h => ?_)
              show eG _ 146 187 [some (.ref 49), some (.int (zI l1)), some (.int (zI (5 * l1))), none] [.int (zI (zA (wA z11.2 53 ((5 * l1) + 3) (z11.1 - 48)) 53 ((5 * l1) + 3)))] (rd (wA z11.2 53 ((5 * l1) + 3) (z11.1 - 48))) _
              refine s_i2l rfl h (fun h => ?_)
              refine g_run 2 192 [some (.ref 49), some (.int (zI l1)), some (.int (zI (5 * l1))), none] [.long (zL 3), .long (zL 0), .long (zL (zA (wA z11.2 53 ((5 * l1) + 3) (z11.1 - 48)) 53 ((5 * l1) + 3)))] (rd (wA z11.2 53 ((5 * l1) + 3) (z11.1 - 48))) rfl ?_
              refine s_sta (fun z => some (.int (zI z))) (fun _ => rd (wA z11.2 53 ((5 * l1) + 3) (z11.1 - 48))) rfl rfl rfl rfl rfl rfl rfl (fun z hz => sM_in o n (wA z11.2 53 ((5 * l1) + 3) (z11.1 - 48)) (zA (wA z11.2 53 ((5 * l1) + 3) (z11.1 - 48)) 53 ((5 * l1) + 3)) 0 3 hz) rfl h (fun z12 h => ?_)
              show eG _ 146 195 [some (.ref 49), some (.int (zI l1)), some (.int (zI (5 * l1))), none] [.int (zI z12)] (rd (wA z11.2 53 ((5 * l1) + 3) (z11.1 - 48))) _
              refine s_if_ne rfl h (fun h => ?_) (fun h => ?_)
              · show eG _ 146 200 [some (.ref 49), some (.int (zI l1)), some (.int (zI (5 * l1))), none] [] (rd (wA z11.2 53 ((5 * l1) + 3) (z11.1 - 48))) _
                refine g_run 2 202 [some (.ref 49), some (.int (zI l1)), some (.int (zI (5 * l1))), none] [.ref 49, .ref 49] (rd (wA z11.2 53 ((5 * l1) + 3) (z11.1 - 48))) rfl ?_
                refine g_getf rfl rfl (rd_o49 _) rfl ?_
                show eG _ 146 205 [some (.ref 49), some (.int (zI l1)), some (.int (zI (5 * l1))), none] [.int (zI (zF z11.2 49 10)), .ref 49] (rd (wA z11.2 53 ((5 * l1) + 3) (z11.1 - 48))) _
                refine g_run 1 206 [some (.ref 49), some (.int (zI l1)), some (.int (zI (5 * l1))), none] [.int (zI 1), .int (zI (zF z11.2 49 10)), .ref 49] (rd (wA z11.2 53 ((5 * l1) + 3) (z11.1 - 48))) rfl ?_
                refine s_iadd rfl ?_
                refine s_putf rfl rfl (rd_o49 _) rfl rfl rfl rfl rfl (rw_o49_10 _ _) ?_
                show eG _ 146 210 [some (.ref 49), some (.int (zI l1)), some (.int (zI (5 * l1))), none] [] (rd (wF (wA z11.2 53 ((5 * l1) + 3) (z11.1 - 48)) 49 10 ((zF z11.2 49 10) + 1))) _
                refine g_run 1 211 [some (.ref 49), some (.int (zI l1)), some (.int (zI (5 * l1))), none] [.ref 49] (rd (wF (wA z11.2 53 ((5 * l1) + 3) (z11.1 - 48)) 49 10 ((zF z11.2 49 10) + 1))) rfl ?_
                refine g_getf rfl rfl (rd_o49 _) rfl ?_
                show eG _ 146 214 [some (.ref 49), some (.int (zI l1)), some (.int (zI (5 * l1))), none] [.ref 53] (rd (wF (wA z11.2 53 ((5 * l1) + 3) (z11.1 - 48)) 49 10 ((zF z11.2 49 10) + 1))) _
                refine g_run 2 216 [some (.ref 49), some (.int (zI l1)), some (.int (zI (5 * l1))), none] [.int (zI 4), .int (zI (5 * l1)), .ref 53] (rd (wF (wA z11.2 53 ((5 * l1) + 3) (z11.1 - 48)) 49 10 ((zF z11.2 49 10) + 1))) rfl ?_
                refine s_iadd rfl ?_
                refine g_run 2 220 [some (.ref 49), some (.int (zI l1)), some (.int (zI (5 * l1))), none] [.int (zI 47), .ref 49, .int (zI ((5 * l1) + 4)), .ref 53] (rd (wF (wA z11.2 53 ((5 * l1) + 3) (z11.1 - 48)) 49 10 ((zF z11.2 49 10) + 1))) rfl ?_
                refine s_vir (fun z => some (.int (zI z.1))) (fun z => rd z.2) rfl rfl rfl (rd_o49 _) rfl rfl (fun z hz => sM_takes o n (wF (wA z11.2 53 ((5 * l1) + 3) (z11.1 - 48)) 49 10 ((zF z11.2 49 10) + 1)) 47 hz) rfl h (fun z13 h => ?_)
                show eG _ 146 223 [some (.ref 49), some (.int (zI l1)), some (.int (zI (5 * l1))), none] [.int (zI z13.1), .int (zI ((5 * l1) + 4)), .ref 53] (rd z13.2) _
                refine s_join (α := Int × ZS) (fun z => eG o 146 235 [some (.ref 49), some (.int (zI l1)), some (.int (zI (5 * l1))), none] [.int (zI z.1), .int (zI ((5 * l1) + 4)), .ref 53] (rd z.2) (rv (some (.int (zI w.1))) (rd w.2))) h (fun z14 h => ?_) (fun z14 h j => ?_)
                · show eG _ 146 235 [some (.ref 49), some (.int (zI l1)), some (.int (zI (5 * l1))), none] [.int (zI z14.1), .int (zI ((5 * l1) + 4)), .ref 53] (rd z14.2) _
                  refine s_iast rfl (rd_a53 _) (rw_a53 _ _) h (fun h => ?_)
                  show eG _ 146 236 [some (.ref 49), some (.int (zI l1)), some (.int (zI (5 * l1))), none] [] (rd (wA z14.2 53 ((5 * l1) + 4) z14.1)) _
                  refine g_run 1 237 [some (.ref 49), some (.int (zI l1)), some (.int (zI (5 * l1))), none] [.ref 49] (rd (wA z14.2 53 ((5 * l1) + 4) z14.1)) rfl ?_
                  refine g_getf rfl rfl (rd_o49 _) rfl ?_
                  show eG _ 146 240 [some (.ref 49), some (.int (zI l1)), some (.int (zI (5 * l1))), none] [.ref 53] (rd (wA z14.2 53 ((5 * l1) + 4) z14.1)) _
                  refine g_run 2 242 [some (.ref 49), some (.int (zI l1)), some (.int (zI (5 * l1))), none] [.int (zI 4), .int (zI (5 * l1)), .ref 53] (rd (wA z14.2 53 ((5 * l1) + 4) z14.1)) rfl ?_
                  refine s_iadd rfl ?_
                  refine s_iald rfl (rd_a53 _) h (fun h => ?_)
                  show eG _ 146 244 [some (.ref 49), some (.int (zI l1)), some (.int (zI (5 * l1))), none] [.int (zI (zA (wA z14.2 53 ((5 * l1) + 4) z14.1) 53 ((5 * l1) + 4)))] (rd (wA z14.2 53 ((5 * l1) + 4) z14.1)) _
                  refine s_if_ge rfl h (fun h => ?_) (fun h => ?_)
                  · show eG _ 146 249 [some (.ref 49), some (.int (zI l1)), some (.int (zI (5 * l1))), none] [] (rd (wA z14.2 53 ((5 * l1) + 4) z14.1)) _
                    refine g_run 1 250 [some (.ref 49), some (.int (zI l1)), some (.int (zI (5 * l1))), none] [.ref 49] (rd (wA z14.2 53 ((5 * l1) + 4) z14.1)) rfl ?_
                    refine s_vir (fun z => some (.int (zI z.1))) (fun z => rd z.2) rfl rfl rfl (rd_o49 _) rfl rfl (fun z hz => sM_nextByte o n (wA z14.2 53 ((5 * l1) + 4) z14.1) hz) rfl h (fun z15 h => ?_)
                    show eG _ 146 253 [some (.ref 49), some (.int (zI l1)), some (.int (zI (5 * l1))), none] [.int (zI z15.1)] (rd z15.2) _
                    refine g_run 1 255 [some (.ref 49), some (.int (zI l1)), some (.int (zI (5 * l1))), none] [.int (zI 42), .int (zI z15.1)] (rd z15.2) rfl ?_
                    refine s_icmp_ne rfl h (fun h => ?_) (fun h => ?_)
                    · show eG _ 146 300 [some (.ref 49), some (.int (zI l1)), some (.int (zI (5 * l1))), none] [] (rd z15.2) _
                      refine g_run 1 301 [some (.ref 49), some (.int (zI l1)), some (.int (zI (5 * l1))), none] [.int (zI 1)] (rd z15.2) rfl ?_
                      exact s_retB rfl rfl h (fun h => by cases h; exact rfl)
                    · show eG _ 146 258 [some (.ref 49), some (.int (zI l1)), some (.int (zI (5 * l1))), none] [] (rd z15.2) _
                      refine g_run 1 259 [some (.ref 49), some (.int (zI l1)), some (.int (zI (5 * l1))), none] [.ref 49] (rd z15.2) rfl ?_
                      refine g_getf rfl rfl (rd_o49 _) rfl ?_
                      show eG _ 146 262 [some (.ref 49), some (.int (zI l1)), some (.int (zI (5 * l1))), none] [.ref 53] (rd z15.2) _
                      refine g_run 2 264 [some (.ref 49), some (.int (zI l1)), some (.int (zI (5 * l1))), none] [.int (zI 4), .int (zI (5 * l1)), .ref 53] (rd z15.2) rfl ?_
                      refine s_iadd rfl ?_
                      refine s_iald rfl (rd_a53 _) h (fun h => ?_)
                      show eG _ 146 266 [some (.ref 49), some (.int (zI l1)), some (.int (zI (5 * l1))), none] [.int (zI (zA z15.2 53 ((5 * l1) + 4)))] (rd z15.2) _
                      refine g_run 1 267 [some (.ref 49), some (.int (zI l1)), some (.int (zI (5 * l1))), none] [.ref 49, .int (zI (zA z15.2 53 ((5 * l1) + 4)))] (rd z15.2) rfl ?_
                      refine g_getf rfl rfl (rd_o49 _) rfl ?_
                      show eG _ 146 270 [some (.ref 49), some (.int (zI l1)), some (.int (zI (5 * l1))), none] [.int (zI (zF z15.2 49 12)), .int (zI (zA z15.2 53 ((5 * l1) + 4)))] (rd z15.2) _
                      refine g_run 1 271 [some (.ref 49), some (.int (zI l1)), some (.int (zI (5 * l1))), none] [.int (zI (-1)), .int (zI (zF z15.2 49 12)), .int (zI (zA z15.2 53 ((5 * l1) + 4)))] (rd z15.2) rfl ?_
                      refine s_ixor rfl ?_
                      refine s_iand rfl ?_
                      refine s_if_eq rfl h (fun h => ?_) (fun h => ?_)
                      · show eG _ 146 278 [some (.ref 49), some (.int (zI l1)), some (.int (zI (5 * l1))), none] [] (rd z15.2) _
                        refine g_run 2 280 [some (.ref 49), some (.int (zI l1)), some (.int (zI (5 * l1))), none] [.ref 49, .ref 49] (rd z15.2) rfl ?_
                        refine g_getf rfl rfl (rd_o49 _) rfl ?_
                        show eG _ 146 283 [some (.ref 49), some (.int (zI l1)), some (.int (zI (5 * l1))), none] [.int (zI (zF z15.2 49 12)), .ref 49] (rd z15.2) _
                        refine g_run 2 285 [some (.ref 49), some (.int (zI l1)), some (.int (zI (5 * l1))), none] [.int (zI l1), .int (zI 1), .int (zI (zF z15.2 49 12)), .ref 49] (rd z15.2) rfl ?_
                        refine s_ishl rfl ?_
                        refine s_ior rfl ?_
                        refine s_putf rfl rfl (rd_o49 _) rfl rfl rfl rfl rfl (rw_o49_12 _ _) ?_
                        show eG _ 146 290 [some (.ref 49), some (.int (zI l1)), some (.int (zI (5 * l1))), none] [] (rd (wF z15.2 49 12 (zor (zF z15.2 49 12) (zshl 1 l1)))) _
                        refine g_run 2 292 [some (.ref 49), some (.int (zI l1)), some (.int (zI (5 * l1))), none] [.ref 49, .ref 49] (rd (wF z15.2 49 12 (zor (zF z15.2 49 12) (zshl 1 l1)))) rfl ?_
                        refine g_getf rfl rfl (rd_o49 _) rfl ?_
                        show eG _ 146 295 [some (.ref 49), some (.int (zI l1)), some (.int (zI (5 * l1))), none] [.int (zI (zF z15.2 49 10)), .ref 49] (rd (wF z15.2 49 12 (zor (zF z15.2 49 12) (zshl 1 l1)))) _
                        refine g_run 1 296 [some (.ref 49), some (.int (zI l1)), some (.int (zI (5 * l1))), none] [.int (zI 1), .int (zI (zF z15.2 49 10)), .ref 49] (rd (wF z15.2 49 12 (zor (zF z15.2 49 12) (zshl 1 l1)))) rfl ?_
                        refine s_iadd rfl ?_
                        refine s_putf rfl rfl (rd_o49 _) rfl rfl rfl rfl rfl (rw_o49_10 _ _) ?_
                        show eG _ 146 300 [some (.ref 49), some (.int (zI l1)), some (.int (zI (5 * l1))), none] [] (rd (wF (wF z15.2 49 12 (zor (zF z15.2 49 12) (zshl 1 l1))) 49 10 ((zF z15.2 49 10) + 1))) _
                        refine g_run 1 301 [some (.ref 49), some (.int (zI l1)), some (.int (zI (5 * l1))), none] [.int (zI 1)] (rd (wF (wF z15.2 49 12 (zor (zF z15.2 49 12) (zshl 1 l1))) 49 10 ((zF z15.2 49 10) + 1))) rfl ?_
                        exact s_retB rfl rfl h (fun h => by cases h; exact rfl)
                      · show eG _ 146 276 [some (.ref 49), some (.int (zI l1)), some (.int (zI (5 * l1))), none] [] (rd z15.2) _
                        refine g_run 1 277 [some (.ref 49), some (.int (zI l1)), some (.int (zI (5 * l1))), none] [.int (zI 0)] (rd z15.2) rfl ?_
                        exact s_retB rfl rfl h (fun h => by cases h; exact rfl)
                  · show eG _ 146 247 [some (.ref 49), some (.int (zI l1)), some (.int (zI (5 * l1))), none] [] (rd (wA z14.2 53 ((5 * l1) + 4) z14.1)) _
                    refine g_run 1 248 [some (.ref 49), some (.int (zI l1)), some (.int (zI (5 * l1))), none] [.int (zI 0)] (rd (wA z14.2 53 ((5 * l1) + 4) z14.1)) rfl ?_
                    exact s_retB rfl rfl h (fun h => by cases h; exact rfl)
                · skip
                  refine s_if_eq rfl h (fun h => ?_) (fun h => ?_)
                  · show eG _ 146 234 [some (.ref 49), some (.int (zI l1)), some (.int (zI (5 * l1))), none] [.int (zI ((5 * l1) + 4)), .ref 53] (rd z13.2) _
                    refine g_run 1 235 [some (.ref 49), some (.int (zI l1)), some (.int (zI (5 * l1))), none] [.int (zI 0), .int (zI ((5 * l1) + 4)), .ref 53] (rd z13.2) rfl ?_
                    cases h
                    exact j
                  · show eG _ 146 226 [some (.ref 49), some (.int (zI l1)), some (.int (zI (5 * l1))), none] [.int (zI ((5 * l1) + 4)), .ref 53] (rd z13.2) _
                    refine g_run 2 228 [some (.ref 49), some (.int (zI l1)), some (.int (zI (5 * l1))), none] [.int (zI l1), .ref 49, .int (zI ((5 * l1) + 4)), .ref 53] (rd z13.2) rfl ?_
                    refine s_vir (fun z => some (.int (zI z.1))) (fun z => rd z.2) rfl rfl rfl (rd_o49 _) rfl rfl (fun z hz => sM_readSet o n z13.2 l1 hz) rfl h (fun z16 h => ?_)
                    show eG _ 146 231 [some (.ref 49), some (.int (zI l1)), some (.int (zI (5 * l1))), none] [.int (zI z16.1), .int (zI ((5 * l1) + 4)), .ref 53] (rd z16.2) _
                    refine g_run 1 235 [some (.ref 49), some (.int (zI l1)), some (.int (zI (5 * l1))), none] [.int (zI z16.1), .int (zI ((5 * l1) + 4)), .ref 53] (rd z16.2) rfl ?_
                    cases h
                    exact j
              · show eG _ 146 198 [some (.ref 49), some (.int (zI l1)), some (.int (zI (5 * l1))), none] [] (rd (wA z11.2 53 ((5 * l1) + 3) (z11.1 - 48))) _
                refine g_run 1 199 [some (.ref 49), some (.int (zI l1)), some (.int (zI (5 * l1))), none] [.int (zI 0)] (rd (wA z11.2 53 ((5 * l1) + 3) (z11.1 - 48))) rfl ?_
                exact s_retB rfl rfl h (fun h => by cases h; exact rfl)
          · show eG _ 146 144 [some (.ref 49), some (.int (zI l1)), some (.int (zI (5 * l1))), none] [] (rd (wA z5.2 53 ((5 * l1) + 2) z5.1)) _
            refine g_run 1 145 [some (.ref 49), some (.int (zI l1)), some (.int (zI (5 * l1))), none] [.int (zI 0)] (rd (wA z5.2 53 ((5 * l1) + 2) z5.1)) rfl ?_
            exact s_retB rfl rfl h (fun h => by cases h; exact rfl)
        · skip
          refine s_if_eq rfl h (fun h => ?_) (fun h => ?_)
          · show eG _ 146 131 [some (.ref 49), some (.int (zI l1)), some (.int (zI (5 * l1))), none] [.int (zI ((5 * l1) + 2)), .ref 53] (rd z4.2) _
            refine g_run 1 132 [some (.ref 49), some (.int (zI l1)), some (.int (zI (5 * l1))), none] [.int (zI 0), .int (zI ((5 * l1) + 2)), .ref 53] (rd z4.2) rfl ?_
            cases h
            exact j
          · show eG _ 146 121 [some (.ref 49), some (.int (zI l1)), some (.int (zI (5 * l1))), none] [.int (zI ((5 * l1) + 2)), .ref 53] (rd z4.2) _
            refine g_run 3 125 [some (.ref 49), some (.int (zI l1)), some (.int (zI (5 * l1))), none] [.int (zI 99), .int (zI 0), .ref 49, .int (zI ((5 * l1) + 2)), .ref 53] (rd z4.2) rfl ?_
            refine s_vir (fun z => some (.int (zI z.1))) (fun z => rd z.2) rfl rfl rfl (rd_o49 _) rfl rfl (fun z hz => sM_readNumber o n z4.2 0 99 hz) rfl h (fun z17 h => ?_)
            show eG _ 146 128 [some (.ref 49), some (.int (zI l1)), some (.int (zI (5 * l1))), none] [.int (zI z17.1), .int (zI ((5 * l1) + 2)), .ref 53] (rd z17.2) _
            refine g_run 1 132 [some (.ref 49), some (.int (zI l1)), some (.int (zI (5 * l1))), none] [.int (zI z17.1), .int (zI ((5 * l1) + 2)), .ref 53] (rd z17.2) rfl ?_
            cases h
            exact j
      · show eG _ 146 103 [some (.ref 49), some (.int (zI l1)), some (.int (zI (5 * l1))), none] [] (rd (wA z3.2 53 ((5 * l1) + 1) z3.1)) _
        refine g_run 1 104 [some (.ref 49), some (.int (zI l1)), some (.int (zI (5 * l1))), none] [.int (zI 0)] (rd (wA z3.2 53 ((5 * l1) + 1) z3.1)) rfl ?_
        exact s_retB rfl rfl h (fun h => by cases h; exact rfl)
    · show eG _ 146 65 [some (.ref 49), some (.int (zI l1)), some (.int (zI (5 * l1))), none] [] (rd (wA z1.2 53 (5 * l1) z2)) _
      refine g_run 1 66 [some (.ref 49), some (.int (zI l1)), some (.int (zI (5 * l1))), none] [.int (zI 0)] (rd (wA z1.2 53 (5 * l1) z2)) rfl ?_
      exact s_retB rfl rfl h (fun h => by cases h; exact rfl)
  · skip
    refine s_icmp_ne rfl h (fun h => ?_) (fun h => ?_)
    · show eG _ 146 24 [some (.ref 49), some (.int (zI l1)), some (.int (zI (5 * l1))), some (.int (zI z1.1))] [.int (zI (5 * l1)), .ref 53] (rd z1.2) _
      refine g_run 2 27 [some (.ref 49), some (.int (zI l1)), some (.int (zI (5 * l1))), some (.int (zI z1.1))] [.int (zI 98), .int (zI z1.1), .int (zI (5 * l1)), .ref 53] (rd z1.2) rfl ?_
      refine s_icmp_ne rfl h (fun h => ?_) (fun h => ?_)
      · show eG _ 146 34 [some (.ref 49), some (.int (zI l1)), some (.int (zI (5 * l1))), some (.int (zI z1.1))] [.int (zI (5 * l1)), .ref 53] (rd z1.2) _
        refine g_run 2 37 [some (.ref 49), some (.int (zI l1)), some (.int (zI (5 * l1))), some (.int (zI z1.1))] [.int (zI 99), .int (zI z1.1), .int (zI (5 * l1)), .ref 53] (rd z1.2) rfl ?_
        refine s_icmp_ne rfl h (fun h => ?_) (fun h => ?_)
        · show eG _ 146 44 [some (.ref 49), some (.int (zI l1)), some (.int (zI (5 * l1))), some (.int (zI z1.1))] [.int (zI (5 * l1)), .ref 53] (rd z1.2) _
          refine g_run 2 47 [some (.ref 49), some (.int (zI l1)), some (.int (zI (5 * l1))), some (.int (zI z1.1))] [.int (zI 114), .int (zI z1.1), .int (zI (5 * l1)), .ref 53] (rd z1.2) rfl ?_
          refine s_icmp_ne rfl h (fun h => ?_) (fun h => ?_)
          · show eG _ 146 54 [some (.ref 49), some (.int (zI l1)), some (.int (zI (5 * l1))), some (.int (zI z1.1))] [.int (zI (5 * l1)), .ref 53] (rd z1.2) _
            refine g_run 1 55 [some (.ref 49), some (.int (zI l1)), some (.int (zI (5 * l1))), some (.int (zI z1.1))] [.int (zI (-1)), .int (zI (5 * l1)), .ref 53] (rd z1.2) rfl ?_
            refine g_fgt [false, false, false, true] ?_
            show eG _ 146 55 [some (.ref 49), some (.int (zI l1)), some (.int (zI (5 * l1))), none] [.int (zI (-1)), .int (zI (5 * l1)), .ref 53] (rd z1.2) _
            cases h
            exact j
          · show eG _ 146 50 [some (.ref 49), some (.int (zI l1)), some (.int (zI (5 * l1))), some (.int (zI z1.1))] [.int (zI (5 * l1)), .ref 53] (rd z1.2) _
            refine g_run 2 55 [some (.ref 49), some (.int (zI l1)), some (.int (zI (5 * l1))), some (.int (zI z1.1))] [.int (zI 3), .int (zI (5 * l1)), .ref 53] (rd z1.2) rfl ?_
            refine g_fgt [false, false, false, true] ?_
            show eG _ 146 55 [some (.ref 49), some (.int (zI l1)), some (.int (zI (5 * l1))), none] [.int (zI 3), .int (zI (5 * l1)), .ref 53] (rd z1.2) _
            cases h
            exact j
        · show eG _ 146 40 [some (.ref 49), some (.int (zI l1)), some (.int (zI (5 * l1))), some (.int (zI z1.1))] [.int (zI (5 * l1)), .ref 53] (rd z1.2) _
          refine g_run 2 55 [some (.ref 49), some (.int (zI l1)), some (.int (zI (5 * l1))), some (.int (zI z1.1))] [.int (zI 2), .int (zI (5 * l1)), .ref 53] (rd z1.2) rfl ?_
          refine g_fgt [false, false, false, true] ?_
          show eG _ 146 55 [some (.ref 49), some (.int (zI l1)), some (.int (zI (5 * l1))), none] [.int (zI 2), .int (zI (5 * l1)), .ref 53] (rd z1.2) _
          cases h
          exact j
      · show eG _ 146 30 [some (.ref 49), some (.int (zI l1)), some (.int (zI (5 * l1))), some (.int (zI z1.1))] [.int (zI (5 * l1)), .ref 53] (rd z1.2) _
        refine g_run 2 55 [some (.ref 49), some (.int (zI l1)), some (.int (zI (5 * l1))), some (.int (zI z1.1))] [.int (zI 1), .int (zI (5 * l1)), .ref 53] (rd z1.2) rfl ?_
        refine g_fgt [false, false, false, true] ?_
        show eG _ 146 55 [some (.ref 49), some (.int (zI l1)), some (.int (zI (5 * l1))), none] [.int (zI 1), .int (zI (5 * l1)), .ref 53] (rd z1.2) _
        cases h
        exact j
    · show eG _ 146 20 [some (.ref 49), some (.int (zI l1)), some (.int (zI (5 * l1))), some (.int (zI z1.1))] [.int (zI (5 * l1)), .ref 53] (rd z1.2) _
      refine g_run 2 55 [some (.ref 49), some (.int (zI l1)), some (.int (zI (5 * l1))), some (.int (zI z1.1))] [.int (zI 0), .int (zI (5 * l1)), .ref 53] (rd z1.2) rfl ?_
      refine g_fgt [false, false, false, true] ?_
      show eG _ 146 55 [some (.ref 49), some (.int (zI l1)), some (.int (zI (5 * l1))), none] [.int (zI 0), .int (zI (5 * l1)), .ref 53] (rd z1.2) _
      cases h
      exact j
def fM_readAll_1 : Nat → ZS → Int → Int → Int → Option ((Int × ZS) ⊕ (ZS))
  | 0, _, _, _, _ => none
  | n + 1, S, l1, l2, l3 => gC l3 l2 (if l3 < l2 then gC l1 0 (if l1 = 0 then (fM_readSet n S (zF S 49 1)).bind fun z1 => gX l3 40 (gX l3 40 (gC (zA (wA z1.2 53 l3 z1.1) 53 l3) 0 (if (zA (wA z1.2 53 l3 z1.1) 53 l3) < 0 then gB 0 (some (.inl (0, wA z1.2 53 l3 z1.1))) else (fM_nextByte n (wF (wA z1.2 53 l3 z1.1) 49 11 (l3 + 1))).bind fun z2 => gC z2.1 0 (if z2.1 < 0 then gB 1 (some (.inl (1, z2.2))) else gC z2.1 44 (if z2.1 = 44 then gC l3 (l2 - 1) (if l3 = (l2 - 1) then gB 0 (some (.inl (0, z2.2))) else fM_readAll_1 n (wF z2.2 49 10 ((zF z2.2 49 10) + 1)) l1 l2 (l3 + 1)) else gB 0 (some (.inl (0, z2.2)))))))) else (fM_readPart n S l3).bind fun z3 => gC z3.1 0 (if z3.1 = 0 then gB 0 (some (.inl (0, z3.2))) else (fM_nextByte n (wF z3.2 49 11 (l3 + 1))).bind fun z4 => gC z4.1 0 (if z4.1 < 0 then gB 1 (some (.inl (1, z4.2))) else gC z4.1 44 (if z4.1 = 44 then gC l3 (l2 - 1) (if l3 = (l2 - 1) then gB 0 (some (.inl (0, z4.2))) else fM_readAll_1 n (wF z4.2 49 10 ((zF z4.2 49 10) + 1)) l1 l2 (l3 + 1)) else gB 0 (some (.inl (0, z4.2))))))) else some (.inr S))
set_option maxRecDepth 100000 in
set_option maxHeartbeats 4000000 in
theorem sM_readAll_1 (o : eO) : ∀ (n : Nat) (S : ZS) (l1 l2 l3 : Int) {w : (Int × ZS) ⊕ (ZS)} {r : eP} (h : fM_readAll_1 n S l1 l2 l3 = some w) (hr : ∀ v, w = .inl v → r (some (.int (zI v.1)), rd v.2)) (hk : ∀ x, w = .inr x → eG o 145 119 [none, none, none, none, none] [] (rd x) r), eG o 145 23 [some (.ref 49), some (.int (zI l1)), some (.int (zI l2)), some (.int (zI l3)), none] [] (rd S) r := by
  intro n
  induction n with
  | zero => intro S l1 l2 l3 w r h hr hk; unfold fM_readAll_1 at h; cases h
  | succ n ih =>
    intro S l1 l2 l3 w r h hr hk
    unfold fM_readAll_1 at h
    refine g_run 2 25 [some (.ref 49), some (.int (zI l1)), some (.int (zI l2)), some (.int (zI l3)), none] [.int (zI l2), .int (zI l3)] (rd S) rfl ?_
    refine s_icmp_ge rfl h (fun h => ?_) (fun h => ?_)
    · show eG _ 145 119 [some (.ref 49), some (.int (zI l1)), some (.int (zI l2)), some (.int (zI l3)), none] [] (rd S) _
      refine g_fgt [true, true, true, true, true] ?_
      show eG _ 145 119 [none, none, none, none, none] [] (rd S) _
      cases h
      exact hk _ rfl
    · show eG _ 145 28 [some (.ref 49), some (.int (zI l1)), some (.int (zI l2)), some (.int (zI l3)), none] [] (rd S) _
      refine g_run 1 29 [some (.ref 49), some (.int (zI l1)), some (.int (zI l2)), some (.int (zI l3)), none] [.int (zI l1)] (rd S) rfl ?_
      refine s_if_eq rfl h (fun h => ?_) (fun h => ?_)
      · show eG _ 145 42 [some (.ref 49), some (.int (zI l1)), some (.int (zI l2)), some (.int (zI l3)), none] [] (rd S) _
        refine g_run 1 43 [some (.ref 49), some (.int (zI l1)), some (.int (zI l2)), some (.int (zI l3)), none] [.ref 49] (rd S) rfl ?_
        refine g_getf rfl rfl (rd_o49 _) rfl ?_
        show eG _ 145 46 [some (.ref 49), some (.int (zI l1)), some (.int (zI l2)), some (.int (zI l3)), none] [.ref 53] (rd S) _
        refine g_run 3 49 [some (.ref 49), some (.int (zI l1)), some (.int (zI l2)), some (.int (zI l3)), none] [.ref 49, .ref 49, .int (zI l3), .ref 53] (rd S) rfl ?_
        refine g_getf rfl rfl (rd_o49 _) rfl ?_
        show eG _ 145 52 [some (.ref 49), some (.int (zI l1)), some (.int (zI l2)), some (.int (zI l3)), none] [.int (zI (zF S 49 1)), .ref 49, .int (zI l3), .ref 53] (rd S) _
        refine s_vir (fun z => some (.int (zI z.1))) (fun z => rd z.2) rfl rfl rfl (rd_o49 _) rfl rfl (fun z hz => sM_readSet o n S (zF S 49 1) hz) rfl h (fun z1 h => ?_)
        show eG _ 145 55 [some (.ref 49), some (.int (zI l1)), some (.int (zI l2)), some (.int (zI l3)), none] [.int (zI z1.1), .int (zI l3), .ref 53] (rd z1.2) _
        refine s_iast rfl (rd_a53 _) (rw_a53 _ _) h (fun h => ?_)
        show eG _ 145 56 [some (.ref 49), some (.int (zI l1)), some (.int (zI l2)), some (.int (zI l3)), none] [] (rd (wA z1.2 53 l3 z1.1)) _
        refine g_run 1 57 [some (.ref 49), some (.int (zI l1)), some (.int (zI l2)), some (.int (zI l3)), none] [.ref 49] (rd (wA z1.2 53 l3 z1.1)) rfl ?_
        refine g_getf rfl rfl (rd_o49 _) rfl ?_
        show eG _ 145 60 [some (.ref 49), some (.int (zI l1)), some (.int (zI l2)), some (.int (zI l3)), none] [.ref 53] (rd (wA z1.2 53 l3 z1.1)) _
        refine g_run 1 61 [some (.ref 49), some (.int (zI l1)), some (.int (zI l2)), some (.int (zI l3)), none] [.int (zI l3), .ref 53] (rd (wA z1.2 53 l3 z1.1)) rfl ?_
        refine s_iald rfl (rd_a53 _) h (fun h => ?_)
        show eG _ 145 62 [some (.ref 49), some (.int (zI l1)), some (.int (zI l2)), some (.int (zI l3)), none] [.int (zI (zA (wA z1.2 53 l3 z1.1) 53 l3))] (rd (wA z1.2 53 l3 z1.1)) _
        refine s_if_ge rfl h (fun h => ?_) (fun h => ?_)
        · show eG _ 145 67 [some (.ref 49), some (.int (zI l1)), some (.int (zI l2)), some (.int (zI l3)), none] [] (rd (wA z1.2 53 l3 z1.1)) _
          refine g_run 3 70 [some (.ref 49), some (.int (zI l1)), some (.int (zI l2)), some (.int (zI l3)), none] [.int (zI 1), .int (zI l3), .ref 49] (rd (wA z1.2 53 l3 z1.1)) rfl ?_
          refine s_iadd rfl ?_
          refine s_putf rfl rfl (rd_o49 _) rfl rfl rfl rfl rfl (rw_o49_11 _ _) ?_
          show eG _ 145 74 [some (.ref 49), some (.int (zI l1)), some (.int (zI l2)), some (.int (zI l3)), none] [] (rd (wF (wA z1.2 53 l3 z1.1) 49 11 (l3 + 1))) _
          refine g_run 1 75 [some (.ref 49), some (.int (zI l1)), some (.int (zI l2)), some (.int (zI l3)), none] [.ref 49] (rd (wF (wA z1.2 53 l3 z1.1) 49 11 (l3 + 1))) rfl ?_
          refine s_vir (fun z => some (.int (zI z.1))) (fun z => rd z.2) rfl rfl rfl (rd_o49 _) rfl rfl (fun z hz => sM_nextByte o n (wF (wA z1.2 53 l3 z1.1) 49 11 (l3 + 1)) hz) rfl h (fun z2 h => ?_)
          show eG _ 145 78 [some (.ref 49), some (.int (zI l1)), some (.int (zI l2)), some (.int (zI l3)), none] [.int (zI z2.1)] (rd z2.2) _
          refine g_run 2 82 [some (.ref 49), some (.int (zI l1)), some (.int (zI l2)), some (.int (zI l3)), some (.int (zI z2.1))] [.int (zI z2.1)] (rd z2.2) rfl ?_
          refine s_if_ge rfl h (fun h => ?_) (fun h => ?_)
          · show eG _ 145 87 [some (.ref 49), some (.int (zI l1)), some (.int (zI l2)), some (.int (zI l3)), some (.int (zI z2.1))] [] (rd z2.2) _
            refine g_run 2 91 [some (.ref 49), some (.int (zI l1)), some (.int (zI l2)), some (.int (zI l3)), some (.int (zI z2.1))] [.int (zI 44), .int (zI z2.1)] (rd z2.2) rfl ?_
            refine s_icmp_ne rfl h (fun h => ?_) (fun h => ?_)
            · show eG _ 145 101 [some (.ref 49), some (.int (zI l1)), some (.int (zI l2)), some (.int (zI l3)), some (.int (zI z2.1))] [] (rd z2.2) _
              refine g_run 1 102 [some (.ref 49), some (.int (zI l1)), some (.int (zI l2)), some (.int (zI l3)), some (.int (zI z2.1))] [.int (zI 0)] (rd z2.2) rfl ?_
              exact s_retB rfl rfl h (fun h => by cases h; exact hr _ rfl)
            · show eG _ 145 94 [some (.ref 49), some (.int (zI l1)), some (.int (zI l2)), some (.int (zI l3)), some (.int (zI z2.1))] [] (rd z2.2) _
              refine g_run 3 97 [some (.ref 49), some (.int (zI l1)), some (.int (zI l2)), some (.int (zI l3)), some (.int (zI z2.1))] [.int (zI 1), .int (zI l2), .int (zI l3)] (rd z2.2) rfl ?_
              refine s_isub rfl ?_
              refine s_icmp_ne rfl h (fun h => ?_) (fun h => ?_)
              · show eG _ 145 103 [some (.ref 49), some (.int (zI l1)), some (.int (zI l2)), some (.int (zI l3)), some (.int (zI z2.1))] [] (rd z2.2) _
                refine g_run 2 105 [some (.ref 49), some (.int (zI l1)), some (.int (zI l2)), some (.int (zI l3)), some (.int (zI z2.1))] [.ref 49, .ref 49] (rd z2.2) rfl ?_
                refine g_getf rfl rfl (rd_o49 _) rfl ?_
                show eG _ 145 108 [some (.ref 49), some (.int (zI l1)), some (.int (zI l2)), some (.int (zI l3)), some (.int (zI z2.1))] [.int (zI (zF z2.2 49 10)), .ref 49] (rd z2.2) _
                refine g_run 1 109 [some (.ref 49), some (.int (zI l1)), some (.int (zI l2)), some (.int (zI l3)), some (.int (zI z2.1))] [.int (zI 1), .int (zI (zF z2.2 49 10)), .ref 49] (rd z2.2) rfl ?_
                refine s_iadd rfl ?_
                refine s_putf rfl rfl (rd_o49 _) rfl rfl rfl rfl rfl (rw_o49_10 _ _) ?_
                show eG _ 145 113 [some (.ref 49), some (.int (zI l1)), some (.int (zI l2)), some (.int (zI l3)), some (.int (zI z2.1))] [] (rd (wF z2.2 49 10 ((zF z2.2 49 10) + 1))) _
                refine s_iinc (L' := [some (.ref 49), some (.int (zI l1)), some (.int (zI l2)), some (.int (zI (l3 + 1))), some (.int (zI z2.1))]) rfl rfl rfl ?_
                refine g_run 1 23 [some (.ref 49), some (.int (zI l1)), some (.int (zI l2)), some (.int (zI (l3 + 1))), some (.int (zI z2.1))] [] (rd (wF z2.2 49 10 ((zF z2.2 49 10) + 1))) rfl ?_
                refine g_fgt [false, false, false, false, true] ?_
                show eG _ 145 23 [some (.ref 49), some (.int (zI l1)), some (.int (zI l2)), some (.int (zI (l3 + 1))), none] [] (rd (wF z2.2 49 10 ((zF z2.2 49 10) + 1))) _
                exact ih (wF z2.2 49 10 ((zF z2.2 49 10) + 1)) l1 l2 (l3 + 1) h hr hk
              · show eG _ 145 101 [some (.ref 49), some (.int (zI l1)), some (.int (zI l2)), some (.int (zI l3)), some (.int (zI z2.1))] [] (rd z2.2) _
                refine g_run 1 102 [some (.ref 49), some (.int (zI l1)), some (.int (zI l2)), some (.int (zI l3)), some (.int (zI z2.1))] [.int (zI 0)] (rd z2.2) rfl ?_
                exact s_retB rfl rfl h (fun h => by cases h; exact hr _ rfl)
          · show eG _ 145 85 [some (.ref 49), some (.int (zI l1)), some (.int (zI l2)), some (.int (zI l3)), some (.int (zI z2.1))] [] (rd z2.2) _
            refine g_run 1 86 [some (.ref 49), some (.int (zI l1)), some (.int (zI l2)), some (.int (zI l3)), some (.int (zI z2.1))] [.int (zI 1)] (rd z2.2) rfl ?_
            exact s_retB rfl rfl h (fun h => by cases h; exact hr _ rfl)
        · show eG _ 145 65 [some (.ref 49), some (.int (zI l1)), some (.int (zI l2)), some (.int (zI l3)), none] [] (rd (wA z1.2 53 l3 z1.1)) _
          refine g_run 1 66 [some (.ref 49), some (.int (zI l1)), some (.int (zI l2)), some (.int (zI l3)), none] [.int (zI 0)] (rd (wA z1.2 53 l3 z1.1)) rfl ?_
          exact s_retB rfl rfl h (fun h => by cases h; exact hr _ rfl)
      · show eG _ 145 32 [some (.ref 49), some (.int (zI l1)), some (.int (zI l2)), some (.int (zI l3)), none] [] (rd S) _
        refine g_run 2 34 [some (.ref 49), some (.int (zI l1)), some (.int (zI l2)), some (.int (zI l3)), none] [.int (zI l3), .ref 49] (rd S) rfl ?_
        refine s_vir (fun z => some (.int (zI z.1))) (fun z => rd z.2) rfl rfl rfl (rd_o49 _) rfl rfl (fun z hz => sM_readPart o n S l3 hz) rfl h (fun z3 h => ?_)
        show eG _ 145 37 [some (.ref 49), some (.int (zI l1)), some (.int (zI l2)), some (.int (zI l3)), none] [.int (zI z3.1)] (rd z3.2) _
        refine s_if_ne rfl h (fun h => ?_) (fun h => ?_)
        · show eG _ 145 67 [some (.ref 49), some (.int (zI l1)), some (.int (zI l2)), some (.int (zI l3)), none] [] (rd z3.2) _
          refine g_run 3 70 [some (.ref 49), some (.int (zI l1)), some (.int (zI l2)), some (.int (zI l3)), none] [.int (zI 1), .int (zI l3), .ref 49] (rd z3.2) rfl ?_
          refine s_iadd rfl ?_
          refine s_putf rfl rfl (rd_o49 _) rfl rfl rfl rfl rfl (rw_o49_11 _ _) ?_
          show eG _ 145 74 [some (.ref 49), some (.int (zI l1)), some (.int (zI l2)), some (.int (zI l3)), none] [] (rd (wF z3.2 49 11 (l3 + 1))) _
          refine g_run 1 75 [some (.ref 49), some (.int (zI l1)), some (.int (zI l2)), some (.int (zI l3)), none] [.ref 49] (rd (wF z3.2 49 11 (l3 + 1))) rfl ?_
          refine s_vir (fun z => some (.int (zI z.1))) (fun z => rd z.2) rfl rfl rfl (rd_o49 _) rfl rfl (fun z hz => sM_nextByte o n (wF z3.2 49 11 (l3 + 1)) hz) rfl h (fun z4 h => ?_)
          show eG _ 145 78 [some (.ref 49), some (.int (zI l1)), some (.int (zI l2)), some (.int (zI l3)), none] [.int (zI z4.1)] (rd z4.2) _
          refine g_run 2 82 [some (.ref 49), some (.int (zI l1)), some (.int (zI l2)), some (.int (zI l3)), some (.int (zI z4.1))] [.int (zI z4.1)] (rd z4.2) rfl ?_
          refine s_if_ge rfl h (fun h => ?_) (fun h => ?_)
          · show eG _ 145 87 [some (.ref 49), some (.int (zI l1)), some (.int (zI l2)), some (.int (zI l3)), some (.int (zI z4.1))] [] (rd z4.2) _
            refine g_run 2 91 [some (.ref 49), some (.int (zI l1)), some (.int (zI l2)), some (.int (zI l3)), some (.int (zI z4.1))] [.int (zI 44), .int (zI z4.1)] (rd z4.2) rfl ?_
            refine s_icmp_ne rfl h (fun h => ?_) (fun h => ?_)
            · show eG _ 145 101 [some (.ref 49), some (.int (zI l1)), some (.int (zI l2)), some (.int (zI l3)), some (.int (zI z4.1))] [] (rd z4.2) _
              refine g_run 1 102 [some (.ref 49), some (.int (zI l1)), some (.int (zI l2)), some (.int (zI l3)), some (.int (zI z4.1))] [.int (zI 0)] (rd z4.2) rfl ?_
              exact s_retB rfl rfl h (fun h => by cases h; exact hr _ rfl)
            · show eG _ 145 94 [some (.ref 49), some (.int (zI l1)), some (.int (zI l2)), some (.int (zI l3)), some (.int (zI z4.1))] [] (rd z4.2) _
              refine g_run 3 97 [some (.ref 49), some (.int (zI l1)), some (.int (zI l2)), some (.int (zI l3)), some (.int (zI z4.1))] [.int (zI 1), .int (zI l2), .int (zI l3)] (rd z4.2) rfl ?_
              refine s_isub rfl ?_
              refine s_icmp_ne rfl h (fun h => ?_) (fun h => ?_)
              · show eG _ 145 103 [some (.ref 49), some (.int (zI l1)), some (.int (zI l2)), some (.int (zI l3)), some (.int (zI z4.1))] [] (rd z4.2) _
                refine g_run 2 105 [some (.ref 49), some (.int (zI l1)), some (.int (zI l2)), some (.int (zI l3)), some (.int (zI z4.1))] [.ref 49, .ref 49] (rd z4.2) rfl ?_
                refine g_getf rfl rfl (rd_o49 _) rfl ?_
                show eG _ 145 108 [some (.ref 49), some (.int (zI l1)), some (.int (zI l2)), some (.int (zI l3)), some (.int (zI z4.1))] [.int (zI (zF z4.2 49 10)), .ref 49] (rd z4.2) _
                refine g_run 1 109 [some (.ref 49), some (.int (zI l1)), some (.int (zI l2)), some (.int (zI l3)), some (.int (zI z4.1))] [.int (zI 1), .int (zI (zF z4.2 49 10)), .ref 49] (rd z4.2) rfl ?_
                refine s_iadd rfl ?_
                refine s_putf rfl rfl (rd_o49 _) rfl rfl rfl rfl rfl (rw_o49_10 _ _) ?_
                show eG _ 145 113 [some (.ref 49), some (.int (zI l1)), some (.int (zI l2)), some (.int (zI l3)), some (.int (zI z4.1))] [] (rd (wF z4.2 49 10 ((zF z4.2 49 10) + 1))) _
                refine s_iinc (L' := [some (.ref 49), some (.int (zI l1)), some (.int (zI l2)), some (.int (zI (l3 + 1))), some (.int (zI z4.1))]) rfl rfl rfl ?_
                refine g_run 1 23 [some (.ref 49), some (.int (zI l1)), some (.int (zI l2)), some (.int (zI (l3 + 1))), some (.int (zI z4.1))] [] (rd (wF z4.2 49 10 ((zF z4.2 49 10) + 1))) rfl ?_
                refine g_fgt [false, false, false, false, true] ?_
                show eG _ 145 23 [some (.ref 49), some (.int (zI l1)), some (.int (zI l2)), some (.int (zI (l3 + 1))), none] [] (rd (wF z4.2 49 10 ((zF z4.2 49 10) + 1))) _
                exact ih (wF z4.2 49 10 ((zF z4.2 49 10) + 1)) l1 l2 (l3 + 1) h hr hk
              · show eG _ 145 101 [some (.ref 49), some (.int (zI l1)), some (.int (zI l2)), some (.int (zI l3)), some (.int (zI z4.1))] [] (rd z4.2) _
                refine g_run 1 102 [some (.ref 49), some (.int (zI l1)), some (.int (zI l2)), some (.int (zI l3)), some (.int (zI z4.1))] [.int (zI 0)] (rd z4.2) rfl ?_
                exact s_retB rfl rfl h (fun h => by cases h; exact hr _ rfl)
          · show eG _ 145 85 [some (.ref 49), some (.int (zI l1)), some (.int (zI l2)), some (.int (zI l3)), some (.int (zI z4.1))] [] (rd z4.2) _
            refine g_run 1 86 [some (.ref 49), some (.int (zI l1)), some (.int (zI l2)), some (.int (zI l3)), some (.int (zI z4.1))] [.int (zI 1)] (rd z4.2) rfl ?_
            exact s_retB rfl rfl h (fun h => by cases h; exact hr _ rfl)
        · show eG _ 145 40 [some (.ref 49), some (.int (zI l1)), some (.int (zI l2)), some (.int (zI l3)), none] [] (rd z3.2) _
          refine g_run 1 41 [some (.ref 49), some (.int (zI l1)), some (.int (zI l2)), some (.int (zI l3)), none] [.int (zI 0)] (rd z3.2) rfl ?_
          exact s_retB rfl rfl h (fun h => by cases h; exact hr _ rfl)
def fM_readAll (n : Nat) (S : ZS) (l1 : Int) : Option (Int × ZS) := (gC l1 0 (if l1 = 0 then some 4 else some 8)).bind fun z1 => zR (fM_readAll_1 n (wF (wF S 49 10 0) 49 12 0) l1 z1 0) fun z2 => gB 0 (some (0, z2))
set_option maxRecDepth 100000 in
set_option maxHeartbeats 4000000 in
theorem sM_readAll (o : eO) (n : Nat) (S : ZS) (l1 : Int) {w : Int × ZS} (h : fM_readAll n S l1 = some w) : eG o 145 0 (eEnt 145 [.ref 49, .int (zI l1)]) [] (rd S) (rv (some (.int (zI w.1))) (rd w.2)) := by
  unfold fM_readAll at h
  show eG o 145 0 [some (.ref 49), some (.int (zI l1)), none, none, none] [] (rd S) _
  refine g_run 2 2 [some (.ref 49), some (.int (zI l1)), none, none, none] [.int (zI 0), .ref 49] (rd S) rfl ?_
  refine s_putf rfl rfl (rd_o49 _) rfl rfl rfl rfl rfl (rw_o49_10 _ _) ?_
  show eG _ 145 5 [some (.ref 49), some (.int (zI l1)), none, none, none] [] (rd (wF S 49 10 0)) _
  refine g_run 2 7 [some (.ref 49), some (.int (zI l1)), none, none, none] [.int (zI 0), .ref 49] (rd (wF S 49 10 0)) rfl ?_
  refine s_putf rfl rfl (rd_o49 _) rfl rfl rfl rfl rfl (rw_o49_12 _ _) ?_
  show eG _ 145 10 [some (.ref 49), some (.int (zI l1)), none, none, none] [] (rd (wF (wF S 49 10 0) 49 12 0)) _
  refine g_run 1 11 [some (.ref 49), some (.int (zI l1)), none, none, none] [.int (zI l1)] (rd (wF (wF S 49 10 0) 49 12 0)) rfl ?_
  refine s_join (α := Int) (fun z => eG o 145 20 [some (.ref 49), some (.int (zI l1)), none, none, none] [.int (zI z)] (rd (wF (wF S 49 10 0) 49 12 0)) (rv (some (.int (zI w.1))) (rd w.2))) h (fun z1 h => ?_) (fun z1 h j => ?_)
  · show eG _ 145 20 [some (.ref 49), some (.int (zI l1)), none, none, none] [.int (zI z1)] (rd (wF (wF S 49 10 0) 49 12 0)) _
    refine g_run 3 23 [some (.ref 49), some (.int (zI l1)), some (.int (zI z1)), some (.int (zI 0)), none] [] (rd (wF (wF S 49 10 0) 49 12 0)) rfl ?_
    rcases zR_inv h with h1 | ⟨z2, h1, h⟩
    · exact sM_readAll_1 o n (wF (wF S 49 10 0) 49 12 0) l1 z1 0 h1 (fun v e => by cases e; rfl) (fun x e => by cases e)
    refine sM_readAll_1 o n (wF (wF S 49 10 0) 49 12 0) l1 z1 0 h1 (fun v e => by cases e) (fun x e => ?_)
    cases e
    show eG _ 145 119 [none, none, none, none, none] [] (rd z2) _
    refine g_run 1 120 [none, none, none, none, none] [.int (zI 0)] (rd z2) rfl ?_
    exact s_retB rfl rfl h (fun h => by cases h; exact rfl)
  · skip
    refine s_if_eq rfl h (fun h => ?_) (fun h => ?_)
    · show eG _ 145 19 [some (.ref 49), some (.int (zI l1)), none, none, none] [] (rd (wF (wF S 49 10 0) 49 12 0)) _
      refine g_run 1 20 [some (.ref 49), some (.int (zI l1)), none, none, none] [.int (zI 4)] (rd (wF (wF S 49 10 0) 49 12 0)) rfl ?_
      cases h
      exact j
    · show eG _ 145 14 [some (.ref 49), some (.int (zI l1)), none, none, none] [] (rd (wF (wF S 49 10 0) 49 12 0)) _
      refine g_run 2 20 [some (.ref 49), some (.int (zI l1)), none, none, none] [.int (zI 8)] (rd (wF (wF S 49 10 0) 49 12 0)) rfl ?_
      cases h
      exact j
def fM_town_1 : Nat → ZS → Int → Option (ZS)
  | 0, _, _ => none
  | n + 1, S, l2 => gC l2 (zF S 49 11) (if l2 < (zF S 49 11) then gX (5 * l2) 40 (gX ((5 * l2) + 1) 40 (gX ((5 * l2) + 2) 40 (gX ((5 * l2) + 3) 40 (gX ((5 * l2) + 4) 40 ((fM_add n S (zA S 53 (5 * l2)) (zA S 53 ((5 * l2) + 1)) (zA S 53 ((5 * l2) + 2)) (zA S 53 ((5 * l2) + 3)) (zA S 53 ((5 * l2) + 4))).bind fun z1 => fM_town_1 n z1 (l2 + 1)))))) else some S)
set_option maxRecDepth 100000 in
set_option maxHeartbeats 4000000 in
theorem sM_town_1 (o : eO) : ∀ (n : Nat) (S : ZS) (l2 : Int) {w : ZS} {r : eP} (h : fM_town_1 n S l2 = some w) (hk : eG o 144 115 [some (.ref 49), none, none] [] (rd w) r), eG o 144 49 [some (.ref 49), none, some (.int (zI l2))] [] (rd S) r := by
  intro n
  induction n with
  | zero => intro S l2 w r h hk; unfold fM_town_1 at h; cases h
  | succ n ih =>
    intro S l2 w r h hk
    unfold fM_town_1 at h
    refine g_run 2 51 [some (.ref 49), none, some (.int (zI l2))] [.ref 49, .int (zI l2)] (rd S) rfl ?_
    refine g_getf rfl rfl (rd_o49 _) rfl ?_
    show eG _ 144 54 [some (.ref 49), none, some (.int (zI l2))] [.int (zI (zF S 49 11)), .int (zI l2)] (rd S) _
    refine s_icmp_ge rfl h (fun h => ?_) (fun h => ?_)
    · show eG _ 144 115 [some (.ref 49), none, some (.int (zI l2))] [] (rd S) _
      refine g_fgt [false, true, true] ?_
      show eG _ 144 115 [some (.ref 49), none, none] [] (rd S) _
      cases h
      exact hk
    · show eG _ 144 57 [some (.ref 49), none, some (.int (zI l2))] [] (rd S) _
      refine g_run 2 59 [some (.ref 49), none, some (.int (zI l2))] [.ref 49, .ref 49] (rd S) rfl ?_
      refine g_getf rfl rfl (rd_o49 _) rfl ?_
      show eG _ 144 62 [some (.ref 49), none, some (.int (zI l2))] [.ref 53, .ref 49] (rd S) _
      refine g_run 2 64 [some (.ref 49), none, some (.int (zI l2))] [.int (zI l2), .int (zI 5), .ref 53, .ref 49] (rd S) rfl ?_
      refine s_imul rfl ?_
      refine s_iald rfl (rd_a53 _) h (fun h => ?_)
      show eG _ 144 66 [some (.ref 49), none, some (.int (zI l2))] [.int (zI (zA S 53 (5 * l2))), .ref 49] (rd S) _
      refine g_run 1 67 [some (.ref 49), none, some (.int (zI l2))] [.ref 49, .int (zI (zA S 53 (5 * l2))), .ref 49] (rd S) rfl ?_
      refine g_getf rfl rfl (rd_o49 _) rfl ?_
      show eG _ 144 70 [some (.ref 49), none, some (.int (zI l2))] [.ref 53, .int (zI (zA S 53 (5 * l2))), .ref 49] (rd S) _
      refine g_run 2 72 [some (.ref 49), none, some (.int (zI l2))] [.int (zI l2), .int (zI 5), .ref 53, .int (zI (zA S 53 (5 * l2))), .ref 49] (rd S) rfl ?_
      refine s_imul rfl ?_
      refine g_run 1 74 [some (.ref 49), none, some (.int (zI l2))] [.int (zI 1), .int (zI (5 * l2)), .ref 53, .int (zI (zA S 53 (5 * l2))), .ref 49] (rd S) rfl ?_
      refine s_iadd rfl ?_
      refine s_iald rfl (rd_a53 _) h (fun h => ?_)
      show eG _ 144 76 [some (.ref 49), none, some (.int (zI l2))] [.int (zI (zA S 53 ((5 * l2) + 1))), .int (zI (zA S 53 (5 * l2))), .ref 49] (rd S) _
      refine g_run 1 77 [some (.ref 49), none, some (.int (zI l2))] [.ref 49, .int (zI (zA S 53 ((5 * l2) + 1))), .int (zI (zA S 53 (5 * l2))), .ref 49] (rd S) rfl ?_
      refine g_getf rfl rfl (rd_o49 _) rfl ?_
      show eG _ 144 80 [some (.ref 49), none, some (.int (zI l2))] [.ref 53, .int (zI (zA S 53 ((5 * l2) + 1))), .int (zI (zA S 53 (5 * l2))), .ref 49] (rd S) _
      refine g_run 2 82 [some (.ref 49), none, some (.int (zI l2))] [.int (zI l2), .int (zI 5), .ref 53, .int (zI (zA S 53 ((5 * l2) + 1))), .int (zI (zA S 53 (5 * l2))), .ref 49] (rd S) rfl ?_
      refine s_imul rfl ?_
      refine g_run 1 84 [some (.ref 49), none, some (.int (zI l2))] [.int (zI 2), .int (zI (5 * l2)), .ref 53, .int (zI (zA S 53 ((5 * l2) + 1))), .int (zI (zA S 53 (5 * l2))), .ref 49] (rd S) rfl ?_
      refine s_iadd rfl ?_
      refine s_iald rfl (rd_a53 _) h (fun h => ?_)
      show eG _ 144 86 [some (.ref 49), none, some (.int (zI l2))] [.int (zI (zA S 53 ((5 * l2) + 2))), .int (zI (zA S 53 ((5 * l2) + 1))), .int (zI (zA S 53 (5 * l2))), .ref 49] (rd S) _
      refine g_run 1 87 [some (.ref 49), none, some (.int (zI l2))] [.ref 49, .int (zI (zA S 53 ((5 * l2) + 2))), .int (zI (zA S 53 ((5 * l2) + 1))), .int (zI (zA S 53 (5 * l2))), .ref 49] (rd S) rfl ?_
      refine g_getf rfl rfl (rd_o49 _) rfl ?_
      show eG _ 144 90 [some (.ref 49), none, some (.int (zI l2))] [.ref 53, .int (zI (zA S 53 ((5 * l2) + 2))), .int (zI (zA S 53 ((5 * l2) + 1))), .int (zI (zA S 53 (5 * l2))), .ref 49] (rd S) _
      refine g_run 2 92 [some (.ref 49), none, some (.int (zI l2))] [.int (zI l2), .int (zI 5), .ref 53, .int (zI (zA S 53 ((5 * l2) + 2))), .int (zI (zA S 53 ((5 * l2) + 1))), .int (zI (zA S 53 (5 * l2))), .ref 49] (rd S) rfl ?_
      refine s_imul rfl ?_
      refine g_run 1 94 [some (.ref 49), none, some (.int (zI l2))] [.int (zI 3), .int (zI (5 * l2)), .ref 53, .int (zI (zA S 53 ((5 * l2) + 2))), .int (zI (zA S 53 ((5 * l2) + 1))), .int (zI (zA S 53 (5 * l2))), .ref 49] (rd S) rfl ?_
      refine s_iadd rfl ?_
      refine s_iald rfl (rd_a53 _) h (fun h => ?_)
      show eG _ 144 96 [some (.ref 49), none, some (.int (zI l2))] [.int (zI (zA S 53 ((5 * l2) + 3))), .int (zI (zA S 53 ((5 * l2) + 2))), .int (zI (zA S 53 ((5 * l2) + 1))), .int (zI (zA S 53 (5 * l2))), .ref 49] (rd S) _
      refine g_run 1 97 [some (.ref 49), none, some (.int (zI l2))] [.ref 49, .int (zI (zA S 53 ((5 * l2) + 3))), .int (zI (zA S 53 ((5 * l2) + 2))), .int (zI (zA S 53 ((5 * l2) + 1))), .int (zI (zA S 53 (5 * l2))), .ref 49] (rd S) rfl ?_
      refine g_getf rfl rfl (rd_o49 _) rfl ?_
      show eG _ 144 100 [some (.ref 49), none, some (.int (zI l2))] [.ref 53, .int (zI (zA S 53 ((5 * l2) + 3))), .int (zI (zA S 53 ((5 * l2) + 2))), .int (zI (zA S 53 ((5 * l2) + 1))), .int (zI (zA S 53 (5 * l2))), .ref 49] (rd S) _
      refine g_run 2 102 [some (.ref 49), none, some (.int (zI l2))] [.int (zI l2), .int (zI 5), .ref 53, .int (zI (zA S 53 ((5 * l2) + 3))), .int (zI (zA S 53 ((5 * l2) + 2))), .int (zI (zA S 53 ((5 * l2) + 1))), .int (zI (zA S 53 (5 * l2))), .ref 49] (rd S) rfl ?_
      refine s_imul rfl ?_
      refine g_run 1 104 [some (.ref 49), none, some (.int (zI l2))] [.int (zI 4), .int (zI (5 * l2)), .ref 53, .int (zI (zA S 53 ((5 * l2) + 3))), .int (zI (zA S 53 ((5 * l2) + 2))), .int (zI (zA S 53 ((5 * l2) + 1))), .int (zI (zA S 53 (5 * l2))), .ref 49] (rd S) rfl ?_
      refine s_iadd rfl ?_
      refine s_iald rfl (rd_a53 _) h (fun h => ?_)
      show eG _ 144 106 [some (.ref 49), none, some (.int (zI l2))] [.int (zI (zA S 53 ((5 * l2) + 4))), .int (zI (zA S 53 ((5 * l2) + 3))), .int (zI (zA S 53 ((5 * l2) + 2))), .int (zI (zA S 53 ((5 * l2) + 1))), .int (zI (zA S 53 (5 * l2))), .ref 49] (rd S) _
      refine s_vir (fun _ => none) (fun z => rd z) rfl rfl rfl (rd_o49 _) rfl rfl (fun z hz => sM_add o n S (zA S 53 (5 * l2)) (zA S 53 ((5 * l2) + 1)) (zA S 53 ((5 * l2) + 2)) (zA S 53 ((5 * l2) + 3)) (zA S 53 ((5 * l2) + 4)) hz) rfl h (fun z1 h => ?_)
      show eG _ 144 109 [some (.ref 49), none, some (.int (zI l2))] [] (rd z1) _
      refine s_iinc (L' := [some (.ref 49), none, some (.int (zI (l2 + 1)))]) rfl rfl rfl ?_
      refine g_run 1 49 [some (.ref 49), none, some (.int (zI (l2 + 1)))] [] (rd z1) rfl ?_
      exact ih z1 (l2 + 1) h hk
def fM_town (n : Nat) (S : ZS) : Option (Int × ZS) := (fM_readAll n S 1).bind fun z1 => (gC z1.1 0 (if z1.1 = 0 then (fM_nextByte n z1.2).bind fun z4 => some z4.2 else some z1.2)).bind fun z2 => gC z1.1 0 (if z1.1 = 0 then some ((-20) - (zF z2 49 10), wF z2 49 9 0) else (fM_town_1 n (wF (wF (wF (wF z2 49 9 0) 49 1 0) 49 7 0) 49 3 0) 0).bind fun z3 => some (zF z3 49 1, wF z3 49 2 (zF z3 49 12)))
set_option maxRecDepth 100000 in
set_option maxHeartbeats 4000000 in
theorem sM_town (o : eO) (n : Nat) (S : ZS) {w : Int × ZS} (h : fM_town n S = some w) : eG o 144 0 (eEnt 144 [.ref 49]) [] (rd S) (rv (some (.int (zI w.1))) (rd w.2)) := by
  unfold fM_town at h
  show eG o 144 0 [some (.ref 49), none, none] [] (rd S) _
  refine g_run 2 2 [some (.ref 49), none, none] [.int (zI 1), .ref 49] (rd S) rfl ?_
  refine s_vir (fun z => some (.int (zI z.1))) (fun z => rd z.2) rfl rfl rfl (rd_o49 _) rfl rfl (fun z hz => sM_readAll o n S 1 hz) rfl h (fun z1 h => ?_)
  show eG _ 144 5 [some (.ref 49), none, none] [.int (zI z1.1)] (rd z1.2) _
  refine g_run 2 7 [some (.ref 49), some (.int (zI z1.1)), none] [.int (zI z1.1)] (rd z1.2) rfl ?_
  refine s_join (α := ZS) (fun z => eG o 144 15 [some (.ref 49), some (.int (zI z1.1)), none] [] (rd z) (rv (some (.int (zI w.1))) (rd w.2))) h (fun z2 h => ?_) (fun z2 h j => ?_)
  · show eG _ 144 15 [some (.ref 49), some (.int (zI z1.1)), none] [] (rd z2) _
    refine g_run 2 17 [some (.ref 49), some (.int (zI z1.1)), none] [.int (zI 0), .ref 49] (rd z2) rfl ?_
    refine s_putf rfl rfl (rd_o49 _) rfl rfl rfl rfl rfl (rw_o49_9 _ _) ?_
    show eG _ 144 20 [some (.ref 49), some (.int (zI z1.1)), none] [] (rd (wF z2 49 9 0)) _
    refine g_run 1 21 [some (.ref 49), some (.int (zI z1.1)), none] [.int (zI z1.1)] (rd (wF z2 49 9 0)) rfl ?_
    refine s_if_ne rfl h (fun h => ?_) (fun h => ?_)
    · show eG _ 144 32 [some (.ref 49), some (.int (zI z1.1)), none] [] (rd (wF z2 49 9 0)) _
      refine g_run 2 34 [some (.ref 49), some (.int (zI z1.1)), none] [.int (zI 0), .ref 49] (rd (wF z2 49 9 0)) rfl ?_
      refine s_putf rfl rfl (rd_o49 _) rfl rfl rfl rfl rfl (rw_o49_1 _ _) ?_
      show eG _ 144 37 [some (.ref 49), some (.int (zI z1.1)), none] [] (rd (wF (wF z2 49 9 0) 49 1 0)) _
      refine g_run 2 39 [some (.ref 49), some (.int (zI z1.1)), none] [.int (zI 0), .ref 49] (rd (wF (wF z2 49 9 0) 49 1 0)) rfl ?_
      refine s_putf rfl rfl (rd_o49 _) rfl rfl rfl rfl rfl (rw_o49_7 _ _) ?_
      show eG _ 144 42 [some (.ref 49), some (.int (zI z1.1)), none] [] (rd (wF (wF (wF z2 49 9 0) 49 1 0) 49 7 0)) _
      refine g_run 2 44 [some (.ref 49), some (.int (zI z1.1)), none] [.int (zI 0), .ref 49] (rd (wF (wF (wF z2 49 9 0) 49 1 0) 49 7 0)) rfl ?_
      refine s_putf rfl rfl (rd_o49 _) rfl rfl rfl rfl rfl (rw_o49_3 _ _) ?_
      show eG _ 144 47 [some (.ref 49), some (.int (zI z1.1)), none] [] (rd (wF (wF (wF (wF z2 49 9 0) 49 1 0) 49 7 0) 49 3 0)) _
      refine g_run 2 49 [some (.ref 49), some (.int (zI z1.1)), some (.int (zI 0))] [] (rd (wF (wF (wF (wF z2 49 9 0) 49 1 0) 49 7 0) 49 3 0)) rfl ?_
      refine g_fgt [false, true, false] ?_
      show eG _ 144 49 [some (.ref 49), none, some (.int (zI 0))] [] (rd (wF (wF (wF (wF z2 49 9 0) 49 1 0) 49 7 0) 49 3 0)) _
      obtain ⟨z3, h1, h⟩ := zB_inv h
      refine sM_town_1 o n (wF (wF (wF (wF z2 49 9 0) 49 1 0) 49 7 0) 49 3 0) 0 h1 ?_
      show eG _ 144 115 [some (.ref 49), none, none] [] (rd z3) _
      refine g_run 2 117 [some (.ref 49), none, none] [.ref 49, .ref 49] (rd z3) rfl ?_
      refine g_getf rfl rfl (rd_o49 _) rfl ?_
      show eG _ 144 120 [some (.ref 49), none, none] [.int (zI (zF z3 49 12)), .ref 49] (rd z3) _
      refine s_putf rfl rfl (rd_o49 _) rfl rfl rfl rfl rfl (rw_o49_2 _ _) ?_
      show eG _ 144 123 [some (.ref 49), none, none] [] (rd (wF z3 49 2 (zF z3 49 12))) _
      refine g_run 1 124 [some (.ref 49), none, none] [.ref 49] (rd (wF z3 49 2 (zF z3 49 12))) rfl ?_
      refine g_getf rfl rfl (rd_o49 _) rfl ?_
      show eG _ 144 127 [some (.ref 49), none, none] [.int (zI (zF z3 49 1))] (rd (wF z3 49 2 (zF z3 49 12))) _
      cases h
      exact s_ret rfl rfl rfl
    · show eG _ 144 24 [some (.ref 49), some (.int (zI z1.1)), none] [] (rd (wF z2 49 9 0)) _
      refine g_run 2 27 [some (.ref 49), some (.int (zI z1.1)), none] [.ref 49, .int (zI (-20))] (rd (wF z2 49 9 0)) rfl ?_
      refine g_getf rfl rfl (rd_o49 _) rfl ?_
      show eG _ 144 30 [some (.ref 49), some (.int (zI z1.1)), none] [.int (zI (zF z2 49 10)), .int (zI (-20))] (rd (wF z2 49 9 0)) _
      refine s_isub rfl ?_
      cases h
      exact s_ret rfl rfl rfl
  · skip
    refine s_if_ne rfl h (fun h => ?_) (fun h => ?_)
    · show eG _ 144 15 [some (.ref 49), some (.int (zI z1.1)), none] [] (rd z1.2) _
      cases h
      exact j
    · show eG _ 144 10 [some (.ref 49), some (.int (zI z1.1)), none] [] (rd z1.2) _
      refine g_run 1 11 [some (.ref 49), some (.int (zI z1.1)), none] [.ref 49] (rd z1.2) rfl ?_
      refine s_vir (fun z => some (.int (zI z.1))) (fun z => rd z.2) rfl rfl rfl (rd_o49 _) rfl rfl (fun z hz => sM_nextByte o n z1.2 hz) rfl h (fun z4 h => ?_)
      show eG _ 144 14 [some (.ref 49), some (.int (zI z1.1)), none] [.int (zI z4.1)] (rd z4.2) _
      refine g_run 1 15 [some (.ref 49), some (.int (zI z1.1)), none] [] (rd z4.2) rfl ?_
      cases h
      exact j
