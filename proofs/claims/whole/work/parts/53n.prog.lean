def fM_build_1 : Nat → ZS → Int → Int → Option (Int × ZS)
  | 0, _, _, _ => none
  | n + 1, S, l2, l3 => gC l3 l2 (if l3 < l2 then (fM_buildBy n S 1 1).bind fun z1 => gC z1.1 0 (if z1.1 = 0 then (fM_buildBy n z1.2 1 0).bind fun z2 => gC z2.1 0 (if z2.1 = 0 then (fM_buildBy n z2.2 0 1).bind fun z3 => gC z3.1 0 (if z3.1 = 0 then some (l3, z3.2) else fM_build_1 n z3.2 l2 (l3 + 1)) else fM_build_1 n z2.2 l2 (l3 + 1)) else fM_build_1 n z1.2 l2 (l3 + 1)) else some (l3, S))
set_option maxRecDepth 100000 in
set_option maxHeartbeats 4000000 in
theorem sM_build_1 (o : eO) : ∀ (n : Nat) (S : ZS) (l2 l3 : Int) {w : Int × ZS} {r : eP} (h : fM_build_1 n S l2 l3 = some w) (hk : eG o 174 71 [none, none, none, some (.int (zI w.1))] [] (rd w.2) r), eG o 174 33 [some (.ref 49), none, some (.int (zI l2)), some (.int (zI l3))] [] (rd S) r := by
  intro n
  induction n with
  | zero => intro S l2 l3 w r h hk; unfold fM_build_1 at h; cases h
  | succ n ih =>
    intro S l2 l3 w r h hk
    unfold fM_build_1 at h
    refine g_run 2 35 [some (.ref 49), none, some (.int (zI l2)), some (.int (zI l3))] [.int (zI l2), .int (zI l3)] (rd S) rfl ?_
    refine s_icmp_ge rfl h (fun h => ?_) (fun h => ?_)
    · show eG _ 174 71 [some (.ref 49), none, some (.int (zI l2)), some (.int (zI l3))] [] (rd S) _
      refine g_fgt [true, true, true, false] ?_
      show eG _ 174 71 [none, none, none, some (.int (zI l3))] [] (rd S) _
      cases h
      exact hk
    · show eG _ 174 38 [some (.ref 49), none, some (.int (zI l2)), some (.int (zI l3))] [] (rd S) _
      refine g_run 3 41 [some (.ref 49), none, some (.int (zI l2)), some (.int (zI l3))] [.int (zI 1), .int (zI 1), .ref 49] (rd S) rfl ?_
      refine s_vir (fun z => some (.int (zI z.1))) (fun z => rd z.2) rfl rfl rfl (rd_o49 _) rfl rfl (fun z hz => sM_buildBy o n S 1 1 hz) rfl h (fun z1 h => ?_)
      show eG _ 174 44 [some (.ref 49), none, some (.int (zI l2)), some (.int (zI l3))] [.int (zI z1.1)] (rd z1.2) _
      refine s_if_ne rfl h (fun h => ?_) (fun h => ?_)
      · show eG _ 174 65 [some (.ref 49), none, some (.int (zI l2)), some (.int (zI l3))] [] (rd z1.2) _
        refine s_iinc (L' := [some (.ref 49), none, some (.int (zI l2)), some (.int (zI (l3 + 1)))]) rfl rfl rfl ?_
        refine g_run 1 33 [some (.ref 49), none, some (.int (zI l2)), some (.int (zI (l3 + 1)))] [] (rd z1.2) rfl ?_
        exact ih z1.2 l2 (l3 + 1) h hk
      · show eG _ 174 47 [some (.ref 49), none, some (.int (zI l2)), some (.int (zI l3))] [] (rd z1.2) _
        refine g_run 3 50 [some (.ref 49), none, some (.int (zI l2)), some (.int (zI l3))] [.int (zI 0), .int (zI 1), .ref 49] (rd z1.2) rfl ?_
        refine s_vir (fun z => some (.int (zI z.1))) (fun z => rd z.2) rfl rfl rfl (rd_o49 _) rfl rfl (fun z hz => sM_buildBy o n z1.2 1 0 hz) rfl h (fun z2 h => ?_)
        show eG _ 174 53 [some (.ref 49), none, some (.int (zI l2)), some (.int (zI l3))] [.int (zI z2.1)] (rd z2.2) _
        refine s_if_ne rfl h (fun h => ?_) (fun h => ?_)
        · show eG _ 174 65 [some (.ref 49), none, some (.int (zI l2)), some (.int (zI l3))] [] (rd z2.2) _
          refine s_iinc (L' := [some (.ref 49), none, some (.int (zI l2)), some (.int (zI (l3 + 1)))]) rfl rfl rfl ?_
          refine g_run 1 33 [some (.ref 49), none, some (.int (zI l2)), some (.int (zI (l3 + 1)))] [] (rd z2.2) rfl ?_
          exact ih z2.2 l2 (l3 + 1) h hk
        · show eG _ 174 56 [some (.ref 49), none, some (.int (zI l2)), some (.int (zI l3))] [] (rd z2.2) _
          refine g_run 3 59 [some (.ref 49), none, some (.int (zI l2)), some (.int (zI l3))] [.int (zI 1), .int (zI 0), .ref 49] (rd z2.2) rfl ?_
          refine s_vir (fun z => some (.int (zI z.1))) (fun z => rd z.2) rfl rfl rfl (rd_o49 _) rfl rfl (fun z hz => sM_buildBy o n z2.2 0 1 hz) rfl h (fun z3 h => ?_)
          show eG _ 174 62 [some (.ref 49), none, some (.int (zI l2)), some (.int (zI l3))] [.int (zI z3.1)] (rd z3.2) _
          refine s_if_eq rfl h (fun h => ?_) (fun h => ?_)
          · show eG _ 174 71 [some (.ref 49), none, some (.int (zI l2)), some (.int (zI l3))] [] (rd z3.2) _
            refine g_fgt [true, true, true, false] ?_
            show eG _ 174 71 [none, none, none, some (.int (zI l3))] [] (rd z3.2) _
            cases h
            exact hk
          · show eG _ 174 65 [some (.ref 49), none, some (.int (zI l2)), some (.int (zI l3))] [] (rd z3.2) _
            refine s_iinc (L' := [some (.ref 49), none, some (.int (zI l2)), some (.int (zI (l3 + 1)))]) rfl rfl rfl ?_
            refine g_run 1 33 [some (.ref 49), none, some (.int (zI l2)), some (.int (zI (l3 + 1)))] [] (rd z3.2) rfl ?_
            exact ih z3.2 l2 (l3 + 1) h hk
def fM_build (n : Nat) (S : ZS) (l1 l2 : Int) : Option (Int × ZS) := gC l1 0 ((fM_in n S l1 0 3).bind fun z1 => gC z1 0 (if z1 = 0 then some (-1, S) else gC l2 0 ((fM_in n S l2 1 60).bind fun z2 => gC z2 0 (if z2 = 0 then some (-1, S) else (fM_findOrder n S l1).bind fun z3 => (fM_build_1 n z3 l2 0).bind fun z4 => some (z4.1, z4.2)))))
set_option maxRecDepth 100000 in
set_option maxHeartbeats 4000000 in
theorem sM_build (o : eO) (n : Nat) (S : ZS) (l1 l2 : Int) {w : Int × ZS} (h : fM_build n S l1 l2 = some w) : eG o 174 0 (eEnt 174 [.ref 49, .int (zI l1), .int (zI l2)]) [] (rd S) (rv (some (.int (zI w.1))) (rd w.2)) := by
  unfold fM_build at h
  show eG o 174 0 [some (.ref 49), some (.int (zI l1)), some (.int (zI l2)), none] [] (rd S) _
  refine g_run 1 1 [some (.ref 49), some (.int (zI l1)), some (.int (zI l2)), none] [.int (zI l1)] (rd S) rfl ?_
  refine s_i2l rfl h (fun h => ?_)
  refine g_run 2 6 [some (.ref 49), some (.int (zI l1)), some (.int (zI l2)), none] [.long (zL 3), .long (zL 0), .long (zL l1)] (rd S) rfl ?_
  refine s_sta (fun z => some (.int (zI z))) (fun _ => rd S) rfl rfl rfl rfl rfl rfl rfl (fun z hz => sM_in o n S l1 0 3 hz) rfl h (fun z1 h => ?_)
  show eG _ 174 9 [some (.ref 49), some (.int (zI l1)), some (.int (zI l2)), none] [.int (zI z1)] (rd S) _
  refine s_if_eq rfl h (fun h => ?_) (fun h => ?_)
  · show eG _ 174 24 [some (.ref 49), some (.int (zI l1)), some (.int (zI l2)), none] [] (rd S) _
    refine g_run 1 25 [some (.ref 49), some (.int (zI l1)), some (.int (zI l2)), none] [.int (zI (-1))] (rd S) rfl ?_
    cases h
    exact s_ret rfl rfl rfl
  · show eG _ 174 12 [some (.ref 49), some (.int (zI l1)), some (.int (zI l2)), none] [] (rd S) _
    refine g_run 1 13 [some (.ref 49), some (.int (zI l1)), some (.int (zI l2)), none] [.int (zI l2)] (rd S) rfl ?_
    refine s_i2l rfl h (fun h => ?_)
    refine g_run 2 18 [some (.ref 49), some (.int (zI l1)), some (.int (zI l2)), none] [.long (zL 60), .long (zL 1), .long (zL l2)] (rd S) rfl ?_
    refine s_sta (fun z => some (.int (zI z))) (fun _ => rd S) rfl rfl rfl rfl rfl rfl rfl (fun z hz => sM_in o n S l2 1 60 hz) rfl h (fun z2 h => ?_)
    show eG _ 174 21 [some (.ref 49), some (.int (zI l1)), some (.int (zI l2)), none] [.int (zI z2)] (rd S) _
    refine s_if_ne rfl h (fun h => ?_) (fun h => ?_)
    · show eG _ 174 26 [some (.ref 49), some (.int (zI l1)), some (.int (zI l2)), none] [] (rd S) _
      refine g_run 2 28 [some (.ref 49), some (.int (zI l1)), some (.int (zI l2)), none] [.int (zI l1), .ref 49] (rd S) rfl ?_
      refine s_vir (fun _ => none) (fun z => rd z) rfl rfl rfl (rd_o49 _) rfl rfl (fun z hz => sM_findOrder o n S l1 hz) rfl h (fun z3 h => ?_)
      show eG _ 174 31 [some (.ref 49), some (.int (zI l1)), some (.int (zI l2)), none] [] (rd z3) _
      refine g_run 2 33 [some (.ref 49), some (.int (zI l1)), some (.int (zI l2)), some (.int (zI 0))] [] (rd z3) rfl ?_
      refine g_fgt [false, true, false, false] ?_
      show eG _ 174 33 [some (.ref 49), none, some (.int (zI l2)), some (.int (zI 0))] [] (rd z3) _
      obtain ⟨z4, h1, h⟩ := zB_inv h
      refine sM_build_1 o n z3 l2 0 h1 ?_
      show eG _ 174 71 [none, none, none, some (.int (zI z4.1))] [] (rd z4.2) _
      refine g_run 1 72 [none, none, none, some (.int (zI z4.1))] [.int (zI z4.1)] (rd z4.2) rfl ?_
      cases h
      exact s_ret rfl rfl rfl
    · show eG _ 174 24 [some (.ref 49), some (.int (zI l1)), some (.int (zI l2)), none] [] (rd S) _
      refine g_run 1 25 [some (.ref 49), some (.int (zI l1)), some (.int (zI l2)), none] [.int (zI (-1))] (rd S) rfl ?_
      cases h
      exact s_ret rfl rfl rfl
def fM_partsOf_1 : Nat → ZS → Int → Int → Int → Option (Int)
  | 0, _, _, _, _ => none
  | n + 1, S, l1, l2, l3 => gC l3 (zF S 49 1) (if l3 < (zF S 49 1) then gX ((5 * l3) + 3) 40 ((fM_has n S l1 (zA S 50 ((5 * l3) + 3))).bind fun z1 => gC z1 0 (if z1 = 0 then fM_partsOf_1 n S l1 (zor l2 0) (l3 + 1) else fM_partsOf_1 n S l1 (zor l2 (zshl 1 l3)) (l3 + 1))) else some l2)
set_option maxRecDepth 100000 in
set_option maxHeartbeats 4000000 in
theorem sM_partsOf_1 (o : eO) : ∀ (n : Nat) (S : ZS) (l1 l2 l3 : Int) {w : Int} {r : eP} (h : fM_partsOf_1 n S l1 l2 l3 = some w) (hk : eG o 178 45 [none, none, some (.int (zI w)), none] [] (rd S) r), eG o 178 4 [some (.ref 49), some (.int (zI l1)), some (.int (zI l2)), some (.int (zI l3))] [] (rd S) r := by
  intro n
  induction n with
  | zero => intro S l1 l2 l3 w r h hk; unfold fM_partsOf_1 at h; cases h
  | succ n ih =>
    intro S l1 l2 l3 w r h hk
    unfold fM_partsOf_1 at h
    refine g_run 2 6 [some (.ref 49), some (.int (zI l1)), some (.int (zI l2)), some (.int (zI l3))] [.ref 49, .int (zI l3)] (rd S) rfl ?_
    refine g_getf rfl rfl (rd_o49 _) rfl ?_
    show eG _ 178 9 [some (.ref 49), some (.int (zI l1)), some (.int (zI l2)), some (.int (zI l3))] [.int (zI (zF S 49 1)), .int (zI l3)] (rd S) _
    refine s_icmp_ge rfl h (fun h => ?_) (fun h => ?_)
    · show eG _ 178 45 [some (.ref 49), some (.int (zI l1)), some (.int (zI l2)), some (.int (zI l3))] [] (rd S) _
      refine g_fgt [true, true, false, true] ?_
      show eG _ 178 45 [none, none, some (.int (zI l2)), none] [] (rd S) _
      cases h
      exact hk
    · show eG _ 178 12 [some (.ref 49), some (.int (zI l1)), some (.int (zI l2)), some (.int (zI l3))] [] (rd S) _
      refine g_run 3 15 [some (.ref 49), some (.int (zI l1)), some (.int (zI l2)), some (.int (zI l3))] [.ref 49, .int (zI l1), .int (zI l2)] (rd S) rfl ?_
      refine g_getf rfl rfl (rd_o49 _) rfl ?_
      show eG _ 178 18 [some (.ref 49), some (.int (zI l1)), some (.int (zI l2)), some (.int (zI l3))] [.ref 50, .int (zI l1), .int (zI l2)] (rd S) _
      refine g_run 2 20 [some (.ref 49), some (.int (zI l1)), some (.int (zI l2)), some (.int (zI l3))] [.int (zI l3), .int (zI 5), .ref 50, .int (zI l1), .int (zI l2)] (rd S) rfl ?_
      refine s_imul rfl ?_
      refine g_run 1 22 [some (.ref 49), some (.int (zI l1)), some (.int (zI l2)), some (.int (zI l3))] [.int (zI 3), .int (zI (5 * l3)), .ref 50, .int (zI l1), .int (zI l2)] (rd S) rfl ?_
      refine s_iadd rfl ?_
      refine s_iald rfl (rd_a50 _) h (fun h => ?_)
      show eG _ 178 24 [some (.ref 49), some (.int (zI l1)), some (.int (zI l2)), some (.int (zI l3))] [.int (zI (zA S 50 ((5 * l3) + 3))), .int (zI l1), .int (zI l2)] (rd S) _
      refine s_sta (fun z => some (.int (zI z))) (fun _ => rd S) rfl rfl rfl rfl rfl rfl rfl (fun z hz => sM_has o n S l1 (zA S 50 ((5 * l3) + 3)) hz) rfl h (fun z1 h => ?_)
      show eG _ 178 27 [some (.ref 49), some (.int (zI l1)), some (.int (zI l2)), some (.int (zI l3))] [.int (zI z1), .int (zI l2)] (rd S) _
      refine s_if_eq rfl h (fun h => ?_) (fun h => ?_)
      · show eG _ 178 36 [some (.ref 49), some (.int (zI l1)), some (.int (zI l2)), some (.int (zI l3))] [.int (zI l2)] (rd S) _
        refine g_run 1 37 [some (.ref 49), some (.int (zI l1)), some (.int (zI l2)), some (.int (zI l3))] [.int (zI 0), .int (zI l2)] (rd S) rfl ?_
        refine s_ior rfl ?_
        refine g_run 1 39 [some (.ref 49), some (.int (zI l1)), some (.int (zI (zor l2 0))), some (.int (zI l3))] [] (rd S) rfl ?_
        refine s_iinc (L' := [some (.ref 49), some (.int (zI l1)), some (.int (zI (zor l2 0))), some (.int (zI (l3 + 1)))]) rfl rfl rfl ?_
        refine g_run 1 4 [some (.ref 49), some (.int (zI l1)), some (.int (zI (zor l2 0))), some (.int (zI (l3 + 1)))] [] (rd S) rfl ?_
        exact ih S l1 (zor l2 0) (l3 + 1) h hk
      · show eG _ 178 30 [some (.ref 49), some (.int (zI l1)), some (.int (zI l2)), some (.int (zI l3))] [.int (zI l2)] (rd S) _
        refine g_run 2 32 [some (.ref 49), some (.int (zI l1)), some (.int (zI l2)), some (.int (zI l3))] [.int (zI l3), .int (zI 1), .int (zI l2)] (rd S) rfl ?_
        refine s_ishl rfl ?_
        refine g_run 1 37 [some (.ref 49), some (.int (zI l1)), some (.int (zI l2)), some (.int (zI l3))] [.int (zI (zshl 1 l3)), .int (zI l2)] (rd S) rfl ?_
        refine s_ior rfl ?_
        refine g_run 1 39 [some (.ref 49), some (.int (zI l1)), some (.int (zI (zor l2 (zshl 1 l3)))), some (.int (zI l3))] [] (rd S) rfl ?_
        refine s_iinc (L' := [some (.ref 49), some (.int (zI l1)), some (.int (zI (zor l2 (zshl 1 l3)))), some (.int (zI (l3 + 1)))]) rfl rfl rfl ?_
        refine g_run 1 4 [some (.ref 49), some (.int (zI l1)), some (.int (zI (zor l2 (zshl 1 l3)))), some (.int (zI (l3 + 1)))] [] (rd S) rfl ?_
        exact ih S l1 (zor l2 (zshl 1 l3)) (l3 + 1) h hk
def fM_partsOf (n : Nat) (S : ZS) (l1 : Int) : Option (Int) := (fM_partsOf_1 n S l1 0 0).bind fun z1 => some z1
set_option maxRecDepth 100000 in
set_option maxHeartbeats 4000000 in
theorem sM_partsOf (o : eO) (n : Nat) (S : ZS) (l1 : Int) {w : Int} (h : fM_partsOf n S l1 = some w) : eG o 178 0 (eEnt 178 [.ref 49, .int (zI l1)]) [] (rd S) (rv (some (.int (zI w))) (rd S)) := by
  unfold fM_partsOf at h
  show eG o 178 0 [some (.ref 49), some (.int (zI l1)), none, none] [] (rd S) _
  refine g_run 4 4 [some (.ref 49), some (.int (zI l1)), some (.int (zI 0)), some (.int (zI 0))] [] (rd S) rfl ?_
  obtain ⟨z1, h1, h⟩ := zB_inv h
  refine sM_partsOf_1 o n S l1 0 0 h1 ?_
  show eG _ 178 45 [none, none, some (.int (zI z1)), none] [] (rd S) _
  refine g_run 1 46 [none, none, some (.int (zI z1)), none] [.int (zI z1)] (rd S) rfl ?_
  cases h
  exact s_ret rfl rfl rfl
def fM_ones_1 : Nat → ZS → Int → Int → Option (Int)
  | 0, _, _, _ => none
  | n + 1, S, l1, l2 => gC l2 0 (if l2 = 0 then some l1 else fM_ones_1 n S (l1 + 1) (zand l2 (l2 - 1)))
set_option maxRecDepth 100000 in
set_option maxHeartbeats 4000000 in
theorem sM_ones_1 (o : eO) : ∀ (n : Nat) (S : ZS) (l1 l2 : Int) {w : Int} {r : eP} (h : fM_ones_1 n S l1 l2 = some w) (hk : eG o 179 20 [none, some (.int (zI w)), none] [] (rd S) r), eG o 179 4 [none, some (.int (zI l1)), some (.int (zI l2))] [] (rd S) r := by
  intro n
  induction n with
  | zero => intro S l1 l2 w r h hk; unfold fM_ones_1 at h; cases h
  | succ n ih =>
    intro S l1 l2 w r h hk
    unfold fM_ones_1 at h
    refine g_run 1 5 [none, some (.int (zI l1)), some (.int (zI l2))] [.int (zI l2)] (rd S) rfl ?_
    refine s_if_eq rfl h (fun h => ?_) (fun h => ?_)
    · show eG _ 179 20 [none, some (.int (zI l1)), some (.int (zI l2))] [] (rd S) _
      refine g_fgt [true, false, true] ?_
      show eG _ 179 20 [none, some (.int (zI l1)), none] [] (rd S) _
      cases h
      exact hk
    · show eG _ 179 8 [none, some (.int (zI l1)), some (.int (zI l2))] [] (rd S) _
      refine s_iinc (L' := [none, some (.int (zI (l1 + 1))), some (.int (zI l2))]) rfl rfl rfl ?_
      refine g_run 3 14 [none, some (.int (zI (l1 + 1))), some (.int (zI l2))] [.int (zI 1), .int (zI l2), .int (zI l2)] (rd S) rfl ?_
      refine s_isub rfl ?_
      refine s_iand rfl ?_
      refine g_run 2 4 [none, some (.int (zI (l1 + 1))), some (.int (zI (zand l2 (l2 - 1))))] [] (rd S) rfl ?_
      exact ih S (l1 + 1) (zand l2 (l2 - 1)) h hk
def fM_ones (n : Nat) (S : ZS) (l0 : Int) : Option (Int) := (fM_ones_1 n S 0 l0).bind fun z1 => some z1
set_option maxRecDepth 100000 in
set_option maxHeartbeats 4000000 in
theorem sM_ones (o : eO) (n : Nat) (S : ZS) (l0 : Int) {w : Int} (h : fM_ones n S l0 = some w) : eG o 179 0 (eEnt 179 [.int (zI l0)]) [] (rd S) (rv (some (.int (zI w))) (rd S)) := by
  unfold fM_ones at h
  show eG o 179 0 [some (.int (zI l0)), none, none] [] (rd S) _
  refine g_run 4 4 [some (.int (zI l0)), some (.int (zI 0)), some (.int (zI l0))] [] (rd S) rfl ?_
  refine g_fgt [true, false, false] ?_
  show eG _ 179 4 [none, some (.int (zI 0)), some (.int (zI l0))] [] (rd S) _
  obtain ⟨z1, h1, h⟩ := zB_inv h
  refine sM_ones_1 o n S 0 l0 h1 ?_
  show eG _ 179 20 [none, some (.int (zI z1)), none] [] (rd S) _
  refine g_run 1 21 [none, some (.int (zI z1)), none] [.int (zI z1)] (rd S) rfl ?_
  cases h
  exact s_ret rfl rfl rfl
def fM_common_1 : Nat → ZS → Int → Int → Option (Int)
  | 0, _, _, _ => none
  | n + 1, S, l2, l3 => gC l3 0 (if l3 = 0 then some l2 else gV l2 l3 (fM_common_1 n S l3 (l2.tmod l3)))
set_option maxRecDepth 100000 in
set_option maxHeartbeats 4000000 in
theorem sM_common_1 (o : eO) : ∀ (n : Nat) (S : ZS) (l2 l3 : Int) {w : Int} {r : eP} (h : fM_common_1 n S l2 l3 = some w) (hk : eG o 180 21 [none, none, some (.int (zI w)), none, none] [] (rd S) r), eG o 180 4 [none, none, some (.int (zI l2)), some (.int (zI l3)), none] [] (rd S) r := by
  intro n
  induction n with
  | zero => intro S l2 l3 w r h hk; unfold fM_common_1 at h; cases h
  | succ n ih =>
    intro S l2 l3 w r h hk
    unfold fM_common_1 at h
    refine g_run 1 5 [none, none, some (.int (zI l2)), some (.int (zI l3)), none] [.int (zI l3)] (rd S) rfl ?_
    refine s_if_eq rfl h (fun h => ?_) (fun h => ?_)
    · show eG _ 180 21 [none, none, some (.int (zI l2)), some (.int (zI l3)), none] [] (rd S) _
      refine g_fgt [true, true, false, true, true] ?_
      show eG _ 180 21 [none, none, some (.int (zI l2)), none, none] [] (rd S) _
      cases h
      exact hk
    · show eG _ 180 8 [none, none, some (.int (zI l2)), some (.int (zI l3)), none] [] (rd S) _
      refine g_run 2 10 [none, none, some (.int (zI l2)), some (.int (zI l3)), none] [.int (zI l3), .int (zI l2)] (rd S) rfl ?_
      refine s_irem rfl h (fun h => ?_)
      refine g_run 6 4 [none, none, some (.int (zI l3)), some (.int (zI (l2.tmod l3))), some (.int (zI (l2.tmod l3)))] [] (rd S) rfl ?_
      refine g_fgt [true, true, false, false, true] ?_
      show eG _ 180 4 [none, none, some (.int (zI l3)), some (.int (zI (l2.tmod l3))), none] [] (rd S) _
      exact ih S l3 (l2.tmod l3) h hk
def fM_common (n : Nat) (S : ZS) (l0 l1 : Int) : Option (Int) := (fM_common_1 n S l0 l1).bind fun z1 => some z1
set_option maxRecDepth 100000 in
set_option maxHeartbeats 4000000 in
theorem sM_common (o : eO) (n : Nat) (S : ZS) (l0 l1 : Int) {w : Int} (h : fM_common n S l0 l1 = some w) : eG o 180 0 (eEnt 180 [.int (zI l0), .int (zI l1)]) [] (rd S) (rv (some (.int (zI w))) (rd S)) := by
  unfold fM_common at h
  show eG o 180 0 [some (.int (zI l0)), some (.int (zI l1)), none, none, none] [] (rd S) _
  refine g_run 4 4 [some (.int (zI l0)), some (.int (zI l1)), some (.int (zI l0)), some (.int (zI l1)), none] [] (rd S) rfl ?_
  refine g_fgt [true, true, false, false, true] ?_
  show eG _ 180 4 [none, none, some (.int (zI l0)), some (.int (zI l1)), none] [] (rd S) _
  obtain ⟨z1, h1, h⟩ := zB_inv h
  refine sM_common_1 o n S l0 l1 h1 ?_
  show eG _ 180 21 [none, none, some (.int (zI z1)), none, none] [] (rd S) _
  refine g_run 1 22 [none, none, some (.int (zI z1)), none, none] [.int (zI z1)] (rd S) rfl ?_
  cases h
  exact s_ret rfl rfl rfl
def fM_worth_1 : Nat → ZS → Int → Int → Int → Option (ZS)
  | 0, _, _, _, _ => none
  | n + 1, S, l1, l2, l3 => gC l3 16 (if l3 < 16 then (fM_partsOf n S l3).bind fun z1 => (fM_findNeeds n S z1 (zF S 49 4)).bind fun z2 => (gC z2.1 0 (if z2.1 < 0 then some 0 else some 1)).bind fun z3 => gB z3 (gX l3 16 (fM_worth_1 n (wA z2.2 67 l3 z3) l1 l2 (l3 + 1))) else some S)
set_option maxRecDepth 100000 in
set_option maxHeartbeats 4000000 in
theorem sM_worth_1 (o : eO) : ∀ (n : Nat) (S : ZS) (l1 l2 l3 : Int) {w : ZS} {r : eP} (h : fM_worth_1 n S l1 l2 l3 = some w) (hk : eG o 177 65 [some (.ref 49), some (.int (zI l1)), some (.int (zI l2)), none, none, none] [] (rd w) r), eG o 177 26 [some (.ref 49), some (.int (zI l1)), some (.int (zI l2)), some (.int (zI l3)), none, none] [] (rd S) r := by
  intro n
  induction n with
  | zero => intro S l1 l2 l3 w r h hk; unfold fM_worth_1 at h; cases h
  | succ n ih =>
    intro S l1 l2 l3 w r h hk
    unfold fM_worth_1 at h
    refine g_run 2 29 [some (.ref 49), some (.int (zI l1)), some (.int (zI l2)), some (.int (zI l3)), none, none] [.int (zI 16), .int (zI l3)] (rd S) rfl ?_
    refine s_icmp_ge rfl h (fun h => ?_) (fun h => ?_)
    · show eG _ 177 65 [some (.ref 49), some (.int (zI l1)), some (.int (zI l2)), some (.int (zI l3)), none, none] [] (rd S) _
      refine g_fgt [false, false, false, true, true, true] ?_
      show eG _ 177 65 [some (.ref 49), some (.int (zI l1)), some (.int (zI l2)), none, none, none] [] (rd S) _
      cases h
      exact hk
    · show eG _ 177 32 [some (.ref 49), some (.int (zI l1)), some (.int (zI l2)), some (.int (zI l3)), none, none] [] (rd S) _
      refine g_run 1 33 [some (.ref 49), some (.int (zI l1)), some (.int (zI l2)), some (.int (zI l3)), none, none] [.ref 49] (rd S) rfl ?_
      refine g_getf rfl rfl (rd_o49 _) rfl ?_
      show eG _ 177 36 [some (.ref 49), some (.int (zI l1)), some (.int (zI l2)), some (.int (zI l3)), none, none] [.ref 67] (rd S) _
      refine g_run 4 40 [some (.ref 49), some (.int (zI l1)), some (.int (zI l2)), some (.int (zI l3)), none, none] [.int (zI l3), .ref 49, .ref 49, .int (zI l3), .ref 67] (rd S) rfl ?_
      refine s_vir (fun z => some (.int (zI z))) (fun _ => rd S) rfl rfl rfl (rd_o49 _) rfl rfl (fun z hz => sM_partsOf o n S l3 hz) rfl h (fun z1 h => ?_)
      show eG _ 177 43 [some (.ref 49), some (.int (zI l1)), some (.int (zI l2)), some (.int (zI l3)), none, none] [.int (zI z1), .ref 49, .int (zI l3), .ref 67] (rd S) _
      refine g_run 1 44 [some (.ref 49), some (.int (zI l1)), some (.int (zI l2)), some (.int (zI l3)), none, none] [.ref 49, .int (zI z1), .ref 49, .int (zI l3), .ref 67] (rd S) rfl ?_
      refine g_getf rfl rfl (rd_o49 _) rfl ?_
      show eG _ 177 47 [some (.ref 49), some (.int (zI l1)), some (.int (zI l2)), some (.int (zI l3)), none, none] [.int (zI (zF S 49 4)), .int (zI z1), .ref 49, .int (zI l3), .ref 67] (rd S) _
      refine s_vir (fun z => some (.int (zI z.1))) (fun z => rd z.2) rfl rfl rfl (rd_o49 _) rfl rfl (fun z hz => sM_findNeeds o n S z1 (zF S 49 4) hz) rfl h (fun z2 h => ?_)
      show eG _ 177 50 [some (.ref 49), some (.int (zI l1)), some (.int (zI l2)), some (.int (zI l3)), none, none] [.int (zI z2.1), .int (zI l3), .ref 67] (rd z2.2) _
      refine s_join (α := Int) (fun z => eG o 177 58 [some (.ref 49), some (.int (zI l1)), some (.int (zI l2)), some (.int (zI l3)), none, none] [.int (zI z), .int (zI l3), .ref 67] (rd z2.2) r) h (fun z3 h => ?_) (fun z3 h j => ?_)
      · show eG _ 177 58 [some (.ref 49), some (.int (zI l1)), some (.int (zI l2)), some (.int (zI l3)), none, none] [.int (zI z3), .int (zI l3), .ref 67] (rd z2.2) _
        refine s_bast rfl (rd_a67 _) (rw_a67 _ _) h (fun h => ?_)
        show eG _ 177 59 [some (.ref 49), some (.int (zI l1)), some (.int (zI l2)), some (.int (zI l3)), none, none] [] (rd (wA z2.2 67 l3 z3)) _
        refine s_iinc (L' := [some (.ref 49), some (.int (zI l1)), some (.int (zI l2)), some (.int (zI (l3 + 1))), none, none]) rfl rfl rfl ?_
        refine g_run 1 26 [some (.ref 49), some (.int (zI l1)), some (.int (zI l2)), some (.int (zI (l3 + 1))), none, none] [] (rd (wA z2.2 67 l3 z3)) rfl ?_
        exact ih (wA z2.2 67 l3 z3) l1 l2 (l3 + 1) h hk
      · skip
        refine s_if_lt rfl h (fun h => ?_) (fun h => ?_)
        · show eG _ 177 57 [some (.ref 49), some (.int (zI l1)), some (.int (zI l2)), some (.int (zI l3)), none, none] [.int (zI l3), .ref 67] (rd z2.2) _
          refine g_run 1 58 [some (.ref 49), some (.int (zI l1)), some (.int (zI l2)), some (.int (zI l3)), none, none] [.int (zI 0), .int (zI l3), .ref 67] (rd z2.2) rfl ?_
          cases h
          exact j
        · show eG _ 177 53 [some (.ref 49), some (.int (zI l1)), some (.int (zI l2)), some (.int (zI l3)), none, none] [.int (zI l3), .ref 67] (rd z2.2) _
          refine g_run 2 58 [some (.ref 49), some (.int (zI l1)), some (.int (zI l2)), some (.int (zI l3)), none, none] [.int (zI 1), .int (zI l3), .ref 67] (rd z2.2) rfl ?_
          cases h
          exact j
def fM_worth_2 : Nat → ZS → Int → Int → Int → Int → Option (Int)
  | 0, _, _, _, _, _ => none
  | n + 1, S, l1, l2, l3, l4 => gC l4 16 (if l4 < 16 then (fM_has n S l4 l1).bind fun z1 => (gC z1 0 (if z1 = 0 then gX l4 16 (gC (zA S 67 l4) 0 (if (zA S 67 l4) = 0 then gX (zor l4 (zshl 1 l1)) 16 (gC (zA S 67 (zor l4 (zshl 1 l1))) 0 (if (zA S 67 (zor l4 (zshl 1 l1))) = 0 then some l3 else (fM_ones n S l4).bind fun z3 => gC z3 0 (if z3 = 0 then some (l3 + 6) else gC z3 3 (if z3 = 3 then some (l3 + 6) else some (l3 + 2))))) else some l3)) else some l3)).bind fun z2 => fM_worth_2 n S l1 l2 z2 (l4 + 1) else some l3)
set_option maxRecDepth 100000 in
set_option maxHeartbeats 4000000 in
theorem sM_worth_2 (o : eO) : ∀ (n : Nat) (S : ZS) (l1 l2 l3 l4 : Int) {w : Int} {r : eP} (h : fM_worth_2 n S l1 l2 l3 l4 = some w) (hk : eG o 177 143 [none, none, some (.int (zI l2)), some (.int (zI w)), none, none] [] (rd S) r), eG o 177 70 [some (.ref 49), some (.int (zI l1)), some (.int (zI l2)), some (.int (zI l3)), some (.int (zI l4)), none] [] (rd S) r := by
  intro n
  induction n with
  | zero => intro S l1 l2 l3 l4 w r h hk; unfold fM_worth_2 at h; cases h
  | succ n ih =>
    intro S l1 l2 l3 l4 w r h hk
    unfold fM_worth_2 at h
    refine g_run 2 74 [some (.ref 49), some (.int (zI l1)), some (.int (zI l2)), some (.int (zI l3)), some (.int (zI l4)), none] [.int (zI 16), .int (zI l4)] (rd S) rfl ?_
    refine s_icmp_ge rfl h (fun h => ?_) (fun h => ?_)
    · show eG _ 177 143 [some (.ref 49), some (.int (zI l1)), some (.int (zI l2)), some (.int (zI l3)), some (.int (zI l4)), none] [] (rd S) _
      refine g_fgt [true, true, false, false, true, true] ?_
      show eG _ 177 143 [none, none, some (.int (zI l2)), some (.int (zI l3)), none, none] [] (rd S) _
      cases h
      exact hk
    · show eG _ 177 77 [some (.ref 49), some (.int (zI l1)), some (.int (zI l2)), some (.int (zI l3)), some (.int (zI l4)), none] [] (rd S) _
      refine g_run 2 80 [some (.ref 49), some (.int (zI l1)), some (.int (zI l2)), some (.int (zI l3)), some (.int (zI l4)), none] [.int (zI l1), .int (zI l4)] (rd S) rfl ?_
      refine s_sta (fun z => some (.int (zI z))) (fun _ => rd S) rfl rfl rfl rfl rfl rfl rfl (fun z hz => sM_has o n S l4 l1 hz) rfl h (fun z1 h => ?_)
      show eG _ 177 83 [some (.ref 49), some (.int (zI l1)), some (.int (zI l2)), some (.int (zI l3)), some (.int (zI l4)), none] [.int (zI z1)] (rd S) _
      refine s_join (α := Int) (fun z => eG o 177 137 [some (.ref 49), some (.int (zI l1)), some (.int (zI l2)), some (.int (zI z)), some (.int (zI l4)), none] [] (rd S) r) h (fun z2 h => ?_) (fun z2 h j => ?_)
      · show eG _ 177 137 [some (.ref 49), some (.int (zI l1)), some (.int (zI l2)), some (.int (zI z2)), some (.int (zI l4)), none] [] (rd S) _
        refine s_iinc (L' := [some (.ref 49), some (.int (zI l1)), some (.int (zI l2)), some (.int (zI z2)), some (.int (zI (l4 + 1))), none]) rfl rfl rfl ?_
        refine g_run 1 70 [some (.ref 49), some (.int (zI l1)), some (.int (zI l2)), some (.int (zI z2)), some (.int (zI (l4 + 1))), none] [] (rd S) rfl ?_
        exact ih S l1 l2 z2 (l4 + 1) h hk
      · skip
        refine s_if_ne rfl h (fun h => ?_) (fun h => ?_)
        · show eG _ 177 137 [some (.ref 49), some (.int (zI l1)), some (.int (zI l2)), some (.int (zI l3)), some (.int (zI l4)), none] [] (rd S) _
          cases h
          exact j
        · show eG _ 177 86 [some (.ref 49), some (.int (zI l1)), some (.int (zI l2)), some (.int (zI l3)), some (.int (zI l4)), none] [] (rd S) _
          refine g_run 1 87 [some (.ref 49), some (.int (zI l1)), some (.int (zI l2)), some (.int (zI l3)), some (.int (zI l4)), none] [.ref 49] (rd S) rfl ?_
          refine g_getf rfl rfl (rd_o49 _) rfl ?_
          show eG _ 177 90 [some (.ref 49), some (.int (zI l1)), some (.int (zI l2)), some (.int (zI l3)), some (.int (zI l4)), none] [.ref 67] (rd S) _
          refine g_run 1 92 [some (.ref 49), some (.int (zI l1)), some (.int (zI l2)), some (.int (zI l3)), some (.int (zI l4)), none] [.int (zI l4), .ref 67] (rd S) rfl ?_
          refine s_bald rfl (rd_a67 _) h (fun h => ?_)
          show eG _ 177 93 [some (.ref 49), some (.int (zI l1)), some (.int (zI l2)), some (.int (zI l3)), some (.int (zI l4)), none] [.int (zI (zA S 67 l4))] (rd S) _
          refine s_if_ne rfl h (fun h => ?_) (fun h => ?_)
          · show eG _ 177 137 [some (.ref 49), some (.int (zI l1)), some (.int (zI l2)), some (.int (zI l3)), some (.int (zI l4)), none] [] (rd S) _
            cases h
            exact j
          · show eG _ 177 96 [some (.ref 49), some (.int (zI l1)), some (.int (zI l2)), some (.int (zI l3)), some (.int (zI l4)), none] [] (rd S) _
            refine g_run 1 97 [some (.ref 49), some (.int (zI l1)), some (.int (zI l2)), some (.int (zI l3)), some (.int (zI l4)), none] [.ref 49] (rd S) rfl ?_
            refine g_getf rfl rfl (rd_o49 _) rfl ?_
            show eG _ 177 100 [some (.ref 49), some (.int (zI l1)), some (.int (zI l2)), some (.int (zI l3)), some (.int (zI l4)), none] [.ref 67] (rd S) _
            refine g_run 3 104 [some (.ref 49), some (.int (zI l1)), some (.int (zI l2)), some (.int (zI l3)), some (.int (zI l4)), none] [.int (zI l1), .int (zI 1), .int (zI l4), .ref 67] (rd S) rfl ?_
            refine s_ishl rfl ?_
            refine s_ior rfl ?_
            refine s_bald rfl (rd_a67 _) h (fun h => ?_)
            show eG _ 177 107 [some (.ref 49), some (.int (zI l1)), some (.int (zI l2)), some (.int (zI l3)), some (.int (zI l4)), none] [.int (zI (zA S 67 (zor l4 (zshl 1 l1))))] (rd S) _
            refine s_if_eq rfl h (fun h => ?_) (fun h => ?_)
            · show eG _ 177 137 [some (.ref 49), some (.int (zI l1)), some (.int (zI l2)), some (.int (zI l3)), some (.int (zI l4)), none] [] (rd S) _
              cases h
              exact j
            · show eG _ 177 110 [some (.ref 49), some (.int (zI l1)), some (.int (zI l2)), some (.int (zI l3)), some (.int (zI l4)), none] [] (rd S) _
              refine g_run 1 112 [some (.ref 49), some (.int (zI l1)), some (.int (zI l2)), some (.int (zI l3)), some (.int (zI l4)), none] [.int (zI l4)] (rd S) rfl ?_
              refine s_sta (fun z => some (.int (zI z))) (fun _ => rd S) rfl rfl rfl rfl rfl rfl rfl (fun z hz => sM_ones o n S l4 hz) rfl h (fun z3 h => ?_)
              show eG _ 177 115 [some (.ref 49), some (.int (zI l1)), some (.int (zI l2)), some (.int (zI l3)), some (.int (zI l4)), none] [.int (zI z3)] (rd S) _
              refine g_run 3 120 [some (.ref 49), some (.int (zI l1)), some (.int (zI l2)), some (.int (zI l3)), some (.int (zI l4)), some (.int (zI z3))] [.int (zI z3), .int (zI l3)] (rd S) rfl ?_
              refine s_if_eq rfl h (fun h => ?_) (fun h => ?_)
              · show eG _ 177 129 [some (.ref 49), some (.int (zI l1)), some (.int (zI l2)), some (.int (zI l3)), some (.int (zI l4)), some (.int (zI z3))] [.int (zI l3)] (rd S) _
                refine g_run 2 135 [some (.ref 49), some (.int (zI l1)), some (.int (zI l2)), some (.int (zI l3)), some (.int (zI l4)), some (.int (zI z3))] [.int (zI 6), .int (zI l3)] (rd S) rfl ?_
                refine s_iadd rfl ?_
                refine g_run 1 137 [some (.ref 49), some (.int (zI l1)), some (.int (zI l2)), some (.int (zI (l3 + 6))), some (.int (zI l4)), some (.int (zI z3))] [] (rd S) rfl ?_
                refine g_fgt [false, false, false, false, false, true] ?_
                show eG _ 177 137 [some (.ref 49), some (.int (zI l1)), some (.int (zI l2)), some (.int (zI (l3 + 6))), some (.int (zI l4)), none] [] (rd S) _
                cases h
                exact j
              · show eG _ 177 123 [some (.ref 49), some (.int (zI l1)), some (.int (zI l2)), some (.int (zI l3)), some (.int (zI l4)), some (.int (zI z3))] [.int (zI l3)] (rd S) _
                refine g_run 2 126 [some (.ref 49), some (.int (zI l1)), some (.int (zI l2)), some (.int (zI l3)), some (.int (zI l4)), some (.int (zI z3))] [.int (zI 3), .int (zI z3), .int (zI l3)] (rd S) rfl ?_
                refine s_icmp_ne rfl h (fun h => ?_) (fun h => ?_)
                · show eG _ 177 134 [some (.ref 49), some (.int (zI l1)), some (.int (zI l2)), some (.int (zI l3)), some (.int (zI l4)), some (.int (zI z3))] [.int (zI l3)] (rd S) _
                  refine g_run 1 135 [some (.ref 49), some (.int (zI l1)), some (.int (zI l2)), some (.int (zI l3)), some (.int (zI l4)), some (.int (zI z3))] [.int (zI 2), .int (zI l3)] (rd S) rfl ?_
                  refine s_iadd rfl ?_
                  refine g_run 1 137 [some (.ref 49), some (.int (zI l1)), some (.int (zI l2)), some (.int (zI (l3 + 2))), some (.int (zI l4)), some (.int (zI z3))] [] (rd S) rfl ?_
                  refine g_fgt [false, false, false, false, false, true] ?_
                  show eG _ 177 137 [some (.ref 49), some (.int (zI l1)), some (.int (zI l2)), some (.int (zI (l3 + 2))), some (.int (zI l4)), none] [] (rd S) _
                  cases h
                  exact j
                · show eG _ 177 129 [some (.ref 49), some (.int (zI l1)), some (.int (zI l2)), some (.int (zI l3)), some (.int (zI l4)), some (.int (zI z3))] [.int (zI l3)] (rd S) _
                  refine g_run 2 135 [some (.ref 49), some (.int (zI l1)), some (.int (zI l2)), some (.int (zI l3)), some (.int (zI l4)), some (.int (zI z3))] [.int (zI 6), .int (zI l3)] (rd S) rfl ?_
                  refine s_iadd rfl ?_
                  refine g_run 1 137 [some (.ref 49), some (.int (zI l1)), some (.int (zI l2)), some (.int (zI (l3 + 6))), some (.int (zI l4)), some (.int (zI z3))] [] (rd S) rfl ?_
                  refine g_fgt [false, false, false, false, false, true] ?_
                  show eG _ 177 137 [some (.ref 49), some (.int (zI l1)), some (.int (zI l2)), some (.int (zI (l3 + 6))), some (.int (zI l4)), none] [] (rd S) _
                  cases h
                  exact j
def fM_worth (n : Nat) (S : ZS) (l1 l2 : Int) : Option (Int × ZS) := gC l1 0 ((fM_in n S l1 0 3).bind fun z1 => gC z1 0 (if z1 = 0 then some (-1, S) else gC l2 0 ((fM_in n S l2 0 1).bind fun z2 => gC z2 0 (if z2 = 0 then some (-1, S) else (fM_worth_1 n S l1 l2 0).bind fun z3 => (fM_worth_2 n z3 l1 l2 0 0).bind fun z4 => (gC l2 0 (if l2 = 0 then some z4 else some 24)).bind fun z5 => (fM_common n z3 z4 24).bind fun z6 => gV z5 z6 (some (z5.tdiv z6, z3))))))
set_option maxRecDepth 100000 in
set_option maxHeartbeats 4000000 in
theorem sM_worth (o : eO) (n : Nat) (S : ZS) (l1 l2 : Int) {w : Int × ZS} (h : fM_worth n S l1 l2 = some w) : eG o 177 0 (eEnt 177 [.ref 49, .int (zI l1), .int (zI l2)]) [] (rd S) (rv (some (.int (zI w.1))) (rd w.2)) := by
  unfold fM_worth at h
  show eG o 177 0 [some (.ref 49), some (.int (zI l1)), some (.int (zI l2)), none, none, none] [] (rd S) _
  refine g_run 1 1 [some (.ref 49), some (.int (zI l1)), some (.int (zI l2)), none, none, none] [.int (zI l1)] (rd S) rfl ?_
  refine s_i2l rfl h (fun h => ?_)
  refine g_run 2 6 [some (.ref 49), some (.int (zI l1)), some (.int (zI l2)), none, none, none] [.long (zL 3), .long (zL 0), .long (zL l1)] (rd S) rfl ?_
  refine s_sta (fun z => some (.int (zI z))) (fun _ => rd S) rfl rfl rfl rfl rfl rfl rfl (fun z hz => sM_in o n S l1 0 3 hz) rfl h (fun z1 h => ?_)
  show eG _ 177 9 [some (.ref 49), some (.int (zI l1)), some (.int (zI l2)), none, none, none] [.int (zI z1)] (rd S) _
  refine s_if_eq rfl h (fun h => ?_) (fun h => ?_)
  · show eG _ 177 22 [some (.ref 49), some (.int (zI l1)), some (.int (zI l2)), none, none, none] [] (rd S) _
    refine g_run 1 23 [some (.ref 49), some (.int (zI l1)), some (.int (zI l2)), none, none, none] [.int (zI (-1))] (rd S) rfl ?_
    cases h
    exact s_ret rfl rfl rfl
  · show eG _ 177 12 [some (.ref 49), some (.int (zI l1)), some (.int (zI l2)), none, none, none] [] (rd S) _
    refine g_run 1 13 [some (.ref 49), some (.int (zI l1)), some (.int (zI l2)), none, none, none] [.int (zI l2)] (rd S) rfl ?_
    refine s_i2l rfl h (fun h => ?_)
    refine g_run 2 16 [some (.ref 49), some (.int (zI l1)), some (.int (zI l2)), none, none, none] [.long (zL 1), .long (zL 0), .long (zL l2)] (rd S) rfl ?_
    refine s_sta (fun z => some (.int (zI z))) (fun _ => rd S) rfl rfl rfl rfl rfl rfl rfl (fun z hz => sM_in o n S l2 0 1 hz) rfl h (fun z2 h => ?_)
    show eG _ 177 19 [some (.ref 49), some (.int (zI l1)), some (.int (zI l2)), none, none, none] [.int (zI z2)] (rd S) _
    refine s_if_ne rfl h (fun h => ?_) (fun h => ?_)
    · show eG _ 177 24 [some (.ref 49), some (.int (zI l1)), some (.int (zI l2)), none, none, none] [] (rd S) _
      refine g_run 2 26 [some (.ref 49), some (.int (zI l1)), some (.int (zI l2)), some (.int (zI 0)), none, none] [] (rd S) rfl ?_
      obtain ⟨z3, h1, h⟩ := zB_inv h
      refine sM_worth_1 o n S l1 l2 0 h1 ?_
      show eG _ 177 65 [some (.ref 49), some (.int (zI l1)), some (.int (zI l2)), none, none, none] [] (rd z3) _
      refine g_run 4 70 [some (.ref 49), some (.int (zI l1)), some (.int (zI l2)), some (.int (zI 0)), some (.int (zI 0)), none] [] (rd z3) rfl ?_
      obtain ⟨z4, h1, h⟩ := zB_inv h
      refine sM_worth_2 o n z3 l1 l2 0 0 h1 ?_
      show eG _ 177 143 [none, none, some (.int (zI l2)), some (.int (zI z4)), none, none] [] (rd z3) _
      refine g_run 1 144 [none, none, some (.int (zI l2)), some (.int (zI z4)), none, none] [.int (zI l2)] (rd z3) rfl ?_
      refine s_join (α := Int) (fun z => eG o 177 153 [none, none, none, some (.int (zI z4)), none, none] [.int (zI z)] (rd z3) (rv (some (.int (zI w.1))) (rd w.2))) h (fun z5 h => ?_) (fun z5 h j => ?_)
      · show eG _ 177 153 [none, none, none, some (.int (zI z4)), none, none] [.int (zI z5)] (rd z3) _
        refine g_run 2 156 [none, none, none, some (.int (zI z4)), none, none] [.int (zI 24), .int (zI z4), .int (zI z5)] (rd z3) rfl ?_
        refine s_sta (fun z => some (.int (zI z))) (fun _ => rd z3) rfl rfl rfl rfl rfl rfl rfl (fun z hz => sM_common o n z3 z4 24 hz) rfl h (fun z6 h => ?_)
        show eG _ 177 159 [none, none, none, some (.int (zI z4)), none, none] [.int (zI z6), .int (zI z5)] (rd z3) _
        refine s_idiv rfl h (fun h => ?_)
        cases h
        exact s_ret rfl rfl rfl
      · skip
        refine s_if_ne rfl h (fun h => ?_) (fun h => ?_)
        · show eG _ 177 151 [none, none, some (.int (zI l2)), some (.int (zI z4)), none, none] [] (rd z3) _
          refine g_run 1 153 [none, none, some (.int (zI l2)), some (.int (zI z4)), none, none] [.int (zI 24)] (rd z3) rfl ?_
          refine g_fgt [true, true, true, false, true, true] ?_
          show eG _ 177 153 [none, none, none, some (.int (zI z4)), none, none] [.int (zI 24)] (rd z3) _
          cases h
          exact j
        · show eG _ 177 147 [none, none, some (.int (zI l2)), some (.int (zI z4)), none, none] [] (rd z3) _
          refine g_run 2 153 [none, none, some (.int (zI l2)), some (.int (zI z4)), none, none] [.int (zI z4)] (rd z3) rfl ?_
          refine g_fgt [true, true, true, false, true, true] ?_
          show eG _ 177 153 [none, none, none, some (.int (zI z4)), none, none] [.int (zI z4)] (rd z3) _
          cases h
          exact j
    · show eG _ 177 22 [some (.ref 49), some (.int (zI l1)), some (.int (zI l2)), none, none, none] [] (rd S) _
      refine g_run 1 23 [some (.ref 49), some (.int (zI l1)), some (.int (zI l2)), none, none, none] [.int (zI (-1))] (rd S) rfl ?_
      cases h
      exact s_ret rfl rfl rfl
def fM_image_1 : Nat → ZS → Int → Option (ZS)
  | 0, _, _ => none
  | n + 1, S, l1 => gC l1 40 (if l1 < 40 then gX l1 40 (gX l1 44 (fM_image_1 n (wA S 68 l1 (zA S 50 l1)) (l1 + 1))) else some S)
set_option maxRecDepth 100000 in
set_option maxHeartbeats 4000000 in
theorem sM_image_1 (o : eO) : ∀ (n : Nat) (S : ZS) (l1 : Int) {w : ZS} {r : eP} (h : fM_image_1 n S l1 = some w) (hk : eG o 181 26 [some (.ref 49), none] [] (rd w) r), eG o 181 2 [some (.ref 49), some (.int (zI l1))] [] (rd S) r := by
  intro n
  induction n with
  | zero => intro S l1 w r h hk; unfold fM_image_1 at h; cases h
  | succ n ih =>
    intro S l1 w r h hk
    unfold fM_image_1 at h
    refine g_run 2 5 [some (.ref 49), some (.int (zI l1))] [.int (zI 40), .int (zI l1)] (rd S) rfl ?_
    refine s_icmp_ge rfl h (fun h => ?_) (fun h => ?_)
    · show eG _ 181 26 [some (.ref 49), some (.int (zI l1))] [] (rd S) _
      refine g_fgt [false, true] ?_
      show eG _ 181 26 [some (.ref 49), none] [] (rd S) _
      cases h
      exact hk
    · show eG _ 181 8 [some (.ref 49), some (.int (zI l1))] [] (rd S) _
      refine g_run 1 9 [some (.ref 49), some (.int (zI l1))] [.ref 49] (rd S) rfl ?_
      refine g_getf rfl rfl (rd_o49 _) rfl ?_
      show eG _ 181 12 [some (.ref 49), some (.int (zI l1))] [.ref 68] (rd S) _
      refine g_run 2 14 [some (.ref 49), some (.int (zI l1))] [.ref 49, .int (zI l1), .ref 68] (rd S) rfl ?_
      refine g_getf rfl rfl (rd_o49 _) rfl ?_
      show eG _ 181 17 [some (.ref 49), some (.int (zI l1))] [.ref 50, .int (zI l1), .ref 68] (rd S) _
      refine g_run 1 18 [some (.ref 49), some (.int (zI l1))] [.int (zI l1), .ref 50, .int (zI l1), .ref 68] (rd S) rfl ?_
      refine s_iald rfl (rd_a50 _) h (fun h => ?_)
      show eG _ 181 19 [some (.ref 49), some (.int (zI l1))] [.int (zI (zA S 50 l1)), .int (zI l1), .ref 68] (rd S) _
      refine s_iast rfl (rd_a68 _) (rw_a68 _ _) h (fun h => ?_)
      show eG _ 181 20 [some (.ref 49), some (.int (zI l1))] [] (rd (wA S 68 l1 (zA S 50 l1))) _
      refine s_iinc (L' := [some (.ref 49), some (.int (zI (l1 + 1)))]) rfl rfl rfl ?_
      refine g_run 1 2 [some (.ref 49), some (.int (zI (l1 + 1)))] [] (rd (wA S 68 l1 (zA S 50 l1))) rfl ?_
      exact ih (wA S 68 l1 (zA S 50 l1)) (l1 + 1) h hk
def fM_image_2 : Nat → ZS → Int → Option (ZS)
  | 0, _, _ => none
  | n + 1, S, l1 => gC l1 4 (if l1 < 4 then gX l1 4 (gX (40 + l1) 44 (fM_image_2 n (wA S 68 (40 + l1) (zA S 51 l1)) (l1 + 1))) else some S)
set_option maxRecDepth 100000 in
set_option maxHeartbeats 4000000 in
theorem sM_image_2 (o : eO) : ∀ (n : Nat) (S : ZS) (l1 : Int) {w : ZS} {r : eP} (h : fM_image_2 n S l1 = some w) (hk : eG o 181 54 [some (.ref 49), none] [] (rd w) r), eG o 181 28 [some (.ref 49), some (.int (zI l1))] [] (rd S) r := by
  intro n
  induction n with
  | zero => intro S l1 w r h hk; unfold fM_image_2 at h; cases h
  | succ n ih =>
    intro S l1 w r h hk
    unfold fM_image_2 at h
    refine g_run 2 30 [some (.ref 49), some (.int (zI l1))] [.int (zI 4), .int (zI l1)] (rd S) rfl ?_
    refine s_icmp_ge rfl h (fun h => ?_) (fun h => ?_)
    · show eG _ 181 54 [some (.ref 49), some (.int (zI l1))] [] (rd S) _
      refine g_fgt [false, true] ?_
      show eG _ 181 54 [some (.ref 49), none] [] (rd S) _
      cases h
      exact hk
    · show eG _ 181 33 [some (.ref 49), some (.int (zI l1))] [] (rd S) _
      refine g_run 1 34 [some (.ref 49), some (.int (zI l1))] [.ref 49] (rd S) rfl ?_
      refine g_getf rfl rfl (rd_o49 _) rfl ?_
      show eG _ 181 37 [some (.ref 49), some (.int (zI l1))] [.ref 68] (rd S) _
      refine g_run 2 40 [some (.ref 49), some (.int (zI l1))] [.int (zI l1), .int (zI 40), .ref 68] (rd S) rfl ?_
      refine s_iadd rfl ?_
      refine g_run 1 42 [some (.ref 49), some (.int (zI l1))] [.ref 49, .int (zI (40 + l1)), .ref 68] (rd S) rfl ?_
      refine g_getf rfl rfl (rd_o49 _) rfl ?_
      show eG _ 181 45 [some (.ref 49), some (.int (zI l1))] [.ref 51, .int (zI (40 + l1)), .ref 68] (rd S) _
      refine g_run 1 46 [some (.ref 49), some (.int (zI l1))] [.int (zI l1), .ref 51, .int (zI (40 + l1)), .ref 68] (rd S) rfl ?_
      refine s_iald rfl (rd_a51 _) h (fun h => ?_)
      show eG _ 181 47 [some (.ref 49), some (.int (zI l1))] [.int (zI (zA S 51 l1)), .int (zI (40 + l1)), .ref 68] (rd S) _
      refine s_iast rfl (rd_a68 _) (rw_a68 _ _) h (fun h => ?_)
      show eG _ 181 48 [some (.ref 49), some (.int (zI l1))] [] (rd (wA S 68 (40 + l1) (zA S 51 l1))) _
      refine s_iinc (L' := [some (.ref 49), some (.int (zI (l1 + 1)))]) rfl rfl rfl ?_
      refine g_run 1 28 [some (.ref 49), some (.int (zI (l1 + 1)))] [] (rd (wA S 68 (40 + l1) (zA S 51 l1))) rfl ?_
      exact ih (wA S 68 (40 + l1) (zA S 51 l1)) (l1 + 1) h hk
def fM_image (n : Nat) (S : ZS) : Option (Int × ZS) := (fM_image_1 n S 0).bind fun z1 => (fM_image_2 n z1 0).bind fun z2 => gX 0 6 (gX 1 6 (gX 2 6 (gX 3 6 (gX 4 6 (gX 5 6 (gB 1 (some (1, wF (wA (wA (wA (wA (wA (wA z2 69 0 (zF z2 49 1)) 69 1 (zF z2 49 2)) 69 2 (zF z2 49 3)) 69 3 (zF z2 49 4)) 69 4 (zF z2 49 5)) 69 5 (zF z2 49 7)) 49 28 1))))))))
set_option maxRecDepth 100000 in
set_option maxHeartbeats 4000000 in
theorem sM_image (o : eO) (n : Nat) (S : ZS) {w : Int × ZS} (h : fM_image n S = some w) : eG o 181 0 (eEnt 181 [.ref 49]) [] (rd S) (rv (some (.int (zI w.1))) (rd w.2)) := by
  unfold fM_image at h
  show eG o 181 0 [some (.ref 49), none] [] (rd S) _
  refine g_run 2 2 [some (.ref 49), some (.int (zI 0))] [] (rd S) rfl ?_
  obtain ⟨z1, h1, h⟩ := zB_inv h
  refine sM_image_1 o n S 0 h1 ?_
  show eG _ 181 26 [some (.ref 49), none] [] (rd z1) _
  refine g_run 2 28 [some (.ref 49), some (.int (zI 0))] [] (rd z1) rfl ?_
  obtain ⟨z2, h1, h⟩ := zB_inv h
  refine sM_image_2 o n z1 0 h1 ?_
  show eG _ 181 54 [some (.ref 49), none] [] (rd z2) _
  refine g_run 1 55 [some (.ref 49), none] [.ref 49] (rd z2) rfl ?_
  refine g_getf rfl rfl (rd_o49 _) rfl ?_
  show eG _ 181 58 [some (.ref 49), none] [.ref 69] (rd z2) _
  refine g_run 2 60 [some (.ref 49), none] [.ref 49, .int (zI 0), .ref 69] (rd z2) rfl ?_
  refine g_getf rfl rfl (rd_o49 _) rfl ?_
  show eG _ 181 63 [some (.ref 49), none] [.int (zI (zF z2 49 1)), .int (zI 0), .ref 69] (rd z2) _
  refine s_iast rfl (rd_a69 _) (rw_a69 _ _) h (fun h => ?_)
  show eG _ 181 64 [some (.ref 49), none] [] (rd (wA z2 69 0 (zF z2 49 1))) _
  refine g_run 1 65 [some (.ref 49), none] [.ref 49] (rd (wA z2 69 0 (zF z2 49 1))) rfl ?_
  refine g_getf rfl rfl (rd_o49 _) rfl ?_
  show eG _ 181 68 [some (.ref 49), none] [.ref 69] (rd (wA z2 69 0 (zF z2 49 1))) _
  refine g_run 2 70 [some (.ref 49), none] [.ref 49, .int (zI 1), .ref 69] (rd (wA z2 69 0 (zF z2 49 1))) rfl ?_
  refine g_getf rfl rfl (rd_o49 _) rfl ?_
  show eG _ 181 73 [some (.ref 49), none] [.int (zI (zF z2 49 2)), .int (zI 1), .ref 69] (rd (wA z2 69 0 (zF z2 49 1))) _
  refine s_iast rfl (rd_a69 _) (rw_a69 _ _) h (fun h => ?_)
  show eG _ 181 74 [some (.ref 49), none] [] (rd (wA (wA z2 69 0 (zF z2 49 1)) 69 1 (zF z2 49 2))) _
  refine g_run 1 75 [some (.ref 49), none] [.ref 49] (rd (wA (wA z2 69 0 (zF z2 49 1)) 69 1 (zF z2 49 2))) rfl ?_
  refine g_getf rfl rfl (rd_o49 _) rfl ?_
  show eG _ 181 78 [some (.ref 49), none] [.ref 69] (rd (wA (wA z2 69 0 (zF z2 49 1)) 69 1 (zF z2 49 2))) _
  refine g_run 2 80 [some (.ref 49), none] [.ref 49, .int (zI 2), .ref 69] (rd (wA (wA z2 69 0 (zF z2 49 1)) 69 1 (zF z2 49 2))) rfl ?_
  refine g_getf rfl rfl (rd_o49 _) rfl ?_
  show eG _ 181 83 [some (.ref 49), none] [.int (zI (zF z2 49 3)), .int (zI 2), .ref 69] (rd (wA (wA z2 69 0 (zF z2 49 1)) 69 1 (zF z2 49 2))) _
  refine s_iast rfl (rd_a69 _) (rw_a69 _ _) h (fun h => ?_)
  show eG _ 181 84 [some (.ref 49), none] [] (rd (wA (wA (wA z2 69 0 (zF z2 49 1)) 69 1 (zF z2 49 2)) 69 2 (zF z2 49 3))) _
  refine g_run 1 85 [some (.ref 49), none] [.ref 49] (rd (wA (wA (wA z2 69 0 (zF z2 49 1)) 69 1 (zF z2 49 2)) 69 2 (zF z2 49 3))) rfl ?_
  refine g_getf rfl rfl (rd_o49 _) rfl ?_
  show eG _ 181 88 [some (.ref 49), none] [.ref 69] (rd (wA (wA (wA z2 69 0 (zF z2 49 1)) 69 1 (zF z2 49 2)) 69 2 (zF z2 49 3))) _
  refine g_run 2 90 [some (.ref 49), none] [.ref 49, .int (zI 3), .ref 69] (rd (wA (wA (wA z2 69 0 (zF z2 49 1)) 69 1 (zF z2 49 2)) 69 2 (zF z2 49 3))) rfl ?_
  refine g_getf rfl rfl (rd_o49 _) rfl ?_
  show eG _ 181 93 [some (.ref 49), none] [.int (zI (zF z2 49 4)), .int (zI 3), .ref 69] (rd (wA (wA (wA z2 69 0 (zF z2 49 1)) 69 1 (zF z2 49 2)) 69 2 (zF z2 49 3))) _
  refine s_iast rfl (rd_a69 _) (rw_a69 _ _) h (fun h => ?_)
  show eG _ 181 94 [some (.ref 49), none] [] (rd (wA (wA (wA (wA z2 69 0 (zF z2 49 1)) 69 1 (zF z2 49 2)) 69 2 (zF z2 49 3)) 69 3 (zF z2 49 4))) _
  refine g_run 1 95 [some (.ref 49), none] [.ref 49] (rd (wA (wA (wA (wA z2 69 0 (zF z2 49 1)) 69 1 (zF z2 49 2)) 69 2 (zF z2 49 3)) 69 3 (zF z2 49 4))) rfl ?_
  refine g_getf rfl rfl (rd_o49 _) rfl ?_
  show eG _ 181 98 [some (.ref 49), none] [.ref 69] (rd (wA (wA (wA (wA z2 69 0 (zF z2 49 1)) 69 1 (zF z2 49 2)) 69 2 (zF z2 49 3)) 69 3 (zF z2 49 4))) _
  refine g_run 2 100 [some (.ref 49), none] [.ref 49, .int (zI 4), .ref 69] (rd (wA (wA (wA (wA z2 69 0 (zF z2 49 1)) 69 1 (zF z2 49 2)) 69 2 (zF z2 49 3)) 69 3 (zF z2 49 4))) rfl ?_
  refine g_getf rfl rfl (rd_o49 _) rfl ?_
  show eG _ 181 103 [some (.ref 49), none] [.int (zI (zF z2 49 5)), .int (zI 4), .ref 69] (rd (wA (wA (wA (wA z2 69 0 (zF z2 49 1)) 69 1 (zF z2 49 2)) 69 2 (zF z2 49 3)) 69 3 (zF z2 49 4))) _
  refine s_iast rfl (rd_a69 _) (rw_a69 _ _) h (fun h => ?_)
  show eG _ 181 104 [some (.ref 49), none] [] (rd (wA (wA (wA (wA (wA z2 69 0 (zF z2 49 1)) 69 1 (zF z2 49 2)) 69 2 (zF z2 49 3)) 69 3 (zF z2 49 4)) 69 4 (zF z2 49 5))) _
  refine g_run 1 105 [some (.ref 49), none] [.ref 49] (rd (wA (wA (wA (wA (wA z2 69 0 (zF z2 49 1)) 69 1 (zF z2 49 2)) 69 2 (zF z2 49 3)) 69 3 (zF z2 49 4)) 69 4 (zF z2 49 5))) rfl ?_
  refine g_getf rfl rfl (rd_o49 _) rfl ?_
  show eG _ 181 108 [some (.ref 49), none] [.ref 69] (rd (wA (wA (wA (wA (wA z2 69 0 (zF z2 49 1)) 69 1 (zF z2 49 2)) 69 2 (zF z2 49 3)) 69 3 (zF z2 49 4)) 69 4 (zF z2 49 5))) _
  refine g_run 2 110 [some (.ref 49), none] [.ref 49, .int (zI 5), .ref 69] (rd (wA (wA (wA (wA (wA z2 69 0 (zF z2 49 1)) 69 1 (zF z2 49 2)) 69 2 (zF z2 49 3)) 69 3 (zF z2 49 4)) 69 4 (zF z2 49 5))) rfl ?_
  refine g_getf rfl rfl (rd_o49 _) rfl ?_
  show eG _ 181 113 [some (.ref 49), none] [.int (zI (zF z2 49 7)), .int (zI 5), .ref 69] (rd (wA (wA (wA (wA (wA z2 69 0 (zF z2 49 1)) 69 1 (zF z2 49 2)) 69 2 (zF z2 49 3)) 69 3 (zF z2 49 4)) 69 4 (zF z2 49 5))) _
  refine s_iast rfl (rd_a69 _) (rw_a69 _ _) h (fun h => ?_)
  show eG _ 181 114 [some (.ref 49), none] [] (rd (wA (wA (wA (wA (wA (wA z2 69 0 (zF z2 49 1)) 69 1 (zF z2 49 2)) 69 2 (zF z2 49 3)) 69 3 (zF z2 49 4)) 69 4 (zF z2 49 5)) 69 5 (zF z2 49 7))) _
  refine g_run 2 116 [some (.ref 49), none] [.int (zI 1), .ref 49] (rd (wA (wA (wA (wA (wA (wA z2 69 0 (zF z2 49 1)) 69 1 (zF z2 49 2)) 69 2 (zF z2 49 3)) 69 3 (zF z2 49 4)) 69 4 (zF z2 49 5)) 69 5 (zF z2 49 7))) rfl ?_
  refine s_putb rfl rfl (rd_o49 _) rfl rfl rfl rfl (rw_o49_28 _ _) h (fun h => ?_)
  show eG _ 181 119 [some (.ref 49), none] [] (rd (wF (wA (wA (wA (wA (wA (wA z2 69 0 (zF z2 49 1)) 69 1 (zF z2 49 2)) 69 2 (zF z2 49 3)) 69 3 (zF z2 49 4)) 69 4 (zF z2 49 5)) 69 5 (zF z2 49 7)) 49 28 1)) _
  refine g_run 1 120 [some (.ref 49), none] [.int (zI 1)] (rd (wF (wA (wA (wA (wA (wA (wA z2 69 0 (zF z2 49 1)) 69 1 (zF z2 49 2)) 69 2 (zF z2 49 3)) 69 3 (zF z2 49 4)) 69 4 (zF z2 49 5)) 69 5 (zF z2 49 7)) 49 28 1)) rfl ?_
  cases h
  exact s_ret rfl rfl rfl
def fM_restore_1 : Nat → ZS → Int → Option (ZS)
  | 0, _, _ => none
  | n + 1, S, l1 => gC l1 40 (if l1 < 40 then gX l1 44 (gX l1 40 (fM_restore_1 n (wA S 50 l1 (zA S 68 l1)) (l1 + 1))) else some S)
set_option maxRecDepth 100000 in
set_option maxHeartbeats 4000000 in
theorem sM_restore_1 (o : eO) : ∀ (n : Nat) (S : ZS) (l1 : Int) {w : ZS} {r : eP} (h : fM_restore_1 n S l1 = some w) (hk : eG o 182 36 [some (.ref 49), none] [] (rd w) r), eG o 182 12 [some (.ref 49), some (.int (zI l1))] [] (rd S) r := by
  intro n
  induction n with
  | zero => intro S l1 w r h hk; unfold fM_restore_1 at h; cases h
  | succ n ih =>
    intro S l1 w r h hk
    unfold fM_restore_1 at h
    refine g_run 2 15 [some (.ref 49), some (.int (zI l1))] [.int (zI 40), .int (zI l1)] (rd S) rfl ?_
    refine s_icmp_ge rfl h (fun h => ?_) (fun h => ?_)
    · show eG _ 182 36 [some (.ref 49), some (.int (zI l1))] [] (rd S) _
      refine g_fgt [false, true] ?_
      show eG _ 182 36 [some (.ref 49), none] [] (rd S) _
      cases h
      exact hk
    · show eG _ 182 18 [some (.ref 49), some (.int (zI l1))] [] (rd S) _
      refine g_run 1 19 [some (.ref 49), some (.int (zI l1))] [.ref 49] (rd S) rfl ?_
      refine g_getf rfl rfl (rd_o49 _) rfl ?_
      show eG _ 182 22 [some (.ref 49), some (.int (zI l1))] [.ref 50] (rd S) _
      refine g_run 2 24 [some (.ref 49), some (.int (zI l1))] [.ref 49, .int (zI l1), .ref 50] (rd S) rfl ?_
      refine g_getf rfl rfl (rd_o49 _) rfl ?_
      show eG _ 182 27 [some (.ref 49), some (.int (zI l1))] [.ref 68, .int (zI l1), .ref 50] (rd S) _
      refine g_run 1 28 [some (.ref 49), some (.int (zI l1))] [.int (zI l1), .ref 68, .int (zI l1), .ref 50] (rd S) rfl ?_
      refine s_iald rfl (rd_a68 _) h (fun h => ?_)
      show eG _ 182 29 [some (.ref 49), some (.int (zI l1))] [.int (zI (zA S 68 l1)), .int (zI l1), .ref 50] (rd S) _
      refine s_iast rfl (rd_a50 _) (rw_a50 _ _) h (fun h => ?_)
      show eG _ 182 30 [some (.ref 49), some (.int (zI l1))] [] (rd (wA S 50 l1 (zA S 68 l1))) _
      refine s_iinc (L' := [some (.ref 49), some (.int (zI (l1 + 1)))]) rfl rfl rfl ?_
      refine g_run 1 12 [some (.ref 49), some (.int (zI (l1 + 1)))] [] (rd (wA S 50 l1 (zA S 68 l1))) rfl ?_
      exact ih (wA S 50 l1 (zA S 68 l1)) (l1 + 1) h hk
def fM_restore_2 : Nat → ZS → Int → Option (ZS)
  | 0, _, _ => none
  | n + 1, S, l1 => gC l1 4 (if l1 < 4 then gX (40 + l1) 44 (gX l1 4 (fM_restore_2 n (wA S 51 l1 (zA S 68 (40 + l1))) (l1 + 1))) else some S)
set_option maxRecDepth 100000 in
set_option maxHeartbeats 4000000 in
theorem sM_restore_2 (o : eO) : ∀ (n : Nat) (S : ZS) (l1 : Int) {w : ZS} {r : eP} (h : fM_restore_2 n S l1 = some w) (hk : eG o 182 64 [some (.ref 49), none] [] (rd w) r), eG o 182 38 [some (.ref 49), some (.int (zI l1))] [] (rd S) r := by
  intro n
  induction n with
  | zero => intro S l1 w r h hk; unfold fM_restore_2 at h; cases h
  | succ n ih =>
    intro S l1 w r h hk
    unfold fM_restore_2 at h
    refine g_run 2 40 [some (.ref 49), some (.int (zI l1))] [.int (zI 4), .int (zI l1)] (rd S) rfl ?_
    refine s_icmp_ge rfl h (fun h => ?_) (fun h => ?_)
    · show eG _ 182 64 [some (.ref 49), some (.int (zI l1))] [] (rd S) _
      refine g_fgt [false, true] ?_
      show eG _ 182 64 [some (.ref 49), none] [] (rd S) _
      cases h
      exact hk
    · show eG _ 182 43 [some (.ref 49), some (.int (zI l1))] [] (rd S) _
      refine g_run 1 44 [some (.ref 49), some (.int (zI l1))] [.ref 49] (rd S) rfl ?_
      refine g_getf rfl rfl (rd_o49 _) rfl ?_
      show eG _ 182 47 [some (.ref 49), some (.int (zI l1))] [.ref 51] (rd S) _
      refine g_run 2 49 [some (.ref 49), some (.int (zI l1))] [.ref 49, .int (zI l1), .ref 51] (rd S) rfl ?_
      refine g_getf rfl rfl (rd_o49 _) rfl ?_
      show eG _ 182 52 [some (.ref 49), some (.int (zI l1))] [.ref 68, .int (zI l1), .ref 51] (rd S) _
      refine g_run 2 55 [some (.ref 49), some (.int (zI l1))] [.int (zI l1), .int (zI 40), .ref 68, .int (zI l1), .ref 51] (rd S) rfl ?_
      refine s_iadd rfl ?_
      refine s_iald rfl (rd_a68 _) h (fun h => ?_)
      show eG _ 182 57 [some (.ref 49), some (.int (zI l1))] [.int (zI (zA S 68 (40 + l1))), .int (zI l1), .ref 51] (rd S) _
      refine s_iast rfl (rd_a51 _) (rw_a51 _ _) h (fun h => ?_)
      show eG _ 182 58 [some (.ref 49), some (.int (zI l1))] [] (rd (wA S 51 l1 (zA S 68 (40 + l1)))) _
      refine s_iinc (L' := [some (.ref 49), some (.int (zI (l1 + 1)))]) rfl rfl rfl ?_
      refine g_run 1 38 [some (.ref 49), some (.int (zI (l1 + 1)))] [] (rd (wA S 51 l1 (zA S 68 (40 + l1)))) rfl ?_
      exact ih (wA S 51 l1 (zA S 68 (40 + l1))) (l1 + 1) h hk
def fM_restore (n : Nat) (S : ZS) : Option (Int × ZS) := gC (zF S 49 28) 0 (if (zF S 49 28) = 0 then some (-4, S) else (fM_restore_1 n S 0).bind fun z1 => (fM_restore_2 n z1 0).bind fun z2 => gX 0 6 (gX 1 6 (gX 2 6 (gX 3 6 (gX 4 6 (gX 5 6 (some (1, wF (wF (wF (wF (wF (wF z2 49 1 (zA z2 69 0)) 49 2 (zA z2 69 1)) 49 3 (zA z2 69 2)) 49 4 (zA z2 69 3)) 49 5 (zA z2 69 4)) 49 7 (zA z2 69 5)))))))))
set_option maxRecDepth 100000 in
set_option maxHeartbeats 4000000 in
theorem sM_restore (o : eO) (n : Nat) (S : ZS) {w : Int × ZS} (h : fM_restore n S = some w) : eG o 182 0 (eEnt 182 [.ref 49]) [] (rd S) (rv (some (.int (zI w.1))) (rd w.2)) := by
  unfold fM_restore at h
  show eG o 182 0 [some (.ref 49), none] [] (rd S) _
  refine g_run 1 1 [some (.ref 49), none] [.ref 49] (rd S) rfl ?_
  refine g_getf rfl rfl (rd_o49 _) rfl ?_
  show eG _ 182 4 [some (.ref 49), none] [.int (zI (zF S 49 28))] (rd S) _
  refine s_if_ne rfl h (fun h => ?_) (fun h => ?_)
  · show eG _ 182 10 [some (.ref 49), none] [] (rd S) _
    refine g_run 2 12 [some (.ref 49), some (.int (zI 0))] [] (rd S) rfl ?_
    obtain ⟨z1, h1, h⟩ := zB_inv h
    refine sM_restore_1 o n S 0 h1 ?_
    show eG _ 182 36 [some (.ref 49), none] [] (rd z1) _
    refine g_run 2 38 [some (.ref 49), some (.int (zI 0))] [] (rd z1) rfl ?_
    obtain ⟨z2, h1, h⟩ := zB_inv h
    refine sM_restore_2 o n z1 0 h1 ?_
    show eG _ 182 64 [some (.ref 49), none] [] (rd z2) _
    refine g_run 2 66 [some (.ref 49), none] [.ref 49, .ref 49] (rd z2) rfl ?_
    refine g_getf rfl rfl (rd_o49 _) rfl ?_
    show eG _ 182 69 [some (.ref 49), none] [.ref 69, .ref 49] (rd z2) _
    refine g_run 1 70 [some (.ref 49), none] [.int (zI 0), .ref 69, .ref 49] (rd z2) rfl ?_
    refine s_iald rfl (rd_a69 _) h (fun h => ?_)
    show eG _ 182 71 [some (.ref 49), none] [.int (zI (zA z2 69 0)), .ref 49] (rd z2) _
    refine s_putf rfl rfl (rd_o49 _) rfl rfl rfl rfl rfl (rw_o49_1 _ _) ?_
    show eG _ 182 74 [some (.ref 49), none] [] (rd (wF z2 49 1 (zA z2 69 0))) _
    refine g_run 2 76 [some (.ref 49), none] [.ref 49, .ref 49] (rd (wF z2 49 1 (zA z2 69 0))) rfl ?_
    refine g_getf rfl rfl (rd_o49 _) rfl ?_
    show eG _ 182 79 [some (.ref 49), none] [.ref 69, .ref 49] (rd (wF z2 49 1 (zA z2 69 0))) _
    refine g_run 1 80 [some (.ref 49), none] [.int (zI 1), .ref 69, .ref 49] (rd (wF z2 49 1 (zA z2 69 0))) rfl ?_
    refine s_iald rfl (rd_a69 _) h (fun h => ?_)
    show eG _ 182 81 [some (.ref 49), none] [.int (zI (zA z2 69 1)), .ref 49] (rd (wF z2 49 1 (zA z2 69 0))) _
    refine s_putf rfl rfl (rd_o49 _) rfl rfl rfl rfl rfl (rw_o49_2 _ _) ?_
    show eG _ 182 84 [some (.ref 49), none] [] (rd (wF (wF z2 49 1 (zA z2 69 0)) 49 2 (zA z2 69 1))) _
    refine g_run 2 86 [some (.ref 49), none] [.ref 49, .ref 49] (rd (wF (wF z2 49 1 (zA z2 69 0)) 49 2 (zA z2 69 1))) rfl ?_
    refine g_getf rfl rfl (rd_o49 _) rfl ?_
    show eG _ 182 89 [some (.ref 49), none] [.ref 69, .ref 49] (rd (wF (wF z2 49 1 (zA z2 69 0)) 49 2 (zA z2 69 1))) _
    refine g_run 1 90 [some (.ref 49), none] [.int (zI 2), .ref 69, .ref 49] (rd (wF (wF z2 49 1 (zA z2 69 0)) 49 2 (zA z2 69 1))) rfl ?_
    refine s_iald rfl (rd_a69 _) h (fun h => ?_)
    show eG _ 182 91 [some (.ref 49), none] [.int (zI (zA z2 69 2)), .ref 49] (rd (wF (wF z2 49 1 (zA z2 69 0)) 49 2 (zA z2 69 1))) _
    refine s_putf rfl rfl (rd_o49 _) rfl rfl rfl rfl rfl (rw_o49_3 _ _) ?_
    show eG _ 182 94 [some (.ref 49), none] [] (rd (wF (wF (wF z2 49 1 (zA z2 69 0)) 49 2 (zA z2 69 1)) 49 3 (zA z2 69 2))) _
    refine g_run 2 96 [some (.ref 49), none] [.ref 49, .ref 49] (rd (wF (wF (wF z2 49 1 (zA z2 69 0)) 49 2 (zA z2 69 1)) 49 3 (zA z2 69 2))) rfl ?_
    refine g_getf rfl rfl (rd_o49 _) rfl ?_
    show eG _ 182 99 [some (.ref 49), none] [.ref 69, .ref 49] (rd (wF (wF (wF z2 49 1 (zA z2 69 0)) 49 2 (zA z2 69 1)) 49 3 (zA z2 69 2))) _
    refine g_run 1 100 [some (.ref 49), none] [.int (zI 3), .ref 69, .ref 49] (rd (wF (wF (wF z2 49 1 (zA z2 69 0)) 49 2 (zA z2 69 1)) 49 3 (zA z2 69 2))) rfl ?_
    refine s_iald rfl (rd_a69 _) h (fun h => ?_)
    show eG _ 182 101 [some (.ref 49), none] [.int (zI (zA z2 69 3)), .ref 49] (rd (wF (wF (wF z2 49 1 (zA z2 69 0)) 49 2 (zA z2 69 1)) 49 3 (zA z2 69 2))) _
    refine s_putf rfl rfl (rd_o49 _) rfl rfl rfl rfl rfl (rw_o49_4 _ _) ?_
    show eG _ 182 104 [some (.ref 49), none] [] (rd (wF (wF (wF (wF z2 49 1 (zA z2 69 0)) 49 2 (zA z2 69 1)) 49 3 (zA z2 69 2)) 49 4 (zA z2 69 3))) _
    refine g_run 2 106 [some (.ref 49), none] [.ref 49, .ref 49] (rd (wF (wF (wF (wF z2 49 1 (zA z2 69 0)) 49 2 (zA z2 69 1)) 49 3 (zA z2 69 2)) 49 4 (zA z2 69 3))) rfl ?_
    refine g_getf rfl rfl (rd_o49 _) rfl ?_
    show eG _ 182 109 [some (.ref 49), none] [.ref 69, .ref 49] (rd (wF (wF (wF (wF z2 49 1 (zA z2 69 0)) 49 2 (zA z2 69 1)) 49 3 (zA z2 69 2)) 49 4 (zA z2 69 3))) _
    refine g_run 1 110 [some (.ref 49), none] [.int (zI 4), .ref 69, .ref 49] (rd (wF (wF (wF (wF z2 49 1 (zA z2 69 0)) 49 2 (zA z2 69 1)) 49 3 (zA z2 69 2)) 49 4 (zA z2 69 3))) rfl ?_
    refine s_iald rfl (rd_a69 _) h (fun h => ?_)
    show eG _ 182 111 [some (.ref 49), none] [.int (zI (zA z2 69 4)), .ref 49] (rd (wF (wF (wF (wF z2 49 1 (zA z2 69 0)) 49 2 (zA z2 69 1)) 49 3 (zA z2 69 2)) 49 4 (zA z2 69 3))) _
    refine s_putf rfl rfl (rd_o49 _) rfl rfl rfl rfl rfl (rw_o49_5 _ _) ?_
    show eG _ 182 114 [some (.ref 49), none] [] (rd (wF (wF (wF (wF (wF z2 49 1 (zA z2 69 0)) 49 2 (zA z2 69 1)) 49 3 (zA z2 69 2)) 49 4 (zA z2 69 3)) 49 5 (zA z2 69 4))) _
    refine g_run 2 116 [some (.ref 49), none] [.ref 49, .ref 49] (rd (wF (wF (wF (wF (wF z2 49 1 (zA z2 69 0)) 49 2 (zA z2 69 1)) 49 3 (zA z2 69 2)) 49 4 (zA z2 69 3)) 49 5 (zA z2 69 4))) rfl ?_
    refine g_getf rfl rfl (rd_o49 _) rfl ?_
    show eG _ 182 119 [some (.ref 49), none] [.ref 69, .ref 49] (rd (wF (wF (wF (wF (wF z2 49 1 (zA z2 69 0)) 49 2 (zA z2 69 1)) 49 3 (zA z2 69 2)) 49 4 (zA z2 69 3)) 49 5 (zA z2 69 4))) _
    refine g_run 1 120 [some (.ref 49), none] [.int (zI 5), .ref 69, .ref 49] (rd (wF (wF (wF (wF (wF z2 49 1 (zA z2 69 0)) 49 2 (zA z2 69 1)) 49 3 (zA z2 69 2)) 49 4 (zA z2 69 3)) 49 5 (zA z2 69 4))) rfl ?_
    refine s_iald rfl (rd_a69 _) h (fun h => ?_)
    show eG _ 182 121 [some (.ref 49), none] [.int (zI (zA z2 69 5)), .ref 49] (rd (wF (wF (wF (wF (wF z2 49 1 (zA z2 69 0)) 49 2 (zA z2 69 1)) 49 3 (zA z2 69 2)) 49 4 (zA z2 69 3)) 49 5 (zA z2 69 4))) _
    refine s_putf rfl rfl (rd_o49 _) rfl rfl rfl rfl rfl (rw_o49_7 _ _) ?_
    show eG _ 182 124 [some (.ref 49), none] [] (rd (wF (wF (wF (wF (wF (wF z2 49 1 (zA z2 69 0)) 49 2 (zA z2 69 1)) 49 3 (zA z2 69 2)) 49 4 (zA z2 69 3)) 49 5 (zA z2 69 4)) 49 7 (zA z2 69 5))) _
    refine g_run 1 125 [some (.ref 49), none] [.int (zI 1)] (rd (wF (wF (wF (wF (wF (wF z2 49 1 (zA z2 69 0)) 49 2 (zA z2 69 1)) 49 3 (zA z2 69 2)) 49 4 (zA z2 69 3)) 49 5 (zA z2 69 4)) 49 7 (zA z2 69 5))) rfl ?_
    cases h
    exact s_ret rfl rfl rfl
  · show eG _ 182 7 [some (.ref 49), none] [] (rd S) _
    refine g_run 1 9 [some (.ref 49), none] [.int (zI (-4))] (rd S) rfl ?_
    cases h
    exact s_ret rfl rfl rfl
def fM_isSheet (n : Nat) (S : ZS) (l0 l1 : Int) : Option (Int) := gC l0 0 ((fM_in n S l0 0 3).bind fun z1 => gC z1 0 (if z1 = 0 then gB 0 (some 0) else gC l1 0 ((fM_in n S l1 0 2).bind fun z2 => gC z2 0 (if z2 = 0 then gB 0 (some 0) else gB 1 (some 1)))))
set_option maxRecDepth 100000 in
set_option maxHeartbeats 4000000 in
theorem sM_isSheet (o : eO) (n : Nat) (S : ZS) (l0 l1 : Int) {w : Int} (h : fM_isSheet n S l0 l1 = some w) : eG o 184 0 (eEnt 184 [.int (zI l0), .int (zI l1)]) [] (rd S) (rv (some (.int (zI w))) (rd S)) := by
  unfold fM_isSheet at h
  show eG o 184 0 [some (.int (zI l0)), some (.int (zI l1))] [] (rd S) _
  refine g_run 1 1 [some (.int (zI l0)), some (.int (zI l1))] [.int (zI l0)] (rd S) rfl ?_
  refine s_i2l rfl h (fun h => ?_)
  refine g_run 2 6 [some (.int (zI l0)), some (.int (zI l1))] [.long (zL 3), .long (zL 0), .long (zL l0)] (rd S) rfl ?_
  refine s_sta (fun z => some (.int (zI z))) (fun _ => rd S) rfl rfl rfl rfl rfl rfl rfl (fun z hz => sM_in o n S l0 0 3 hz) rfl h (fun z1 h => ?_)
  show eG _ 184 9 [some (.int (zI l0)), some (.int (zI l1))] [.int (zI z1)] (rd S) _
  refine s_if_eq rfl h (fun h => ?_) (fun h => ?_)
  · show eG _ 184 28 [some (.int (zI l0)), some (.int (zI l1))] [] (rd S) _
    refine g_run 1 29 [some (.int (zI l0)), some (.int (zI l1))] [.int (zI 0)] (rd S) rfl ?_
    exact s_retB rfl rfl h (fun h => by cases h; exact rfl)
  · show eG _ 184 12 [some (.int (zI l0)), some (.int (zI l1))] [] (rd S) _
    refine g_run 1 13 [some (.int (zI l0)), some (.int (zI l1))] [.int (zI l1)] (rd S) rfl ?_
    refine s_i2l rfl h (fun h => ?_)
    refine g_run 2 18 [some (.int (zI l0)), some (.int (zI l1))] [.long (zL 2), .long (zL 0), .long (zL l1)] (rd S) rfl ?_
    refine s_sta (fun z => some (.int (zI z))) (fun _ => rd S) rfl rfl rfl rfl rfl rfl rfl (fun z hz => sM_in o n S l1 0 2 hz) rfl h (fun z2 h => ?_)
    show eG _ 184 21 [some (.int (zI l0)), some (.int (zI l1))] [.int (zI z2)] (rd S) _
    refine s_if_eq rfl h (fun h => ?_) (fun h => ?_)
    · show eG _ 184 28 [some (.int (zI l0)), some (.int (zI l1))] [] (rd S) _
      refine g_run 1 29 [some (.int (zI l0)), some (.int (zI l1))] [.int (zI 0)] (rd S) rfl ?_
      exact s_retB rfl rfl h (fun h => by cases h; exact rfl)
    · show eG _ 184 24 [some (.int (zI l0)), some (.int (zI l1))] [] (rd S) _
      refine g_run 2 29 [some (.int (zI l0)), some (.int (zI l1))] [.int (zI 1)] (rd S) rfl ?_
      exact s_retB rfl rfl h (fun h => by cases h; exact rfl)
def fM_lacksRow (n : Nat) (S : ZS) (l1 l2 l3 l4 : Int) : Option (Int) := gX l1 4 (gC (zA S 70 l1) l2 (if (zA S 70 l1) = l2 then gC l3 0 (gX l1 4 (gC ((zA S 71 l1) - l4) 0 ((fM_in n S l3 0 ((zA S 71 l1) - l4)).bind fun z1 => gC z1 0 (if z1 = 0 then some (-13) else some 0)))) else gX l1 4 (gC (zA S 70 l1) 0 (if (zA S 70 l1) < 0 then some (-11) else some (-12)))))
set_option maxRecDepth 100000 in
set_option maxHeartbeats 4000000 in
theorem sM_lacksRow (o : eO) (n : Nat) (S : ZS) (l1 l2 l3 l4 : Int) {w : Int} (h : fM_lacksRow n S l1 l2 l3 l4 = some w) : eG o 187 0 (eEnt 187 [.ref 49, .int (zI l1), .int (zI l2), .int (zI l3), .int (zI l4)]) [] (rd S) (rv (some (.int (zI w))) (rd S)) := by
  unfold fM_lacksRow at h
  show eG o 187 0 [some (.ref 49), some (.int (zI l1)), some (.int (zI l2)), some (.int (zI l3)), some (.int (zI l4))] [] (rd S) _
  refine g_run 1 1 [some (.ref 49), some (.int (zI l1)), some (.int (zI l2)), some (.int (zI l3)), some (.int (zI l4))] [.ref 49] (rd S) rfl ?_
  refine g_getf rfl rfl (rd_o49 _) rfl ?_
  show eG _ 187 4 [some (.ref 49), some (.int (zI l1)), some (.int (zI l2)), some (.int (zI l3)), some (.int (zI l4))] [.ref 70] (rd S) _
  refine g_run 1 5 [some (.ref 49), some (.int (zI l1)), some (.int (zI l2)), some (.int (zI l3)), some (.int (zI l4))] [.int (zI l1), .ref 70] (rd S) rfl ?_
  refine s_iald rfl (rd_a70 _) h (fun h => ?_)
  show eG _ 187 6 [some (.ref 49), some (.int (zI l1)), some (.int (zI l2)), some (.int (zI l3)), some (.int (zI l4))] [.int (zI (zA S 70 l1))] (rd S) _
  refine g_run 1 7 [some (.ref 49), some (.int (zI l1)), some (.int (zI l2)), some (.int (zI l3)), some (.int (zI l4))] [.int (zI l2), .int (zI (zA S 70 l1))] (rd S) rfl ?_
  refine s_icmp_eq rfl h (fun h => ?_) (fun h => ?_)
  · show eG _ 187 27 [some (.ref 49), some (.int (zI l1)), some (.int (zI l2)), some (.int (zI l3)), some (.int (zI l4))] [] (rd S) _
    refine g_run 1 28 [some (.ref 49), some (.int (zI l1)), some (.int (zI l2)), some (.int (zI l3)), some (.int (zI l4))] [.int (zI l3)] (rd S) rfl ?_
    refine s_i2l rfl h (fun h => ?_)
    refine g_run 2 31 [some (.ref 49), some (.int (zI l1)), some (.int (zI l2)), some (.int (zI l3)), some (.int (zI l4))] [.ref 49, .long (zL 0), .long (zL l3)] (rd S) rfl ?_
    refine g_getf rfl rfl (rd_o49 _) rfl ?_
    show eG _ 187 34 [some (.ref 49), some (.int (zI l1)), some (.int (zI l2)), some (.int (zI l3)), some (.int (zI l4))] [.ref 71, .long (zL 0), .long (zL l3)] (rd S) _
    refine g_run 1 35 [some (.ref 49), some (.int (zI l1)), some (.int (zI l2)), some (.int (zI l3)), some (.int (zI l4))] [.int (zI l1), .ref 71, .long (zL 0), .long (zL l3)] (rd S) rfl ?_
    refine s_iald rfl (rd_a71 _) h (fun h => ?_)
    show eG _ 187 36 [some (.ref 49), some (.int (zI l1)), some (.int (zI l2)), some (.int (zI l3)), some (.int (zI l4))] [.int (zI (zA S 71 l1)), .long (zL 0), .long (zL l3)] (rd S) _
    refine g_run 1 38 [some (.ref 49), some (.int (zI l1)), some (.int (zI l2)), some (.int (zI l3)), some (.int (zI l4))] [.int (zI l4), .int (zI (zA S 71 l1)), .long (zL 0), .long (zL l3)] (rd S) rfl ?_
    refine s_isub rfl ?_
    refine s_i2l rfl h (fun h => ?_)
    refine s_sta (fun z => some (.int (zI z))) (fun _ => rd S) rfl rfl rfl rfl rfl rfl rfl (fun z hz => sM_in o n S l3 0 ((zA S 71 l1) - l4) hz) rfl h (fun z1 h => ?_)
    show eG _ 187 43 [some (.ref 49), some (.int (zI l1)), some (.int (zI l2)), some (.int (zI l3)), some (.int (zI l4))] [.int (zI z1)] (rd S) _
    refine s_if_eq rfl h (fun h => ?_) (fun h => ?_)
    · show eG _ 187 50 [some (.ref 49), some (.int (zI l1)), some (.int (zI l2)), some (.int (zI l3)), some (.int (zI l4))] [] (rd S) _
      refine g_run 1 52 [some (.ref 49), some (.int (zI l1)), some (.int (zI l2)), some (.int (zI l3)), some (.int (zI l4))] [.int (zI (-13))] (rd S) rfl ?_
      cases h
      exact s_ret rfl rfl rfl
    · show eG _ 187 46 [some (.ref 49), some (.int (zI l1)), some (.int (zI l2)), some (.int (zI l3)), some (.int (zI l4))] [] (rd S) _
      refine g_run 2 52 [some (.ref 49), some (.int (zI l1)), some (.int (zI l2)), some (.int (zI l3)), some (.int (zI l4))] [.int (zI 0)] (rd S) rfl ?_
      cases h
      exact s_ret rfl rfl rfl
  · show eG _ 187 10 [some (.ref 49), some (.int (zI l1)), some (.int (zI l2)), some (.int (zI l3)), some (.int (zI l4))] [] (rd S) _
    refine g_run 1 11 [some (.ref 49), some (.int (zI l1)), some (.int (zI l2)), some (.int (zI l3)), some (.int (zI l4))] [.ref 49] (rd S) rfl ?_
    refine g_getf rfl rfl (rd_o49 _) rfl ?_
    show eG _ 187 14 [some (.ref 49), some (.int (zI l1)), some (.int (zI l2)), some (.int (zI l3)), some (.int (zI l4))] [.ref 70] (rd S) _
    refine g_run 1 15 [some (.ref 49), some (.int (zI l1)), some (.int (zI l2)), some (.int (zI l3)), some (.int (zI l4))] [.int (zI l1), .ref 70] (rd S) rfl ?_
    refine s_iald rfl (rd_a70 _) h (fun h => ?_)
    show eG _ 187 16 [some (.ref 49), some (.int (zI l1)), some (.int (zI l2)), some (.int (zI l3)), some (.int (zI l4))] [.int (zI (zA S 70 l1))] (rd S) _
    refine s_if_ge rfl h (fun h => ?_) (fun h => ?_)
    · show eG _ 187 24 [some (.ref 49), some (.int (zI l1)), some (.int (zI l2)), some (.int (zI l3)), some (.int (zI l4))] [] (rd S) _
      refine g_run 1 26 [some (.ref 49), some (.int (zI l1)), some (.int (zI l2)), some (.int (zI l3)), some (.int (zI l4))] [.int (zI (-12))] (rd S) rfl ?_
      cases h
      exact s_ret rfl rfl rfl
    · show eG _ 187 19 [some (.ref 49), some (.int (zI l1)), some (.int (zI l2)), some (.int (zI l3)), some (.int (zI l4))] [] (rd S) _
      refine g_run 2 26 [some (.ref 49), some (.int (zI l1)), some (.int (zI l2)), some (.int (zI l3)), some (.int (zI l4))] [.int (zI (-11))] (rd S) rfl ?_
      cases h
      exact s_ret rfl rfl rfl
def fM_judge_1 : Nat → ZS → Int → Int → Int → Int → Int → Int → Option ((Int × ZS) ⊕ (Int))
  | 0, _, _, _, _, _, _, _ => none
  | n + 1, S, l1, l2, l3, l4, l5, l6 => gC l6 l2 (if l6 < l2 then gX (l1 + (2 * l6)) 96 (gX ((l1 + (2 * l6)) + 1) 96 (gC l6 l3 (if l6 = l3 then fM_judge_1 n S l1 l2 l3 l4 l5 (l6 + 1) else (fM_isWeek n S l4 (zA S 72 (l1 + (2 * l6))) (zA S 72 ((l1 + (2 * l6)) + 1))).bind fun z1 => gC z1 0 (if z1 = 0 then some (.inl (l6, S)) else (fM_isLawful n S l4 l5 (zl2i (zA S 72 (l1 + (2 * l6)))) (zl2i (zA S 72 ((l1 + (2 * l6)) + 1)))).bind fun z2 => gC z2 0 (if z2 = 0 then some (.inl (l6, S)) else (fM_moreBy n S (zl2i (zA S 72 (l1 + (2 * l6)))) (zl2i (zA S 72 ((l1 + (2 * l6)) + 1)))).bind fun z3 => (fM_most n S (l5 + z3)).bind fun z4 => fM_judge_1 n S l1 l2 l3 (zor (zand l4 (zxor (zl2i (zA S 72 (l1 + (2 * l6)))) (-1))) (zl2i (zA S 72 ((l1 + (2 * l6)) + 1)))) z4 (l6 + 1)))))) else some (.inr l4))
set_option maxRecDepth 100000 in
set_option maxHeartbeats 4000000 in
theorem sM_judge_1 (o : eO) : ∀ (n : Nat) (S : ZS) (l1 l2 l3 l4 l5 l6 : Int) {w : (Int × ZS) ⊕ (Int)} {r : eP} (h : fM_judge_1 n S l1 l2 l3 l4 l5 l6 = some w) (hr : ∀ v, w = .inl v → r (some (.int (zI v.1)), rd v.2)) (hk : ∀ x, w = .inr x → eG o 190 126 [some (.ref 49), none, none, none, some (.int (zI x)), none, none, none, none, none, none] [] (rd S) r), eG o 190 15 [some (.ref 49), some (.int (zI l1)), some (.int (zI l2)), some (.int (zI l3)), some (.int (zI l4)), some (.int (zI l5)), some (.int (zI l6)), none, none, none, none] [] (rd S) r := by
  intro n
  induction n with
  | zero => intro S l1 l2 l3 l4 l5 l6 w r h hr hk; unfold fM_judge_1 at h; cases h
  | succ n ih =>
    intro S l1 l2 l3 l4 l5 l6 w r h hr hk
    unfold fM_judge_1 at h
    refine g_run 2 18 [some (.ref 49), some (.int (zI l1)), some (.int (zI l2)), some (.int (zI l3)), some (.int (zI l4)), some (.int (zI l5)), some (.int (zI l6)), none, none, none, none] [.int (zI l2), .int (zI l6)] (rd S) rfl ?_
    refine s_icmp_ge rfl h (fun h => ?_) (fun h => ?_)
    · show eG _ 190 126 [some (.ref 49), some (.int (zI l1)), some (.int (zI l2)), some (.int (zI l3)), some (.int (zI l4)), some (.int (zI l5)), some (.int (zI l6)), none, none, none, none] [] (rd S) _
      refine g_fgt [false, true, true, true, false, true, true, true, true, true, true] ?_
      show eG _ 190 126 [some (.ref 49), none, none, none, some (.int (zI l4)), none, none, none, none, none, none] [] (rd S) _
      cases h
      exact hk _ rfl
    · show eG _ 190 21 [some (.ref 49), some (.int (zI l1)), some (.int (zI l2)), some (.int (zI l3)), some (.int (zI l4)), some (.int (zI l5)), some (.int (zI l6)), none, none, none, none] [] (rd S) _
      refine g_run 1 22 [some (.ref 49), some (.int (zI l1)), some (.int (zI l2)), some (.int (zI l3)), some (.int (zI l4)), some (.int (zI l5)), some (.int (zI l6)), none, none, none, none] [.ref 49] (rd S) rfl ?_
      refine g_getf rfl rfl (rd_o49 _) rfl ?_
      show eG _ 190 25 [some (.ref 49), some (.int (zI l1)), some (.int (zI l2)), some (.int (zI l3)), some (.int (zI l4)), some (.int (zI l5)), some (.int (zI l6)), none, none, none, none] [.ref 72] (rd S) _
      refine g_run 3 29 [some (.ref 49), some (.int (zI l1)), some (.int (zI l2)), some (.int (zI l3)), some (.int (zI l4)), some (.int (zI l5)), some (.int (zI l6)), none, none, none, none] [.int (zI l6), .int (zI 2), .int (zI l1), .ref 72] (rd S) rfl ?_
      refine s_imul rfl ?_
      refine s_iadd rfl ?_
      refine s_lald rfl (rd_a72 _) h (fun h => ?_)
      show eG _ 190 32 [some (.ref 49), some (.int (zI l1)), some (.int (zI l2)), some (.int (zI l3)), some (.int (zI l4)), some (.int (zI l5)), some (.int (zI l6)), none, none, none, none] [.long (zL (zA S 72 (l1 + (2 * l6))))] (rd S) _
      refine g_run 2 35 [some (.ref 49), some (.int (zI l1)), some (.int (zI l2)), some (.int (zI l3)), some (.int (zI l4)), some (.int (zI l5)), some (.int (zI l6)), some (.long (zL (zA S 72 (l1 + (2 * l6))))), none, none, none] [.ref 49] (rd S) rfl ?_
      refine g_getf rfl rfl (rd_o49 _) rfl ?_
      show eG _ 190 38 [some (.ref 49), some (.int (zI l1)), some (.int (zI l2)), some (.int (zI l3)), some (.int (zI l4)), some (.int (zI l5)), some (.int (zI l6)), some (.long (zL (zA S 72 (l1 + (2 * l6))))), none, none, none] [.ref 72] (rd S) _
      refine g_run 3 42 [some (.ref 49), some (.int (zI l1)), some (.int (zI l2)), some (.int (zI l3)), some (.int (zI l4)), some (.int (zI l5)), some (.int (zI l6)), some (.long (zL (zA S 72 (l1 + (2 * l6))))), none, none, none] [.int (zI l6), .int (zI 2), .int (zI l1), .ref 72] (rd S) rfl ?_
      refine s_imul rfl ?_
      refine s_iadd rfl ?_
      refine g_run 1 45 [some (.ref 49), some (.int (zI l1)), some (.int (zI l2)), some (.int (zI l3)), some (.int (zI l4)), some (.int (zI l5)), some (.int (zI l6)), some (.long (zL (zA S 72 (l1 + (2 * l6))))), none, none, none] [.int (zI 1), .int (zI (l1 + (2 * l6))), .ref 72] (rd S) rfl ?_
      refine s_iadd rfl ?_
      refine s_lald rfl (rd_a72 _) h (fun h => ?_)
      show eG _ 190 47 [some (.ref 49), some (.int (zI l1)), some (.int (zI l2)), some (.int (zI l3)), some (.int (zI l4)), some (.int (zI l5)), some (.int (zI l6)), some (.long (zL (zA S 72 (l1 + (2 * l6))))), none, none, none] [.long (zL (zA S 72 ((l1 + (2 * l6)) + 1)))] (rd S) _
      refine g_run 3 52 [some (.ref 49), some (.int (zI l1)), some (.int (zI l2)), some (.int (zI l3)), some (.int (zI l4)), some (.int (zI l5)), some (.int (zI l6)), some (.long (zL (zA S 72 (l1 + (2 * l6))))), none, some (.long (zL (zA S 72 ((l1 + (2 * l6)) + 1)))), none] [.int (zI l3), .int (zI l6)] (rd S) rfl ?_
      refine s_icmp_eq rfl h (fun h => ?_) (fun h => ?_)
      · show eG _ 190 120 [some (.ref 49), some (.int (zI l1)), some (.int (zI l2)), some (.int (zI l3)), some (.int (zI l4)), some (.int (zI l5)), some (.int (zI l6)), some (.long (zL (zA S 72 (l1 + (2 * l6))))), none, some (.long (zL (zA S 72 ((l1 + (2 * l6)) + 1)))), none] [] (rd S) _
        refine s_iinc (L' := [some (.ref 49), some (.int (zI l1)), some (.int (zI l2)), some (.int (zI l3)), some (.int (zI l4)), some (.int (zI l5)), some (.int (zI (l6 + 1))), some (.long (zL (zA S 72 (l1 + (2 * l6))))), none, some (.long (zL (zA S 72 ((l1 + (2 * l6)) + 1)))), none]) rfl rfl rfl ?_
        refine g_run 1 15 [some (.ref 49), some (.int (zI l1)), some (.int (zI l2)), some (.int (zI l3)), some (.int (zI l4)), some (.int (zI l5)), some (.int (zI (l6 + 1))), some (.long (zL (zA S 72 (l1 + (2 * l6))))), none, some (.long (zL (zA S 72 ((l1 + (2 * l6)) + 1)))), none] [] (rd S) rfl ?_
        refine g_fgt [false, false, false, false, false, false, false, true, true, true, true] ?_
        show eG _ 190 15 [some (.ref 49), some (.int (zI l1)), some (.int (zI l2)), some (.int (zI l3)), some (.int (zI l4)), some (.int (zI l5)), some (.int (zI (l6 + 1))), none, none, none, none] [] (rd S) _
        exact ih S l1 l2 l3 l4 l5 (l6 + 1) h hr hk
      · show eG _ 190 55 [some (.ref 49), some (.int (zI l1)), some (.int (zI l2)), some (.int (zI l3)), some (.int (zI l4)), some (.int (zI l5)), some (.int (zI l6)), some (.long (zL (zA S 72 (l1 + (2 * l6))))), none, some (.long (zL (zA S 72 ((l1 + (2 * l6)) + 1)))), none] [] (rd S) _
        refine g_run 4 62 [some (.ref 49), some (.int (zI l1)), some (.int (zI l2)), some (.int (zI l3)), some (.int (zI l4)), some (.int (zI l5)), some (.int (zI l6)), some (.long (zL (zA S 72 (l1 + (2 * l6))))), none, some (.long (zL (zA S 72 ((l1 + (2 * l6)) + 1)))), none] [.long (zL (zA S 72 ((l1 + (2 * l6)) + 1))), .long (zL (zA S 72 (l1 + (2 * l6)))), .int (zI l4), .ref 49] (rd S) rfl ?_
        refine s_vir (fun z => some (.int (zI z))) (fun _ => rd S) rfl rfl rfl (rd_o49 _) rfl rfl (fun z hz => sM_isWeek o n S l4 (zA S 72 (l1 + (2 * l6))) (zA S 72 ((l1 + (2 * l6)) + 1)) hz) rfl h (fun z1 h => ?_)
        show eG _ 190 65 [some (.ref 49), some (.int (zI l1)), some (.int (zI l2)), some (.int (zI l3)), some (.int (zI l4)), some (.int (zI l5)), some (.int (zI l6)), some (.long (zL (zA S 72 (l1 + (2 * l6))))), none, some (.long (zL (zA S 72 ((l1 + (2 * l6)) + 1)))), none] [.int (zI z1)] (rd S) _
        refine s_if_eq rfl h (fun h => ?_) (fun h => ?_)
        · show eG _ 190 85 [some (.ref 49), some (.int (zI l1)), some (.int (zI l2)), some (.int (zI l3)), some (.int (zI l4)), some (.int (zI l5)), some (.int (zI l6)), some (.long (zL (zA S 72 (l1 + (2 * l6))))), none, some (.long (zL (zA S 72 ((l1 + (2 * l6)) + 1)))), none] [] (rd S) _
          refine g_run 1 87 [some (.ref 49), some (.int (zI l1)), some (.int (zI l2)), some (.int (zI l3)), some (.int (zI l4)), some (.int (zI l5)), some (.int (zI l6)), some (.long (zL (zA S 72 (l1 + (2 * l6))))), none, some (.long (zL (zA S 72 ((l1 + (2 * l6)) + 1)))), none] [.int (zI l6)] (rd S) rfl ?_
          cases h
          exact s_ret rfl rfl (hr _ rfl)
        · show eG _ 190 68 [some (.ref 49), some (.int (zI l1)), some (.int (zI l2)), some (.int (zI l3)), some (.int (zI l4)), some (.int (zI l5)), some (.int (zI l6)), some (.long (zL (zA S 72 (l1 + (2 * l6))))), none, some (.long (zL (zA S 72 ((l1 + (2 * l6)) + 1)))), none] [] (rd S) _
          refine g_run 4 75 [some (.ref 49), some (.int (zI l1)), some (.int (zI l2)), some (.int (zI l3)), some (.int (zI l4)), some (.int (zI l5)), some (.int (zI l6)), some (.long (zL (zA S 72 (l1 + (2 * l6))))), none, some (.long (zL (zA S 72 ((l1 + (2 * l6)) + 1)))), none] [.long (zL (zA S 72 (l1 + (2 * l6)))), .int (zI l5), .int (zI l4), .ref 49] (rd S) rfl ?_
          refine s_l2i rfl ?_
          refine g_run 1 78 [some (.ref 49), some (.int (zI l1)), some (.int (zI l2)), some (.int (zI l3)), some (.int (zI l4)), some (.int (zI l5)), some (.int (zI l6)), some (.long (zL (zA S 72 (l1 + (2 * l6))))), none, some (.long (zL (zA S 72 ((l1 + (2 * l6)) + 1)))), none] [.long (zL (zA S 72 ((l1 + (2 * l6)) + 1))), .int (zI (zl2i (zA S 72 (l1 + (2 * l6))))), .int (zI l5), .int (zI l4), .ref 49] (rd S) rfl ?_
          refine s_l2i rfl ?_
          refine s_vir (fun z => some (.int (zI z))) (fun _ => rd S) rfl rfl rfl (rd_o49 _) rfl rfl (fun z hz => sM_isLawful o n S l4 l5 (zl2i (zA S 72 (l1 + (2 * l6)))) (zl2i (zA S 72 ((l1 + (2 * l6)) + 1))) hz) rfl h (fun z2 h => ?_)
          show eG _ 190 82 [some (.ref 49), some (.int (zI l1)), some (.int (zI l2)), some (.int (zI l3)), some (.int (zI l4)), some (.int (zI l5)), some (.int (zI l6)), some (.long (zL (zA S 72 (l1 + (2 * l6))))), none, some (.long (zL (zA S 72 ((l1 + (2 * l6)) + 1)))), none] [.int (zI z2)] (rd S) _
          refine s_if_ne rfl h (fun h => ?_) (fun h => ?_)
          · show eG _ 190 88 [some (.ref 49), some (.int (zI l1)), some (.int (zI l2)), some (.int (zI l3)), some (.int (zI l4)), some (.int (zI l5)), some (.int (zI l6)), some (.long (zL (zA S 72 (l1 + (2 * l6))))), none, some (.long (zL (zA S 72 ((l1 + (2 * l6)) + 1)))), none] [] (rd S) _
            refine g_run 3 93 [some (.ref 49), some (.int (zI l1)), some (.int (zI l2)), some (.int (zI l3)), some (.int (zI l4)), some (.int (zI l5)), some (.int (zI l6)), some (.long (zL (zA S 72 (l1 + (2 * l6))))), none, some (.long (zL (zA S 72 ((l1 + (2 * l6)) + 1)))), none] [.long (zL (zA S 72 (l1 + (2 * l6)))), .ref 49, .int (zI l5)] (rd S) rfl ?_
            refine s_l2i rfl ?_
            refine g_run 1 96 [some (.ref 49), some (.int (zI l1)), some (.int (zI l2)), some (.int (zI l3)), some (.int (zI l4)), some (.int (zI l5)), some (.int (zI l6)), some (.long (zL (zA S 72 (l1 + (2 * l6))))), none, some (.long (zL (zA S 72 ((l1 + (2 * l6)) + 1)))), none] [.long (zL (zA S 72 ((l1 + (2 * l6)) + 1))), .int (zI (zl2i (zA S 72 (l1 + (2 * l6))))), .ref 49, .int (zI l5)] (rd S) rfl ?_
            refine s_l2i rfl ?_
            refine s_vir (fun z => some (.int (zI z))) (fun _ => rd S) rfl rfl rfl (rd_o49 _) rfl rfl (fun z hz => sM_moreBy o n S (zl2i (zA S 72 (l1 + (2 * l6)))) (zl2i (zA S 72 ((l1 + (2 * l6)) + 1))) hz) rfl h (fun z3 h => ?_)
            show eG _ 190 100 [some (.ref 49), some (.int (zI l1)), some (.int (zI l2)), some (.int (zI l3)), some (.int (zI l4)), some (.int (zI l5)), some (.int (zI l6)), some (.long (zL (zA S 72 (l1 + (2 * l6))))), none, some (.long (zL (zA S 72 ((l1 + (2 * l6)) + 1)))), none] [.int (zI z3), .int (zI l5)] (rd S) _
            refine s_iadd rfl ?_
            refine s_sta (fun z => some (.int (zI z))) (fun _ => rd S) rfl rfl rfl rfl rfl rfl rfl (fun z hz => sM_most o n S (l5 + z3) hz) rfl h (fun z4 h => ?_)
            show eG _ 190 104 [some (.ref 49), some (.int (zI l1)), some (.int (zI l2)), some (.int (zI l3)), some (.int (zI l4)), some (.int (zI l5)), some (.int (zI l6)), some (.long (zL (zA S 72 (l1 + (2 * l6))))), none, some (.long (zL (zA S 72 ((l1 + (2 * l6)) + 1)))), none] [.int (zI z4)] (rd S) _
            refine g_run 3 110 [some (.ref 49), some (.int (zI l1)), some (.int (zI l2)), some (.int (zI l3)), some (.int (zI l4)), some (.int (zI z4)), some (.int (zI l6)), some (.long (zL (zA S 72 (l1 + (2 * l6))))), none, some (.long (zL (zA S 72 ((l1 + (2 * l6)) + 1)))), none] [.long (zL (zA S 72 (l1 + (2 * l6)))), .int (zI l4)] (rd S) rfl ?_
            refine s_l2i rfl ?_
            refine g_run 1 112 [some (.ref 49), some (.int (zI l1)), some (.int (zI l2)), some (.int (zI l3)), some (.int (zI l4)), some (.int (zI z4)), some (.int (zI l6)), some (.long (zL (zA S 72 (l1 + (2 * l6))))), none, some (.long (zL (zA S 72 ((l1 + (2 * l6)) + 1)))), none] [.int (zI (-1)), .int (zI (zl2i (zA S 72 (l1 + (2 * l6))))), .int (zI l4)] (rd S) rfl ?_
            refine s_ixor rfl ?_
            refine s_iand rfl ?_
            refine g_run 1 116 [some (.ref 49), some (.int (zI l1)), some (.int (zI l2)), some (.int (zI l3)), some (.int (zI l4)), some (.int (zI z4)), some (.int (zI l6)), some (.long (zL (zA S 72 (l1 + (2 * l6))))), none, some (.long (zL (zA S 72 ((l1 + (2 * l6)) + 1)))), none] [.long (zL (zA S 72 ((l1 + (2 * l6)) + 1))), .int (zI (zand l4 (zxor (zl2i (zA S 72 (l1 + (2 * l6)))) (-1))))] (rd S) rfl ?_
            refine s_l2i rfl ?_
            refine s_ior rfl ?_
            refine g_run 1 120 [some (.ref 49), some (.int (zI l1)), some (.int (zI l2)), some (.int (zI l3)), some (.int (zI (zor (zand l4 (zxor (zl2i (zA S 72 (l1 + (2 * l6)))) (-1))) (zl2i (zA S 72 ((l1 + (2 * l6)) + 1)))))), some (.int (zI z4)), some (.int (zI l6)), some (.long (zL (zA S 72 (l1 + (2 * l6))))), none, some (.long (zL (zA S 72 ((l1 + (2 * l6)) + 1)))), none] [] (rd S) rfl ?_
            refine s_iinc (L' := [some (.ref 49), some (.int (zI l1)), some (.int (zI l2)), some (.int (zI l3)), some (.int (zI (zor (zand l4 (zxor (zl2i (zA S 72 (l1 + (2 * l6)))) (-1))) (zl2i (zA S 72 ((l1 + (2 * l6)) + 1)))))), some (.int (zI z4)), some (.int (zI (l6 + 1))), some (.long (zL (zA S 72 (l1 + (2 * l6))))), none, some (.long (zL (zA S 72 ((l1 + (2 * l6)) + 1)))), none]) rfl rfl rfl ?_
            refine g_run 1 15 [some (.ref 49), some (.int (zI l1)), some (.int (zI l2)), some (.int (zI l3)), some (.int (zI (zor (zand l4 (zxor (zl2i (zA S 72 (l1 + (2 * l6)))) (-1))) (zl2i (zA S 72 ((l1 + (2 * l6)) + 1)))))), some (.int (zI z4)), some (.int (zI (l6 + 1))), some (.long (zL (zA S 72 (l1 + (2 * l6))))), none, some (.long (zL (zA S 72 ((l1 + (2 * l6)) + 1)))), none] [] (rd S) rfl ?_
            refine g_fgt [false, false, false, false, false, false, false, true, true, true, true] ?_
            show eG _ 190 15 [some (.ref 49), some (.int (zI l1)), some (.int (zI l2)), some (.int (zI l3)), some (.int (zI (zor (zand l4 (zxor (zl2i (zA S 72 (l1 + (2 * l6)))) (-1))) (zl2i (zA S 72 ((l1 + (2 * l6)) + 1)))))), some (.int (zI z4)), some (.int (zI (l6 + 1))), none, none, none, none] [] (rd S) _
            exact ih S l1 l2 l3 (zor (zand l4 (zxor (zl2i (zA S 72 (l1 + (2 * l6)))) (-1))) (zl2i (zA S 72 ((l1 + (2 * l6)) + 1)))) z4 (l6 + 1) h hr hk
          · show eG _ 190 85 [some (.ref 49), some (.int (zI l1)), some (.int (zI l2)), some (.int (zI l3)), some (.int (zI l4)), some (.int (zI l5)), some (.int (zI l6)), some (.long (zL (zA S 72 (l1 + (2 * l6))))), none, some (.long (zL (zA S 72 ((l1 + (2 * l6)) + 1)))), none] [] (rd S) _
            refine g_run 1 87 [some (.ref 49), some (.int (zI l1)), some (.int (zI l2)), some (.int (zI l3)), some (.int (zI l4)), some (.int (zI l5)), some (.int (zI l6)), some (.long (zL (zA S 72 (l1 + (2 * l6))))), none, some (.long (zL (zA S 72 ((l1 + (2 * l6)) + 1)))), none] [.int (zI l6)] (rd S) rfl ?_
            cases h
            exact s_ret rfl rfl (hr _ rfl)
def fM_judge (n : Nat) (S : ZS) (l1 l2 l3 : Int) : Option (Int × ZS) := zR (fM_judge_1 n S l1 l2 l3 (zF S 49 2) (zF S 49 4) 0) fun z1 => some (-4, wF S 49 34 z1)
set_option maxRecDepth 100000 in
set_option maxHeartbeats 4000000 in
theorem sM_judge (o : eO) (n : Nat) (S : ZS) (l1 l2 l3 : Int) {w : Int × ZS} (h : fM_judge n S l1 l2 l3 = some w) : eG o 190 0 (eEnt 190 [.ref 49, .int (zI l1), .int (zI l2), .int (zI l3)]) [] (rd S) (rv (some (.int (zI w.1))) (rd w.2)) := by
  unfold fM_judge at h
  show eG o 190 0 [some (.ref 49), some (.int (zI l1)), some (.int (zI l2)), some (.int (zI l3)), none, none, none, none, none, none, none] [] (rd S) _
  refine g_run 1 1 [some (.ref 49), some (.int (zI l1)), some (.int (zI l2)), some (.int (zI l3)), none, none, none, none, none, none, none] [.ref 49] (rd S) rfl ?_
  refine g_getf rfl rfl (rd_o49 _) rfl ?_
  show eG _ 190 4 [some (.ref 49), some (.int (zI l1)), some (.int (zI l2)), some (.int (zI l3)), none, none, none, none, none, none, none] [.int (zI (zF S 49 2))] (rd S) _
  refine g_run 2 7 [some (.ref 49), some (.int (zI l1)), some (.int (zI l2)), some (.int (zI l3)), some (.int (zI (zF S 49 2))), none, none, none, none, none, none] [.ref 49] (rd S) rfl ?_
  refine g_getf rfl rfl (rd_o49 _) rfl ?_
  show eG _ 190 10 [some (.ref 49), some (.int (zI l1)), some (.int (zI l2)), some (.int (zI l3)), some (.int (zI (zF S 49 2))), none, none, none, none, none, none] [.int (zI (zF S 49 4))] (rd S) _
  refine g_run 3 15 [some (.ref 49), some (.int (zI l1)), some (.int (zI l2)), some (.int (zI l3)), some (.int (zI (zF S 49 2))), some (.int (zI (zF S 49 4))), some (.int (zI 0)), none, none, none, none] [] (rd S) rfl ?_
  rcases zR_inv h with h1 | ⟨z1, h1, h⟩
  · exact sM_judge_1 o n S l1 l2 l3 (zF S 49 2) (zF S 49 4) 0 h1 (fun v e => by cases e; rfl) (fun x e => by cases e)
  refine sM_judge_1 o n S l1 l2 l3 (zF S 49 2) (zF S 49 4) 0 h1 (fun v e => by cases e) (fun x e => ?_)
  cases e
  show eG _ 190 126 [some (.ref 49), none, none, none, some (.int (zI z1)), none, none, none, none, none, none] [] (rd S) _
  refine g_run 2 129 [some (.ref 49), none, none, none, some (.int (zI z1)), none, none, none, none, none, none] [.int (zI z1), .ref 49] (rd S) rfl ?_
  refine s_putf rfl rfl (rd_o49 _) rfl rfl rfl rfl rfl (rw_o49_34 _ _) ?_
  show eG _ 190 132 [some (.ref 49), none, none, none, some (.int (zI z1)), none, none, none, none, none, none] [] (rd (wF S 49 34 z1)) _
  refine g_run 1 134 [some (.ref 49), none, none, none, some (.int (zI z1)), none, none, none, none, none, none] [.int (zI (-4))] (rd (wF S 49 34 z1)) rfl ?_
  cases h
  exact s_ret rfl rfl rfl
def fM_judged (n : Nat) (S : ZS) (l1 l2 l3 l4 : Int) : Option (Int × ZS) := (fM_isSheet n S l1 l2).bind fun z1 => gC z1 0 (if z1 = 0 then some (-1, S) else gC l4 0 ((fM_in n S l4 1 8).bind fun z2 => gC z2 0 (if z2 = 0 then some (-1, S) else (fM_lacksRow n S l1 l2 l3 (2 * l4)).bind fun z3 => gC z3 0 (if z3 < 0 then some (z3, S) else (fM_judge n S ((24 * l1) + l3) l4 (-4)).bind fun z4 => some (z4.1, z4.2)))))
set_option maxRecDepth 100000 in
set_option maxHeartbeats 4000000 in
theorem sM_judged (o : eO) (n : Nat) (S : ZS) (l1 l2 l3 l4 : Int) {w : Int × ZS} (h : fM_judged n S l1 l2 l3 l4 = some w) : eG o 189 0 (eEnt 189 [.ref 49, .int (zI l1), .int (zI l2), .int (zI l3), .int (zI l4)]) [] (rd S) (rv (some (.int (zI w.1))) (rd w.2)) := by
  unfold fM_judged at h
  show eG o 189 0 [some (.ref 49), some (.int (zI l1)), some (.int (zI l2)), some (.int (zI l3)), some (.int (zI l4)), none] [] (rd S) _
  refine g_run 2 2 [some (.ref 49), some (.int (zI l1)), some (.int (zI l2)), some (.int (zI l3)), some (.int (zI l4)), none] [.int (zI l2), .int (zI l1)] (rd S) rfl ?_
  refine s_sta (fun z => some (.int (zI z))) (fun _ => rd S) rfl rfl rfl rfl rfl rfl rfl (fun z hz => sM_isSheet o n S l1 l2 hz) rfl h (fun z1 h => ?_)
  show eG _ 189 5 [some (.ref 49), some (.int (zI l1)), some (.int (zI l2)), some (.int (zI l3)), some (.int (zI l4)), none] [.int (zI z1)] (rd S) _
  refine s_if_eq rfl h (fun h => ?_) (fun h => ?_)
  · show eG _ 189 21 [some (.ref 49), some (.int (zI l1)), some (.int (zI l2)), some (.int (zI l3)), some (.int (zI l4)), none] [] (rd S) _
    refine g_run 1 22 [some (.ref 49), some (.int (zI l1)), some (.int (zI l2)), some (.int (zI l3)), some (.int (zI l4)), none] [.int (zI (-1))] (rd S) rfl ?_
    cases h
    exact s_ret rfl rfl rfl
  · show eG _ 189 8 [some (.ref 49), some (.int (zI l1)), some (.int (zI l2)), some (.int (zI l3)), some (.int (zI l4)), none] [] (rd S) _
    refine g_run 1 10 [some (.ref 49), some (.int (zI l1)), some (.int (zI l2)), some (.int (zI l3)), some (.int (zI l4)), none] [.int (zI l4)] (rd S) rfl ?_
    refine s_i2l rfl h (fun h => ?_)
    refine g_run 2 15 [some (.ref 49), some (.int (zI l1)), some (.int (zI l2)), some (.int (zI l3)), some (.int (zI l4)), none] [.long (zL 8), .long (zL 1), .long (zL l4)] (rd S) rfl ?_
    refine s_sta (fun z => some (.int (zI z))) (fun _ => rd S) rfl rfl rfl rfl rfl rfl rfl (fun z hz => sM_in o n S l4 1 8 hz) rfl h (fun z2 h => ?_)
    show eG _ 189 18 [some (.ref 49), some (.int (zI l1)), some (.int (zI l2)), some (.int (zI l3)), some (.int (zI l4)), none] [.int (zI z2)] (rd S) _
    refine s_if_ne rfl h (fun h => ?_) (fun h => ?_)
    · show eG _ 189 23 [some (.ref 49), some (.int (zI l1)), some (.int (zI l2)), some (.int (zI l3)), some (.int (zI l4)), none] [] (rd S) _
      refine g_run 6 30 [some (.ref 49), some (.int (zI l1)), some (.int (zI l2)), some (.int (zI l3)), some (.int (zI l4)), none] [.int (zI l4), .int (zI 2), .int (zI l3), .int (zI l2), .int (zI l1), .ref 49] (rd S) rfl ?_
      refine s_imul rfl ?_
      refine s_vir (fun z => some (.int (zI z))) (fun _ => rd S) rfl rfl rfl (rd_o49 _) rfl rfl (fun z hz => sM_lacksRow o n S l1 l2 l3 (2 * l4) hz) rfl h (fun z3 h => ?_)
      show eG _ 189 34 [some (.ref 49), some (.int (zI l1)), some (.int (zI l2)), some (.int (zI l3)), some (.int (zI l4)), none] [.int (zI z3)] (rd S) _
      refine g_run 2 38 [some (.ref 49), some (.int (zI l1)), some (.int (zI l2)), some (.int (zI l3)), some (.int (zI l4)), some (.int (zI z3))] [.int (zI z3)] (rd S) rfl ?_
      refine s_if_ge rfl h (fun h => ?_) (fun h => ?_)
      · show eG _ 189 46 [some (.ref 49), some (.int (zI l1)), some (.int (zI l2)), some (.int (zI l3)), some (.int (zI l4)), some (.int (zI z3))] [] (rd S) _
        refine g_run 3 50 [some (.ref 49), some (.int (zI l1)), some (.int (zI l2)), some (.int (zI l3)), some (.int (zI l4)), some (.int (zI z3))] [.int (zI l1), .int (zI 24), .ref 49] (rd S) rfl ?_
        refine s_imul rfl ?_
        refine g_run 1 52 [some (.ref 49), some (.int (zI l1)), some (.int (zI l2)), some (.int (zI l3)), some (.int (zI l4)), some (.int (zI z3))] [.int (zI l3), .int (zI (24 * l1)), .ref 49] (rd S) rfl ?_
        refine s_iadd rfl ?_
        refine g_run 2 57 [some (.ref 49), some (.int (zI l1)), some (.int (zI l2)), some (.int (zI l3)), some (.int (zI l4)), some (.int (zI z3))] [.int (zI (-4)), .int (zI l4), .int (zI ((24 * l1) + l3)), .ref 49] (rd S) rfl ?_
        refine s_vir (fun z => some (.int (zI z.1))) (fun z => rd z.2) rfl rfl rfl (rd_o49 _) rfl rfl (fun z hz => sM_judge o n S ((24 * l1) + l3) l4 (-4) hz) rfl h (fun z4 h => ?_)
        show eG _ 189 60 [some (.ref 49), some (.int (zI l1)), some (.int (zI l2)), some (.int (zI l3)), some (.int (zI l4)), some (.int (zI z3))] [.int (zI z4.1)] (rd z4.2) _
        cases h
        exact s_ret rfl rfl rfl
      · show eG _ 189 41 [some (.ref 49), some (.int (zI l1)), some (.int (zI l2)), some (.int (zI l3)), some (.int (zI l4)), some (.int (zI z3))] [] (rd S) _
        refine g_run 2 60 [some (.ref 49), some (.int (zI l1)), some (.int (zI l2)), some (.int (zI l3)), some (.int (zI l4)), some (.int (zI z3))] [.int (zI z3)] (rd S) rfl ?_
        cases h
        exact s_ret rfl rfl rfl
    · show eG _ 189 21 [some (.ref 49), some (.int (zI l1)), some (.int (zI l2)), some (.int (zI l3)), some (.int (zI l4)), none] [] (rd S) _
      refine g_run 1 22 [some (.ref 49), some (.int (zI l1)), some (.int (zI l2)), some (.int (zI l3)), some (.int (zI l4)), none] [.int (zI (-1))] (rd S) rfl ?_
      cases h
      exact s_ret rfl rfl rfl
