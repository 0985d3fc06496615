def fM_people_1 : Nat → ZS → Int → Option (ZS)
  | 0, _, _ => none
  | n + 1, S, l2 => gC l2 (zF S 49 11) (if l2 < (zF S 49 11) then gX l2 40 (gX l2 4 (fM_people_1 n (wA S 51 l2 (zA S 53 l2)) (l2 + 1))) else some S)
set_option maxRecDepth 100000 in
set_option maxHeartbeats 4000000 in
theorem sM_people_1 (o : eO) : ∀ (n : Nat) (S : ZS) (l2 : Int) {w : ZS} {r : eP} (h : fM_people_1 n S l2 = some w) (hk : eG o 151 68 [some (.ref 49), none, none] [] (rd w) r), eG o 151 42 [some (.ref 49), none, some (.int (zI l2))] [] (rd S) r := by
  intro n
  induction n with
  | zero => intro S l2 w r h hk; unfold fM_people_1 at h; cases h
  | succ n ih =>
    intro S l2 w r h hk
    unfold fM_people_1 at h
    refine g_run 2 44 [some (.ref 49), none, some (.int (zI l2))] [.ref 49, .int (zI l2)] (rd S) rfl ?_
    refine g_getf rfl rfl (rd_o49 _) rfl ?_
    show eG _ 151 47 [some (.ref 49), none, some (.int (zI l2))] [.int (zI (zF S 49 11)), .int (zI l2)] (rd S) _
    refine s_icmp_ge rfl h (fun h => ?_) (fun h => ?_)
    · show eG _ 151 68 [some (.ref 49), none, some (.int (zI l2))] [] (rd S) _
      refine g_fgt [false, true, true] ?_
      show eG _ 151 68 [some (.ref 49), none, none] [] (rd S) _
      cases h
      exact hk
    · show eG _ 151 50 [some (.ref 49), none, some (.int (zI l2))] [] (rd S) _
      refine g_run 1 51 [some (.ref 49), none, some (.int (zI l2))] [.ref 49] (rd S) rfl ?_
      refine g_getf rfl rfl (rd_o49 _) rfl ?_
      show eG _ 151 54 [some (.ref 49), none, some (.int (zI l2))] [.ref 51] (rd S) _
      refine g_run 2 56 [some (.ref 49), none, some (.int (zI l2))] [.ref 49, .int (zI l2), .ref 51] (rd S) rfl ?_
      refine g_getf rfl rfl (rd_o49 _) rfl ?_
      show eG _ 151 59 [some (.ref 49), none, some (.int (zI l2))] [.ref 53, .int (zI l2), .ref 51] (rd S) _
      refine g_run 1 60 [some (.ref 49), none, some (.int (zI l2))] [.int (zI l2), .ref 53, .int (zI l2), .ref 51] (rd S) rfl ?_
      refine s_iald rfl (rd_a53 _) h (fun h => ?_)
      show eG _ 151 61 [some (.ref 49), none, some (.int (zI l2))] [.int (zI (zA S 53 l2)), .int (zI l2), .ref 51] (rd S) _
      refine s_iast rfl (rd_a51 _) (rw_a51 _ _) h (fun h => ?_)
      show eG _ 151 62 [some (.ref 49), none, some (.int (zI l2))] [] (rd (wA S 51 l2 (zA S 53 l2))) _
      refine s_iinc (L' := [some (.ref 49), none, some (.int (zI (l2 + 1)))]) rfl rfl rfl ?_
      refine g_run 1 42 [some (.ref 49), none, some (.int (zI (l2 + 1)))] [] (rd (wA S 51 l2 (zA S 53 l2))) rfl ?_
      exact ih (wA S 51 l2 (zA S 53 l2)) (l2 + 1) h hk
def fM_people (n : Nat) (S : ZS) : Option (Int × ZS) := (fM_readAll n S 0).bind fun z1 => (gC z1.1 0 (if z1.1 = 0 then (fM_nextByte n z1.2).bind fun z4 => some z4.2 else some z1.2)).bind fun z2 => gC z1.1 0 (if z1.1 = 0 then some ((-20) - (zF z2 49 10), wF z2 49 9 0) else (fM_people_1 n (wF (wF z2 49 9 0) 49 7 (zF z2 49 11)) 0).bind fun z3 => some (zF z3 49 7, z3))
set_option maxRecDepth 100000 in
set_option maxHeartbeats 4000000 in
theorem sM_people (o : eO) (n : Nat) (S : ZS) {w : Int × ZS} (h : fM_people n S = some w) : eG o 151 0 (eEnt 151 [.ref 49]) [] (rd S) (rv (some (.int (zI w.1))) (rd w.2)) := by
  unfold fM_people at h
  show eG o 151 0 [some (.ref 49), none, none] [] (rd S) _
  refine g_run 2 2 [some (.ref 49), none, none] [.int (zI 0), .ref 49] (rd S) rfl ?_
  refine s_vir (fun z => some (.int (zI z.1))) (fun z => rd z.2) rfl rfl rfl (rd_o49 _) rfl rfl (fun z hz => sM_readAll o n S 0 hz) rfl h (fun z1 h => ?_)
  show eG _ 151 5 [some (.ref 49), none, none] [.int (zI z1.1)] (rd z1.2) _
  refine g_run 2 7 [some (.ref 49), some (.int (zI z1.1)), none] [.int (zI z1.1)] (rd z1.2) rfl ?_
  refine s_join (α := ZS) (fun z => eG o 151 15 [some (.ref 49), some (.int (zI z1.1)), none] [] (rd z) (rv (some (.int (zI w.1))) (rd w.2))) h (fun z2 h => ?_) (fun z2 h j => ?_)
  · show eG _ 151 15 [some (.ref 49), some (.int (zI z1.1)), none] [] (rd z2) _
    refine g_run 2 17 [some (.ref 49), some (.int (zI z1.1)), none] [.int (zI 0), .ref 49] (rd z2) rfl ?_
    refine s_putf rfl rfl (rd_o49 _) rfl rfl rfl rfl rfl (rw_o49_9 _ _) ?_
    show eG _ 151 20 [some (.ref 49), some (.int (zI z1.1)), none] [] (rd (wF z2 49 9 0)) _
    refine g_run 1 21 [some (.ref 49), some (.int (zI z1.1)), none] [.int (zI z1.1)] (rd (wF z2 49 9 0)) rfl ?_
    refine s_if_ne rfl h (fun h => ?_) (fun h => ?_)
    · show eG _ 151 32 [some (.ref 49), some (.int (zI z1.1)), none] [] (rd (wF z2 49 9 0)) _
      refine g_run 2 34 [some (.ref 49), some (.int (zI z1.1)), none] [.ref 49, .ref 49] (rd (wF z2 49 9 0)) rfl ?_
      refine g_getf rfl rfl (rd_o49 _) rfl ?_
      show eG _ 151 37 [some (.ref 49), some (.int (zI z1.1)), none] [.int (zI (zF z2 49 11)), .ref 49] (rd (wF z2 49 9 0)) _
      refine s_putf rfl rfl (rd_o49 _) rfl rfl rfl rfl rfl (rw_o49_7 _ _) ?_
      show eG _ 151 40 [some (.ref 49), some (.int (zI z1.1)), none] [] (rd (wF (wF z2 49 9 0) 49 7 (zF z2 49 11))) _
      refine g_run 2 42 [some (.ref 49), some (.int (zI z1.1)), some (.int (zI 0))] [] (rd (wF (wF z2 49 9 0) 49 7 (zF z2 49 11))) rfl ?_
      refine g_fgt [false, true, false] ?_
      show eG _ 151 42 [some (.ref 49), none, some (.int (zI 0))] [] (rd (wF (wF z2 49 9 0) 49 7 (zF z2 49 11))) _
      obtain ⟨z3, h1, h⟩ := zB_inv h
      refine sM_people_1 o n (wF (wF z2 49 9 0) 49 7 (zF z2 49 11)) 0 h1 ?_
      show eG _ 151 68 [some (.ref 49), none, none] [] (rd z3) _
      refine g_run 1 69 [some (.ref 49), none, none] [.ref 49] (rd z3) rfl ?_
      refine g_getf rfl rfl (rd_o49 _) rfl ?_
      show eG _ 151 72 [some (.ref 49), none, none] [.int (zI (zF z3 49 7))] (rd z3) _
      cases h
      exact s_ret rfl rfl rfl
    · show eG _ 151 24 [some (.ref 49), some (.int (zI z1.1)), none] [] (rd (wF z2 49 9 0)) _
      refine g_run 2 27 [some (.ref 49), some (.int (zI z1.1)), none] [.ref 49, .int (zI (-20))] (rd (wF z2 49 9 0)) rfl ?_
      refine g_getf rfl rfl (rd_o49 _) rfl ?_
      show eG _ 151 30 [some (.ref 49), some (.int (zI z1.1)), none] [.int (zI (zF z2 49 10)), .int (zI (-20))] (rd (wF z2 49 9 0)) _
      refine s_isub rfl ?_
      cases h
      exact s_ret rfl rfl rfl
  · skip
    refine s_if_ne rfl h (fun h => ?_) (fun h => ?_)
    · show eG _ 151 15 [some (.ref 49), some (.int (zI z1.1)), none] [] (rd z1.2) _
      cases h
      exact j
    · show eG _ 151 10 [some (.ref 49), some (.int (zI z1.1)), none] [] (rd z1.2) _
      refine g_run 1 11 [some (.ref 49), some (.int (zI z1.1)), none] [.ref 49] (rd z1.2) rfl ?_
      refine s_vir (fun z => some (.int (zI z.1))) (fun z => rd z.2) rfl rfl rfl (rd_o49 _) rfl rfl (fun z hz => sM_nextByte o n z1.2 hz) rfl h (fun z4 h => ?_)
      show eG _ 151 14 [some (.ref 49), some (.int (zI z1.1)), none] [.int (zI z4.1)] (rd z4.2) _
      refine g_run 1 15 [some (.ref 49), some (.int (zI z1.1)), none] [] (rd z4.2) rfl ?_
      cases h
      exact j
def fM_yardsOf_1 : Nat → ZS → Int → Int → Int → Option (Int)
  | 0, _, _, _, _ => none
  | n + 1, S, l1, l2, l3 => gC l3 (zF S 49 1) (if l3 < (zF S 49 1) then (fM_has n S l1 l3).bind fun z1 => gC z1 0 (if z1 = 0 then fM_yardsOf_1 n S l1 (l2 + 0) (l3 + 1) else gX ((5 * l3) + 1) 40 (fM_yardsOf_1 n S l1 (l2 + (zA S 50 ((5 * l3) + 1))) (l3 + 1))) else some l2)
set_option maxRecDepth 100000 in
set_option maxHeartbeats 4000000 in
theorem sM_yardsOf_1 (o : eO) : ∀ (n : Nat) (S : ZS) (l1 l2 l3 : Int) {w : Int} {r : eP} (h : fM_yardsOf_1 n S l1 l2 l3 = some w) (hk : eG o 141 43 [none, none, some (.int (zI w)), none] [] (rd S) r), eG o 141 4 [some (.ref 49), some (.int (zI l1)), some (.int (zI l2)), some (.int (zI l3))] [] (rd S) r := by
  intro n
  induction n with
  | zero => intro S l1 l2 l3 w r h hk; unfold fM_yardsOf_1 at h; cases h
  | succ n ih =>
    intro S l1 l2 l3 w r h hk
    unfold fM_yardsOf_1 at h
    refine g_run 2 6 [some (.ref 49), some (.int (zI l1)), some (.int (zI l2)), some (.int (zI l3))] [.ref 49, .int (zI l3)] (rd S) rfl ?_
    refine g_getf rfl rfl (rd_o49 _) rfl ?_
    show eG _ 141 9 [some (.ref 49), some (.int (zI l1)), some (.int (zI l2)), some (.int (zI l3))] [.int (zI (zF S 49 1)), .int (zI l3)] (rd S) _
    refine s_icmp_ge rfl h (fun h => ?_) (fun h => ?_)
    · show eG _ 141 43 [some (.ref 49), some (.int (zI l1)), some (.int (zI l2)), some (.int (zI l3))] [] (rd S) _
      refine g_fgt [true, true, false, true] ?_
      show eG _ 141 43 [none, none, some (.int (zI l2)), none] [] (rd S) _
      cases h
      exact hk
    · show eG _ 141 12 [some (.ref 49), some (.int (zI l1)), some (.int (zI l2)), some (.int (zI l3))] [] (rd S) _
      refine g_run 3 15 [some (.ref 49), some (.int (zI l1)), some (.int (zI l2)), some (.int (zI l3))] [.int (zI l3), .int (zI l1), .int (zI l2)] (rd S) rfl ?_
      refine s_sta (fun z => some (.int (zI z))) (fun _ => rd S) rfl rfl rfl rfl rfl rfl rfl (fun z hz => sM_has o n S l1 l3 hz) rfl h (fun z1 h => ?_)
      show eG _ 141 18 [some (.ref 49), some (.int (zI l1)), some (.int (zI l2)), some (.int (zI l3))] [.int (zI z1), .int (zI l2)] (rd S) _
      refine s_if_eq rfl h (fun h => ?_) (fun h => ?_)
      · show eG _ 141 34 [some (.ref 49), some (.int (zI l1)), some (.int (zI l2)), some (.int (zI l3))] [.int (zI l2)] (rd S) _
        refine g_run 1 35 [some (.ref 49), some (.int (zI l1)), some (.int (zI l2)), some (.int (zI l3))] [.int (zI 0), .int (zI l2)] (rd S) rfl ?_
        refine s_iadd rfl ?_
        refine g_run 1 37 [some (.ref 49), some (.int (zI l1)), some (.int (zI (l2 + 0))), some (.int (zI l3))] [] (rd S) rfl ?_
        refine s_iinc (L' := [some (.ref 49), some (.int (zI l1)), some (.int (zI (l2 + 0))), some (.int (zI (l3 + 1)))]) rfl rfl rfl ?_
        refine g_run 1 4 [some (.ref 49), some (.int (zI l1)), some (.int (zI (l2 + 0))), some (.int (zI (l3 + 1)))] [] (rd S) rfl ?_
        exact ih S l1 (l2 + 0) (l3 + 1) h hk
      · show eG _ 141 21 [some (.ref 49), some (.int (zI l1)), some (.int (zI l2)), some (.int (zI l3))] [.int (zI l2)] (rd S) _
        refine g_run 1 22 [some (.ref 49), some (.int (zI l1)), some (.int (zI l2)), some (.int (zI l3))] [.ref 49, .int (zI l2)] (rd S) rfl ?_
        refine g_getf rfl rfl (rd_o49 _) rfl ?_
        show eG _ 141 25 [some (.ref 49), some (.int (zI l1)), some (.int (zI l2)), some (.int (zI l3))] [.ref 50, .int (zI l2)] (rd S) _
        refine g_run 2 27 [some (.ref 49), some (.int (zI l1)), some (.int (zI l2)), some (.int (zI l3))] [.int (zI l3), .int (zI 5), .ref 50, .int (zI l2)] (rd S) rfl ?_
        refine s_imul rfl ?_
        refine g_run 1 29 [some (.ref 49), some (.int (zI l1)), some (.int (zI l2)), some (.int (zI l3))] [.int (zI 1), .int (zI (5 * l3)), .ref 50, .int (zI l2)] (rd S) rfl ?_
        refine s_iadd rfl ?_
        refine s_iald rfl (rd_a50 _) h (fun h => ?_)
        show eG _ 141 31 [some (.ref 49), some (.int (zI l1)), some (.int (zI l2)), some (.int (zI l3))] [.int (zI (zA S 50 ((5 * l3) + 1))), .int (zI l2)] (rd S) _
        refine g_run 1 35 [some (.ref 49), some (.int (zI l1)), some (.int (zI l2)), some (.int (zI l3))] [.int (zI (zA S 50 ((5 * l3) + 1))), .int (zI l2)] (rd S) rfl ?_
        refine s_iadd rfl ?_
        refine g_run 1 37 [some (.ref 49), some (.int (zI l1)), some (.int (zI (l2 + (zA S 50 ((5 * l3) + 1))))), some (.int (zI l3))] [] (rd S) rfl ?_
        refine s_iinc (L' := [some (.ref 49), some (.int (zI l1)), some (.int (zI (l2 + (zA S 50 ((5 * l3) + 1))))), some (.int (zI (l3 + 1)))]) rfl rfl rfl ?_
        refine g_run 1 4 [some (.ref 49), some (.int (zI l1)), some (.int (zI (l2 + (zA S 50 ((5 * l3) + 1))))), some (.int (zI (l3 + 1)))] [] (rd S) rfl ?_
        exact ih S l1 (l2 + (zA S 50 ((5 * l3) + 1))) (l3 + 1) h hk
def fM_yardsOf (n : Nat) (S : ZS) (l1 : Int) : Option (Int) := (fM_yardsOf_1 n S l1 0 0).bind fun z1 => some z1
set_option maxRecDepth 100000 in
set_option maxHeartbeats 4000000 in
theorem sM_yardsOf (o : eO) (n : Nat) (S : ZS) (l1 : Int) {w : Int} (h : fM_yardsOf n S l1 = some w) : eG o 141 0 (eEnt 141 [.ref 49, .int (zI l1)]) [] (rd S) (rv (some (.int (zI w))) (rd S)) := by
  unfold fM_yardsOf at h
  show eG o 141 0 [some (.ref 49), some (.int (zI l1)), none, none] [] (rd S) _
  refine g_run 4 4 [some (.ref 49), some (.int (zI l1)), some (.int (zI 0)), some (.int (zI 0))] [] (rd S) rfl ?_
  obtain ⟨z1, h1, h⟩ := zB_inv h
  refine sM_yardsOf_1 o n S l1 0 0 h1 ?_
  show eG _ 141 43 [none, none, some (.int (zI z1)), none] [] (rd S) _
  refine g_run 1 44 [none, none, some (.int (zI z1)), none] [.int (zI z1)] (rd S) rfl ?_
  cases h
  exact s_ret rfl rfl rfl
def fM_shelteredBy_1 : Nat → ZS → Int → Int → Int → Option (Int)
  | 0, _, _, _, _ => none
  | n + 1, S, l1, l2, l3 => gC l3 (zF S 49 7) (if l3 < (zF S 49 7) then gX l3 4 (gC (zand (zA S 51 l3) l1) 0 (if (zand (zA S 51 l3) l1) = 0 then fM_shelteredBy_1 n S l1 (zor l2 0) (l3 + 1) else fM_shelteredBy_1 n S l1 (zor l2 (zshl 1 l3)) (l3 + 1))) else some l2)
set_option maxRecDepth 100000 in
set_option maxHeartbeats 4000000 in
theorem sM_shelteredBy_1 (o : eO) : ∀ (n : Nat) (S : ZS) (l1 l2 l3 : Int) {w : Int} {r : eP} (h : fM_shelteredBy_1 n S l1 l2 l3 = some w) (hk : eG o 142 39 [none, none, some (.int (zI w)), none] [] (rd S) r), eG o 142 4 [some (.ref 49), some (.int (zI l1)), some (.int (zI l2)), some (.int (zI l3))] [] (rd S) r := by
  intro n
  induction n with
  | zero => intro S l1 l2 l3 w r h hk; unfold fM_shelteredBy_1 at h; cases h
  | succ n ih =>
    intro S l1 l2 l3 w r h hk
    unfold fM_shelteredBy_1 at h
    refine g_run 2 6 [some (.ref 49), some (.int (zI l1)), some (.int (zI l2)), some (.int (zI l3))] [.ref 49, .int (zI l3)] (rd S) rfl ?_
    refine g_getf rfl rfl (rd_o49 _) rfl ?_
    show eG _ 142 9 [some (.ref 49), some (.int (zI l1)), some (.int (zI l2)), some (.int (zI l3))] [.int (zI (zF S 49 7)), .int (zI l3)] (rd S) _
    refine s_icmp_ge rfl h (fun h => ?_) (fun h => ?_)
    · show eG _ 142 39 [some (.ref 49), some (.int (zI l1)), some (.int (zI l2)), some (.int (zI l3))] [] (rd S) _
      refine g_fgt [true, true, false, true] ?_
      show eG _ 142 39 [none, none, some (.int (zI l2)), none] [] (rd S) _
      cases h
      exact hk
    · show eG _ 142 12 [some (.ref 49), some (.int (zI l1)), some (.int (zI l2)), some (.int (zI l3))] [] (rd S) _
      refine g_run 2 14 [some (.ref 49), some (.int (zI l1)), some (.int (zI l2)), some (.int (zI l3))] [.ref 49, .int (zI l2)] (rd S) rfl ?_
      refine g_getf rfl rfl (rd_o49 _) rfl ?_
      show eG _ 142 17 [some (.ref 49), some (.int (zI l1)), some (.int (zI l2)), some (.int (zI l3))] [.ref 51, .int (zI l2)] (rd S) _
      refine g_run 1 18 [some (.ref 49), some (.int (zI l1)), some (.int (zI l2)), some (.int (zI l3))] [.int (zI l3), .ref 51, .int (zI l2)] (rd S) rfl ?_
      refine s_iald rfl (rd_a51 _) h (fun h => ?_)
      show eG _ 142 19 [some (.ref 49), some (.int (zI l1)), some (.int (zI l2)), some (.int (zI l3))] [.int (zI (zA S 51 l3)), .int (zI l2)] (rd S) _
      refine g_run 1 20 [some (.ref 49), some (.int (zI l1)), some (.int (zI l2)), some (.int (zI l3))] [.int (zI l1), .int (zI (zA S 51 l3)), .int (zI l2)] (rd S) rfl ?_
      refine s_iand rfl ?_
      refine s_if_eq rfl h (fun h => ?_) (fun h => ?_)
      · show eG _ 142 30 [some (.ref 49), some (.int (zI l1)), some (.int (zI l2)), some (.int (zI l3))] [.int (zI l2)] (rd S) _
        refine g_run 1 31 [some (.ref 49), some (.int (zI l1)), some (.int (zI l2)), some (.int (zI l3))] [.int (zI 0), .int (zI l2)] (rd S) rfl ?_
        refine s_ior rfl ?_
        refine g_run 1 33 [some (.ref 49), some (.int (zI l1)), some (.int (zI (zor l2 0))), some (.int (zI l3))] [] (rd S) rfl ?_
        refine s_iinc (L' := [some (.ref 49), some (.int (zI l1)), some (.int (zI (zor l2 0))), some (.int (zI (l3 + 1)))]) rfl rfl rfl ?_
        refine g_run 1 4 [some (.ref 49), some (.int (zI l1)), some (.int (zI (zor l2 0))), some (.int (zI (l3 + 1)))] [] (rd S) rfl ?_
        exact ih S l1 (zor l2 0) (l3 + 1) h hk
      · show eG _ 142 24 [some (.ref 49), some (.int (zI l1)), some (.int (zI l2)), some (.int (zI l3))] [.int (zI l2)] (rd S) _
        refine g_run 2 26 [some (.ref 49), some (.int (zI l1)), some (.int (zI l2)), some (.int (zI l3))] [.int (zI l3), .int (zI 1), .int (zI l2)] (rd S) rfl ?_
        refine s_ishl rfl ?_
        refine g_run 1 31 [some (.ref 49), some (.int (zI l1)), some (.int (zI l2)), some (.int (zI l3))] [.int (zI (zshl 1 l3)), .int (zI l2)] (rd S) rfl ?_
        refine s_ior rfl ?_
        refine g_run 1 33 [some (.ref 49), some (.int (zI l1)), some (.int (zI (zor l2 (zshl 1 l3)))), some (.int (zI l3))] [] (rd S) rfl ?_
        refine s_iinc (L' := [some (.ref 49), some (.int (zI l1)), some (.int (zI (zor l2 (zshl 1 l3)))), some (.int (zI (l3 + 1)))]) rfl rfl rfl ?_
        refine g_run 1 4 [some (.ref 49), some (.int (zI l1)), some (.int (zI (zor l2 (zshl 1 l3)))), some (.int (zI (l3 + 1)))] [] (rd S) rfl ?_
        exact ih S l1 (zor l2 (zshl 1 l3)) (l3 + 1) h hk
def fM_shelteredBy (n : Nat) (S : ZS) (l1 : Int) : Option (Int) := (fM_shelteredBy_1 n S l1 0 0).bind fun z1 => some z1
set_option maxRecDepth 100000 in
set_option maxHeartbeats 4000000 in
theorem sM_shelteredBy (o : eO) (n : Nat) (S : ZS) (l1 : Int) {w : Int} (h : fM_shelteredBy n S l1 = some w) : eG o 142 0 (eEnt 142 [.ref 49, .int (zI l1)]) [] (rd S) (rv (some (.int (zI w))) (rd S)) := by
  unfold fM_shelteredBy at h
  show eG o 142 0 [some (.ref 49), some (.int (zI l1)), none, none] [] (rd S) _
  refine g_run 4 4 [some (.ref 49), some (.int (zI l1)), some (.int (zI 0)), some (.int (zI 0))] [] (rd S) rfl ?_
  obtain ⟨z1, h1, h⟩ := zB_inv h
  refine sM_shelteredBy_1 o n S l1 0 0 h1 ?_
  show eG _ 142 39 [none, none, some (.int (zI z1)), none] [] (rd S) _
  refine g_run 1 40 [none, none, some (.int (zI z1)), none] [.int (zI z1)] (rd S) rfl ?_
  cases h
  exact s_ret rfl rfl rfl
def fM_count (n : Nat) (S : ZS) (l1 : Int) : Option (Int) := gC l1 0 (if l1 = 0 then some (zF S 49 1) else if l1 = 1 then some (zF S 49 2) else if l1 = 2 then some (zF S 49 4) else if l1 = 3 then some (zF S 49 7) else if l1 = 4 then (fM_yardsOf n S (zF S 49 2)).bind fun z1 => some z1 else if l1 = 5 then (fM_shelteredBy n S (zF S 49 2)).bind fun z2 => some z2 else some (-1))
set_option maxRecDepth 100000 in
set_option maxHeartbeats 4000000 in
theorem sM_count (o : eO) (n : Nat) (S : ZS) (l1 : Int) {w : Int} (h : fM_count n S l1 = some w) : eG o 140 0 (eEnt 140 [.ref 49, .int (zI l1)]) [] (rd S) (rv (some (.int (zI w))) (rd S)) := by
  unfold fM_count at h
  show eG o 140 0 [some (.ref 49), some (.int (zI l1))] [] (rd S) _
  refine g_run 1 1 [some (.ref 49), some (.int (zI l1))] [.int (zI l1)] (rd S) rfl ?_
  obtain ⟨⟨hr1, hr2, -⟩, h⟩ := gC_inv h
  by_cases c : l1 = 0
  · rw [if_pos c] at h
    refine s_tabv 40 rfl ⟨hr1, hr2⟩ (by rw [c]; rfl) ?_
    show eG _ 140 40 [some (.ref 49), some (.int (zI l1))] [] (rd S) _
    refine g_run 1 41 [some (.ref 49), some (.int (zI l1))] [.ref 49] (rd S) rfl ?_
    refine g_getf rfl rfl (rd_o49 _) rfl ?_
    show eG _ 140 44 [some (.ref 49), some (.int (zI l1))] [.int (zI (zF S 49 1))] (rd S) _
    cases h
    exact s_ret rfl rfl rfl
  rw [if_neg c] at h
  have c0 := c
  by_cases c : l1 = 1
  · rw [if_pos c] at h
    refine s_tabv 45 rfl ⟨hr1, hr2⟩ (by rw [c]; rfl) ?_
    show eG _ 140 45 [some (.ref 49), some (.int (zI l1))] [] (rd S) _
    refine g_run 1 46 [some (.ref 49), some (.int (zI l1))] [.ref 49] (rd S) rfl ?_
    refine g_getf rfl rfl (rd_o49 _) rfl ?_
    show eG _ 140 49 [some (.ref 49), some (.int (zI l1))] [.int (zI (zF S 49 2))] (rd S) _
    cases h
    exact s_ret rfl rfl rfl
  rw [if_neg c] at h
  have c1 := c
  by_cases c : l1 = 2
  · rw [if_pos c] at h
    refine s_tabv 50 rfl ⟨hr1, hr2⟩ (by rw [c]; rfl) ?_
    show eG _ 140 50 [some (.ref 49), some (.int (zI l1))] [] (rd S) _
    refine g_run 1 51 [some (.ref 49), some (.int (zI l1))] [.ref 49] (rd S) rfl ?_
    refine g_getf rfl rfl (rd_o49 _) rfl ?_
    show eG _ 140 54 [some (.ref 49), some (.int (zI l1))] [.int (zI (zF S 49 4))] (rd S) _
    cases h
    exact s_ret rfl rfl rfl
  rw [if_neg c] at h
  have c2 := c
  by_cases c : l1 = 3
  · rw [if_pos c] at h
    refine s_tabv 55 rfl ⟨hr1, hr2⟩ (by rw [c]; rfl) ?_
    show eG _ 140 55 [some (.ref 49), some (.int (zI l1))] [] (rd S) _
    refine g_run 1 56 [some (.ref 49), some (.int (zI l1))] [.ref 49] (rd S) rfl ?_
    refine g_getf rfl rfl (rd_o49 _) rfl ?_
    show eG _ 140 59 [some (.ref 49), some (.int (zI l1))] [.int (zI (zF S 49 7))] (rd S) _
    cases h
    exact s_ret rfl rfl rfl
  rw [if_neg c] at h
  have c3 := c
  by_cases c : l1 = 4
  · rw [if_pos c] at h
    refine s_tabv 60 rfl ⟨hr1, hr2⟩ (by rw [c]; rfl) ?_
    show eG _ 140 60 [some (.ref 49), some (.int (zI l1))] [] (rd S) _
    refine g_run 2 62 [some (.ref 49), some (.int (zI l1))] [.ref 49, .ref 49] (rd S) rfl ?_
    refine g_getf rfl rfl (rd_o49 _) rfl ?_
    show eG _ 140 65 [some (.ref 49), some (.int (zI l1))] [.int (zI (zF S 49 2)), .ref 49] (rd S) _
    refine s_vir (fun z => some (.int (zI z))) (fun _ => rd S) rfl rfl rfl (rd_o49 _) rfl rfl (fun z hz => sM_yardsOf o n S (zF S 49 2) hz) rfl h (fun z1 h => ?_)
    show eG _ 140 68 [some (.ref 49), some (.int (zI l1))] [.int (zI z1)] (rd S) _
    cases h
    exact s_ret rfl rfl rfl
  rw [if_neg c] at h
  have c4 := c
  by_cases c : l1 = 5
  · rw [if_pos c] at h
    refine s_tabv 69 rfl ⟨hr1, hr2⟩ (by rw [c]; rfl) ?_
    show eG _ 140 69 [some (.ref 49), some (.int (zI l1))] [] (rd S) _
    refine g_run 2 71 [some (.ref 49), some (.int (zI l1))] [.ref 49, .ref 49] (rd S) rfl ?_
    refine g_getf rfl rfl (rd_o49 _) rfl ?_
    show eG _ 140 74 [some (.ref 49), some (.int (zI l1))] [.int (zI (zF S 49 2)), .ref 49] (rd S) _
    refine s_vir (fun z => some (.int (zI z))) (fun _ => rd S) rfl rfl rfl (rd_o49 _) rfl rfl (fun z hz => sM_shelteredBy o n S (zF S 49 2) hz) rfl h (fun z2 h => ?_)
    show eG _ 140 77 [some (.ref 49), some (.int (zI l1))] [.int (zI z2)] (rd S) _
    cases h
    exact s_ret rfl rfl rfl
  rw [if_neg c] at h
  have c5 := c
  refine s_tabv 78 rfl ⟨hr1, hr2⟩ (by rw [if_pos (by omega)]; rfl) ?_
  show eG _ 140 78 [some (.ref 49), some (.int (zI l1))] [] (rd S) _
  refine g_run 1 79 [some (.ref 49), some (.int (zI l1))] [.int (zI (-1))] (rd S) rfl ?_
  cases h
  exact s_ret rfl rfl rfl
def fM_isWeek (n : Nat) (S : ZS) (l1 l2 l4 : Int) : Option (Int) := (fM_isSet n S l2).bind fun z1 => (gC z1 0 (if z1 = 0 then some 0 else (fM_isSet n S l4).bind fun z3 => gC z3 0 (if z3 = 0 then some 0 else gC (zxor l1 (-1)) 0 (gL (zlan l2 (zxor l1 (-1))) 0 (gC (zcmp (zlan l2 (zxor l1 (-1))) 0) 0 (if (zcmp (zlan l2 (zxor l1 (-1))) 0) = 0 then gC l1 0 (gL (zlan l4 l1) 0 (gC (zcmp (zlan l4 l1) 0) 0 (if (zcmp (zlan l4 l1) 0) = 0 then some 1 else some 0))) else some 0)))))).bind fun z2 => gB z2 (some z2)
set_option maxRecDepth 100000 in
set_option maxHeartbeats 4000000 in
theorem sM_isWeek (o : eO) (n : Nat) (S : ZS) (l1 l2 l4 : Int) {w : Int} (h : fM_isWeek n S l1 l2 l4 = some w) : eG o 153 0 (eEnt 153 [.ref 49, .int (zI l1), .long (zL l2), .long (zL l4)]) [] (rd S) (rv (some (.int (zI w))) (rd S)) := by
  unfold fM_isWeek at h
  show eG o 153 0 [some (.ref 49), some (.int (zI l1)), some (.long (zL l2)), none, some (.long (zL l4)), none] [] (rd S) _
  refine g_run 2 2 [some (.ref 49), some (.int (zI l1)), some (.long (zL l2)), none, some (.long (zL l4)), none] [.long (zL l2), .ref 49] (rd S) rfl ?_
  refine s_vir (fun z => some (.int (zI z))) (fun _ => rd S) rfl rfl rfl (rd_o49 _) rfl rfl (fun z hz => sM_isSet o n S l2 hz) rfl h (fun z1 h => ?_)
  show eG _ 153 5 [some (.ref 49), some (.int (zI l1)), some (.long (zL l2)), none, some (.long (zL l4)), none] [.int (zI z1)] (rd S) _
  refine s_join (α := Int) (fun z => eG o 153 43 [none, none, none, none, none, none] [.int (zI z)] (rd S) (rv (some (.int (zI w))) (rd S))) h (fun z2 h => ?_) (fun z2 h j => ?_)
  · show eG _ 153 43 [none, none, none, none, none, none] [.int (zI z2)] (rd S) _
    exact s_retB rfl rfl h (fun h => by cases h; exact rfl)
  · skip
    refine s_if_eq rfl h (fun h => ?_) (fun h => ?_)
    · show eG _ 153 42 [some (.ref 49), some (.int (zI l1)), some (.long (zL l2)), none, some (.long (zL l4)), none] [] (rd S) _
      refine g_run 1 43 [some (.ref 49), some (.int (zI l1)), some (.long (zL l2)), none, some (.long (zL l4)), none] [.int (zI 0)] (rd S) rfl ?_
      refine g_fgt [true, true, true, true, true, true] ?_
      show eG _ 153 43 [none, none, none, none, none, none] [.int (zI 0)] (rd S) _
      cases h
      exact j
    · show eG _ 153 8 [some (.ref 49), some (.int (zI l1)), some (.long (zL l2)), none, some (.long (zL l4)), none] [] (rd S) _
      refine g_run 2 11 [some (.ref 49), some (.int (zI l1)), some (.long (zL l2)), none, some (.long (zL l4)), none] [.long (zL l4), .ref 49] (rd S) rfl ?_
      refine s_vir (fun z => some (.int (zI z))) (fun _ => rd S) rfl rfl rfl (rd_o49 _) rfl rfl (fun z hz => sM_isSet o n S l4 hz) rfl h (fun z3 h => ?_)
      show eG _ 153 14 [some (.ref 49), some (.int (zI l1)), some (.long (zL l2)), none, some (.long (zL l4)), none] [.int (zI z3)] (rd S) _
      refine s_if_eq rfl h (fun h => ?_) (fun h => ?_)
      · show eG _ 153 42 [some (.ref 49), some (.int (zI l1)), some (.long (zL l2)), none, some (.long (zL l4)), none] [] (rd S) _
        refine g_run 1 43 [some (.ref 49), some (.int (zI l1)), some (.long (zL l2)), none, some (.long (zL l4)), none] [.int (zI 0)] (rd S) rfl ?_
        refine g_fgt [true, true, true, true, true, true] ?_
        show eG _ 153 43 [none, none, none, none, none, none] [.int (zI 0)] (rd S) _
        cases h
        exact j
      · show eG _ 153 17 [some (.ref 49), some (.int (zI l1)), some (.long (zL l2)), none, some (.long (zL l4)), none] [] (rd S) _
        refine g_run 3 20 [some (.ref 49), some (.int (zI l1)), some (.long (zL l2)), none, some (.long (zL l4)), none] [.int (zI (-1)), .int (zI l1), .long (zL l2)] (rd S) rfl ?_
        refine s_ixor rfl ?_
        refine s_i2l rfl h (fun h => ?_)
        refine s_land rfl ?_
        refine g_run 1 24 [some (.ref 49), some (.int (zI l1)), some (.long (zL l2)), none, some (.long (zL l4)), none] [.long (zL 0), .long (zL (zlan l2 (zxor l1 (-1))))] (rd S) rfl ?_
        refine s_lcmp rfl h (fun h => ?_)
        refine s_if_ne rfl h (fun h => ?_) (fun h => ?_)
        · show eG _ 153 42 [some (.ref 49), some (.int (zI l1)), some (.long (zL l2)), none, some (.long (zL l4)), none] [] (rd S) _
          refine g_run 1 43 [some (.ref 49), some (.int (zI l1)), some (.long (zL l2)), none, some (.long (zL l4)), none] [.int (zI 0)] (rd S) rfl ?_
          refine g_fgt [true, true, true, true, true, true] ?_
          show eG _ 153 43 [none, none, none, none, none, none] [.int (zI 0)] (rd S) _
          cases h
          exact j
        · show eG _ 153 28 [some (.ref 49), some (.int (zI l1)), some (.long (zL l2)), none, some (.long (zL l4)), none] [] (rd S) _
          refine g_run 2 31 [some (.ref 49), some (.int (zI l1)), some (.long (zL l2)), none, some (.long (zL l4)), none] [.int (zI l1), .long (zL l4)] (rd S) rfl ?_
          refine s_i2l rfl h (fun h => ?_)
          refine s_land rfl ?_
          refine g_run 1 34 [some (.ref 49), some (.int (zI l1)), some (.long (zL l2)), none, some (.long (zL l4)), none] [.long (zL 0), .long (zL (zlan l4 l1))] (rd S) rfl ?_
          refine s_lcmp rfl h (fun h => ?_)
          refine s_if_ne rfl h (fun h => ?_) (fun h => ?_)
          · show eG _ 153 42 [some (.ref 49), some (.int (zI l1)), some (.long (zL l2)), none, some (.long (zL l4)), none] [] (rd S) _
            refine g_run 1 43 [some (.ref 49), some (.int (zI l1)), some (.long (zL l2)), none, some (.long (zL l4)), none] [.int (zI 0)] (rd S) rfl ?_
            refine g_fgt [true, true, true, true, true, true] ?_
            show eG _ 153 43 [none, none, none, none, none, none] [.int (zI 0)] (rd S) _
            cases h
            exact j
          · show eG _ 153 38 [some (.ref 49), some (.int (zI l1)), some (.long (zL l2)), none, some (.long (zL l4)), none] [] (rd S) _
            refine g_run 2 43 [some (.ref 49), some (.int (zI l1)), some (.long (zL l2)), none, some (.long (zL l4)), none] [.int (zI 1)] (rd S) rfl ?_
            refine g_fgt [true, true, true, true, true, true] ?_
            show eG _ 153 43 [none, none, none, none, none, none] [.int (zI 1)] (rd S) _
            cases h
            exact j
def fM_mayElse_1 : Nat → ZS → Int → Int → Int → Int → Option (Int)
  | 0, _, _, _, _, _ => none
  | n + 1, S, l1, l4, l5, l6 => gC l6 (zF S 49 7) (if l6 < (zF S 49 7) then gC l5 0 (if l5 = 0 then some l5 else gX l6 4 (gC (zand (zand (zA S 51 l6) l1) l4) 0 (if (zand (zand (zA S 51 l6) l1) l4) = 0 then fM_mayElse_1 n S l1 l4 0 (l6 + 1) else fM_mayElse_1 n S l1 l4 1 (l6 + 1)))) else some l5)
set_option maxRecDepth 100000 in
set_option maxHeartbeats 4000000 in
theorem sM_mayElse_1 (o : eO) : ∀ (n : Nat) (S : ZS) (l1 l4 l5 l6 : Int) {w : Int} {r : eP} (h : fM_mayElse_1 n S l1 l4 l5 l6 = some w) (hk : eG o 155 88 [none, none, none, none, none, some (.int (zI w)), none] [] (rd S) r), eG o 155 46 [some (.ref 49), some (.int (zI l1)), none, none, some (.int (zI l4)), some (.int (zI l5)), some (.int (zI l6))] [] (rd S) r := by
  intro n
  induction n with
  | zero => intro S l1 l4 l5 l6 w r h hk; unfold fM_mayElse_1 at h; cases h
  | succ n ih =>
    intro S l1 l4 l5 l6 w r h hk
    unfold fM_mayElse_1 at h
    refine g_run 2 49 [some (.ref 49), some (.int (zI l1)), none, none, some (.int (zI l4)), some (.int (zI l5)), some (.int (zI l6))] [.ref 49, .int (zI l6)] (rd S) rfl ?_
    refine g_getf rfl rfl (rd_o49 _) rfl ?_
    show eG _ 155 52 [some (.ref 49), some (.int (zI l1)), none, none, some (.int (zI l4)), some (.int (zI l5)), some (.int (zI l6))] [.int (zI (zF S 49 7)), .int (zI l6)] (rd S) _
    refine s_icmp_ge rfl h (fun h => ?_) (fun h => ?_)
    · show eG _ 155 88 [some (.ref 49), some (.int (zI l1)), none, none, some (.int (zI l4)), some (.int (zI l5)), some (.int (zI l6))] [] (rd S) _
      refine g_fgt [true, true, true, true, true, false, true] ?_
      show eG _ 155 88 [none, none, none, none, none, some (.int (zI l5)), none] [] (rd S) _
      cases h
      exact hk
    · show eG _ 155 55 [some (.ref 49), some (.int (zI l1)), none, none, some (.int (zI l4)), some (.int (zI l5)), some (.int (zI l6))] [] (rd S) _
      refine g_run 1 57 [some (.ref 49), some (.int (zI l1)), none, none, some (.int (zI l4)), some (.int (zI l5)), some (.int (zI l6))] [.int (zI l5)] (rd S) rfl ?_
      refine s_if_eq rfl h (fun h => ?_) (fun h => ?_)
      · show eG _ 155 88 [some (.ref 49), some (.int (zI l1)), none, none, some (.int (zI l4)), some (.int (zI l5)), some (.int (zI l6))] [] (rd S) _
        refine g_fgt [true, true, true, true, true, false, true] ?_
        show eG _ 155 88 [none, none, none, none, none, some (.int (zI l5)), none] [] (rd S) _
        cases h
        exact hk
      · show eG _ 155 60 [some (.ref 49), some (.int (zI l1)), none, none, some (.int (zI l4)), some (.int (zI l5)), some (.int (zI l6))] [] (rd S) _
        refine g_run 1 61 [some (.ref 49), some (.int (zI l1)), none, none, some (.int (zI l4)), some (.int (zI l5)), some (.int (zI l6))] [.ref 49] (rd S) rfl ?_
        refine g_getf rfl rfl (rd_o49 _) rfl ?_
        show eG _ 155 64 [some (.ref 49), some (.int (zI l1)), none, none, some (.int (zI l4)), some (.int (zI l5)), some (.int (zI l6))] [.ref 51] (rd S) _
        refine g_run 1 66 [some (.ref 49), some (.int (zI l1)), none, none, some (.int (zI l4)), some (.int (zI l5)), some (.int (zI l6))] [.int (zI l6), .ref 51] (rd S) rfl ?_
        refine s_iald rfl (rd_a51 _) h (fun h => ?_)
        show eG _ 155 67 [some (.ref 49), some (.int (zI l1)), none, none, some (.int (zI l4)), some (.int (zI l5)), some (.int (zI l6))] [.int (zI (zA S 51 l6))] (rd S) _
        refine g_run 1 68 [some (.ref 49), some (.int (zI l1)), none, none, some (.int (zI l4)), some (.int (zI l5)), some (.int (zI l6))] [.int (zI l1), .int (zI (zA S 51 l6))] (rd S) rfl ?_
        refine s_iand rfl ?_
        refine g_run 1 71 [some (.ref 49), some (.int (zI l1)), none, none, some (.int (zI l4)), some (.int (zI l5)), some (.int (zI l6))] [.int (zI l4), .int (zI (zand (zA S 51 l6) l1))] (rd S) rfl ?_
        refine s_iand rfl ?_
        refine s_if_eq rfl h (fun h => ?_) (fun h => ?_)
        · show eG _ 155 79 [some (.ref 49), some (.int (zI l1)), none, none, some (.int (zI l4)), some (.int (zI l5)), some (.int (zI l6))] [] (rd S) _
          refine g_run 2 82 [some (.ref 49), some (.int (zI l1)), none, none, some (.int (zI l4)), some (.int (zI 0)), some (.int (zI l6))] [] (rd S) rfl ?_
          refine s_iinc (L' := [some (.ref 49), some (.int (zI l1)), none, none, some (.int (zI l4)), some (.int (zI 0)), some (.int (zI (l6 + 1)))]) rfl rfl rfl ?_
          refine g_run 1 46 [some (.ref 49), some (.int (zI l1)), none, none, some (.int (zI l4)), some (.int (zI 0)), some (.int (zI (l6 + 1)))] [] (rd S) rfl ?_
          exact ih S l1 l4 0 (l6 + 1) h hk
        · show eG _ 155 75 [some (.ref 49), some (.int (zI l1)), none, none, some (.int (zI l4)), some (.int (zI l5)), some (.int (zI l6))] [] (rd S) _
          refine g_run 3 82 [some (.ref 49), some (.int (zI l1)), none, none, some (.int (zI l4)), some (.int (zI 1)), some (.int (zI l6))] [] (rd S) rfl ?_
          refine s_iinc (L' := [some (.ref 49), some (.int (zI l1)), none, none, some (.int (zI l4)), some (.int (zI 1)), some (.int (zI (l6 + 1)))]) rfl rfl rfl ?_
          refine g_run 1 46 [some (.ref 49), some (.int (zI l1)), none, none, some (.int (zI l4)), some (.int (zI 1)), some (.int (zI (l6 + 1)))] [] (rd S) rfl ?_
          exact ih S l1 l4 1 (l6 + 1) h hk
def fM_mayElse (n : Nat) (S : ZS) (l1 l2 l3 : Int) : Option (Int) := (fM_yardsOf n S l2).bind fun z1 => (fM_yardsOf n S l3).bind fun z2 => (gC (z1 + z2) (zF S 49 5) (if (zF S 49 5) < (z1 + z2) then some 0 else (fM_rests n S (zor (zand l1 (zxor l2 (-1))) l3)).bind fun z5 => gC z5 0 (if z5 = 0 then some 0 else some 1))).bind fun z3 => (fM_mayElse_1 n S l1 (zor (zand l1 (zxor l2 (-1))) l3) z3 0).bind fun z4 => gB z4 (some z4)
set_option maxRecDepth 100000 in
set_option maxHeartbeats 4000000 in
theorem sM_mayElse (o : eO) (n : Nat) (S : ZS) (l1 l2 l3 : Int) {w : Int} (h : fM_mayElse n S l1 l2 l3 = some w) : eG o 155 0 (eEnt 155 [.ref 49, .int (zI l1), .int (zI l2), .int (zI l3)]) [] (rd S) (rv (some (.int (zI w))) (rd S)) := by
  unfold fM_mayElse at h
  show eG o 155 0 [some (.ref 49), some (.int (zI l1)), some (.int (zI l2)), some (.int (zI l3)), none, none, none] [] (rd S) _
  refine g_run 3 3 [some (.ref 49), some (.int (zI l1)), some (.int (zI l2)), some (.int (zI l3)), none, none, none] [.int (zI (-1)), .int (zI l2), .int (zI l1)] (rd S) rfl ?_
  refine s_ixor rfl ?_
  refine s_iand rfl ?_
  refine g_run 1 6 [some (.ref 49), some (.int (zI l1)), some (.int (zI l2)), some (.int (zI l3)), none, none, none] [.int (zI l3), .int (zI (zand l1 (zxor l2 (-1))))] (rd S) rfl ?_
  refine s_ior rfl ?_
  refine g_run 3 11 [some (.ref 49), some (.int (zI l1)), some (.int (zI l2)), some (.int (zI l3)), some (.int (zI (zor (zand l1 (zxor l2 (-1))) l3))), none, none] [.int (zI l2), .ref 49] (rd S) rfl ?_
  refine s_vir (fun z => some (.int (zI z))) (fun _ => rd S) rfl rfl rfl (rd_o49 _) rfl rfl (fun z hz => sM_yardsOf o n S l2 hz) rfl h (fun z1 h => ?_)
  show eG _ 155 14 [some (.ref 49), some (.int (zI l1)), some (.int (zI l2)), some (.int (zI l3)), some (.int (zI (zor (zand l1 (zxor l2 (-1))) l3))), none, none] [.int (zI z1)] (rd S) _
  refine g_run 2 16 [some (.ref 49), some (.int (zI l1)), some (.int (zI l2)), some (.int (zI l3)), some (.int (zI (zor (zand l1 (zxor l2 (-1))) l3))), none, none] [.int (zI l3), .ref 49, .int (zI z1)] (rd S) rfl ?_
  refine s_vir (fun z => some (.int (zI z))) (fun _ => rd S) rfl rfl rfl (rd_o49 _) rfl rfl (fun z hz => sM_yardsOf o n S l3 hz) rfl h (fun z2 h => ?_)
  show eG _ 155 19 [some (.ref 49), some (.int (zI l1)), some (.int (zI l2)), some (.int (zI l3)), some (.int (zI (zor (zand l1 (zxor l2 (-1))) l3))), none, none] [.int (zI z2), .int (zI z1)] (rd S) _
  refine s_iadd rfl ?_
  refine g_run 1 21 [some (.ref 49), some (.int (zI l1)), some (.int (zI l2)), some (.int (zI l3)), some (.int (zI (zor (zand l1 (zxor l2 (-1))) l3))), none, none] [.ref 49, .int (zI (z1 + z2))] (rd S) rfl ?_
  refine g_getf rfl rfl (rd_o49 _) rfl ?_
  show eG _ 155 24 [some (.ref 49), some (.int (zI l1)), some (.int (zI l2)), some (.int (zI l3)), some (.int (zI (zor (zand l1 (zxor l2 (-1))) l3))), none, none] [.int (zI (zF S 49 5)), .int (zI (z1 + z2))] (rd S) _
  refine s_join (α := Int) (fun z => eG o 155 41 [some (.ref 49), some (.int (zI l1)), none, none, some (.int (zI (zor (zand l1 (zxor l2 (-1))) l3))), none, none] [.int (zI z)] (rd S) (rv (some (.int (zI w))) (rd S))) h (fun z3 h => ?_) (fun z3 h j => ?_)
  · show eG _ 155 41 [some (.ref 49), some (.int (zI l1)), none, none, some (.int (zI (zor (zand l1 (zxor l2 (-1))) l3))), none, none] [.int (zI z3)] (rd S) _
    refine g_run 3 46 [some (.ref 49), some (.int (zI l1)), none, none, some (.int (zI (zor (zand l1 (zxor l2 (-1))) l3))), some (.int (zI z3)), some (.int (zI 0))] [] (rd S) rfl ?_
    obtain ⟨z4, h1, h⟩ := zB_inv h
    refine sM_mayElse_1 o n S l1 (zor (zand l1 (zxor l2 (-1))) l3) z3 0 h1 ?_
    show eG _ 155 88 [none, none, none, none, none, some (.int (zI z4)), none] [] (rd S) _
    refine g_run 1 90 [none, none, none, none, none, some (.int (zI z4)), none] [.int (zI z4)] (rd S) rfl ?_
    exact s_retB rfl rfl h (fun h => by cases h; exact rfl)
  · skip
    refine s_icmp_gt rfl h (fun h => ?_) (fun h => ?_)
    · show eG _ 155 40 [some (.ref 49), some (.int (zI l1)), some (.int (zI l2)), some (.int (zI l3)), some (.int (zI (zor (zand l1 (zxor l2 (-1))) l3))), none, none] [] (rd S) _
      refine g_run 1 41 [some (.ref 49), some (.int (zI l1)), some (.int (zI l2)), some (.int (zI l3)), some (.int (zI (zor (zand l1 (zxor l2 (-1))) l3))), none, none] [.int (zI 0)] (rd S) rfl ?_
      refine g_fgt [false, false, true, true, false, true, true] ?_
      show eG _ 155 41 [some (.ref 49), some (.int (zI l1)), none, none, some (.int (zI (zor (zand l1 (zxor l2 (-1))) l3))), none, none] [.int (zI 0)] (rd S) _
      cases h
      exact j
    · show eG _ 155 27 [some (.ref 49), some (.int (zI l1)), some (.int (zI l2)), some (.int (zI l3)), some (.int (zI (zor (zand l1 (zxor l2 (-1))) l3))), none, none] [] (rd S) _
      refine g_run 2 30 [some (.ref 49), some (.int (zI l1)), some (.int (zI l2)), some (.int (zI l3)), some (.int (zI (zor (zand l1 (zxor l2 (-1))) l3))), none, none] [.int (zI (zor (zand l1 (zxor l2 (-1))) l3)), .ref 49] (rd S) rfl ?_
      refine s_vir (fun z => some (.int (zI z))) (fun _ => rd S) rfl rfl rfl (rd_o49 _) rfl rfl (fun z hz => sM_rests o n S (zor (zand l1 (zxor l2 (-1))) l3) hz) rfl h (fun z5 h => ?_)
      show eG _ 155 33 [some (.ref 49), some (.int (zI l1)), some (.int (zI l2)), some (.int (zI l3)), some (.int (zI (zor (zand l1 (zxor l2 (-1))) l3))), none, none] [.int (zI z5)] (rd S) _
      refine s_if_eq rfl h (fun h => ?_) (fun h => ?_)
      · show eG _ 155 40 [some (.ref 49), some (.int (zI l1)), some (.int (zI l2)), some (.int (zI l3)), some (.int (zI (zor (zand l1 (zxor l2 (-1))) l3))), none, none] [] (rd S) _
        refine g_run 1 41 [some (.ref 49), some (.int (zI l1)), some (.int (zI l2)), some (.int (zI l3)), some (.int (zI (zor (zand l1 (zxor l2 (-1))) l3))), none, none] [.int (zI 0)] (rd S) rfl ?_
        refine g_fgt [false, false, true, true, false, true, true] ?_
        show eG _ 155 41 [some (.ref 49), some (.int (zI l1)), none, none, some (.int (zI (zor (zand l1 (zxor l2 (-1))) l3))), none, none] [.int (zI 0)] (rd S) _
        cases h
        exact j
      · show eG _ 155 36 [some (.ref 49), some (.int (zI l1)), some (.int (zI l2)), some (.int (zI l3)), some (.int (zI (zor (zand l1 (zxor l2 (-1))) l3))), none, none] [] (rd S) _
        refine g_run 2 41 [some (.ref 49), some (.int (zI l1)), some (.int (zI l2)), some (.int (zI l3)), some (.int (zI (zor (zand l1 (zxor l2 (-1))) l3))), none, none] [.int (zI 1)] (rd S) rfl ?_
        refine g_fgt [false, false, true, true, false, true, true] ?_
        show eG _ 155 41 [some (.ref 49), some (.int (zI l1)), none, none, some (.int (zI (zor (zand l1 (zxor l2 (-1))) l3))), none, none] [.int (zI 1)] (rd S) _
        cases h
        exact j
def fM_givenBy (n : Nat) (S : ZS) (l1 : Int) : Option (Int) := gX ((5 * l1) + 1) 40 (gX (5 * l1) 40 (gC (zA S 50 (5 * l1)) 1 (if (zA S 50 (5 * l1)) = 1 then some ((zA S 50 ((5 * l1) + 1)) - 1) else gC (zA S 50 (5 * l1)) 2 (if (zA S 50 (5 * l1)) = 2 then some (-(zA S 50 ((5 * l1) + 1))) else gC (zA S 50 (5 * l1)) 3 (if (zA S 50 (5 * l1)) = 3 then gV (zA S 50 ((5 * l1) + 1)) 2 (some ((zA S 50 ((5 * l1) + 1)).tdiv 2)) else some (zA S 50 ((5 * l1) + 1)))))))
set_option maxRecDepth 100000 in
set_option maxHeartbeats 4000000 in
theorem sM_givenBy (o : eO) (n : Nat) (S : ZS) (l1 : Int) {w : Int} (h : fM_givenBy n S l1 = some w) : eG o 157 0 (eEnt 157 [.ref 49, .int (zI l1)]) [] (rd S) (rv (some (.int (zI w))) (rd S)) := by
  unfold fM_givenBy at h
  show eG o 157 0 [some (.ref 49), some (.int (zI l1)), none, none] [] (rd S) _
  refine g_run 1 1 [some (.ref 49), some (.int (zI l1)), none, none] [.ref 49] (rd S) rfl ?_
  refine g_getf rfl rfl (rd_o49 _) rfl ?_
  show eG _ 157 4 [some (.ref 49), some (.int (zI l1)), none, none] [.ref 50] (rd S) _
  refine g_run 2 6 [some (.ref 49), some (.int (zI l1)), none, none] [.int (zI l1), .int (zI 5), .ref 50] (rd S) rfl ?_
  refine s_imul rfl ?_
  refine g_run 1 8 [some (.ref 49), some (.int (zI l1)), none, none] [.int (zI 1), .int (zI (5 * l1)), .ref 50] (rd S) rfl ?_
  refine s_iadd rfl ?_
  refine s_iald rfl (rd_a50 _) h (fun h => ?_)
  show eG _ 157 10 [some (.ref 49), some (.int (zI l1)), none, none] [.int (zI (zA S 50 ((5 * l1) + 1)))] (rd S) _
  refine g_run 2 12 [some (.ref 49), some (.int (zI l1)), some (.int (zI (zA S 50 ((5 * l1) + 1)))), none] [.ref 49] (rd S) rfl ?_
  refine g_getf rfl rfl (rd_o49 _) rfl ?_
  show eG _ 157 15 [some (.ref 49), some (.int (zI l1)), some (.int (zI (zA S 50 ((5 * l1) + 1)))), none] [.ref 50] (rd S) _
  refine g_run 2 17 [some (.ref 49), some (.int (zI l1)), some (.int (zI (zA S 50 ((5 * l1) + 1)))), none] [.int (zI l1), .int (zI 5), .ref 50] (rd S) rfl ?_
  refine s_imul rfl ?_
  refine s_iald rfl (rd_a50 _) h (fun h => ?_)
  show eG _ 157 19 [some (.ref 49), some (.int (zI l1)), some (.int (zI (zA S 50 ((5 * l1) + 1)))), none] [.int (zI (zA S 50 (5 * l1)))] (rd S) _
  refine g_run 3 22 [some (.ref 49), some (.int (zI l1)), some (.int (zI (zA S 50 ((5 * l1) + 1)))), some (.int (zI (zA S 50 (5 * l1))))] [.int (zI 1), .int (zI (zA S 50 (5 * l1)))] (rd S) rfl ?_
  refine s_icmp_ne rfl h (fun h => ?_) (fun h => ?_)
  · show eG _ 157 31 [some (.ref 49), some (.int (zI l1)), some (.int (zI (zA S 50 ((5 * l1) + 1)))), some (.int (zI (zA S 50 (5 * l1))))] [] (rd S) _
    refine g_run 2 33 [some (.ref 49), some (.int (zI l1)), some (.int (zI (zA S 50 ((5 * l1) + 1)))), some (.int (zI (zA S 50 (5 * l1))))] [.int (zI 2), .int (zI (zA S 50 (5 * l1)))] (rd S) rfl ?_
    refine s_icmp_ne rfl h (fun h => ?_) (fun h => ?_)
    · show eG _ 157 41 [some (.ref 49), some (.int (zI l1)), some (.int (zI (zA S 50 ((5 * l1) + 1)))), some (.int (zI (zA S 50 (5 * l1))))] [] (rd S) _
      refine g_run 2 43 [some (.ref 49), some (.int (zI l1)), some (.int (zI (zA S 50 ((5 * l1) + 1)))), some (.int (zI (zA S 50 (5 * l1))))] [.int (zI 3), .int (zI (zA S 50 (5 * l1)))] (rd S) rfl ?_
      refine s_icmp_ne rfl h (fun h => ?_) (fun h => ?_)
      · show eG _ 157 52 [some (.ref 49), some (.int (zI l1)), some (.int (zI (zA S 50 ((5 * l1) + 1)))), some (.int (zI (zA S 50 (5 * l1))))] [] (rd S) _
        refine g_run 1 53 [some (.ref 49), some (.int (zI l1)), some (.int (zI (zA S 50 ((5 * l1) + 1)))), some (.int (zI (zA S 50 (5 * l1))))] [.int (zI (zA S 50 ((5 * l1) + 1)))] (rd S) rfl ?_
        cases h
        exact s_ret rfl rfl rfl
      · show eG _ 157 46 [some (.ref 49), some (.int (zI l1)), some (.int (zI (zA S 50 ((5 * l1) + 1)))), some (.int (zI (zA S 50 (5 * l1))))] [] (rd S) _
        refine g_run 2 48 [some (.ref 49), some (.int (zI l1)), some (.int (zI (zA S 50 ((5 * l1) + 1)))), some (.int (zI (zA S 50 (5 * l1))))] [.int (zI 2), .int (zI (zA S 50 ((5 * l1) + 1)))] (rd S) rfl ?_
        refine s_idiv rfl h (fun h => ?_)
        refine g_run 1 53 [some (.ref 49), some (.int (zI l1)), some (.int (zI (zA S 50 ((5 * l1) + 1)))), some (.int (zI (zA S 50 (5 * l1))))] [.int (zI ((zA S 50 ((5 * l1) + 1)).tdiv 2))] (rd S) rfl ?_
        cases h
        exact s_ret rfl rfl rfl
    · show eG _ 157 36 [some (.ref 49), some (.int (zI l1)), some (.int (zI (zA S 50 ((5 * l1) + 1)))), some (.int (zI (zA S 50 (5 * l1))))] [] (rd S) _
      refine g_run 1 37 [some (.ref 49), some (.int (zI l1)), some (.int (zI (zA S 50 ((5 * l1) + 1)))), some (.int (zI (zA S 50 (5 * l1))))] [.int (zI (zA S 50 ((5 * l1) + 1)))] (rd S) rfl ?_
      refine s_ineg rfl ?_
      refine g_run 1 53 [some (.ref 49), some (.int (zI l1)), some (.int (zI (zA S 50 ((5 * l1) + 1)))), some (.int (zI (zA S 50 (5 * l1))))] [.int (zI (-(zA S 50 ((5 * l1) + 1))))] (rd S) rfl ?_
      cases h
      exact s_ret rfl rfl rfl
  · show eG _ 157 25 [some (.ref 49), some (.int (zI l1)), some (.int (zI (zA S 50 ((5 * l1) + 1)))), some (.int (zI (zA S 50 (5 * l1))))] [] (rd S) _
    refine g_run 2 27 [some (.ref 49), some (.int (zI l1)), some (.int (zI (zA S 50 ((5 * l1) + 1)))), some (.int (zI (zA S 50 (5 * l1))))] [.int (zI 1), .int (zI (zA S 50 ((5 * l1) + 1)))] (rd S) rfl ?_
    refine s_isub rfl ?_
    refine g_run 1 53 [some (.ref 49), some (.int (zI l1)), some (.int (zI (zA S 50 ((5 * l1) + 1)))), some (.int (zI (zA S 50 (5 * l1))))] [.int (zI ((zA S 50 ((5 * l1) + 1)) - 1))] (rd S) rfl ?_
    cases h
    exact s_ret rfl rfl rfl
def fM_takenBy (n : Nat) (S : ZS) (l1 : Int) : Option (Int) := gX (5 * l1) 40 (gC (zA S 50 (5 * l1)) 2 (if (zA S 50 (5 * l1)) = 2 then gX ((5 * l1) + 1) 40 (some (-(zA S 50 ((5 * l1) + 1)))) else gX ((5 * l1) + 1) 40 (some (zA S 50 ((5 * l1) + 1)))))
set_option maxRecDepth 100000 in
set_option maxHeartbeats 4000000 in
theorem sM_takenBy (o : eO) (n : Nat) (S : ZS) (l1 : Int) {w : Int} (h : fM_takenBy n S l1 = some w) : eG o 158 0 (eEnt 158 [.ref 49, .int (zI l1)]) [] (rd S) (rv (some (.int (zI w))) (rd S)) := by
  unfold fM_takenBy at h
  show eG o 158 0 [some (.ref 49), some (.int (zI l1))] [] (rd S) _
  refine g_run 1 1 [some (.ref 49), some (.int (zI l1))] [.ref 49] (rd S) rfl ?_
  refine g_getf rfl rfl (rd_o49 _) rfl ?_
  show eG _ 158 4 [some (.ref 49), some (.int (zI l1))] [.ref 50] (rd S) _
  refine g_run 2 6 [some (.ref 49), some (.int (zI l1))] [.int (zI l1), .int (zI 5), .ref 50] (rd S) rfl ?_
  refine s_imul rfl ?_
  refine s_iald rfl (rd_a50 _) h (fun h => ?_)
  show eG _ 158 8 [some (.ref 49), some (.int (zI l1))] [.int (zI (zA S 50 (5 * l1)))] (rd S) _
  refine g_run 1 9 [some (.ref 49), some (.int (zI l1))] [.int (zI 2), .int (zI (zA S 50 (5 * l1)))] (rd S) rfl ?_
  refine s_icmp_ne rfl h (fun h => ?_) (fun h => ?_)
  · show eG _ 158 26 [some (.ref 49), some (.int (zI l1))] [] (rd S) _
    refine g_run 1 27 [some (.ref 49), some (.int (zI l1))] [.ref 49] (rd S) rfl ?_
    refine g_getf rfl rfl (rd_o49 _) rfl ?_
    show eG _ 158 30 [some (.ref 49), some (.int (zI l1))] [.ref 50] (rd S) _
    refine g_run 2 32 [some (.ref 49), some (.int (zI l1))] [.int (zI l1), .int (zI 5), .ref 50] (rd S) rfl ?_
    refine s_imul rfl ?_
    refine g_run 1 34 [some (.ref 49), some (.int (zI l1))] [.int (zI 1), .int (zI (5 * l1)), .ref 50] (rd S) rfl ?_
    refine s_iadd rfl ?_
    refine s_iald rfl (rd_a50 _) h (fun h => ?_)
    show eG _ 158 36 [some (.ref 49), some (.int (zI l1))] [.int (zI (zA S 50 ((5 * l1) + 1)))] (rd S) _
    cases h
    exact s_ret rfl rfl rfl
  · show eG _ 158 12 [some (.ref 49), some (.int (zI l1))] [] (rd S) _
    refine g_run 1 13 [some (.ref 49), some (.int (zI l1))] [.ref 49] (rd S) rfl ?_
    refine g_getf rfl rfl (rd_o49 _) rfl ?_
    show eG _ 158 16 [some (.ref 49), some (.int (zI l1))] [.ref 50] (rd S) _
    refine g_run 2 18 [some (.ref 49), some (.int (zI l1))] [.int (zI l1), .int (zI 5), .ref 50] (rd S) rfl ?_
    refine s_imul rfl ?_
    refine g_run 1 20 [some (.ref 49), some (.int (zI l1))] [.int (zI 1), .int (zI (5 * l1)), .ref 50] (rd S) rfl ?_
    refine s_iadd rfl ?_
    refine s_iald rfl (rd_a50 _) h (fun h => ?_)
    show eG _ 158 22 [some (.ref 49), some (.int (zI l1))] [.int (zI (zA S 50 ((5 * l1) + 1)))] (rd S) _
    refine s_ineg rfl ?_
    refine g_run 1 36 [some (.ref 49), some (.int (zI l1))] [.int (zI (-(zA S 50 ((5 * l1) + 1))))] (rd S) rfl ?_
    cases h
    exact s_ret rfl rfl rfl
def fM_moreBy_1 : Nat → ZS → Int → Int → Int → Int → Option (Int)
  | 0, _, _, _, _, _ => none
  | n + 1, S, l1, l2, l3, l4 => gC l4 (zF S 49 1) (if l4 < (zF S 49 1) then (fM_has n S l1 l4).bind fun z1 => (gC z1 0 (if z1 = 0 then some 0 else (fM_givenBy n S l4).bind fun z5 => some z5)).bind fun z2 => (fM_has n S l2 l4).bind fun z3 => gC z3 0 (if z3 = 0 then fM_moreBy_1 n S l1 l2 (l3 + (z2 - 0)) (l4 + 1) else (fM_takenBy n S l4).bind fun z4 => fM_moreBy_1 n S l1 l2 (l3 + (z2 - z4)) (l4 + 1)) else some l3)
set_option maxRecDepth 100000 in
set_option maxHeartbeats 4000000 in
theorem sM_moreBy_1 (o : eO) : ∀ (n : Nat) (S : ZS) (l1 l2 l3 l4 : Int) {w : Int} {r : eP} (h : fM_moreBy_1 n S l1 l2 l3 l4 = some w) (hk : eG o 156 62 [none, none, none, some (.int (zI w)), none] [] (rd S) r), eG o 156 5 [some (.ref 49), some (.int (zI l1)), some (.int (zI l2)), some (.int (zI l3)), some (.int (zI l4))] [] (rd S) r := by
  intro n
  induction n with
  | zero => intro S l1 l2 l3 l4 w r h hk; unfold fM_moreBy_1 at h; cases h
  | succ n ih =>
    intro S l1 l2 l3 l4 w r h hk
    unfold fM_moreBy_1 at h
    refine g_run 2 8 [some (.ref 49), some (.int (zI l1)), some (.int (zI l2)), some (.int (zI l3)), some (.int (zI l4))] [.ref 49, .int (zI l4)] (rd S) rfl ?_
    refine g_getf rfl rfl (rd_o49 _) rfl ?_
    show eG _ 156 11 [some (.ref 49), some (.int (zI l1)), some (.int (zI l2)), some (.int (zI l3)), some (.int (zI l4))] [.int (zI (zF S 49 1)), .int (zI l4)] (rd S) _
    refine s_icmp_ge rfl h (fun h => ?_) (fun h => ?_)
    · show eG _ 156 62 [some (.ref 49), some (.int (zI l1)), some (.int (zI l2)), some (.int (zI l3)), some (.int (zI l4))] [] (rd S) _
      refine g_fgt [true, true, true, false, true] ?_
      show eG _ 156 62 [none, none, none, some (.int (zI l3)), none] [] (rd S) _
      cases h
      exact hk
    · show eG _ 156 14 [some (.ref 49), some (.int (zI l1)), some (.int (zI l2)), some (.int (zI l3)), some (.int (zI l4))] [] (rd S) _
      refine g_run 3 18 [some (.ref 49), some (.int (zI l1)), some (.int (zI l2)), some (.int (zI l3)), some (.int (zI l4))] [.int (zI l4), .int (zI l1), .int (zI l3)] (rd S) rfl ?_
      refine s_sta (fun z => some (.int (zI z))) (fun _ => rd S) rfl rfl rfl rfl rfl rfl rfl (fun z hz => sM_has o n S l1 l4 hz) rfl h (fun z1 h => ?_)
      show eG _ 156 21 [some (.ref 49), some (.int (zI l1)), some (.int (zI l2)), some (.int (zI l3)), some (.int (zI l4))] [.int (zI z1), .int (zI l3)] (rd S) _
      refine s_join (α := Int) (fun z => eG o 156 34 [some (.ref 49), some (.int (zI l1)), some (.int (zI l2)), none, some (.int (zI l4))] [.int (zI z), .int (zI l3)] (rd S) r) h (fun z2 h => ?_) (fun z2 h j => ?_)
      · show eG _ 156 34 [some (.ref 49), some (.int (zI l1)), some (.int (zI l2)), none, some (.int (zI l4))] [.int (zI z2), .int (zI l3)] (rd S) _
        refine g_run 2 37 [some (.ref 49), some (.int (zI l1)), some (.int (zI l2)), none, some (.int (zI l4))] [.int (zI l4), .int (zI l2), .int (zI z2), .int (zI l3)] (rd S) rfl ?_
        refine s_sta (fun z => some (.int (zI z))) (fun _ => rd S) rfl rfl rfl rfl rfl rfl rfl (fun z hz => sM_has o n S l2 l4 hz) rfl h (fun z3 h => ?_)
        show eG _ 156 40 [some (.ref 49), some (.int (zI l1)), some (.int (zI l2)), none, some (.int (zI l4))] [.int (zI z3), .int (zI z2), .int (zI l3)] (rd S) _
        refine s_if_eq rfl h (fun h => ?_) (fun h => ?_)
        · show eG _ 156 52 [some (.ref 49), some (.int (zI l1)), some (.int (zI l2)), none, some (.int (zI l4))] [.int (zI z2), .int (zI l3)] (rd S) _
          refine g_run 1 53 [some (.ref 49), some (.int (zI l1)), some (.int (zI l2)), none, some (.int (zI l4))] [.int (zI 0), .int (zI z2), .int (zI l3)] (rd S) rfl ?_
          refine s_isub rfl ?_
          refine s_iadd rfl ?_
          refine g_run 1 56 [some (.ref 49), some (.int (zI l1)), some (.int (zI l2)), some (.int (zI (l3 + (z2 - 0)))), some (.int (zI l4))] [] (rd S) rfl ?_
          refine s_iinc (L' := [some (.ref 49), some (.int (zI l1)), some (.int (zI l2)), some (.int (zI (l3 + (z2 - 0)))), some (.int (zI (l4 + 1)))]) rfl rfl rfl ?_
          refine g_run 1 5 [some (.ref 49), some (.int (zI l1)), some (.int (zI l2)), some (.int (zI (l3 + (z2 - 0)))), some (.int (zI (l4 + 1)))] [] (rd S) rfl ?_
          exact ih S l1 l2 (l3 + (z2 - 0)) (l4 + 1) h hk
        · show eG _ 156 43 [some (.ref 49), some (.int (zI l1)), some (.int (zI l2)), none, some (.int (zI l4))] [.int (zI z2), .int (zI l3)] (rd S) _
          refine g_run 2 46 [some (.ref 49), some (.int (zI l1)), some (.int (zI l2)), none, some (.int (zI l4))] [.int (zI l4), .ref 49, .int (zI z2), .int (zI l3)] (rd S) rfl ?_
          refine s_vir (fun z => some (.int (zI z))) (fun _ => rd S) rfl rfl rfl (rd_o49 _) rfl rfl (fun z hz => sM_takenBy o n S l4 hz) rfl h (fun z4 h => ?_)
          show eG _ 156 49 [some (.ref 49), some (.int (zI l1)), some (.int (zI l2)), none, some (.int (zI l4))] [.int (zI z4), .int (zI z2), .int (zI l3)] (rd S) _
          refine g_run 1 53 [some (.ref 49), some (.int (zI l1)), some (.int (zI l2)), none, some (.int (zI l4))] [.int (zI z4), .int (zI z2), .int (zI l3)] (rd S) rfl ?_
          refine s_isub rfl ?_
          refine s_iadd rfl ?_
          refine g_run 1 56 [some (.ref 49), some (.int (zI l1)), some (.int (zI l2)), some (.int (zI (l3 + (z2 - z4)))), some (.int (zI l4))] [] (rd S) rfl ?_
          refine s_iinc (L' := [some (.ref 49), some (.int (zI l1)), some (.int (zI l2)), some (.int (zI (l3 + (z2 - z4)))), some (.int (zI (l4 + 1)))]) rfl rfl rfl ?_
          refine g_run 1 5 [some (.ref 49), some (.int (zI l1)), some (.int (zI l2)), some (.int (zI (l3 + (z2 - z4)))), some (.int (zI (l4 + 1)))] [] (rd S) rfl ?_
          exact ih S l1 l2 (l3 + (z2 - z4)) (l4 + 1) h hk
      · skip
        refine s_if_eq rfl h (fun h => ?_) (fun h => ?_)
        · show eG _ 156 33 [some (.ref 49), some (.int (zI l1)), some (.int (zI l2)), some (.int (zI l3)), some (.int (zI l4))] [.int (zI l3)] (rd S) _
          refine g_run 1 34 [some (.ref 49), some (.int (zI l1)), some (.int (zI l2)), some (.int (zI l3)), some (.int (zI l4))] [.int (zI 0), .int (zI l3)] (rd S) rfl ?_
          refine g_fgt [false, false, false, true, false] ?_
          show eG _ 156 34 [some (.ref 49), some (.int (zI l1)), some (.int (zI l2)), none, some (.int (zI l4))] [.int (zI 0), .int (zI l3)] (rd S) _
          cases h
          exact j
        · show eG _ 156 24 [some (.ref 49), some (.int (zI l1)), some (.int (zI l2)), some (.int (zI l3)), some (.int (zI l4))] [.int (zI l3)] (rd S) _
          refine g_run 2 27 [some (.ref 49), some (.int (zI l1)), some (.int (zI l2)), some (.int (zI l3)), some (.int (zI l4))] [.int (zI l4), .ref 49, .int (zI l3)] (rd S) rfl ?_
          refine s_vir (fun z => some (.int (zI z))) (fun _ => rd S) rfl rfl rfl (rd_o49 _) rfl rfl (fun z hz => sM_givenBy o n S l4 hz) rfl h (fun z5 h => ?_)
          show eG _ 156 30 [some (.ref 49), some (.int (zI l1)), some (.int (zI l2)), some (.int (zI l3)), some (.int (zI l4))] [.int (zI z5), .int (zI l3)] (rd S) _
          refine g_run 1 34 [some (.ref 49), some (.int (zI l1)), some (.int (zI l2)), some (.int (zI l3)), some (.int (zI l4))] [.int (zI z5), .int (zI l3)] (rd S) rfl ?_
          refine g_fgt [false, false, false, true, false] ?_
          show eG _ 156 34 [some (.ref 49), some (.int (zI l1)), some (.int (zI l2)), none, some (.int (zI l4))] [.int (zI z5), .int (zI l3)] (rd S) _
          cases h
          exact j
def fM_moreBy (n : Nat) (S : ZS) (l1 l2 : Int) : Option (Int) := (fM_moreBy_1 n S l1 l2 0 0).bind fun z1 => some z1
set_option maxRecDepth 100000 in
set_option maxHeartbeats 4000000 in
theorem sM_moreBy (o : eO) (n : Nat) (S : ZS) (l1 l2 : Int) {w : Int} (h : fM_moreBy n S l1 l2 = some w) : eG o 156 0 (eEnt 156 [.ref 49, .int (zI l1), .int (zI l2)]) [] (rd S) (rv (some (.int (zI w))) (rd S)) := by
  unfold fM_moreBy at h
  show eG o 156 0 [some (.ref 49), some (.int (zI l1)), some (.int (zI l2)), none, none] [] (rd S) _
  refine g_run 4 5 [some (.ref 49), some (.int (zI l1)), some (.int (zI l2)), some (.int (zI 0)), some (.int (zI 0))] [] (rd S) rfl ?_
  obtain ⟨z1, h1, h⟩ := zB_inv h
  refine sM_moreBy_1 o n S l1 l2 0 0 h1 ?_
  show eG _ 156 62 [none, none, none, some (.int (zI z1)), none] [] (rd S) _
  refine g_run 1 63 [none, none, none, some (.int (zI z1)), none] [.int (zI z1)] (rd S) rfl ?_
  cases h
  exact s_ret rfl rfl rfl
def fM_isLawful (n : Nat) (S : ZS) (l1 l2 l3 l4 : Int) : Option (Int) := (fM_mayElse n S l1 l3 l4).bind fun z1 => gC z1 0 (if z1 = 0 then gB 0 (some 0) else (fM_moreBy n S l3 l4).bind fun z2 => gC (l2 + z2) 0 (if (l2 + z2) < 0 then gB 0 (some 0) else gB 1 (some 1)))
set_option maxRecDepth 100000 in
set_option maxHeartbeats 4000000 in
theorem sM_isLawful (o : eO) (n : Nat) (S : ZS) (l1 l2 l3 l4 : Int) {w : Int} (h : fM_isLawful n S l1 l2 l3 l4 = some w) : eG o 154 0 (eEnt 154 [.ref 49, .int (zI l1), .int (zI l2), .int (zI l3), .int (zI l4)]) [] (rd S) (rv (some (.int (zI w))) (rd S)) := by
  unfold fM_isLawful at h
  show eG o 154 0 [some (.ref 49), some (.int (zI l1)), some (.int (zI l2)), some (.int (zI l3)), some (.int (zI l4))] [] (rd S) _
  refine g_run 4 5 [some (.ref 49), some (.int (zI l1)), some (.int (zI l2)), some (.int (zI l3)), some (.int (zI l4))] [.int (zI l4), .int (zI l3), .int (zI l1), .ref 49] (rd S) rfl ?_
  refine s_vir (fun z => some (.int (zI z))) (fun _ => rd S) rfl rfl rfl (rd_o49 _) rfl rfl (fun z hz => sM_mayElse o n S l1 l3 l4 hz) rfl h (fun z1 h => ?_)
  show eG _ 154 8 [some (.ref 49), some (.int (zI l1)), some (.int (zI l2)), some (.int (zI l3)), some (.int (zI l4))] [.int (zI z1)] (rd S) _
  refine s_if_eq rfl h (fun h => ?_) (fun h => ?_)
  · show eG _ 154 27 [some (.ref 49), some (.int (zI l1)), some (.int (zI l2)), some (.int (zI l3)), some (.int (zI l4))] [] (rd S) _
    refine g_run 1 28 [some (.ref 49), some (.int (zI l1)), some (.int (zI l2)), some (.int (zI l3)), some (.int (zI l4))] [.int (zI 0)] (rd S) rfl ?_
    exact s_retB rfl rfl h (fun h => by cases h; exact rfl)
  · show eG _ 154 11 [some (.ref 49), some (.int (zI l1)), some (.int (zI l2)), some (.int (zI l3)), some (.int (zI l4))] [] (rd S) _
    refine g_run 4 16 [some (.ref 49), some (.int (zI l1)), some (.int (zI l2)), some (.int (zI l3)), some (.int (zI l4))] [.int (zI l4), .int (zI l3), .ref 49, .int (zI l2)] (rd S) rfl ?_
    refine s_vir (fun z => some (.int (zI z))) (fun _ => rd S) rfl rfl rfl (rd_o49 _) rfl rfl (fun z hz => sM_moreBy o n S l3 l4 hz) rfl h (fun z2 h => ?_)
    show eG _ 154 19 [some (.ref 49), some (.int (zI l1)), some (.int (zI l2)), some (.int (zI l3)), some (.int (zI l4))] [.int (zI z2), .int (zI l2)] (rd S) _
    refine s_iadd rfl ?_
    refine s_if_lt rfl h (fun h => ?_) (fun h => ?_)
    · show eG _ 154 27 [some (.ref 49), some (.int (zI l1)), some (.int (zI l2)), some (.int (zI l3)), some (.int (zI l4))] [] (rd S) _
      refine g_run 1 28 [some (.ref 49), some (.int (zI l1)), some (.int (zI l2)), some (.int (zI l3)), some (.int (zI l4))] [.int (zI 0)] (rd S) rfl ?_
      exact s_retB rfl rfl h (fun h => by cases h; exact rfl)
    · show eG _ 154 23 [some (.ref 49), some (.int (zI l1)), some (.int (zI l2)), some (.int (zI l3)), some (.int (zI l4))] [] (rd S) _
      refine g_run 2 28 [some (.ref 49), some (.int (zI l1)), some (.int (zI l2)), some (.int (zI l3)), some (.int (zI l4))] [.int (zI 1)] (rd S) rfl ?_
      exact s_retB rfl rfl h (fun h => by cases h; exact rfl)
def fM_may (n : Nat) (S : ZS) (l1 l2 : Int) : Option (Int) := gC l1 0 (gC l2 0 ((fM_isWeek n S (zF S 49 2) l1 l2).bind fun z1 => gC z1 0 (if z1 = 0 then some (-1) else (fM_isLawful n S (zF S 49 2) (zF S 49 4) l1 l2).bind fun z2 => gC z2 0 (if z2 = 0 then some 0 else some 1))))
set_option maxRecDepth 100000 in
set_option maxHeartbeats 4000000 in
theorem sM_may (o : eO) (n : Nat) (S : ZS) (l1 l2 : Int) {w : Int} (h : fM_may n S l1 l2 = some w) : eG o 152 0 (eEnt 152 [.ref 49, .int (zI l1), .int (zI l2)]) [] (rd S) (rv (some (.int (zI w))) (rd S)) := by
  unfold fM_may at h
  show eG o 152 0 [some (.ref 49), some (.int (zI l1)), some (.int (zI l2))] [] (rd S) _
  refine g_run 2 2 [some (.ref 49), some (.int (zI l1)), some (.int (zI l2))] [.ref 49, .ref 49] (rd S) rfl ?_
  refine g_getf rfl rfl (rd_o49 _) rfl ?_
  show eG _ 152 5 [some (.ref 49), some (.int (zI l1)), some (.int (zI l2))] [.int (zI (zF S 49 2)), .ref 49] (rd S) _
  refine g_run 1 6 [some (.ref 49), some (.int (zI l1)), some (.int (zI l2))] [.int (zI l1), .int (zI (zF S 49 2)), .ref 49] (rd S) rfl ?_
  refine s_i2l rfl h (fun h => ?_)
  refine g_run 1 8 [some (.ref 49), some (.int (zI l1)), some (.int (zI l2))] [.int (zI l2), .long (zL l1), .int (zI (zF S 49 2)), .ref 49] (rd S) rfl ?_
  refine s_i2l rfl h (fun h => ?_)
  refine s_vir (fun z => some (.int (zI z))) (fun _ => rd S) rfl rfl rfl (rd_o49 _) rfl rfl (fun z hz => sM_isWeek o n S (zF S 49 2) l1 l2 hz) rfl h (fun z1 h => ?_)
  show eG _ 152 12 [some (.ref 49), some (.int (zI l1)), some (.int (zI l2))] [.int (zI z1)] (rd S) _
  refine s_if_ne rfl h (fun h => ?_) (fun h => ?_)
  · show eG _ 152 19 [some (.ref 49), some (.int (zI l1)), some (.int (zI l2))] [] (rd S) _
    refine g_run 2 21 [some (.ref 49), some (.int (zI l1)), some (.int (zI l2))] [.ref 49, .ref 49] (rd S) rfl ?_
    refine g_getf rfl rfl (rd_o49 _) rfl ?_
    show eG _ 152 24 [some (.ref 49), some (.int (zI l1)), some (.int (zI l2))] [.int (zI (zF S 49 2)), .ref 49] (rd S) _
    refine g_run 1 25 [some (.ref 49), some (.int (zI l1)), some (.int (zI l2))] [.ref 49, .int (zI (zF S 49 2)), .ref 49] (rd S) rfl ?_
    refine g_getf rfl rfl (rd_o49 _) rfl ?_
    show eG _ 152 28 [some (.ref 49), some (.int (zI l1)), some (.int (zI l2))] [.int (zI (zF S 49 4)), .int (zI (zF S 49 2)), .ref 49] (rd S) _
    refine g_run 2 30 [some (.ref 49), some (.int (zI l1)), some (.int (zI l2))] [.int (zI l2), .int (zI l1), .int (zI (zF S 49 4)), .int (zI (zF S 49 2)), .ref 49] (rd S) rfl ?_
    refine s_vir (fun z => some (.int (zI z))) (fun _ => rd S) rfl rfl rfl (rd_o49 _) rfl rfl (fun z hz => sM_isLawful o n S (zF S 49 2) (zF S 49 4) l1 l2 hz) rfl h (fun z2 h => ?_)
    show eG _ 152 33 [some (.ref 49), some (.int (zI l1)), some (.int (zI l2))] [.int (zI z2)] (rd S) _
    refine s_if_eq rfl h (fun h => ?_) (fun h => ?_)
    · show eG _ 152 40 [some (.ref 49), some (.int (zI l1)), some (.int (zI l2))] [] (rd S) _
      refine g_run 1 41 [some (.ref 49), some (.int (zI l1)), some (.int (zI l2))] [.int (zI 0)] (rd S) rfl ?_
      cases h
      exact s_ret rfl rfl rfl
    · show eG _ 152 36 [some (.ref 49), some (.int (zI l1)), some (.int (zI l2))] [] (rd S) _
      refine g_run 2 41 [some (.ref 49), some (.int (zI l1)), some (.int (zI l2))] [.int (zI 1)] (rd S) rfl ?_
      cases h
      exact s_ret rfl rfl rfl
  · show eG _ 152 15 [some (.ref 49), some (.int (zI l1)), some (.int (zI l2))] [] (rd S) _
    refine g_run 2 41 [some (.ref 49), some (.int (zI l1)), some (.int (zI l2))] [.int (zI (-1))] (rd S) rfl ?_
    cases h
    exact s_ret rfl rfl rfl
def fM_most (n : Nat) (S : ZS) (l0 : Int) : Option (Int) := gC l0 999 (if 999 < l0 then some 999 else some l0)
set_option maxRecDepth 100000 in
set_option maxHeartbeats 4000000 in
theorem sM_most (o : eO) (n : Nat) (S : ZS) (l0 : Int) {w : Int} (h : fM_most n S l0 = some w) : eG o 161 0 (eEnt 161 [.int (zI l0)]) [] (rd S) (rv (some (.int (zI w))) (rd S)) := by
  unfold fM_most at h
  show eG o 161 0 [some (.int (zI l0))] [] (rd S) _
  refine g_run 2 4 [some (.int (zI l0))] [.int (zI 999), .int (zI l0)] (rd S) rfl ?_
  refine s_icmp_le rfl h (fun h => ?_) (fun h => ?_)
  · show eG _ 161 13 [some (.int (zI l0))] [] (rd S) _
    refine g_run 1 14 [some (.int (zI l0))] [.int (zI l0)] (rd S) rfl ?_
    cases h
    exact s_ret rfl rfl rfl
  · show eG _ 161 7 [some (.int (zI l0))] [] (rd S) _
    refine g_run 2 14 [some (.int (zI l0))] [.int (zI 999)] (rd S) rfl ?_
    cases h
    exact s_ret rfl rfl rfl
def fM_doWeek (n : Nat) (S : ZS) (l1 l2 : Int) : Option (ZS) := (fM_moreBy n S l1 l2).bind fun z1 => (fM_most n S ((zF S 49 4) + z1)).bind fun z2 => some (wF (wF S 49 4 z2) 49 2 (zor (zand (zF S 49 2) (zxor l1 (-1))) l2))
set_option maxRecDepth 100000 in
set_option maxHeartbeats 4000000 in
theorem sM_doWeek (o : eO) (n : Nat) (S : ZS) (l1 l2 : Int) {w : ZS} (h : fM_doWeek n S l1 l2 = some w) : eG o 160 0 (eEnt 160 [.ref 49, .int (zI l1), .int (zI l2)]) [] (rd S) (rv (none) (rd w)) := by
  unfold fM_doWeek at h
  show eG o 160 0 [some (.ref 49), some (.int (zI l1)), some (.int (zI l2))] [] (rd S) _
  refine g_run 2 2 [some (.ref 49), some (.int (zI l1)), some (.int (zI l2))] [.ref 49, .ref 49] (rd S) rfl ?_
  refine g_getf rfl rfl (rd_o49 _) rfl ?_
  show eG _ 160 5 [some (.ref 49), some (.int (zI l1)), some (.int (zI l2))] [.int (zI (zF S 49 4)), .ref 49] (rd S) _
  refine g_run 3 8 [some (.ref 49), some (.int (zI l1)), some (.int (zI l2))] [.int (zI l2), .int (zI l1), .ref 49, .int (zI (zF S 49 4)), .ref 49] (rd S) rfl ?_
  refine s_vir (fun z => some (.int (zI z))) (fun _ => rd S) rfl rfl rfl (rd_o49 _) rfl rfl (fun z hz => sM_moreBy o n S l1 l2 hz) rfl h (fun z1 h => ?_)
  show eG _ 160 11 [some (.ref 49), some (.int (zI l1)), some (.int (zI l2))] [.int (zI z1), .int (zI (zF S 49 4)), .ref 49] (rd S) _
  refine s_iadd rfl ?_
  refine s_sta (fun z => some (.int (zI z))) (fun _ => rd S) rfl rfl rfl rfl rfl rfl rfl (fun z hz => sM_most o n S ((zF S 49 4) + z1) hz) rfl h (fun z2 h => ?_)
  show eG _ 160 15 [some (.ref 49), some (.int (zI l1)), some (.int (zI l2))] [.int (zI z2), .ref 49] (rd S) _
  refine s_putf rfl rfl (rd_o49 _) rfl rfl rfl rfl rfl (rw_o49_4 _ _) ?_
  show eG _ 160 18 [some (.ref 49), some (.int (zI l1)), some (.int (zI l2))] [] (rd (wF S 49 4 z2)) _
  refine g_run 2 20 [some (.ref 49), some (.int (zI l1)), some (.int (zI l2))] [.ref 49, .ref 49] (rd (wF S 49 4 z2)) rfl ?_
  refine g_getf rfl rfl (rd_o49 _) rfl ?_
  show eG _ 160 23 [some (.ref 49), some (.int (zI l1)), some (.int (zI l2))] [.int (zI (zF S 49 2)), .ref 49] (rd (wF S 49 4 z2)) _
  refine g_run 2 25 [some (.ref 49), some (.int (zI l1)), some (.int (zI l2))] [.int (zI (-1)), .int (zI l1), .int (zI (zF S 49 2)), .ref 49] (rd (wF S 49 4 z2)) rfl ?_
  refine s_ixor rfl ?_
  refine s_iand rfl ?_
  refine g_run 1 28 [some (.ref 49), some (.int (zI l1)), some (.int (zI l2))] [.int (zI l2), .int (zI (zand (zF S 49 2) (zxor l1 (-1)))), .ref 49] (rd (wF S 49 4 z2)) rfl ?_
  refine s_ior rfl ?_
  refine s_putf rfl rfl (rd_o49 _) rfl rfl rfl rfl rfl (rw_o49_2 _ _) ?_
  show eG _ 160 32 [some (.ref 49), some (.int (zI l1)), some (.int (zI l2))] [] (rd (wF (wF S 49 4 z2) 49 2 (zor (zand (zF S 49 2) (zxor l1 (-1))) l2))) _
  cases h
  exact g_retv rfl rfl rfl
def fM_week (n : Nat) (S : ZS) (l1 l2 : Int) : Option (Int × ZS) := gC l1 0 (gC l2 0 ((fM_isWeek n S (zF S 49 2) l1 l2).bind fun z1 => gC z1 0 (if z1 = 0 then some (-1, S) else (fM_isLawful n S (zF S 49 2) (zF S 49 4) l1 l2).bind fun z2 => gC z2 0 (if z2 = 0 then some (-2, S) else (fM_doWeek n S l1 l2).bind fun z3 => some (zF z3 49 4, z3)))))
set_option maxRecDepth 100000 in
set_option maxHeartbeats 4000000 in
theorem sM_week (o : eO) (n : Nat) (S : ZS) (l1 l2 : Int) {w : Int × ZS} (h : fM_week n S l1 l2 = some w) : eG o 159 0 (eEnt 159 [.ref 49, .int (zI l1), .int (zI l2)]) [] (rd S) (rv (some (.int (zI w.1))) (rd w.2)) := by
  unfold fM_week at h
  show eG o 159 0 [some (.ref 49), some (.int (zI l1)), some (.int (zI l2))] [] (rd S) _
  refine g_run 2 2 [some (.ref 49), some (.int (zI l1)), some (.int (zI l2))] [.ref 49, .ref 49] (rd S) rfl ?_
  refine g_getf rfl rfl (rd_o49 _) rfl ?_
  show eG _ 159 5 [some (.ref 49), some (.int (zI l1)), some (.int (zI l2))] [.int (zI (zF S 49 2)), .ref 49] (rd S) _
  refine g_run 1 6 [some (.ref 49), some (.int (zI l1)), some (.int (zI l2))] [.int (zI l1), .int (zI (zF S 49 2)), .ref 49] (rd S) rfl ?_
  refine s_i2l rfl h (fun h => ?_)
  refine g_run 1 8 [some (.ref 49), some (.int (zI l1)), some (.int (zI l2))] [.int (zI l2), .long (zL l1), .int (zI (zF S 49 2)), .ref 49] (rd S) rfl ?_
  refine s_i2l rfl h (fun h => ?_)
  refine s_vir (fun z => some (.int (zI z))) (fun _ => rd S) rfl rfl rfl (rd_o49 _) rfl rfl (fun z hz => sM_isWeek o n S (zF S 49 2) l1 l2 hz) rfl h (fun z1 h => ?_)
  show eG _ 159 12 [some (.ref 49), some (.int (zI l1)), some (.int (zI l2))] [.int (zI z1)] (rd S) _
  refine s_if_ne rfl h (fun h => ?_) (fun h => ?_)
  · show eG _ 159 17 [some (.ref 49), some (.int (zI l1)), some (.int (zI l2))] [] (rd S) _
    refine g_run 2 19 [some (.ref 49), some (.int (zI l1)), some (.int (zI l2))] [.ref 49, .ref 49] (rd S) rfl ?_
    refine g_getf rfl rfl (rd_o49 _) rfl ?_
    show eG _ 159 22 [some (.ref 49), some (.int (zI l1)), some (.int (zI l2))] [.int (zI (zF S 49 2)), .ref 49] (rd S) _
    refine g_run 1 23 [some (.ref 49), some (.int (zI l1)), some (.int (zI l2))] [.ref 49, .int (zI (zF S 49 2)), .ref 49] (rd S) rfl ?_
    refine g_getf rfl rfl (rd_o49 _) rfl ?_
    show eG _ 159 26 [some (.ref 49), some (.int (zI l1)), some (.int (zI l2))] [.int (zI (zF S 49 4)), .int (zI (zF S 49 2)), .ref 49] (rd S) _
    refine g_run 2 28 [some (.ref 49), some (.int (zI l1)), some (.int (zI l2))] [.int (zI l2), .int (zI l1), .int (zI (zF S 49 4)), .int (zI (zF S 49 2)), .ref 49] (rd S) rfl ?_
    refine s_vir (fun z => some (.int (zI z))) (fun _ => rd S) rfl rfl rfl (rd_o49 _) rfl rfl (fun z hz => sM_isLawful o n S (zF S 49 2) (zF S 49 4) l1 l2 hz) rfl h (fun z2 h => ?_)
    show eG _ 159 31 [some (.ref 49), some (.int (zI l1)), some (.int (zI l2))] [.int (zI z2)] (rd S) _
    refine s_if_ne rfl h (fun h => ?_) (fun h => ?_)
    · show eG _ 159 37 [some (.ref 49), some (.int (zI l1)), some (.int (zI l2))] [] (rd S) _
      refine g_run 3 40 [some (.ref 49), some (.int (zI l1)), some (.int (zI l2))] [.int (zI l2), .int (zI l1), .ref 49] (rd S) rfl ?_
      refine s_vir (fun _ => none) (fun z => rd z) rfl rfl rfl (rd_o49 _) rfl rfl (fun z hz => sM_doWeek o n S l1 l2 hz) rfl h (fun z3 h => ?_)
      show eG _ 159 43 [some (.ref 49), some (.int (zI l1)), some (.int (zI l2))] [] (rd z3) _
      refine g_run 1 44 [some (.ref 49), some (.int (zI l1)), some (.int (zI l2))] [.ref 49] (rd z3) rfl ?_
      refine g_getf rfl rfl (rd_o49 _) rfl ?_
      show eG _ 159 47 [some (.ref 49), some (.int (zI l1)), some (.int (zI l2))] [.int (zI (zF z3 49 4))] (rd z3) _
      cases h
      exact s_ret rfl rfl rfl
    · show eG _ 159 34 [some (.ref 49), some (.int (zI l1)), some (.int (zI l2))] [] (rd S) _
      refine g_run 1 36 [some (.ref 49), some (.int (zI l1)), some (.int (zI l2))] [.int (zI (-2))] (rd S) rfl ?_
      cases h
      exact s_ret rfl rfl rfl
  · show eG _ 159 15 [some (.ref 49), some (.int (zI l1)), some (.int (zI l2))] [] (rd S) _
    refine g_run 1 16 [some (.ref 49), some (.int (zI l1)), some (.int (zI l2))] [.int (zI (-1))] (rd S) rfl ?_
    cases h
    exact s_ret rfl rfl rfl
def fM_findSets_1 : Nat → ZS → Int → Option (ZS)
  | 0, _, _ => none
  | n + 1, S, l1 => gC l1 (zshl 1 (zF S 49 1)) (if l1 < (zshl 1 (zF S 49 1)) then (fM_yardsOf n S l1).bind fun z1 => gX l1 256 ((fM_rests n (wA S 54 l1 z1) l1).bind fun z2 => gB z2 (gX l1 256 ((fM_moreBy n (wA (wA S 54 l1 z1) 55 l1 z2) l1 0).bind fun z3 => gX l1 256 ((fM_moreBy n (wA (wA (wA S 54 l1 z1) 55 l1 z2) 56 l1 z3) 0 l1).bind fun z4 => gX l1 256 (fM_findSets_1 n (wA (wA (wA (wA S 54 l1 z1) 55 l1 z2) 56 l1 z3) 57 l1 (-z4)) (l1 + 1)))))) else some S)
set_option maxRecDepth 100000 in
set_option maxHeartbeats 4000000 in
theorem sM_findSets_1 (o : eO) : ∀ (n : Nat) (S : ZS) (l1 : Int) {w : ZS} {r : eP} (h : fM_findSets_1 n S l1 = some w) (hk : eG o 165 65 [none, none] [] (rd w) r), eG o 165 2 [some (.ref 49), some (.int (zI l1))] [] (rd S) r := by
  intro n
  induction n with
  | zero => intro S l1 w r h hk; unfold fM_findSets_1 at h; cases h
  | succ n ih =>
    intro S l1 w r h hk
    unfold fM_findSets_1 at h
    refine g_run 3 5 [some (.ref 49), some (.int (zI l1))] [.ref 49, .int (zI 1), .int (zI l1)] (rd S) rfl ?_
    refine g_getf rfl rfl (rd_o49 _) rfl ?_
    show eG _ 165 8 [some (.ref 49), some (.int (zI l1))] [.int (zI (zF S 49 1)), .int (zI 1), .int (zI l1)] (rd S) _
    refine s_ishl rfl ?_
    refine s_icmp_ge rfl h (fun h => ?_) (fun h => ?_)
    · show eG _ 165 65 [some (.ref 49), some (.int (zI l1))] [] (rd S) _
      refine g_fgt [true, true] ?_
      show eG _ 165 65 [none, none] [] (rd S) _
      cases h
      exact hk
    · show eG _ 165 12 [some (.ref 49), some (.int (zI l1))] [] (rd S) _
      refine g_run 1 13 [some (.ref 49), some (.int (zI l1))] [.ref 49] (rd S) rfl ?_
      refine g_getf rfl rfl (rd_o49 _) rfl ?_
      show eG _ 165 16 [some (.ref 49), some (.int (zI l1))] [.ref 54] (rd S) _
      refine g_run 3 19 [some (.ref 49), some (.int (zI l1))] [.int (zI l1), .ref 49, .int (zI l1), .ref 54] (rd S) rfl ?_
      refine s_vir (fun z => some (.int (zI z))) (fun _ => rd S) rfl rfl rfl (rd_o49 _) rfl rfl (fun z hz => sM_yardsOf o n S l1 hz) rfl h (fun z1 h => ?_)
      show eG _ 165 22 [some (.ref 49), some (.int (zI l1))] [.int (zI z1), .int (zI l1), .ref 54] (rd S) _
      refine s_iast rfl (rd_a54 _) (rw_a54 _ _) h (fun h => ?_)
      show eG _ 165 23 [some (.ref 49), some (.int (zI l1))] [] (rd (wA S 54 l1 z1)) _
      refine g_run 1 24 [some (.ref 49), some (.int (zI l1))] [.ref 49] (rd (wA S 54 l1 z1)) rfl ?_
      refine g_getf rfl rfl (rd_o49 _) rfl ?_
      show eG _ 165 27 [some (.ref 49), some (.int (zI l1))] [.ref 55] (rd (wA S 54 l1 z1)) _
      refine g_run 3 30 [some (.ref 49), some (.int (zI l1))] [.int (zI l1), .ref 49, .int (zI l1), .ref 55] (rd (wA S 54 l1 z1)) rfl ?_
      refine s_vir (fun z => some (.int (zI z))) (fun _ => rd (wA S 54 l1 z1)) rfl rfl rfl (rd_o49 _) rfl rfl (fun z hz => sM_rests o n (wA S 54 l1 z1) l1 hz) rfl h (fun z2 h => ?_)
      show eG _ 165 33 [some (.ref 49), some (.int (zI l1))] [.int (zI z2), .int (zI l1), .ref 55] (rd (wA S 54 l1 z1)) _
      refine s_bast rfl (rd_a55 _) (rw_a55 _ _) h (fun h => ?_)
      show eG _ 165 34 [some (.ref 49), some (.int (zI l1))] [] (rd (wA (wA S 54 l1 z1) 55 l1 z2)) _
      refine g_run 1 35 [some (.ref 49), some (.int (zI l1))] [.ref 49] (rd (wA (wA S 54 l1 z1) 55 l1 z2)) rfl ?_
      refine g_getf rfl rfl (rd_o49 _) rfl ?_
      show eG _ 165 38 [some (.ref 49), some (.int (zI l1))] [.ref 56] (rd (wA (wA S 54 l1 z1) 55 l1 z2)) _
      refine g_run 4 42 [some (.ref 49), some (.int (zI l1))] [.int (zI 0), .int (zI l1), .ref 49, .int (zI l1), .ref 56] (rd (wA (wA S 54 l1 z1) 55 l1 z2)) rfl ?_
      refine s_vir (fun z => some (.int (zI z))) (fun _ => rd (wA (wA S 54 l1 z1) 55 l1 z2)) rfl rfl rfl (rd_o49 _) rfl rfl (fun z hz => sM_moreBy o n (wA (wA S 54 l1 z1) 55 l1 z2) l1 0 hz) rfl h (fun z3 h => ?_)
      show eG _ 165 45 [some (.ref 49), some (.int (zI l1))] [.int (zI z3), .int (zI l1), .ref 56] (rd (wA (wA S 54 l1 z1) 55 l1 z2)) _
      refine s_iast rfl (rd_a56 _) (rw_a56 _ _) h (fun h => ?_)
      show eG _ 165 46 [some (.ref 49), some (.int (zI l1))] [] (rd (wA (wA (wA S 54 l1 z1) 55 l1 z2) 56 l1 z3)) _
      refine g_run 1 47 [some (.ref 49), some (.int (zI l1))] [.ref 49] (rd (wA (wA (wA S 54 l1 z1) 55 l1 z2) 56 l1 z3)) rfl ?_
      refine g_getf rfl rfl (rd_o49 _) rfl ?_
      show eG _ 165 50 [some (.ref 49), some (.int (zI l1))] [.ref 57] (rd (wA (wA (wA S 54 l1 z1) 55 l1 z2) 56 l1 z3)) _
      refine g_run 4 54 [some (.ref 49), some (.int (zI l1))] [.int (zI l1), .int (zI 0), .ref 49, .int (zI l1), .ref 57] (rd (wA (wA (wA S 54 l1 z1) 55 l1 z2) 56 l1 z3)) rfl ?_
      refine s_vir (fun z => some (.int (zI z))) (fun _ => rd (wA (wA (wA S 54 l1 z1) 55 l1 z2) 56 l1 z3)) rfl rfl rfl (rd_o49 _) rfl rfl (fun z hz => sM_moreBy o n (wA (wA (wA S 54 l1 z1) 55 l1 z2) 56 l1 z3) 0 l1 hz) rfl h (fun z4 h => ?_)
      show eG _ 165 57 [some (.ref 49), some (.int (zI l1))] [.int (zI z4), .int (zI l1), .ref 57] (rd (wA (wA (wA S 54 l1 z1) 55 l1 z2) 56 l1 z3)) _
      refine s_ineg rfl ?_
      refine s_iast rfl (rd_a57 _) (rw_a57 _ _) h (fun h => ?_)
      show eG _ 165 59 [some (.ref 49), some (.int (zI l1))] [] (rd (wA (wA (wA (wA S 54 l1 z1) 55 l1 z2) 56 l1 z3) 57 l1 (-z4))) _
      refine s_iinc (L' := [some (.ref 49), some (.int (zI (l1 + 1)))]) rfl rfl rfl ?_
      refine g_run 1 2 [some (.ref 49), some (.int (zI (l1 + 1)))] [] (rd (wA (wA (wA (wA S 54 l1 z1) 55 l1 z2) 56 l1 z3) 57 l1 (-z4))) rfl ?_
      exact ih (wA (wA (wA (wA S 54 l1 z1) 55 l1 z2) 56 l1 z3) 57 l1 (-z4)) (l1 + 1) h hk
def fM_findSets (n : Nat) (S : ZS) : Option (ZS) := (fM_findSets_1 n S 0).bind fun z1 => some z1
set_option maxRecDepth 100000 in
set_option maxHeartbeats 4000000 in
theorem sM_findSets (o : eO) (n : Nat) (S : ZS) {w : ZS} (h : fM_findSets n S = some w) : eG o 165 0 (eEnt 165 [.ref 49]) [] (rd S) (rv (none) (rd w)) := by
  unfold fM_findSets at h
  show eG o 165 0 [some (.ref 49), none] [] (rd S) _
  refine g_run 2 2 [some (.ref 49), some (.int (zI 0))] [] (rd S) rfl ?_
  obtain ⟨z1, h1, h⟩ := zB_inv h
  refine sM_findSets_1 o n S 0 h1 ?_
  show eG _ 165 65 [none, none] [] (rd z1) _
  cases h
  exact g_retv rfl rfl rfl
def fM_needBy_1 : Nat → ZS → Int → Int → Int → Int → Int → Int → Option ((Int) ⊕ (Unit))
  | 0, _, _, _, _, _, _, _ => none
  | n + 1, S, l1, l2, l3, l4, l5, l6 => gC l6 (zF S 49 7) (if l6 < (zF S 49 7) then gX l6 4 (gC (zand (zand (zA S 51 l6) l1) l2) 0 (if (zand (zand (zA S 51 l6) l1) l2) = 0 then some (.inl 1000000) else fM_needBy_1 n S l1 l2 l3 l4 l5 (l6 + 1))) else some (.inr ()))
set_option maxRecDepth 100000 in
set_option maxHeartbeats 4000000 in
theorem sM_needBy_1 (o : eO) : ∀ (n : Nat) (S : ZS) (l1 l2 l3 l4 l5 l6 : Int) {w : (Int) ⊕ (Unit)} {r : eP} (h : fM_needBy_1 n S l1 l2 l3 l4 l5 l6 = some w) (hr : ∀ v, w = .inl v → r (some (.int (zI v)), rd S)) (hk : ∀ x, w = .inr x → eG o 166 90 [some (.ref 49), none, none, some (.int (zI l3)), some (.int (zI l4)), some (.int (zI l5)), none, none] [] (rd S) r), eG o 166 58 [some (.ref 49), some (.int (zI l1)), some (.int (zI l2)), some (.int (zI l3)), some (.int (zI l4)), some (.int (zI l5)), some (.int (zI l6)), none] [] (rd S) r := by
  intro n
  induction n with
  | zero => intro S l1 l2 l3 l4 l5 l6 w r h hr hk; unfold fM_needBy_1 at h; cases h
  | succ n ih =>
    intro S l1 l2 l3 l4 l5 l6 w r h hr hk
    unfold fM_needBy_1 at h
    refine g_run 2 61 [some (.ref 49), some (.int (zI l1)), some (.int (zI l2)), some (.int (zI l3)), some (.int (zI l4)), some (.int (zI l5)), some (.int (zI l6)), none] [.ref 49, .int (zI l6)] (rd S) rfl ?_
    refine g_getf rfl rfl (rd_o49 _) rfl ?_
    show eG _ 166 64 [some (.ref 49), some (.int (zI l1)), some (.int (zI l2)), some (.int (zI l3)), some (.int (zI l4)), some (.int (zI l5)), some (.int (zI l6)), none] [.int (zI (zF S 49 7)), .int (zI l6)] (rd S) _
    refine s_icmp_ge rfl h (fun h => ?_) (fun h => ?_)
    · show eG _ 166 90 [some (.ref 49), some (.int (zI l1)), some (.int (zI l2)), some (.int (zI l3)), some (.int (zI l4)), some (.int (zI l5)), some (.int (zI l6)), none] [] (rd S) _
      refine g_fgt [false, true, true, false, false, false, true, true] ?_
      show eG _ 166 90 [some (.ref 49), none, none, some (.int (zI l3)), some (.int (zI l4)), some (.int (zI l5)), none, none] [] (rd S) _
      cases h
      exact hk _ rfl
    · show eG _ 166 67 [some (.ref 49), some (.int (zI l1)), some (.int (zI l2)), some (.int (zI l3)), some (.int (zI l4)), some (.int (zI l5)), some (.int (zI l6)), none] [] (rd S) _
      refine g_run 1 68 [some (.ref 49), some (.int (zI l1)), some (.int (zI l2)), some (.int (zI l3)), some (.int (zI l4)), some (.int (zI l5)), some (.int (zI l6)), none] [.ref 49] (rd S) rfl ?_
      refine g_getf rfl rfl (rd_o49 _) rfl ?_
      show eG _ 166 71 [some (.ref 49), some (.int (zI l1)), some (.int (zI l2)), some (.int (zI l3)), some (.int (zI l4)), some (.int (zI l5)), some (.int (zI l6)), none] [.ref 51] (rd S) _
      refine g_run 1 73 [some (.ref 49), some (.int (zI l1)), some (.int (zI l2)), some (.int (zI l3)), some (.int (zI l4)), some (.int (zI l5)), some (.int (zI l6)), none] [.int (zI l6), .ref 51] (rd S) rfl ?_
      refine s_iald rfl (rd_a51 _) h (fun h => ?_)
      show eG _ 166 74 [some (.ref 49), some (.int (zI l1)), some (.int (zI l2)), some (.int (zI l3)), some (.int (zI l4)), some (.int (zI l5)), some (.int (zI l6)), none] [.int (zI (zA S 51 l6))] (rd S) _
      refine g_run 1 75 [some (.ref 49), some (.int (zI l1)), some (.int (zI l2)), some (.int (zI l3)), some (.int (zI l4)), some (.int (zI l5)), some (.int (zI l6)), none] [.int (zI l1), .int (zI (zA S 51 l6))] (rd S) rfl ?_
      refine s_iand rfl ?_
      refine g_run 1 77 [some (.ref 49), some (.int (zI l1)), some (.int (zI l2)), some (.int (zI l3)), some (.int (zI l4)), some (.int (zI l5)), some (.int (zI l6)), none] [.int (zI l2), .int (zI (zand (zA S 51 l6) l1))] (rd S) rfl ?_
      refine s_iand rfl ?_
      refine s_if_ne rfl h (fun h => ?_) (fun h => ?_)
      · show eG _ 166 84 [some (.ref 49), some (.int (zI l1)), some (.int (zI l2)), some (.int (zI l3)), some (.int (zI l4)), some (.int (zI l5)), some (.int (zI l6)), none] [] (rd S) _
        refine s_iinc (L' := [some (.ref 49), some (.int (zI l1)), some (.int (zI l2)), some (.int (zI l3)), some (.int (zI l4)), some (.int (zI l5)), some (.int (zI (l6 + 1))), none]) rfl rfl rfl ?_
        refine g_run 1 58 [some (.ref 49), some (.int (zI l1)), some (.int (zI l2)), some (.int (zI l3)), some (.int (zI l4)), some (.int (zI l5)), some (.int (zI (l6 + 1))), none] [] (rd S) rfl ?_
        exact ih S l1 l2 l3 l4 l5 (l6 + 1) h hr hk
      · show eG _ 166 81 [some (.ref 49), some (.int (zI l1)), some (.int (zI l2)), some (.int (zI l3)), some (.int (zI l4)), some (.int (zI l5)), some (.int (zI l6)), none] [] (rd S) _
        refine g_run 1 83 [some (.ref 49), some (.int (zI l1)), some (.int (zI l2)), some (.int (zI l3)), some (.int (zI l4)), some (.int (zI l5)), some (.int (zI l6)), none] [.int (zI 1000000)] (rd S) rfl ?_
        cases h
        exact s_ret rfl rfl (hr _ rfl)
def fM_needBy (n : Nat) (S : ZS) (l1 l2 l3 : Int) : Option (Int) := gC l3 999 (if 999 < l3 then some 1000000 else gX (zand l1 (zxor l2 (-1))) 256 (gX (zand l2 (zxor l1 (-1))) 256 (gC ((zA S 54 (zand l1 (zxor l2 (-1)))) + (zA S 54 (zand l2 (zxor l1 (-1))))) (zF S 49 5) (if (zF S 49 5) < ((zA S 54 (zand l1 (zxor l2 (-1)))) + (zA S 54 (zand l2 (zxor l1 (-1))))) then some 1000000 else gX l2 256 (gC (zA S 55 l2) 0 (if (zA S 55 l2) = 0 then some 1000000 else zR (fM_needBy_1 n S l1 l2 l3 (zand l1 (zxor l2 (-1))) (zand l2 (zxor l1 (-1))) 0) fun z1 => gX (zand l1 (zxor l2 (-1))) 256 (gX (zand l2 (zxor l1 (-1))) 256 ((gC (l3 - ((zA S 56 (zand l1 (zxor l2 (-1)))) - (zA S 57 (zand l2 (zxor l1 (-1)))))) (-((zA S 56 (zand l1 (zxor l2 (-1)))) - (zA S 57 (zand l2 (zxor l1 (-1)))))) (if (-((zA S 56 (zand l1 (zxor l2 (-1)))) - (zA S 57 (zand l2 (zxor l1 (-1)))))) < (l3 - ((zA S 56 (zand l1 (zxor l2 (-1)))) - (zA S 57 (zand l2 (zxor l1 (-1)))))) then some (l3 - ((zA S 56 (zand l1 (zxor l2 (-1)))) - (zA S 57 (zand l2 (zxor l1 (-1)))))) else some (-((zA S 56 (zand l1 (zxor l2 (-1)))) - (zA S 57 (zand l2 (zxor l1 (-1)))))))).bind fun z2 => gC z2 999 (if 999 < z2 then some 1000000 else gC z2 0 (if z2 < 0 then some 0 else some z2))))))))))
set_option maxRecDepth 100000 in
set_option maxHeartbeats 4000000 in
theorem sM_needBy (o : eO) (n : Nat) (S : ZS) (l1 l2 l3 : Int) {w : Int} (h : fM_needBy n S l1 l2 l3 = some w) : eG o 166 0 (eEnt 166 [.ref 49, .int (zI l1), .int (zI l2), .int (zI l3)]) [] (rd S) (rv (some (.int (zI w))) (rd S)) := by
  unfold fM_needBy at h
  show eG o 166 0 [some (.ref 49), some (.int (zI l1)), some (.int (zI l2)), some (.int (zI l3)), none, none, none, none] [] (rd S) _
  refine g_run 3 3 [some (.ref 49), some (.int (zI l1)), some (.int (zI l2)), some (.int (zI l3)), none, none, none, none] [.int (zI (-1)), .int (zI l2), .int (zI l1)] (rd S) rfl ?_
  refine s_ixor rfl ?_
  refine s_iand rfl ?_
  refine g_run 4 10 [some (.ref 49), some (.int (zI l1)), some (.int (zI l2)), some (.int (zI l3)), some (.int (zI (zand l1 (zxor l2 (-1))))), none, none, none] [.int (zI (-1)), .int (zI l1), .int (zI l2)] (rd S) rfl ?_
  refine s_ixor rfl ?_
  refine s_iand rfl ?_
  refine g_run 3 18 [some (.ref 49), some (.int (zI l1)), some (.int (zI l2)), some (.int (zI l3)), some (.int (zI (zand l1 (zxor l2 (-1))))), some (.int (zI (zand l2 (zxor l1 (-1))))), none, none] [.int (zI 999), .int (zI l3)] (rd S) rfl ?_
  refine s_icmp_gt rfl h (fun h => ?_) (fun h => ?_)
  · show eG _ 166 52 [some (.ref 49), some (.int (zI l1)), some (.int (zI l2)), some (.int (zI l3)), some (.int (zI (zand l1 (zxor l2 (-1))))), some (.int (zI (zand l2 (zxor l1 (-1))))), none, none] [] (rd S) _
    refine g_run 1 54 [some (.ref 49), some (.int (zI l1)), some (.int (zI l2)), some (.int (zI l3)), some (.int (zI (zand l1 (zxor l2 (-1))))), some (.int (zI (zand l2 (zxor l1 (-1))))), none, none] [.int (zI 1000000)] (rd S) rfl ?_
    cases h
    exact s_ret rfl rfl rfl
  · show eG _ 166 21 [some (.ref 49), some (.int (zI l1)), some (.int (zI l2)), some (.int (zI l3)), some (.int (zI (zand l1 (zxor l2 (-1))))), some (.int (zI (zand l2 (zxor l1 (-1))))), none, none] [] (rd S) _
    refine g_run 1 22 [some (.ref 49), some (.int (zI l1)), some (.int (zI l2)), some (.int (zI l3)), some (.int (zI (zand l1 (zxor l2 (-1))))), some (.int (zI (zand l2 (zxor l1 (-1))))), none, none] [.ref 49] (rd S) rfl ?_
    refine g_getf rfl rfl (rd_o49 _) rfl ?_
    show eG _ 166 25 [some (.ref 49), some (.int (zI l1)), some (.int (zI l2)), some (.int (zI l3)), some (.int (zI (zand l1 (zxor l2 (-1))))), some (.int (zI (zand l2 (zxor l1 (-1))))), none, none] [.ref 54] (rd S) _
    refine g_run 1 27 [some (.ref 49), some (.int (zI l1)), some (.int (zI l2)), some (.int (zI l3)), some (.int (zI (zand l1 (zxor l2 (-1))))), some (.int (zI (zand l2 (zxor l1 (-1))))), none, none] [.int (zI (zand l1 (zxor l2 (-1)))), .ref 54] (rd S) rfl ?_
    refine s_iald rfl (rd_a54 _) h (fun h => ?_)
    show eG _ 166 28 [some (.ref 49), some (.int (zI l1)), some (.int (zI l2)), some (.int (zI l3)), some (.int (zI (zand l1 (zxor l2 (-1))))), some (.int (zI (zand l2 (zxor l1 (-1))))), none, none] [.int (zI (zA S 54 (zand l1 (zxor l2 (-1)))))] (rd S) _
    refine g_run 1 29 [some (.ref 49), some (.int (zI l1)), some (.int (zI l2)), some (.int (zI l3)), some (.int (zI (zand l1 (zxor l2 (-1))))), some (.int (zI (zand l2 (zxor l1 (-1))))), none, none] [.ref 49, .int (zI (zA S 54 (zand l1 (zxor l2 (-1)))))] (rd S) rfl ?_
    refine g_getf rfl rfl (rd_o49 _) rfl ?_
    show eG _ 166 32 [some (.ref 49), some (.int (zI l1)), some (.int (zI l2)), some (.int (zI l3)), some (.int (zI (zand l1 (zxor l2 (-1))))), some (.int (zI (zand l2 (zxor l1 (-1))))), none, none] [.ref 54, .int (zI (zA S 54 (zand l1 (zxor l2 (-1)))))] (rd S) _
    refine g_run 1 34 [some (.ref 49), some (.int (zI l1)), some (.int (zI l2)), some (.int (zI l3)), some (.int (zI (zand l1 (zxor l2 (-1))))), some (.int (zI (zand l2 (zxor l1 (-1))))), none, none] [.int (zI (zand l2 (zxor l1 (-1)))), .ref 54, .int (zI (zA S 54 (zand l1 (zxor l2 (-1)))))] (rd S) rfl ?_
    refine s_iald rfl (rd_a54 _) h (fun h => ?_)
    show eG _ 166 35 [some (.ref 49), some (.int (zI l1)), some (.int (zI l2)), some (.int (zI l3)), some (.int (zI (zand l1 (zxor l2 (-1))))), some (.int (zI (zand l2 (zxor l1 (-1))))), none, none] [.int (zI (zA S 54 (zand l2 (zxor l1 (-1))))), .int (zI (zA S 54 (zand l1 (zxor l2 (-1)))))] (rd S) _
    refine s_iadd rfl ?_
    refine g_run 1 37 [some (.ref 49), some (.int (zI l1)), some (.int (zI l2)), some (.int (zI l3)), some (.int (zI (zand l1 (zxor l2 (-1))))), some (.int (zI (zand l2 (zxor l1 (-1))))), none, none] [.ref 49, .int (zI ((zA S 54 (zand l1 (zxor l2 (-1)))) + (zA S 54 (zand l2 (zxor l1 (-1))))))] (rd S) rfl ?_
    refine g_getf rfl rfl (rd_o49 _) rfl ?_
    show eG _ 166 40 [some (.ref 49), some (.int (zI l1)), some (.int (zI l2)), some (.int (zI l3)), some (.int (zI (zand l1 (zxor l2 (-1))))), some (.int (zI (zand l2 (zxor l1 (-1))))), none, none] [.int (zI (zF S 49 5)), .int (zI ((zA S 54 (zand l1 (zxor l2 (-1)))) + (zA S 54 (zand l2 (zxor l1 (-1))))))] (rd S) _
    refine s_icmp_gt rfl h (fun h => ?_) (fun h => ?_)
    · show eG _ 166 52 [some (.ref 49), some (.int (zI l1)), some (.int (zI l2)), some (.int (zI l3)), some (.int (zI (zand l1 (zxor l2 (-1))))), some (.int (zI (zand l2 (zxor l1 (-1))))), none, none] [] (rd S) _
      refine g_run 1 54 [some (.ref 49), some (.int (zI l1)), some (.int (zI l2)), some (.int (zI l3)), some (.int (zI (zand l1 (zxor l2 (-1))))), some (.int (zI (zand l2 (zxor l1 (-1))))), none, none] [.int (zI 1000000)] (rd S) rfl ?_
      cases h
      exact s_ret rfl rfl rfl
    · show eG _ 166 43 [some (.ref 49), some (.int (zI l1)), some (.int (zI l2)), some (.int (zI l3)), some (.int (zI (zand l1 (zxor l2 (-1))))), some (.int (zI (zand l2 (zxor l1 (-1))))), none, none] [] (rd S) _
      refine g_run 1 44 [some (.ref 49), some (.int (zI l1)), some (.int (zI l2)), some (.int (zI l3)), some (.int (zI (zand l1 (zxor l2 (-1))))), some (.int (zI (zand l2 (zxor l1 (-1))))), none, none] [.ref 49] (rd S) rfl ?_
      refine g_getf rfl rfl (rd_o49 _) rfl ?_
      show eG _ 166 47 [some (.ref 49), some (.int (zI l1)), some (.int (zI l2)), some (.int (zI l3)), some (.int (zI (zand l1 (zxor l2 (-1))))), some (.int (zI (zand l2 (zxor l1 (-1))))), none, none] [.ref 55] (rd S) _
      refine g_run 1 48 [some (.ref 49), some (.int (zI l1)), some (.int (zI l2)), some (.int (zI l3)), some (.int (zI (zand l1 (zxor l2 (-1))))), some (.int (zI (zand l2 (zxor l1 (-1))))), none, none] [.int (zI l2), .ref 55] (rd S) rfl ?_
      refine s_bald rfl (rd_a55 _) h (fun h => ?_)
      show eG _ 166 49 [some (.ref 49), some (.int (zI l1)), some (.int (zI l2)), some (.int (zI l3)), some (.int (zI (zand l1 (zxor l2 (-1))))), some (.int (zI (zand l2 (zxor l1 (-1))))), none, none] [.int (zI (zA S 55 l2))] (rd S) _
      refine s_if_ne rfl h (fun h => ?_) (fun h => ?_)
      · show eG _ 166 55 [some (.ref 49), some (.int (zI l1)), some (.int (zI l2)), some (.int (zI l3)), some (.int (zI (zand l1 (zxor l2 (-1))))), some (.int (zI (zand l2 (zxor l1 (-1))))), none, none] [] (rd S) _
        refine g_run 2 58 [some (.ref 49), some (.int (zI l1)), some (.int (zI l2)), some (.int (zI l3)), some (.int (zI (zand l1 (zxor l2 (-1))))), some (.int (zI (zand l2 (zxor l1 (-1))))), some (.int (zI 0)), none] [] (rd S) rfl ?_
        rcases zR_inv h with h1 | ⟨z1, h1, h⟩
        · exact sM_needBy_1 o n S l1 l2 l3 (zand l1 (zxor l2 (-1))) (zand l2 (zxor l1 (-1))) 0 h1 (fun v e => by cases e; rfl) (fun x e => by cases e)
        refine sM_needBy_1 o n S l1 l2 l3 (zand l1 (zxor l2 (-1))) (zand l2 (zxor l1 (-1))) 0 h1 (fun v e => by cases e) (fun x e => ?_)
        cases e
        show eG _ 166 90 [some (.ref 49), none, none, some (.int (zI l3)), some (.int (zI (zand l1 (zxor l2 (-1))))), some (.int (zI (zand l2 (zxor l1 (-1))))), none, none] [] (rd S) _
        refine g_run 1 91 [some (.ref 49), none, none, some (.int (zI l3)), some (.int (zI (zand l1 (zxor l2 (-1))))), some (.int (zI (zand l2 (zxor l1 (-1))))), none, none] [.ref 49] (rd S) rfl ?_
        refine g_getf rfl rfl (rd_o49 _) rfl ?_
        show eG _ 166 94 [some (.ref 49), none, none, some (.int (zI l3)), some (.int (zI (zand l1 (zxor l2 (-1))))), some (.int (zI (zand l2 (zxor l1 (-1))))), none, none] [.ref 56] (rd S) _
        refine g_run 1 96 [some (.ref 49), none, none, some (.int (zI l3)), some (.int (zI (zand l1 (zxor l2 (-1))))), some (.int (zI (zand l2 (zxor l1 (-1))))), none, none] [.int (zI (zand l1 (zxor l2 (-1)))), .ref 56] (rd S) rfl ?_
        refine s_iald rfl (rd_a56 _) h (fun h => ?_)
        show eG _ 166 97 [some (.ref 49), none, none, some (.int (zI l3)), some (.int (zI (zand l1 (zxor l2 (-1))))), some (.int (zI (zand l2 (zxor l1 (-1))))), none, none] [.int (zI (zA S 56 (zand l1 (zxor l2 (-1)))))] (rd S) _
        refine g_run 1 98 [some (.ref 49), none, none, some (.int (zI l3)), some (.int (zI (zand l1 (zxor l2 (-1))))), some (.int (zI (zand l2 (zxor l1 (-1))))), none, none] [.ref 49, .int (zI (zA S 56 (zand l1 (zxor l2 (-1)))))] (rd S) rfl ?_
        refine g_getf rfl rfl (rd_o49 _) rfl ?_
        show eG _ 166 101 [some (.ref 49), none, none, some (.int (zI l3)), some (.int (zI (zand l1 (zxor l2 (-1))))), some (.int (zI (zand l2 (zxor l1 (-1))))), none, none] [.ref 57, .int (zI (zA S 56 (zand l1 (zxor l2 (-1)))))] (rd S) _
        refine g_run 1 103 [some (.ref 49), none, none, some (.int (zI l3)), some (.int (zI (zand l1 (zxor l2 (-1))))), some (.int (zI (zand l2 (zxor l1 (-1))))), none, none] [.int (zI (zand l2 (zxor l1 (-1)))), .ref 57, .int (zI (zA S 56 (zand l1 (zxor l2 (-1)))))] (rd S) rfl ?_
        refine s_iald rfl (rd_a57 _) h (fun h => ?_)
        show eG _ 166 104 [some (.ref 49), none, none, some (.int (zI l3)), some (.int (zI (zand l1 (zxor l2 (-1))))), some (.int (zI (zand l2 (zxor l1 (-1))))), none, none] [.int (zI (zA S 57 (zand l2 (zxor l1 (-1))))), .int (zI (zA S 56 (zand l1 (zxor l2 (-1)))))] (rd S) _
        refine s_isub rfl ?_
        refine g_run 3 110 [some (.ref 49), none, none, some (.int (zI l3)), some (.int (zI (zand l1 (zxor l2 (-1))))), some (.int (zI (zand l2 (zxor l1 (-1))))), some (.int (zI ((zA S 56 (zand l1 (zxor l2 (-1)))) - (zA S 57 (zand l2 (zxor l1 (-1))))))), none] [.int (zI ((zA S 56 (zand l1 (zxor l2 (-1)))) - (zA S 57 (zand l2 (zxor l1 (-1)))))), .int (zI l3)] (rd S) rfl ?_
        refine s_isub rfl ?_
        refine g_run 1 113 [some (.ref 49), none, none, some (.int (zI l3)), some (.int (zI (zand l1 (zxor l2 (-1))))), some (.int (zI (zand l2 (zxor l1 (-1))))), some (.int (zI ((zA S 56 (zand l1 (zxor l2 (-1)))) - (zA S 57 (zand l2 (zxor l1 (-1))))))), none] [.int (zI ((zA S 56 (zand l1 (zxor l2 (-1)))) - (zA S 57 (zand l2 (zxor l1 (-1)))))), .int (zI (l3 - ((zA S 56 (zand l1 (zxor l2 (-1)))) - (zA S 57 (zand l2 (zxor l1 (-1)))))))] (rd S) rfl ?_
        refine s_ineg rfl ?_
        refine s_join (α := Int) (fun z => eG o 166 127 [none, none, none, none, none, none, none, none] [.int (zI z)] (rd S) (rv (some (.int (zI w))) (rd S))) h (fun z2 h => ?_) (fun z2 h j => ?_)
        · show eG _ 166 127 [none, none, none, none, none, none, none, none] [.int (zI z2)] (rd S) _
          refine g_run 3 134 [none, none, none, none, none, none, none, some (.int (zI z2))] [.int (zI 999), .int (zI z2)] (rd S) rfl ?_
          refine s_icmp_le rfl h (fun h => ?_) (fun h => ?_)
          · show eG _ 166 142 [none, none, none, none, none, none, none, some (.int (zI z2))] [] (rd S) _
            refine g_run 1 144 [none, none, none, none, none, none, none, some (.int (zI z2))] [.int (zI z2)] (rd S) rfl ?_
            refine s_if_ge rfl h (fun h => ?_) (fun h => ?_)
            · show eG _ 166 151 [none, none, none, none, none, none, none, some (.int (zI z2))] [] (rd S) _
              refine g_run 1 153 [none, none, none, none, none, none, none, some (.int (zI z2))] [.int (zI z2)] (rd S) rfl ?_
              cases h
              exact s_ret rfl rfl rfl
            · show eG _ 166 147 [none, none, none, none, none, none, none, some (.int (zI z2))] [] (rd S) _
              refine g_run 2 153 [none, none, none, none, none, none, none, some (.int (zI z2))] [.int (zI 0)] (rd S) rfl ?_
              cases h
              exact s_ret rfl rfl rfl
          · show eG _ 166 137 [none, none, none, none, none, none, none, some (.int (zI z2))] [] (rd S) _
            refine g_run 2 153 [none, none, none, none, none, none, none, some (.int (zI z2))] [.int (zI 1000000)] (rd S) rfl ?_
            cases h
            exact s_ret rfl rfl rfl
        · skip
          refine s_icmp_le rfl h (fun h => ?_) (fun h => ?_)
          · show eG _ 166 124 [some (.ref 49), none, none, some (.int (zI l3)), some (.int (zI (zand l1 (zxor l2 (-1))))), some (.int (zI (zand l2 (zxor l1 (-1))))), some (.int (zI ((zA S 56 (zand l1 (zxor l2 (-1)))) - (zA S 57 (zand l2 (zxor l1 (-1))))))), none] [] (rd S) _
            refine g_run 1 126 [some (.ref 49), none, none, some (.int (zI l3)), some (.int (zI (zand l1 (zxor l2 (-1))))), some (.int (zI (zand l2 (zxor l1 (-1))))), some (.int (zI ((zA S 56 (zand l1 (zxor l2 (-1)))) - (zA S 57 (zand l2 (zxor l1 (-1))))))), none] [.int (zI ((zA S 56 (zand l1 (zxor l2 (-1)))) - (zA S 57 (zand l2 (zxor l1 (-1))))))] (rd S) rfl ?_
            refine s_ineg rfl ?_
            refine g_fgt [true, true, true, true, true, true, true, true] ?_
            show eG _ 166 127 [none, none, none, none, none, none, none, none] [.int (zI (-((zA S 56 (zand l1 (zxor l2 (-1)))) - (zA S 57 (zand l2 (zxor l1 (-1)))))))] (rd S) _
            cases h
            exact j
          · show eG _ 166 117 [some (.ref 49), none, none, some (.int (zI l3)), some (.int (zI (zand l1 (zxor l2 (-1))))), some (.int (zI (zand l2 (zxor l1 (-1))))), some (.int (zI ((zA S 56 (zand l1 (zxor l2 (-1)))) - (zA S 57 (zand l2 (zxor l1 (-1))))))), none] [] (rd S) _
            refine g_run 2 120 [some (.ref 49), none, none, some (.int (zI l3)), some (.int (zI (zand l1 (zxor l2 (-1))))), some (.int (zI (zand l2 (zxor l1 (-1))))), some (.int (zI ((zA S 56 (zand l1 (zxor l2 (-1)))) - (zA S 57 (zand l2 (zxor l1 (-1))))))), none] [.int (zI ((zA S 56 (zand l1 (zxor l2 (-1)))) - (zA S 57 (zand l2 (zxor l1 (-1)))))), .int (zI l3)] (rd S) rfl ?_
            refine s_isub rfl ?_
            refine g_run 1 127 [some (.ref 49), none, none, some (.int (zI l3)), some (.int (zI (zand l1 (zxor l2 (-1))))), some (.int (zI (zand l2 (zxor l1 (-1))))), some (.int (zI ((zA S 56 (zand l1 (zxor l2 (-1)))) - (zA S 57 (zand l2 (zxor l1 (-1))))))), none] [.int (zI (l3 - ((zA S 56 (zand l1 (zxor l2 (-1)))) - (zA S 57 (zand l2 (zxor l1 (-1)))))))] (rd S) rfl ?_
            refine g_fgt [true, true, true, true, true, true, true, true] ?_
            show eG _ 166 127 [none, none, none, none, none, none, none, none] [.int (zI (l3 - ((zA S 56 (zand l1 (zxor l2 (-1)))) - (zA S 57 (zand l2 (zxor l1 (-1)))))))] (rd S) _
            cases h
            exact j
      · show eG _ 166 52 [some (.ref 49), some (.int (zI l1)), some (.int (zI l2)), some (.int (zI l3)), some (.int (zI (zand l1 (zxor l2 (-1))))), some (.int (zI (zand l2 (zxor l1 (-1))))), none, none] [] (rd S) _
        refine g_run 1 54 [some (.ref 49), some (.int (zI l1)), some (.int (zI l2)), some (.int (zI l3)), some (.int (zI (zand l1 (zxor l2 (-1))))), some (.int (zI (zand l2 (zxor l1 (-1))))), none, none] [.int (zI 1000000)] (rd S) rfl ?_
        cases h
        exact s_ret rfl rfl rfl
