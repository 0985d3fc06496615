def fT_isKind (n : Nat) (S : ZS) (l0 : Int) : Option (Int) := gC l0 0 (if l0 < 0 then gB 0 (some 0) else gC l0 3 (if 3 < l0 then gB 0 (some 0) else gB 1 (some 1)))
set_option maxRecDepth 100000 in
set_option maxHeartbeats 4000000 in
theorem sT_isKind (o : eO) (n : Nat) (S : ZS) (l0 : Int) {w : Int} (h : fT_isKind n S l0 = some w) : eG o 8 0 (eEnt 8 [.int (zI l0)]) [] (rd S) (rv (some (.int (zI w))) (rd S)) := by
  unfold fT_isKind at h
  show eG o 8 0 [some (.int (zI l0))] [] (rd S) _
  refine g_run 1 1 [some (.int (zI l0))] [.int (zI l0)] (rd S) rfl ?_
  refine s_if_lt rfl h (fun h => ?_) (fun h => ?_)
  · show eG _ 8 13 [some (.int (zI l0))] [] (rd S) _
    refine g_run 1 14 [some (.int (zI l0))] [.int (zI 0)] (rd S) rfl ?_
    exact s_retB rfl rfl h (fun h => by cases h; exact rfl)
  · show eG _ 8 4 [some (.int (zI l0))] [] (rd S) _
    refine g_run 2 6 [some (.int (zI l0))] [.int (zI 3), .int (zI l0)] (rd S) rfl ?_
    refine s_icmp_gt rfl h (fun h => ?_) (fun h => ?_)
    · show eG _ 8 13 [some (.int (zI l0))] [] (rd S) _
      refine g_run 1 14 [some (.int (zI l0))] [.int (zI 0)] (rd S) rfl ?_
      exact s_retB rfl rfl h (fun h => by cases h; exact rfl)
    · show eG _ 8 9 [some (.int (zI l0))] [] (rd S) _
      refine g_run 2 14 [some (.int (zI l0))] [.int (zI 1)] (rd S) rfl ?_
      exact s_retB rfl rfl h (fun h => by cases h; exact rfl)
def fT_isYards (n : Nat) (S : ZS) (l0 : Int) : Option (Int) := gC l0 1 (if l0 < 1 then gB 0 (some 0) else gC l0 99 (if 99 < l0 then gB 0 (some 0) else gB 1 (some 1)))
set_option maxRecDepth 100000 in
set_option maxHeartbeats 4000000 in
theorem sT_isYards (o : eO) (n : Nat) (S : ZS) (l0 : Int) {w : Int} (h : fT_isYards n S l0 = some w) : eG o 9 0 (eEnt 9 [.int (zI l0)]) [] (rd S) (rv (some (.int (zI w))) (rd S)) := by
  unfold fT_isYards at h
  show eG o 9 0 [some (.int (zI l0))] [] (rd S) _
  refine g_run 2 2 [some (.int (zI l0))] [.int (zI 1), .int (zI l0)] (rd S) rfl ?_
  refine s_icmp_lt rfl h (fun h => ?_) (fun h => ?_)
  · show eG _ 9 15 [some (.int (zI l0))] [] (rd S) _
    refine g_run 1 16 [some (.int (zI l0))] [.int (zI 0)] (rd S) rfl ?_
    exact s_retB rfl rfl h (fun h => by cases h; exact rfl)
  · show eG _ 9 5 [some (.int (zI l0))] [] (rd S) _
    refine g_run 2 8 [some (.int (zI l0))] [.int (zI 99), .int (zI l0)] (rd S) rfl ?_
    refine s_icmp_gt rfl h (fun h => ?_) (fun h => ?_)
    · show eG _ 9 15 [some (.int (zI l0))] [] (rd S) _
      refine g_run 1 16 [some (.int (zI l0))] [.int (zI 0)] (rd S) rfl ?_
      exact s_retB rfl rfl h (fun h => by cases h; exact rfl)
    · show eG _ 9 11 [some (.int (zI l0))] [] (rd S) _
      refine g_run 2 16 [some (.int (zI l0))] [.int (zI 1)] (rd S) rfl ?_
      exact s_retB rfl rfl h (fun h => by cases h; exact rfl)
def fT_isPlace (n : Nat) (S : ZS) (l0 : Int) : Option (Int) := gC l0 0 (if l0 < 0 then gB 0 (some 0) else gC l0 99 (if 99 < l0 then gB 0 (some 0) else gB 1 (some 1)))
set_option maxRecDepth 100000 in
set_option maxHeartbeats 4000000 in
theorem sT_isPlace (o : eO) (n : Nat) (S : ZS) (l0 : Int) {w : Int} (h : fT_isPlace n S l0 = some w) : eG o 10 0 (eEnt 10 [.int (zI l0)]) [] (rd S) (rv (some (.int (zI w))) (rd S)) := by
  unfold fT_isPlace at h
  show eG o 10 0 [some (.int (zI l0))] [] (rd S) _
  refine g_run 1 1 [some (.int (zI l0))] [.int (zI l0)] (rd S) rfl ?_
  refine s_if_lt rfl h (fun h => ?_) (fun h => ?_)
  · show eG _ 10 14 [some (.int (zI l0))] [] (rd S) _
    refine g_run 1 15 [some (.int (zI l0))] [.int (zI 0)] (rd S) rfl ?_
    exact s_retB rfl rfl h (fun h => by cases h; exact rfl)
  · show eG _ 10 4 [some (.int (zI l0))] [] (rd S) _
    refine g_run 2 7 [some (.int (zI l0))] [.int (zI 99), .int (zI l0)] (rd S) rfl ?_
    refine s_icmp_gt rfl h (fun h => ?_) (fun h => ?_)
    · show eG _ 10 14 [some (.int (zI l0))] [] (rd S) _
      refine g_run 1 15 [some (.int (zI l0))] [.int (zI 0)] (rd S) rfl ?_
      exact s_retB rfl rfl h (fun h => by cases h; exact rfl)
    · show eG _ 10 10 [some (.int (zI l0))] [] (rd S) _
      refine g_run 2 15 [some (.int (zI l0))] [.int (zI 1)] (rd S) rfl ?_
      exact s_retB rfl rfl h (fun h => by cases h; exact rfl)
def fT_isOwner (n : Nat) (S : ZS) (l0 : Int) : Option (Int) := gC l0 0 (if l0 < 0 then gB 0 (some 0) else gC l0 4 (if l0 < 4 then gB 1 (some 1) else gB 0 (some 0)))
set_option maxRecDepth 100000 in
set_option maxHeartbeats 4000000 in
theorem sT_isOwner (o : eO) (n : Nat) (S : ZS) (l0 : Int) {w : Int} (h : fT_isOwner n S l0 = some w) : eG o 11 0 (eEnt 11 [.int (zI l0)]) [] (rd S) (rv (some (.int (zI w))) (rd S)) := by
  unfold fT_isOwner at h
  show eG o 11 0 [some (.int (zI l0))] [] (rd S) _
  refine g_run 1 1 [some (.int (zI l0))] [.int (zI l0)] (rd S) rfl ?_
  refine s_if_lt rfl h (fun h => ?_) (fun h => ?_)
  · show eG _ 11 13 [some (.int (zI l0))] [] (rd S) _
    refine g_run 1 14 [some (.int (zI l0))] [.int (zI 0)] (rd S) rfl ?_
    exact s_retB rfl rfl h (fun h => by cases h; exact rfl)
  · show eG _ 11 4 [some (.int (zI l0))] [] (rd S) _
    refine g_run 2 6 [some (.int (zI l0))] [.int (zI 4), .int (zI l0)] (rd S) rfl ?_
    refine s_icmp_ge rfl h (fun h => ?_) (fun h => ?_)
    · show eG _ 11 13 [some (.int (zI l0))] [] (rd S) _
      refine g_run 1 14 [some (.int (zI l0))] [.int (zI 0)] (rd S) rfl ?_
      exact s_retB rfl rfl h (fun h => by cases h; exact rfl)
    · show eG _ 11 9 [some (.int (zI l0))] [] (rd S) _
      refine g_run 2 14 [some (.int (zI l0))] [.int (zI 1)] (rd S) rfl ?_
      exact s_retB rfl rfl h (fun h => by cases h; exact rfl)
def fT_all (n : Nat) (S : ZS) (t : Nat) : Option (Int) := some ((zshl 1 (zF S t 6)) - 1)
set_option maxRecDepth 100000 in
set_option maxHeartbeats 4000000 in
theorem sT_all (o : eO) (n : Nat) (S : ZS) (t : Nat) (ht : isT t) {w : Int} (h : fT_all n S t = some w) : eG o 13 0 (eEnt 13 [.ref t]) [] (rd S) (rv (some (.int (zI w))) (rd S)) := by
  unfold fT_all at h
  show eG o 13 0 [some (.ref t)] [] (rd S) _
  refine g_run 2 2 [some (.ref t)] [.ref t, .int (zI 1)] (rd S) rfl ?_
  refine g_getf rfl rfl (rd_t ht _) rfl ?_
  show eG _ 13 5 [some (.ref t)] [.int (zI (zF S t 6)), .int (zI 1)] (rd S) _
  refine s_ishl rfl ?_
  refine g_run 1 7 [some (.ref t)] [.int (zI 1), .int (zI (zshl 1 (zF S t 6)))] (rd S) rfl ?_
  refine s_isub rfl ?_
  cases h
  exact s_ret rfl rfl rfl
def fT_isSet (n : Nat) (S : ZS) (t : Nat) (l1 : Int) : Option (Int) := gL l1 0 (gC (zcmp l1 0) 0 (if (zcmp l1 0) < 0 then gB 0 (some 0) else (fT_all n S t).bind fun z1 => gC z1 0 (gL l1 z1 (gC (zcmp l1 z1) 0 (if 0 < (zcmp l1 z1) then gB 0 (some 0) else gB 1 (some 1))))))
set_option maxRecDepth 100000 in
set_option maxHeartbeats 4000000 in
theorem sT_isSet (o : eO) (n : Nat) (S : ZS) (t : Nat) (ht : isT t) (l1 : Int) {w : Int} (h : fT_isSet n S t l1 = some w) : eG o 12 0 (eEnt 12 [.ref t, .long (zL l1)]) [] (rd S) (rv (some (.int (zI w))) (rd S)) := by
  unfold fT_isSet at h
  show eG o 12 0 [some (.ref t), some (.long (zL l1)), none] [] (rd S) _
  refine g_run 2 2 [some (.ref t), some (.long (zL l1)), none] [.long (zL 0), .long (zL l1)] (rd S) rfl ?_
  refine s_lcmp rfl h (fun h => ?_)
  refine s_if_lt rfl h (fun h => ?_) (fun h => ?_)
  · show eG _ 12 20 [some (.ref t), some (.long (zL l1)), none] [] (rd S) _
    refine g_run 1 21 [some (.ref t), some (.long (zL l1)), none] [.int (zI 0)] (rd S) rfl ?_
    exact s_retB rfl rfl h (fun h => by cases h; exact rfl)
  · show eG _ 12 6 [some (.ref t), some (.long (zL l1)), none] [] (rd S) _
    refine g_run 2 8 [some (.ref t), some (.long (zL l1)), none] [.ref t, .long (zL l1)] (rd S) rfl ?_
    refine s_vir (fun z => some (.int (zI z))) (fun _ => rd S) rfl rfl rfl (rd_t ht _) rfl rfl (fun z hz => sT_all o n S t ht hz) rfl h (fun z1 h => ?_)
    show eG _ 12 11 [some (.ref t), some (.long (zL l1)), none] [.int (zI z1), .long (zL l1)] (rd S) _
    refine s_i2l rfl h (fun h => ?_)
    refine s_lcmp rfl h (fun h => ?_)
    refine s_if_gt rfl h (fun h => ?_) (fun h => ?_)
    · show eG _ 12 20 [some (.ref t), some (.long (zL l1)), none] [] (rd S) _
      refine g_run 1 21 [some (.ref t), some (.long (zL l1)), none] [.int (zI 0)] (rd S) rfl ?_
      exact s_retB rfl rfl h (fun h => by cases h; exact rfl)
    · show eG _ 12 16 [some (.ref t), some (.long (zL l1)), none] [] (rd S) _
      refine g_run 2 21 [some (.ref t), some (.long (zL l1)), none] [.int (zI 1)] (rd S) rfl ?_
      exact s_retB rfl rfl h (fun h => by cases h; exact rfl)
def fT_isBuiltUp (n : Nat) (S : ZS) (t : Nat) : Option (Int) := gC (zF S t 6) 8 (if (zF S t 6) < 8 then gB 0 (some 0) else gB 1 (some 1))
set_option maxRecDepth 100000 in
set_option maxHeartbeats 4000000 in
theorem sT_isBuiltUp (o : eO) (n : Nat) (S : ZS) (t : Nat) (ht : isT t) {w : Int} (h : fT_isBuiltUp n S t = some w) : eG o 14 0 (eEnt 14 [.ref t]) [] (rd S) (rv (some (.int (zI w))) (rd S)) := by
  unfold fT_isBuiltUp at h
  show eG o 14 0 [some (.ref t)] [] (rd S) _
  refine g_run 1 1 [some (.ref t)] [.ref t] (rd S) rfl ?_
  refine g_getf rfl rfl (rd_t ht _) rfl ?_
  show eG _ 14 4 [some (.ref t)] [.int (zI (zF S t 6))] (rd S) _
  refine g_run 1 6 [some (.ref t)] [.int (zI 8), .int (zI (zF S t 6))] (rd S) rfl ?_
  refine s_icmp_lt rfl h (fun h => ?_) (fun h => ?_)
  · show eG _ 14 13 [some (.ref t)] [] (rd S) _
    refine g_run 1 14 [some (.ref t)] [.int (zI 0)] (rd S) rfl ?_
    exact s_retB rfl rfl h (fun h => by cases h; exact rfl)
  · show eG _ 14 9 [some (.ref t)] [] (rd S) _
    refine g_run 2 14 [some (.ref t)] [.int (zI 1)] (rd S) rfl ?_
    exact s_retB rfl rfl h (fun h => by cases h; exact rfl)
def fT_addPart_1 (n : Nat) (S : ZS) (l1 l2 l3 l4 l5 : Int) : Option (ZS) := gX (zF S 1 6) 8 (gX (zF S 1 6) 8 (gX (zF S 1 6) 8 (gX (zF S 1 6) 8 (gX (zF S 1 6) 8 (some (wF (wA (wA (wA (wA (wA S 2 (zF S 1 6) l1) 3 (zF S 1 6) l2) 4 (zF S 1 6) l3) 5 (zF S 1 6) l4) 6 (zF S 1 6) l5) 1 6 ((zF S 1 6) + 1)))))))
set_option maxRecDepth 100000 in
set_option maxHeartbeats 4000000 in
theorem sT_addPart_1 (o : eO) (n : Nat) (S : ZS) (l1 l2 l3 l4 l5 : Int) {w : ZS} (h : fT_addPart_1 n S l1 l2 l3 l4 l5 = some w) : eG o 15 0 (eEnt 15 [.ref 1, .int (zI l1), .int (zI l2), .int (zI l3), .int (zI l4), .int (zI l5)]) [] (rd S) (rv (none) (rd w)) := by
  unfold fT_addPart_1 at h
  show eG o 15 0 [some (.ref 1), some (.int (zI l1)), some (.int (zI l2)), some (.int (zI l3)), some (.int (zI l4)), some (.int (zI l5))] [] (rd S) _
  refine g_run 1 1 [some (.ref 1), some (.int (zI l1)), some (.int (zI l2)), some (.int (zI l3)), some (.int (zI l4)), some (.int (zI l5))] [.ref 1] (rd S) rfl ?_
  refine g_getf rfl rfl (rd_o1 _) rfl ?_
  show eG _ 15 4 [some (.ref 1), some (.int (zI l1)), some (.int (zI l2)), some (.int (zI l3)), some (.int (zI l4)), some (.int (zI l5))] [.ref 2] (rd S) _
  refine g_run 1 5 [some (.ref 1), some (.int (zI l1)), some (.int (zI l2)), some (.int (zI l3)), some (.int (zI l4)), some (.int (zI l5))] [.ref 1, .ref 2] (rd S) rfl ?_
  refine g_getf rfl rfl (rd_o1 _) rfl ?_
  show eG _ 15 8 [some (.ref 1), some (.int (zI l1)), some (.int (zI l2)), some (.int (zI l3)), some (.int (zI l4)), some (.int (zI l5))] [.int (zI (zF S 1 6)), .ref 2] (rd S) _
  refine g_run 1 9 [some (.ref 1), some (.int (zI l1)), some (.int (zI l2)), some (.int (zI l3)), some (.int (zI l4)), some (.int (zI l5))] [.int (zI l1), .int (zI (zF S 1 6)), .ref 2] (rd S) rfl ?_
  refine s_iast rfl (rd_a2 _) (rw_a2 _ _) h (fun h => ?_)
  show eG _ 15 10 [some (.ref 1), some (.int (zI l1)), some (.int (zI l2)), some (.int (zI l3)), some (.int (zI l4)), some (.int (zI l5))] [] (rd (wA S 2 (zF S 1 6) l1)) _
  refine g_run 1 11 [some (.ref 1), some (.int (zI l1)), some (.int (zI l2)), some (.int (zI l3)), some (.int (zI l4)), some (.int (zI l5))] [.ref 1] (rd (wA S 2 (zF S 1 6) l1)) rfl ?_
  refine g_getf rfl rfl (rd_o1 _) rfl ?_
  show eG _ 15 14 [some (.ref 1), some (.int (zI l1)), some (.int (zI l2)), some (.int (zI l3)), some (.int (zI l4)), some (.int (zI l5))] [.ref 3] (rd (wA S 2 (zF S 1 6) l1)) _
  refine g_run 1 15 [some (.ref 1), some (.int (zI l1)), some (.int (zI l2)), some (.int (zI l3)), some (.int (zI l4)), some (.int (zI l5))] [.ref 1, .ref 3] (rd (wA S 2 (zF S 1 6) l1)) rfl ?_
  refine g_getf rfl rfl (rd_o1 _) rfl ?_
  show eG _ 15 18 [some (.ref 1), some (.int (zI l1)), some (.int (zI l2)), some (.int (zI l3)), some (.int (zI l4)), some (.int (zI l5))] [.int (zI (zF S 1 6)), .ref 3] (rd (wA S 2 (zF S 1 6) l1)) _
  refine g_run 1 19 [some (.ref 1), some (.int (zI l1)), some (.int (zI l2)), some (.int (zI l3)), some (.int (zI l4)), some (.int (zI l5))] [.int (zI l2), .int (zI (zF S 1 6)), .ref 3] (rd (wA S 2 (zF S 1 6) l1)) rfl ?_
  refine s_iast rfl (rd_a3 _) (rw_a3 _ _) h (fun h => ?_)
  show eG _ 15 20 [some (.ref 1), some (.int (zI l1)), some (.int (zI l2)), some (.int (zI l3)), some (.int (zI l4)), some (.int (zI l5))] [] (rd (wA (wA S 2 (zF S 1 6) l1) 3 (zF S 1 6) l2)) _
  refine g_run 1 21 [some (.ref 1), some (.int (zI l1)), some (.int (zI l2)), some (.int (zI l3)), some (.int (zI l4)), some (.int (zI l5))] [.ref 1] (rd (wA (wA S 2 (zF S 1 6) l1) 3 (zF S 1 6) l2)) rfl ?_
  refine g_getf rfl rfl (rd_o1 _) rfl ?_
  show eG _ 15 24 [some (.ref 1), some (.int (zI l1)), some (.int (zI l2)), some (.int (zI l3)), some (.int (zI l4)), some (.int (zI l5))] [.ref 4] (rd (wA (wA S 2 (zF S 1 6) l1) 3 (zF S 1 6) l2)) _
  refine g_run 1 25 [some (.ref 1), some (.int (zI l1)), some (.int (zI l2)), some (.int (zI l3)), some (.int (zI l4)), some (.int (zI l5))] [.ref 1, .ref 4] (rd (wA (wA S 2 (zF S 1 6) l1) 3 (zF S 1 6) l2)) rfl ?_
  refine g_getf rfl rfl (rd_o1 _) rfl ?_
  show eG _ 15 28 [some (.ref 1), some (.int (zI l1)), some (.int (zI l2)), some (.int (zI l3)), some (.int (zI l4)), some (.int (zI l5))] [.int (zI (zF S 1 6)), .ref 4] (rd (wA (wA S 2 (zF S 1 6) l1) 3 (zF S 1 6) l2)) _
  refine g_run 1 29 [some (.ref 1), some (.int (zI l1)), some (.int (zI l2)), some (.int (zI l3)), some (.int (zI l4)), some (.int (zI l5))] [.int (zI l3), .int (zI (zF S 1 6)), .ref 4] (rd (wA (wA S 2 (zF S 1 6) l1) 3 (zF S 1 6) l2)) rfl ?_
  refine s_iast rfl (rd_a4 _) (rw_a4 _ _) h (fun h => ?_)
  show eG _ 15 30 [some (.ref 1), some (.int (zI l1)), some (.int (zI l2)), some (.int (zI l3)), some (.int (zI l4)), some (.int (zI l5))] [] (rd (wA (wA (wA S 2 (zF S 1 6) l1) 3 (zF S 1 6) l2) 4 (zF S 1 6) l3)) _
  refine g_run 1 31 [some (.ref 1), some (.int (zI l1)), some (.int (zI l2)), some (.int (zI l3)), some (.int (zI l4)), some (.int (zI l5))] [.ref 1] (rd (wA (wA (wA S 2 (zF S 1 6) l1) 3 (zF S 1 6) l2) 4 (zF S 1 6) l3)) rfl ?_
  refine g_getf rfl rfl (rd_o1 _) rfl ?_
  show eG _ 15 34 [some (.ref 1), some (.int (zI l1)), some (.int (zI l2)), some (.int (zI l3)), some (.int (zI l4)), some (.int (zI l5))] [.ref 5] (rd (wA (wA (wA S 2 (zF S 1 6) l1) 3 (zF S 1 6) l2) 4 (zF S 1 6) l3)) _
  refine g_run 1 35 [some (.ref 1), some (.int (zI l1)), some (.int (zI l2)), some (.int (zI l3)), some (.int (zI l4)), some (.int (zI l5))] [.ref 1, .ref 5] (rd (wA (wA (wA S 2 (zF S 1 6) l1) 3 (zF S 1 6) l2) 4 (zF S 1 6) l3)) rfl ?_
  refine g_getf rfl rfl (rd_o1 _) rfl ?_
  show eG _ 15 38 [some (.ref 1), some (.int (zI l1)), some (.int (zI l2)), some (.int (zI l3)), some (.int (zI l4)), some (.int (zI l5))] [.int (zI (zF S 1 6)), .ref 5] (rd (wA (wA (wA S 2 (zF S 1 6) l1) 3 (zF S 1 6) l2) 4 (zF S 1 6) l3)) _
  refine g_run 1 40 [some (.ref 1), some (.int (zI l1)), some (.int (zI l2)), some (.int (zI l3)), some (.int (zI l4)), some (.int (zI l5))] [.int (zI l4), .int (zI (zF S 1 6)), .ref 5] (rd (wA (wA (wA S 2 (zF S 1 6) l1) 3 (zF S 1 6) l2) 4 (zF S 1 6) l3)) rfl ?_
  refine s_iast rfl (rd_a5 _) (rw_a5 _ _) h (fun h => ?_)
  show eG _ 15 41 [some (.ref 1), some (.int (zI l1)), some (.int (zI l2)), some (.int (zI l3)), some (.int (zI l4)), some (.int (zI l5))] [] (rd (wA (wA (wA (wA S 2 (zF S 1 6) l1) 3 (zF S 1 6) l2) 4 (zF S 1 6) l3) 5 (zF S 1 6) l4)) _
  refine g_run 1 42 [some (.ref 1), some (.int (zI l1)), some (.int (zI l2)), some (.int (zI l3)), some (.int (zI l4)), some (.int (zI l5))] [.ref 1] (rd (wA (wA (wA (wA S 2 (zF S 1 6) l1) 3 (zF S 1 6) l2) 4 (zF S 1 6) l3) 5 (zF S 1 6) l4)) rfl ?_
  refine g_getf rfl rfl (rd_o1 _) rfl ?_
  show eG _ 15 45 [some (.ref 1), some (.int (zI l1)), some (.int (zI l2)), some (.int (zI l3)), some (.int (zI l4)), some (.int (zI l5))] [.ref 6] (rd (wA (wA (wA (wA S 2 (zF S 1 6) l1) 3 (zF S 1 6) l2) 4 (zF S 1 6) l3) 5 (zF S 1 6) l4)) _
  refine g_run 1 46 [some (.ref 1), some (.int (zI l1)), some (.int (zI l2)), some (.int (zI l3)), some (.int (zI l4)), some (.int (zI l5))] [.ref 1, .ref 6] (rd (wA (wA (wA (wA S 2 (zF S 1 6) l1) 3 (zF S 1 6) l2) 4 (zF S 1 6) l3) 5 (zF S 1 6) l4)) rfl ?_
  refine g_getf rfl rfl (rd_o1 _) rfl ?_
  show eG _ 15 49 [some (.ref 1), some (.int (zI l1)), some (.int (zI l2)), some (.int (zI l3)), some (.int (zI l4)), some (.int (zI l5))] [.int (zI (zF S 1 6)), .ref 6] (rd (wA (wA (wA (wA S 2 (zF S 1 6) l1) 3 (zF S 1 6) l2) 4 (zF S 1 6) l3) 5 (zF S 1 6) l4)) _
  refine g_run 1 51 [some (.ref 1), some (.int (zI l1)), some (.int (zI l2)), some (.int (zI l3)), some (.int (zI l4)), some (.int (zI l5))] [.int (zI l5), .int (zI (zF S 1 6)), .ref 6] (rd (wA (wA (wA (wA S 2 (zF S 1 6) l1) 3 (zF S 1 6) l2) 4 (zF S 1 6) l3) 5 (zF S 1 6) l4)) rfl ?_
  refine s_iast rfl (rd_a6 _) (rw_a6 _ _) h (fun h => ?_)
  show eG _ 15 52 [some (.ref 1), some (.int (zI l1)), some (.int (zI l2)), some (.int (zI l3)), some (.int (zI l4)), some (.int (zI l5))] [] (rd (wA (wA (wA (wA (wA S 2 (zF S 1 6) l1) 3 (zF S 1 6) l2) 4 (zF S 1 6) l3) 5 (zF S 1 6) l4) 6 (zF S 1 6) l5)) _
  refine g_run 2 54 [some (.ref 1), some (.int (zI l1)), some (.int (zI l2)), some (.int (zI l3)), some (.int (zI l4)), some (.int (zI l5))] [.ref 1, .ref 1] (rd (wA (wA (wA (wA (wA S 2 (zF S 1 6) l1) 3 (zF S 1 6) l2) 4 (zF S 1 6) l3) 5 (zF S 1 6) l4) 6 (zF S 1 6) l5)) rfl ?_
  refine g_getf rfl rfl (rd_o1 _) rfl ?_
  show eG _ 15 57 [some (.ref 1), some (.int (zI l1)), some (.int (zI l2)), some (.int (zI l3)), some (.int (zI l4)), some (.int (zI l5))] [.int (zI (zF S 1 6)), .ref 1] (rd (wA (wA (wA (wA (wA S 2 (zF S 1 6) l1) 3 (zF S 1 6) l2) 4 (zF S 1 6) l3) 5 (zF S 1 6) l4) 6 (zF S 1 6) l5)) _
  refine g_run 1 58 [some (.ref 1), some (.int (zI l1)), some (.int (zI l2)), some (.int (zI l3)), some (.int (zI l4)), some (.int (zI l5))] [.int (zI 1), .int (zI (zF S 1 6)), .ref 1] (rd (wA (wA (wA (wA (wA S 2 (zF S 1 6) l1) 3 (zF S 1 6) l2) 4 (zF S 1 6) l3) 5 (zF S 1 6) l4) 6 (zF S 1 6) l5)) rfl ?_
  refine s_iadd rfl ?_
  refine s_putf rfl rfl (rd_o1 _) rfl rfl rfl rfl rfl (rw_o1_6 _ _) ?_
  show eG _ 15 62 [some (.ref 1), some (.int (zI l1)), some (.int (zI l2)), some (.int (zI l3)), some (.int (zI l4)), some (.int (zI l5))] [] (rd (wF (wA (wA (wA (wA (wA S 2 (zF S 1 6) l1) 3 (zF S 1 6) l2) 4 (zF S 1 6) l3) 5 (zF S 1 6) l4) 6 (zF S 1 6) l5) 1 6 ((zF S 1 6) + 1))) _
  cases h
  exact g_retv rfl rfl rfl
def fW_forget (n : Nat) (S : ZS) : Option (ZS) := gB 0 (gB 0 (gB 0 (some (wF (wF (wF S 24 14 0) 24 15 0) 24 16 0))))
set_option maxRecDepth 100000 in
set_option maxHeartbeats 4000000 in
theorem sW_forget (o : eO) (n : Nat) (S : ZS) {w : ZS} (h : fW_forget n S = some w) : eG o 16 0 (eEnt 16 [.ref 24]) [] (rd S) (rv (none) (rd w)) := by
  unfold fW_forget at h
  show eG o 16 0 [some (.ref 24)] [] (rd S) _
  refine g_run 2 2 [some (.ref 24)] [.int (zI 0), .ref 24] (rd S) rfl ?_
  refine s_putb rfl rfl (rd_o24 _) rfl rfl rfl rfl (rw_o24_14 _ _) h (fun h => ?_)
  show eG _ 16 5 [some (.ref 24)] [] (rd (wF S 24 14 0)) _
  refine g_run 2 7 [some (.ref 24)] [.int (zI 0), .ref 24] (rd (wF S 24 14 0)) rfl ?_
  refine s_putb rfl rfl (rd_o24 _) rfl rfl rfl rfl (rw_o24_15 _ _) h (fun h => ?_)
  show eG _ 16 10 [some (.ref 24)] [] (rd (wF (wF S 24 14 0) 24 15 0)) _
  refine g_run 2 12 [some (.ref 24)] [.int (zI 0), .ref 24] (rd (wF (wF S 24 14 0) 24 15 0)) rfl ?_
  refine s_putb rfl rfl (rd_o24 _) rfl rfl rfl rfl (rw_o24_16 _ _) h (fun h => ?_)
  show eG _ 16 15 [some (.ref 24)] [] (rd (wF (wF (wF S 24 14 0) 24 15 0) 24 16 0)) _
  cases h
  exact g_retv rfl rfl rfl
def fD_part (n : Nat) (S : ZS) (l1 l2 l3 l4 l5 : Int) : Option (Int × ZS) := (fT_isKind n S l1).bind fun z1 => gC z1 0 (if z1 = 0 then some (-1, S) else (fT_isYards n S l2).bind fun z2 => gC z2 0 (if z2 = 0 then some (-1, S) else (fT_isPlace n S l3).bind fun z3 => gC z3 0 (if z3 = 0 then some (-1, S) else (fT_isOwner n S l4).bind fun z4 => gC z4 0 (if z4 = 0 then some (-1, S) else gC l5 0 ((fT_isSet n S 1 l5).bind fun z5 => gC z5 0 (if z5 = 0 then some (-1, S) else (fT_isBuiltUp n S 1).bind fun z6 => gC z6 0 (if z6 = 0 then (fT_addPart_1 n S l1 l2 l3 l4 l5).bind fun z7 => (fW_forget n z7).bind fun z8 => some ((zF z8 1 6) - 1, z8) else some (-3, S))))))))
set_option maxRecDepth 100000 in
set_option maxHeartbeats 4000000 in
theorem sD_part (o : eO) (n : Nat) (S : ZS) (l1 l2 l3 l4 l5 : Int) {w : Int × ZS} (h : fD_part n S l1 l2 l3 l4 l5 = some w) : eG o 7 0 (eEnt 7 [.ref 0, .int (zI l1), .int (zI l2), .int (zI l3), .int (zI l4), .int (zI l5)]) [] (rd S) (rv (some (.int (zI w.1))) (rd w.2)) := by
  unfold fD_part at h
  show eG o 7 0 [some (.ref 0), some (.int (zI l1)), some (.int (zI l2)), some (.int (zI l3)), some (.int (zI l4)), some (.int (zI l5))] [] (rd S) _
  refine g_run 1 1 [some (.ref 0), some (.int (zI l1)), some (.int (zI l2)), some (.int (zI l3)), some (.int (zI l4)), some (.int (zI l5))] [.int (zI l1)] (rd S) rfl ?_
  refine s_sta (fun z => some (.int (zI z))) (fun _ => rd S) rfl rfl rfl rfl rfl rfl rfl (fun z hz => sT_isKind o n S l1 hz) rfl h (fun z1 h => ?_)
  show eG _ 7 4 [some (.ref 0), some (.int (zI l1)), some (.int (zI l2)), some (.int (zI l3)), some (.int (zI l4)), some (.int (zI l5))] [.int (zI z1)] (rd S) _
  refine s_if_eq rfl h (fun h => ?_) (fun h => ?_)
  · show eG _ 7 21 [some (.ref 0), some (.int (zI l1)), some (.int (zI l2)), some (.int (zI l3)), some (.int (zI l4)), some (.int (zI l5))] [] (rd S) _
    refine g_run 1 22 [some (.ref 0), some (.int (zI l1)), some (.int (zI l2)), some (.int (zI l3)), some (.int (zI l4)), some (.int (zI l5))] [.int (zI (-1))] (rd S) rfl ?_
    cases h
    exact s_ret rfl rfl rfl
  · show eG _ 7 7 [some (.ref 0), some (.int (zI l1)), some (.int (zI l2)), some (.int (zI l3)), some (.int (zI l4)), some (.int (zI l5))] [] (rd S) _
    refine g_run 1 8 [some (.ref 0), some (.int (zI l1)), some (.int (zI l2)), some (.int (zI l3)), some (.int (zI l4)), some (.int (zI l5))] [.int (zI l2)] (rd S) rfl ?_
    refine s_sta (fun z => some (.int (zI z))) (fun _ => rd S) rfl rfl rfl rfl rfl rfl rfl (fun z hz => sT_isYards o n S l2 hz) rfl h (fun z2 h => ?_)
    show eG _ 7 11 [some (.ref 0), some (.int (zI l1)), some (.int (zI l2)), some (.int (zI l3)), some (.int (zI l4)), some (.int (zI l5))] [.int (zI z2)] (rd S) _
    refine s_if_eq rfl h (fun h => ?_) (fun h => ?_)
    · show eG _ 7 21 [some (.ref 0), some (.int (zI l1)), some (.int (zI l2)), some (.int (zI l3)), some (.int (zI l4)), some (.int (zI l5))] [] (rd S) _
      refine g_run 1 22 [some (.ref 0), some (.int (zI l1)), some (.int (zI l2)), some (.int (zI l3)), some (.int (zI l4)), some (.int (zI l5))] [.int (zI (-1))] (rd S) rfl ?_
      cases h
      exact s_ret rfl rfl rfl
    · show eG _ 7 14 [some (.ref 0), some (.int (zI l1)), some (.int (zI l2)), some (.int (zI l3)), some (.int (zI l4)), some (.int (zI l5))] [] (rd S) _
      refine g_run 1 15 [some (.ref 0), some (.int (zI l1)), some (.int (zI l2)), some (.int (zI l3)), some (.int (zI l4)), some (.int (zI l5))] [.int (zI l3)] (rd S) rfl ?_
      refine s_sta (fun z => some (.int (zI z))) (fun _ => rd S) rfl rfl rfl rfl rfl rfl rfl (fun z hz => sT_isPlace o n S l3 hz) rfl h (fun z3 h => ?_)
      show eG _ 7 18 [some (.ref 0), some (.int (zI l1)), some (.int (zI l2)), some (.int (zI l3)), some (.int (zI l4)), some (.int (zI l5))] [.int (zI z3)] (rd S) _
      refine s_if_ne rfl h (fun h => ?_) (fun h => ?_)
      · show eG _ 7 23 [some (.ref 0), some (.int (zI l1)), some (.int (zI l2)), some (.int (zI l3)), some (.int (zI l4)), some (.int (zI l5))] [] (rd S) _
        refine g_run 1 25 [some (.ref 0), some (.int (zI l1)), some (.int (zI l2)), some (.int (zI l3)), some (.int (zI l4)), some (.int (zI l5))] [.int (zI l4)] (rd S) rfl ?_
        refine s_sta (fun z => some (.int (zI z))) (fun _ => rd S) rfl rfl rfl rfl rfl rfl rfl (fun z hz => sT_isOwner o n S l4 hz) rfl h (fun z4 h => ?_)
        show eG _ 7 28 [some (.ref 0), some (.int (zI l1)), some (.int (zI l2)), some (.int (zI l3)), some (.int (zI l4)), some (.int (zI l5))] [.int (zI z4)] (rd S) _
        refine s_if_eq rfl h (fun h => ?_) (fun h => ?_)
        · show eG _ 7 44 [some (.ref 0), some (.int (zI l1)), some (.int (zI l2)), some (.int (zI l3)), some (.int (zI l4)), some (.int (zI l5))] [] (rd S) _
          refine g_run 1 45 [some (.ref 0), some (.int (zI l1)), some (.int (zI l2)), some (.int (zI l3)), some (.int (zI l4)), some (.int (zI l5))] [.int (zI (-1))] (rd S) rfl ?_
          cases h
          exact s_ret rfl rfl rfl
        · show eG _ 7 31 [some (.ref 0), some (.int (zI l1)), some (.int (zI l2)), some (.int (zI l3)), some (.int (zI l4)), some (.int (zI l5))] [] (rd S) _
          refine g_run 1 32 [some (.ref 0), some (.int (zI l1)), some (.int (zI l2)), some (.int (zI l3)), some (.int (zI l4)), some (.int (zI l5))] [.ref 0] (rd S) rfl ?_
          refine g_getf rfl rfl (rd_o0 _) rfl ?_
          show eG _ 7 35 [some (.ref 0), some (.int (zI l1)), some (.int (zI l2)), some (.int (zI l3)), some (.int (zI l4)), some (.int (zI l5))] [.ref 1] (rd S) _
          refine g_run 1 37 [some (.ref 0), some (.int (zI l1)), some (.int (zI l2)), some (.int (zI l3)), some (.int (zI l4)), some (.int (zI l5))] [.int (zI l5), .ref 1] (rd S) rfl ?_
          refine s_i2l rfl h (fun h => ?_)
          refine s_vir (fun z => some (.int (zI z))) (fun _ => rd S) rfl rfl rfl (rd_o1 _) rfl rfl (fun z hz => sT_isSet o n S 1 (Or.inl rfl) l5 hz) rfl h (fun z5 h => ?_)
          show eG _ 7 41 [some (.ref 0), some (.int (zI l1)), some (.int (zI l2)), some (.int (zI l3)), some (.int (zI l4)), some (.int (zI l5))] [.int (zI z5)] (rd S) _
          refine s_if_ne rfl h (fun h => ?_) (fun h => ?_)
          · show eG _ 7 46 [some (.ref 0), some (.int (zI l1)), some (.int (zI l2)), some (.int (zI l3)), some (.int (zI l4)), some (.int (zI l5))] [] (rd S) _
            refine g_run 1 47 [some (.ref 0), some (.int (zI l1)), some (.int (zI l2)), some (.int (zI l3)), some (.int (zI l4)), some (.int (zI l5))] [.ref 0] (rd S) rfl ?_
            refine g_getf rfl rfl (rd_o0 _) rfl ?_
            show eG _ 7 50 [some (.ref 0), some (.int (zI l1)), some (.int (zI l2)), some (.int (zI l3)), some (.int (zI l4)), some (.int (zI l5))] [.ref 1] (rd S) _
            refine s_vir (fun z => some (.int (zI z))) (fun _ => rd S) rfl rfl rfl (rd_o1 _) rfl rfl (fun z hz => sT_isBuiltUp o n S 1 (Or.inl rfl) hz) rfl h (fun z6 h => ?_)
            show eG _ 7 53 [some (.ref 0), some (.int (zI l1)), some (.int (zI l2)), some (.int (zI l3)), some (.int (zI l4)), some (.int (zI l5))] [.int (zI z6)] (rd S) _
            refine s_if_eq rfl h (fun h => ?_) (fun h => ?_)
            · show eG _ 7 59 [some (.ref 0), some (.int (zI l1)), some (.int (zI l2)), some (.int (zI l3)), some (.int (zI l4)), some (.int (zI l5))] [] (rd S) _
              refine g_run 1 60 [some (.ref 0), some (.int (zI l1)), some (.int (zI l2)), some (.int (zI l3)), some (.int (zI l4)), some (.int (zI l5))] [.ref 0] (rd S) rfl ?_
              refine g_getf rfl rfl (rd_o0 _) rfl ?_
              show eG _ 7 63 [some (.ref 0), some (.int (zI l1)), some (.int (zI l2)), some (.int (zI l3)), some (.int (zI l4)), some (.int (zI l5))] [.ref 1] (rd S) _
              refine g_run 5 70 [some (.ref 0), some (.int (zI l1)), some (.int (zI l2)), some (.int (zI l3)), some (.int (zI l4)), some (.int (zI l5))] [.int (zI l5), .int (zI l4), .int (zI l3), .int (zI l2), .int (zI l1), .ref 1] (rd S) rfl ?_
              refine s_vir (fun _ => none) (fun z => rd z) rfl rfl rfl (rd_o1 _) rfl rfl (fun z hz => sT_addPart_1 o n S l1 l2 l3 l4 l5 hz) rfl h (fun z7 h => ?_)
              show eG _ 7 73 [some (.ref 0), some (.int (zI l1)), some (.int (zI l2)), some (.int (zI l3)), some (.int (zI l4)), some (.int (zI l5))] [] (rd z7) _
              refine g_run 1 74 [some (.ref 0), some (.int (zI l1)), some (.int (zI l2)), some (.int (zI l3)), some (.int (zI l4)), some (.int (zI l5))] [.ref 0] (rd z7) rfl ?_
              refine g_getf rfl rfl (rd_o0 _) rfl ?_
              show eG _ 7 77 [some (.ref 0), some (.int (zI l1)), some (.int (zI l2)), some (.int (zI l3)), some (.int (zI l4)), some (.int (zI l5))] [.ref 24] (rd z7) _
              refine s_vir (fun _ => none) (fun z => rd z) rfl rfl rfl (rd_o24 _) rfl rfl (fun z hz => sW_forget o n z7 hz) rfl h (fun z8 h => ?_)
              show eG _ 7 80 [some (.ref 0), some (.int (zI l1)), some (.int (zI l2)), some (.int (zI l3)), some (.int (zI l4)), some (.int (zI l5))] [] (rd z8) _
              refine g_run 1 81 [some (.ref 0), some (.int (zI l1)), some (.int (zI l2)), some (.int (zI l3)), some (.int (zI l4)), some (.int (zI l5))] [.ref 0] (rd z8) rfl ?_
              refine g_getf rfl rfl (rd_o0 _) rfl ?_
              show eG _ 7 84 [some (.ref 0), some (.int (zI l1)), some (.int (zI l2)), some (.int (zI l3)), some (.int (zI l4)), some (.int (zI l5))] [.ref 1] (rd z8) _
              refine g_getf rfl rfl (rd_o1 _) rfl ?_
              show eG _ 7 87 [some (.ref 0), some (.int (zI l1)), some (.int (zI l2)), some (.int (zI l3)), some (.int (zI l4)), some (.int (zI l5))] [.int (zI (zF z8 1 6))] (rd z8) _
              refine g_run 1 88 [some (.ref 0), some (.int (zI l1)), some (.int (zI l2)), some (.int (zI l3)), some (.int (zI l4)), some (.int (zI l5))] [.int (zI 1), .int (zI (zF z8 1 6))] (rd z8) rfl ?_
              refine s_isub rfl ?_
              cases h
              exact s_ret rfl rfl rfl
            · show eG _ 7 56 [some (.ref 0), some (.int (zI l1)), some (.int (zI l2)), some (.int (zI l3)), some (.int (zI l4)), some (.int (zI l5))] [] (rd S) _
              refine g_run 1 58 [some (.ref 0), some (.int (zI l1)), some (.int (zI l2)), some (.int (zI l3)), some (.int (zI l4)), some (.int (zI l5))] [.int (zI (-3))] (rd S) rfl ?_
              cases h
              exact s_ret rfl rfl rfl
          · show eG _ 7 44 [some (.ref 0), some (.int (zI l1)), some (.int (zI l2)), some (.int (zI l3)), some (.int (zI l4)), some (.int (zI l5))] [] (rd S) _
            refine g_run 1 45 [some (.ref 0), some (.int (zI l1)), some (.int (zI l2)), some (.int (zI l3)), some (.int (zI l4)), some (.int (zI l5))] [.int (zI (-1))] (rd S) rfl ?_
            cases h
            exact s_ret rfl rfl rfl
      · show eG _ 7 21 [some (.ref 0), some (.int (zI l1)), some (.int (zI l2)), some (.int (zI l3)), some (.int (zI l4)), some (.int (zI l5))] [] (rd S) _
        refine g_run 1 22 [some (.ref 0), some (.int (zI l1)), some (.int (zI l2)), some (.int (zI l3)), some (.int (zI l4)), some (.int (zI l5))] [.int (zI (-1))] (rd S) rfl ?_
        cases h
        exact s_ret rfl rfl rfl
def fT_isPart (n : Nat) (S : ZS) (t : Nat) (l1 : Int) : Option (Int) := gC l1 0 (if l1 < 0 then gB 0 (some 0) else gC l1 (zF S t 6) (if l1 < (zF S t 6) then gB 1 (some 1) else gB 0 (some 0)))
set_option maxRecDepth 100000 in
set_option maxHeartbeats 4000000 in
theorem sT_isPart (o : eO) (n : Nat) (S : ZS) (t : Nat) (ht : isT t) (l1 : Int) {w : Int} (h : fT_isPart n S t l1 = some w) : eG o 18 0 (eEnt 18 [.ref t, .int (zI l1)]) [] (rd S) (rv (some (.int (zI w))) (rd S)) := by
  unfold fT_isPart at h
  show eG o 18 0 [some (.ref t), some (.int (zI l1))] [] (rd S) _
  refine g_run 1 1 [some (.ref t), some (.int (zI l1))] [.int (zI l1)] (rd S) rfl ?_
  refine s_if_lt rfl h (fun h => ?_) (fun h => ?_)
  · show eG _ 18 16 [some (.ref t), some (.int (zI l1))] [] (rd S) _
    refine g_run 1 17 [some (.ref t), some (.int (zI l1))] [.int (zI 0)] (rd S) rfl ?_
    exact s_retB rfl rfl h (fun h => by cases h; exact rfl)
  · show eG _ 18 4 [some (.ref t), some (.int (zI l1))] [] (rd S) _
    refine g_run 2 6 [some (.ref t), some (.int (zI l1))] [.ref t, .int (zI l1)] (rd S) rfl ?_
    refine g_getf rfl rfl (rd_t ht _) rfl ?_
    show eG _ 18 9 [some (.ref t), some (.int (zI l1))] [.int (zI (zF S t 6)), .int (zI l1)] (rd S) _
    refine s_icmp_ge rfl h (fun h => ?_) (fun h => ?_)
    · show eG _ 18 16 [some (.ref t), some (.int (zI l1))] [] (rd S) _
      refine g_run 1 17 [some (.ref t), some (.int (zI l1))] [.int (zI 0)] (rd S) rfl ?_
      exact s_retB rfl rfl h (fun h => by cases h; exact rfl)
    · show eG _ 18 12 [some (.ref t), some (.int (zI l1))] [] (rd S) _
      refine g_run 2 17 [some (.ref t), some (.int (zI l1))] [.int (zI 1)] (rd S) rfl ?_
      exact s_retB rfl rfl h (fun h => by cases h; exact rfl)
def fD_told (n : Nat) (S : ZS) (l1 l2 : Int) : Option (Int) := (fT_isPart n S 1 l1).bind fun z1 => gC z1 0 (if z1 = 0 then some (-1) else gC l2 0 (if l2 = 0 then gX l1 8 (some (zA S 2 l1)) else if l2 = 1 then gX l1 8 (some (zA S 3 l1)) else if l2 = 2 then gX l1 8 (some (zA S 4 l1)) else if l2 = 3 then gX l1 8 (some (zA S 5 l1)) else if l2 = 4 then gX l1 8 (some (zA S 6 l1)) else if l2 = 5 then some (zand (zshr (zF S 1 8) l1) 1) else some (-1)))
set_option maxRecDepth 100000 in
set_option maxHeartbeats 4000000 in
theorem sD_told (o : eO) (n : Nat) (S : ZS) (l1 l2 : Int) {w : Int} (h : fD_told n S l1 l2 = some w) : eG o 17 0 (eEnt 17 [.ref 0, .int (zI l1), .int (zI l2)]) [] (rd S) (rv (some (.int (zI w))) (rd S)) := by
  unfold fD_told at h
  show eG o 17 0 [some (.ref 0), some (.int (zI l1)), some (.int (zI l2))] [] (rd S) _
  refine g_run 1 1 [some (.ref 0), some (.int (zI l1)), some (.int (zI l2))] [.ref 0] (rd S) rfl ?_
  refine g_getf rfl rfl (rd_o0 _) rfl ?_
  show eG _ 17 4 [some (.ref 0), some (.int (zI l1)), some (.int (zI l2))] [.ref 1] (rd S) _
  refine g_run 1 5 [some (.ref 0), some (.int (zI l1)), some (.int (zI l2))] [.int (zI l1), .ref 1] (rd S) rfl ?_
  refine s_vir (fun z => some (.int (zI z))) (fun _ => rd S) rfl rfl rfl (rd_o1 _) rfl rfl (fun z hz => sT_isPart o n S 1 (Or.inl rfl) l1 hz) rfl h (fun z1 h => ?_)
  show eG _ 17 8 [some (.ref 0), some (.int (zI l1)), some (.int (zI l2))] [.int (zI z1)] (rd S) _
  refine s_if_ne rfl h (fun h => ?_) (fun h => ?_)
  · show eG _ 17 13 [some (.ref 0), some (.int (zI l1)), some (.int (zI l2))] [] (rd S) _
    refine g_run 1 14 [some (.ref 0), some (.int (zI l1)), some (.int (zI l2))] [.int (zI l2)] (rd S) rfl ?_
    obtain ⟨⟨hr1, hr2, -⟩, h⟩ := gC_inv h
    by_cases c : l2 = 0
    · rw [if_pos c] at h
      refine s_tabv 52 rfl ⟨hr1, hr2⟩ (by rw [c]; rfl) ?_
      show eG _ 17 52 [some (.ref 0), some (.int (zI l1)), some (.int (zI l2))] [] (rd S) _
      refine g_run 1 53 [some (.ref 0), some (.int (zI l1)), some (.int (zI l2))] [.ref 0] (rd S) rfl ?_
      refine g_getf rfl rfl (rd_o0 _) rfl ?_
      show eG _ 17 56 [some (.ref 0), some (.int (zI l1)), some (.int (zI l2))] [.ref 1] (rd S) _
      refine g_getf rfl rfl (rd_o1 _) rfl ?_
      show eG _ 17 59 [some (.ref 0), some (.int (zI l1)), some (.int (zI l2))] [.ref 2] (rd S) _
      refine g_run 1 60 [some (.ref 0), some (.int (zI l1)), some (.int (zI l2))] [.int (zI l1), .ref 2] (rd S) rfl ?_
      refine s_iald rfl (rd_a2 _) h (fun h => ?_)
      show eG _ 17 61 [some (.ref 0), some (.int (zI l1)), some (.int (zI l2))] [.int (zI (zA S 2 l1))] (rd S) _
      cases h
      exact s_ret rfl rfl rfl
    rw [if_neg c] at h
    have c0 := c
    by_cases c : l2 = 1
    · rw [if_pos c] at h
      refine s_tabv 62 rfl ⟨hr1, hr2⟩ (by rw [c]; rfl) ?_
      show eG _ 17 62 [some (.ref 0), some (.int (zI l1)), some (.int (zI l2))] [] (rd S) _
      refine g_run 1 63 [some (.ref 0), some (.int (zI l1)), some (.int (zI l2))] [.ref 0] (rd S) rfl ?_
      refine g_getf rfl rfl (rd_o0 _) rfl ?_
      show eG _ 17 66 [some (.ref 0), some (.int (zI l1)), some (.int (zI l2))] [.ref 1] (rd S) _
      refine g_getf rfl rfl (rd_o1 _) rfl ?_
      show eG _ 17 69 [some (.ref 0), some (.int (zI l1)), some (.int (zI l2))] [.ref 3] (rd S) _
      refine g_run 1 70 [some (.ref 0), some (.int (zI l1)), some (.int (zI l2))] [.int (zI l1), .ref 3] (rd S) rfl ?_
      refine s_iald rfl (rd_a3 _) h (fun h => ?_)
      show eG _ 17 71 [some (.ref 0), some (.int (zI l1)), some (.int (zI l2))] [.int (zI (zA S 3 l1))] (rd S) _
      cases h
      exact s_ret rfl rfl rfl
    rw [if_neg c] at h
    have c1 := c
    by_cases c : l2 = 2
    · rw [if_pos c] at h
      refine s_tabv 72 rfl ⟨hr1, hr2⟩ (by rw [c]; rfl) ?_
      show eG _ 17 72 [some (.ref 0), some (.int (zI l1)), some (.int (zI l2))] [] (rd S) _
      refine g_run 1 73 [some (.ref 0), some (.int (zI l1)), some (.int (zI l2))] [.ref 0] (rd S) rfl ?_
      refine g_getf rfl rfl (rd_o0 _) rfl ?_
      show eG _ 17 76 [some (.ref 0), some (.int (zI l1)), some (.int (zI l2))] [.ref 1] (rd S) _
      refine g_getf rfl rfl (rd_o1 _) rfl ?_
      show eG _ 17 79 [some (.ref 0), some (.int (zI l1)), some (.int (zI l2))] [.ref 4] (rd S) _
      refine g_run 1 80 [some (.ref 0), some (.int (zI l1)), some (.int (zI l2))] [.int (zI l1), .ref 4] (rd S) rfl ?_
      refine s_iald rfl (rd_a4 _) h (fun h => ?_)
      show eG _ 17 81 [some (.ref 0), some (.int (zI l1)), some (.int (zI l2))] [.int (zI (zA S 4 l1))] (rd S) _
      cases h
      exact s_ret rfl rfl rfl
    rw [if_neg c] at h
    have c2 := c
    by_cases c : l2 = 3
    · rw [if_pos c] at h
      refine s_tabv 82 rfl ⟨hr1, hr2⟩ (by rw [c]; rfl) ?_
      show eG _ 17 82 [some (.ref 0), some (.int (zI l1)), some (.int (zI l2))] [] (rd S) _
      refine g_run 1 83 [some (.ref 0), some (.int (zI l1)), some (.int (zI l2))] [.ref 0] (rd S) rfl ?_
      refine g_getf rfl rfl (rd_o0 _) rfl ?_
      show eG _ 17 86 [some (.ref 0), some (.int (zI l1)), some (.int (zI l2))] [.ref 1] (rd S) _
      refine g_getf rfl rfl (rd_o1 _) rfl ?_
      show eG _ 17 89 [some (.ref 0), some (.int (zI l1)), some (.int (zI l2))] [.ref 5] (rd S) _
      refine g_run 1 90 [some (.ref 0), some (.int (zI l1)), some (.int (zI l2))] [.int (zI l1), .ref 5] (rd S) rfl ?_
      refine s_iald rfl (rd_a5 _) h (fun h => ?_)
      show eG _ 17 91 [some (.ref 0), some (.int (zI l1)), some (.int (zI l2))] [.int (zI (zA S 5 l1))] (rd S) _
      cases h
      exact s_ret rfl rfl rfl
    rw [if_neg c] at h
    have c3 := c
    by_cases c : l2 = 4
    · rw [if_pos c] at h
      refine s_tabv 92 rfl ⟨hr1, hr2⟩ (by rw [c]; rfl) ?_
      show eG _ 17 92 [some (.ref 0), some (.int (zI l1)), some (.int (zI l2))] [] (rd S) _
      refine g_run 1 93 [some (.ref 0), some (.int (zI l1)), some (.int (zI l2))] [.ref 0] (rd S) rfl ?_
      refine g_getf rfl rfl (rd_o0 _) rfl ?_
      show eG _ 17 96 [some (.ref 0), some (.int (zI l1)), some (.int (zI l2))] [.ref 1] (rd S) _
      refine g_getf rfl rfl (rd_o1 _) rfl ?_
      show eG _ 17 99 [some (.ref 0), some (.int (zI l1)), some (.int (zI l2))] [.ref 6] (rd S) _
      refine g_run 1 100 [some (.ref 0), some (.int (zI l1)), some (.int (zI l2))] [.int (zI l1), .ref 6] (rd S) rfl ?_
      refine s_iald rfl (rd_a6 _) h (fun h => ?_)
      show eG _ 17 101 [some (.ref 0), some (.int (zI l1)), some (.int (zI l2))] [.int (zI (zA S 6 l1))] (rd S) _
      cases h
      exact s_ret rfl rfl rfl
    rw [if_neg c] at h
    have c4 := c
    by_cases c : l2 = 5
    · rw [if_pos c] at h
      refine s_tabv 102 rfl ⟨hr1, hr2⟩ (by rw [c]; rfl) ?_
      show eG _ 17 102 [some (.ref 0), some (.int (zI l1)), some (.int (zI l2))] [] (rd S) _
      refine g_run 1 103 [some (.ref 0), some (.int (zI l1)), some (.int (zI l2))] [.ref 0] (rd S) rfl ?_
      refine g_getf rfl rfl (rd_o0 _) rfl ?_
      show eG _ 17 106 [some (.ref 0), some (.int (zI l1)), some (.int (zI l2))] [.ref 1] (rd S) _
      refine g_getf rfl rfl (rd_o1 _) rfl ?_
      show eG _ 17 109 [some (.ref 0), some (.int (zI l1)), some (.int (zI l2))] [.int (zI (zF S 1 8))] (rd S) _
      refine g_run 1 110 [some (.ref 0), some (.int (zI l1)), some (.int (zI l2))] [.int (zI l1), .int (zI (zF S 1 8))] (rd S) rfl ?_
      refine s_ishr rfl ?_
      refine g_run 1 112 [some (.ref 0), some (.int (zI l1)), some (.int (zI l2))] [.int (zI 1), .int (zI (zshr (zF S 1 8) l1))] (rd S) rfl ?_
      refine s_iand rfl ?_
      cases h
      exact s_ret rfl rfl rfl
    rw [if_neg c] at h
    have c5 := c
    refine s_tabv 114 rfl ⟨hr1, hr2⟩ (by rw [if_pos (by omega)]; rfl) ?_
    show eG _ 17 114 [some (.ref 0), some (.int (zI l1)), some (.int (zI l2))] [] (rd S) _
    refine g_run 1 115 [some (.ref 0), some (.int (zI l1)), some (.int (zI l2))] [.int (zI (-1))] (rd S) rfl ?_
    cases h
    exact s_ret rfl rfl rfl
  · show eG _ 17 11 [some (.ref 0), some (.int (zI l1)), some (.int (zI l2))] [] (rd S) _
    refine g_run 1 12 [some (.ref 0), some (.int (zI l1)), some (.int (zI l2))] [.int (zI (-1))] (rd S) rfl ?_
    cases h
    exact s_ret rfl rfl rfl
def fT_isFirm_1 : Nat → ZS → Nat → Int → Int → Option ((Int) ⊕ (Unit))
  | 0, _, _, _, _ => none
  | n + 1, S, t, l1, l2 => gC l2 (zF S t 6) (if l2 < (zF S t 6) then gC (zand (zshr l1 l2) 1) 1 (if (zand (zshr l1 l2) 1) = 1 then gX l2 8 (gC (zand (zA S (t + 5) l2) (zxor l1 (-1))) 0 (if (zand (zA S (t + 5) l2) (zxor l1 (-1))) = 0 then fT_isFirm_1 n S t l1 (l2 + 1) else gB 0 (some (.inl 0)))) else fT_isFirm_1 n S t l1 (l2 + 1)) else some (.inr ()))
set_option maxRecDepth 100000 in
set_option maxHeartbeats 4000000 in
theorem sT_isFirm_1 (o : eO) (t : Nat) (ht : isT t) : ∀ (n : Nat) (S : ZS) (l1 l2 : Int) {w : (Int) ⊕ (Unit)} {r : eP} (h : fT_isFirm_1 n S t l1 l2 = some w) (hr : ∀ v, w = .inl v → r (some (.int (zI v)), rd S)) (hk : ∀ x, w = .inr x → eG o 20 40 [none, none, none] [] (rd S) r), eG o 20 2 [some (.ref t), some (.int (zI l1)), some (.int (zI l2))] [] (rd S) r := by
  intro n
  induction n with
  | zero => intro S l1 l2 w r h hr hk; unfold fT_isFirm_1 at h; cases h
  | succ n ih =>
    intro S l1 l2 w r h hr hk
    unfold fT_isFirm_1 at h
    refine g_run 2 4 [some (.ref t), some (.int (zI l1)), some (.int (zI l2))] [.ref t, .int (zI l2)] (rd S) rfl ?_
    refine g_getf rfl rfl (rd_t ht _) rfl ?_
    show eG _ 20 7 [some (.ref t), some (.int (zI l1)), some (.int (zI l2))] [.int (zI (zF S t 6)), .int (zI l2)] (rd S) _
    refine s_icmp_ge rfl h (fun h => ?_) (fun h => ?_)
    · show eG _ 20 40 [some (.ref t), some (.int (zI l1)), some (.int (zI l2))] [] (rd S) _
      refine g_fgt [true, true, true] ?_
      show eG _ 20 40 [none, none, none] [] (rd S) _
      cases h
      exact hk _ rfl
    · show eG _ 20 10 [some (.ref t), some (.int (zI l1)), some (.int (zI l2))] [] (rd S) _
      refine g_run 2 12 [some (.ref t), some (.int (zI l1)), some (.int (zI l2))] [.int (zI l2), .int (zI l1)] (rd S) rfl ?_
      refine s_ishr rfl ?_
      refine g_run 1 14 [some (.ref t), some (.int (zI l1)), some (.int (zI l2))] [.int (zI 1), .int (zI (zshr l1 l2))] (rd S) rfl ?_
      refine s_iand rfl ?_
      refine g_run 1 16 [some (.ref t), some (.int (zI l1)), some (.int (zI l2))] [.int (zI 1), .int (zI (zand (zshr l1 l2) 1))] (rd S) rfl ?_
      refine s_icmp_ne rfl h (fun h => ?_) (fun h => ?_)
      · show eG _ 20 34 [some (.ref t), some (.int (zI l1)), some (.int (zI l2))] [] (rd S) _
        refine s_iinc (L' := [some (.ref t), some (.int (zI l1)), some (.int (zI (l2 + 1)))]) rfl rfl rfl ?_
        refine g_run 1 2 [some (.ref t), some (.int (zI l1)), some (.int (zI (l2 + 1)))] [] (rd S) rfl ?_
        exact ih S l1 (l2 + 1) h hr hk
      · show eG _ 20 19 [some (.ref t), some (.int (zI l1)), some (.int (zI l2))] [] (rd S) _
        refine g_run 1 20 [some (.ref t), some (.int (zI l1)), some (.int (zI l2))] [.ref t] (rd S) rfl ?_
        refine g_getf rfl rfl (rd_t ht _) rfl ?_
        show eG _ 20 23 [some (.ref t), some (.int (zI l1)), some (.int (zI l2))] [.ref (t + 5)] (rd S) _
        refine g_run 1 24 [some (.ref t), some (.int (zI l1)), some (.int (zI l2))] [.int (zI l2), .ref (t + 5)] (rd S) rfl ?_
        refine s_iald rfl (rd_t5 ht _) h (fun h => ?_)
        show eG _ 20 25 [some (.ref t), some (.int (zI l1)), some (.int (zI l2))] [.int (zI (zA S (t + 5) l2))] (rd S) _
        refine g_run 2 27 [some (.ref t), some (.int (zI l1)), some (.int (zI l2))] [.int (zI (-1)), .int (zI l1), .int (zI (zA S (t + 5) l2))] (rd S) rfl ?_
        refine s_ixor rfl ?_
        refine s_iand rfl ?_
        refine s_if_eq rfl h (fun h => ?_) (fun h => ?_)
        · show eG _ 20 34 [some (.ref t), some (.int (zI l1)), some (.int (zI l2))] [] (rd S) _
          refine s_iinc (L' := [some (.ref t), some (.int (zI l1)), some (.int (zI (l2 + 1)))]) rfl rfl rfl ?_
          refine g_run 1 2 [some (.ref t), some (.int (zI l1)), some (.int (zI (l2 + 1)))] [] (rd S) rfl ?_
          exact ih S l1 (l2 + 1) h hr hk
        · show eG _ 20 32 [some (.ref t), some (.int (zI l1)), some (.int (zI l2))] [] (rd S) _
          refine g_run 1 33 [some (.ref t), some (.int (zI l1)), some (.int (zI l2))] [.int (zI 0)] (rd S) rfl ?_
          exact s_retB rfl rfl h (fun h => by cases h; exact hr _ rfl)
def fT_isFirm (n : Nat) (S : ZS) (t : Nat) (l1 : Int) : Option (Int) := zR (fT_isFirm_1 n S t l1 0) fun z1 => gB 1 (some 1)
set_option maxRecDepth 100000 in
set_option maxHeartbeats 4000000 in
theorem sT_isFirm (o : eO) (n : Nat) (S : ZS) (t : Nat) (ht : isT t) (l1 : Int) {w : Int} (h : fT_isFirm n S t l1 = some w) : eG o 20 0 (eEnt 20 [.ref t, .int (zI l1)]) [] (rd S) (rv (some (.int (zI w))) (rd S)) := by
  unfold fT_isFirm at h
  show eG o 20 0 [some (.ref t), some (.int (zI l1)), none] [] (rd S) _
  refine g_run 2 2 [some (.ref t), some (.int (zI l1)), some (.int (zI 0))] [] (rd S) rfl ?_
  rcases zR_inv h with h1 | ⟨z1, h1, h⟩
  · exact sT_isFirm_1 o t ht n S l1 0 h1 (fun v e => by cases e; rfl) (fun x e => by cases e)
  refine sT_isFirm_1 o t ht n S l1 0 h1 (fun v e => by cases e) (fun x e => ?_)
  cases e
  show eG _ 20 40 [none, none, none] [] (rd S) _
  refine g_run 1 41 [none, none, none] [.int (zI 1)] (rd S) rfl ?_
  exact s_retB rfl rfl h (fun h => by cases h; exact rfl)
def fD_stand (n : Nat) (S : ZS) (l1 : Int) : Option (Int × ZS) := gC l1 0 ((fT_isSet n S 1 l1).bind fun z1 => gC z1 0 (if z1 = 0 then some (-1, S) else (fT_isFirm n S 1 l1).bind fun z2 => gC z2 0 (if z2 = 0 then some (-2, S) else (fW_forget n (wF S 1 8 l1)).bind fun z3 => some (zF S 1 8, z3))))
set_option maxRecDepth 100000 in
set_option maxHeartbeats 4000000 in
theorem sD_stand (o : eO) (n : Nat) (S : ZS) (l1 : Int) {w : Int × ZS} (h : fD_stand n S l1 = some w) : eG o 19 0 (eEnt 19 [.ref 0, .int (zI l1)]) [] (rd S) (rv (some (.int (zI w.1))) (rd w.2)) := by
  unfold fD_stand at h
  show eG o 19 0 [some (.ref 0), some (.int (zI l1)), none] [] (rd S) _
  refine g_run 1 1 [some (.ref 0), some (.int (zI l1)), none] [.ref 0] (rd S) rfl ?_
  refine g_getf rfl rfl (rd_o0 _) rfl ?_
  show eG _ 19 4 [some (.ref 0), some (.int (zI l1)), none] [.ref 1] (rd S) _
  refine g_run 1 5 [some (.ref 0), some (.int (zI l1)), none] [.int (zI l1), .ref 1] (rd S) rfl ?_
  refine s_i2l rfl h (fun h => ?_)
  refine s_vir (fun z => some (.int (zI z))) (fun _ => rd S) rfl rfl rfl (rd_o1 _) rfl rfl (fun z hz => sT_isSet o n S 1 (Or.inl rfl) l1 hz) rfl h (fun z1 h => ?_)
  show eG _ 19 9 [some (.ref 0), some (.int (zI l1)), none] [.int (zI z1)] (rd S) _
  refine s_if_ne rfl h (fun h => ?_) (fun h => ?_)
  · show eG _ 19 14 [some (.ref 0), some (.int (zI l1)), none] [] (rd S) _
    refine g_run 1 15 [some (.ref 0), some (.int (zI l1)), none] [.ref 0] (rd S) rfl ?_
    refine g_getf rfl rfl (rd_o0 _) rfl ?_
    show eG _ 19 18 [some (.ref 0), some (.int (zI l1)), none] [.ref 1] (rd S) _
    refine g_run 1 19 [some (.ref 0), some (.int (zI l1)), none] [.int (zI l1), .ref 1] (rd S) rfl ?_
    refine s_vir (fun z => some (.int (zI z))) (fun _ => rd S) rfl rfl rfl (rd_o1 _) rfl rfl (fun z hz => sT_isFirm o n S 1 (Or.inl rfl) l1 hz) rfl h (fun z2 h => ?_)
    show eG _ 19 22 [some (.ref 0), some (.int (zI l1)), none] [.int (zI z2)] (rd S) _
    refine s_if_ne rfl h (fun h => ?_) (fun h => ?_)
    · show eG _ 19 28 [some (.ref 0), some (.int (zI l1)), none] [] (rd S) _
      refine g_run 1 29 [some (.ref 0), some (.int (zI l1)), none] [.ref 0] (rd S) rfl ?_
      refine g_getf rfl rfl (rd_o0 _) rfl ?_
      show eG _ 19 32 [some (.ref 0), some (.int (zI l1)), none] [.ref 1] (rd S) _
      refine g_getf rfl rfl (rd_o1 _) rfl ?_
      show eG _ 19 35 [some (.ref 0), some (.int (zI l1)), none] [.int (zI (zF S 1 8))] (rd S) _
      refine g_run 2 37 [some (.ref 0), some (.int (zI l1)), some (.int (zI (zF S 1 8)))] [.ref 0] (rd S) rfl ?_
      refine g_getf rfl rfl (rd_o0 _) rfl ?_
      show eG _ 19 40 [some (.ref 0), some (.int (zI l1)), some (.int (zI (zF S 1 8)))] [.ref 1] (rd S) _
      refine g_run 1 41 [some (.ref 0), some (.int (zI l1)), some (.int (zI (zF S 1 8)))] [.int (zI l1), .ref 1] (rd S) rfl ?_
      refine s_putf rfl rfl (rd_o1 _) rfl rfl rfl rfl rfl (rw_o1_8 _ _) ?_
      show eG _ 19 44 [some (.ref 0), some (.int (zI l1)), some (.int (zI (zF S 1 8)))] [] (rd (wF S 1 8 l1)) _
      refine g_run 1 45 [some (.ref 0), some (.int (zI l1)), some (.int (zI (zF S 1 8)))] [.ref 0] (rd (wF S 1 8 l1)) rfl ?_
      refine g_getf rfl rfl (rd_o0 _) rfl ?_
      show eG _ 19 48 [some (.ref 0), some (.int (zI l1)), some (.int (zI (zF S 1 8)))] [.ref 24] (rd (wF S 1 8 l1)) _
      refine s_vir (fun _ => none) (fun z => rd z) rfl rfl rfl (rd_o24 _) rfl rfl (fun z hz => sW_forget o n (wF S 1 8 l1) hz) rfl h (fun z3 h => ?_)
      show eG _ 19 51 [some (.ref 0), some (.int (zI l1)), some (.int (zI (zF S 1 8)))] [] (rd z3) _
      refine g_run 1 52 [some (.ref 0), some (.int (zI l1)), some (.int (zI (zF S 1 8)))] [.int (zI (zF S 1 8))] (rd z3) rfl ?_
      cases h
      exact s_ret rfl rfl rfl
    · show eG _ 19 25 [some (.ref 0), some (.int (zI l1)), none] [] (rd S) _
      refine g_run 1 27 [some (.ref 0), some (.int (zI l1)), none] [.int (zI (-2))] (rd S) rfl ?_
      cases h
      exact s_ret rfl rfl rfl
  · show eG _ 19 12 [some (.ref 0), some (.int (zI l1)), none] [] (rd S) _
    refine g_run 1 13 [some (.ref 0), some (.int (zI l1)), none] [.int (zI (-1))] (rd S) rfl ?_
    cases h
    exact s_ret rfl rfl rfl
def fT_isPeopled (n : Nat) (S : ZS) (t : Nat) : Option (Int) := gC (zF S t 7) 4 (if (zF S t 7) < 4 then gB 0 (some 0) else gB 1 (some 1))
set_option maxRecDepth 100000 in
set_option maxHeartbeats 4000000 in
theorem sT_isPeopled (o : eO) (n : Nat) (S : ZS) (t : Nat) (ht : isT t) {w : Int} (h : fT_isPeopled n S t = some w) : eG o 22 0 (eEnt 22 [.ref t]) [] (rd S) (rv (some (.int (zI w))) (rd S)) := by
  unfold fT_isPeopled at h
  show eG o 22 0 [some (.ref t)] [] (rd S) _
  refine g_run 1 1 [some (.ref t)] [.ref t] (rd S) rfl ?_
  refine g_getf rfl rfl (rd_t ht _) rfl ?_
  show eG _ 22 4 [some (.ref t)] [.int (zI (zF S t 7))] (rd S) _
  refine g_run 1 5 [some (.ref t)] [.int (zI 4), .int (zI (zF S t 7))] (rd S) rfl ?_
  refine s_icmp_lt rfl h (fun h => ?_) (fun h => ?_)
  · show eG _ 22 12 [some (.ref t)] [] (rd S) _
    refine g_run 1 13 [some (.ref t)] [.int (zI 0)] (rd S) rfl ?_
    exact s_retB rfl rfl h (fun h => by cases h; exact rfl)
  · show eG _ 22 8 [some (.ref t)] [] (rd S) _
    refine g_run 2 13 [some (.ref t)] [.int (zI 1)] (rd S) rfl ?_
    exact s_retB rfl rfl h (fun h => by cases h; exact rfl)
def fT_addPerson_1 (n : Nat) (S : ZS) (l1 : Int) : Option (ZS) := gX (zF S 1 7) 4 (some (wF (wA S 7 (zF S 1 7) l1) 1 7 ((zF S 1 7) + 1)))
set_option maxRecDepth 100000 in
set_option maxHeartbeats 4000000 in
theorem sT_addPerson_1 (o : eO) (n : Nat) (S : ZS) (l1 : Int) {w : ZS} (h : fT_addPerson_1 n S l1 = some w) : eG o 23 0 (eEnt 23 [.ref 1, .int (zI l1)]) [] (rd S) (rv (none) (rd w)) := by
  unfold fT_addPerson_1 at h
  show eG o 23 0 [some (.ref 1), some (.int (zI l1))] [] (rd S) _
  refine g_run 1 1 [some (.ref 1), some (.int (zI l1))] [.ref 1] (rd S) rfl ?_
  refine g_getf rfl rfl (rd_o1 _) rfl ?_
  show eG _ 23 4 [some (.ref 1), some (.int (zI l1))] [.ref 7] (rd S) _
  refine g_run 1 5 [some (.ref 1), some (.int (zI l1))] [.ref 1, .ref 7] (rd S) rfl ?_
  refine g_getf rfl rfl (rd_o1 _) rfl ?_
  show eG _ 23 8 [some (.ref 1), some (.int (zI l1))] [.int (zI (zF S 1 7)), .ref 7] (rd S) _
  refine g_run 1 9 [some (.ref 1), some (.int (zI l1))] [.int (zI l1), .int (zI (zF S 1 7)), .ref 7] (rd S) rfl ?_
  refine s_iast rfl (rd_a7 _) (rw_a7 _ _) h (fun h => ?_)
  show eG _ 23 10 [some (.ref 1), some (.int (zI l1))] [] (rd (wA S 7 (zF S 1 7) l1)) _
  refine g_run 2 12 [some (.ref 1), some (.int (zI l1))] [.ref 1, .ref 1] (rd (wA S 7 (zF S 1 7) l1)) rfl ?_
  refine g_getf rfl rfl (rd_o1 _) rfl ?_
  show eG _ 23 15 [some (.ref 1), some (.int (zI l1))] [.int (zI (zF S 1 7)), .ref 1] (rd (wA S 7 (zF S 1 7) l1)) _
  refine g_run 1 16 [some (.ref 1), some (.int (zI l1))] [.int (zI 1), .int (zI (zF S 1 7)), .ref 1] (rd (wA S 7 (zF S 1 7) l1)) rfl ?_
  refine s_iadd rfl ?_
  refine s_putf rfl rfl (rd_o1 _) rfl rfl rfl rfl rfl (rw_o1_7 _ _) ?_
  show eG _ 23 20 [some (.ref 1), some (.int (zI l1))] [] (rd (wF (wA S 7 (zF S 1 7) l1) 1 7 ((zF S 1 7) + 1))) _
  cases h
  exact g_retv rfl rfl rfl
def fD_person (n : Nat) (S : ZS) (l1 : Int) : Option (Int × ZS) := gC l1 0 (if l1 = 0 then some (-1, S) else gC l1 0 ((fT_isSet n S 1 l1).bind fun z1 => gC z1 0 (if z1 = 0 then some (-1, S) else (fT_isPeopled n S 1).bind fun z2 => gC z2 0 (if z2 = 0 then (fT_addPerson_1 n S l1).bind fun z3 => (fW_forget n z3).bind fun z4 => some ((zF z4 1 7) - 1, z4) else some (-3, S)))))
set_option maxRecDepth 100000 in
set_option maxHeartbeats 4000000 in
theorem sD_person (o : eO) (n : Nat) (S : ZS) (l1 : Int) {w : Int × ZS} (h : fD_person n S l1 = some w) : eG o 21 0 (eEnt 21 [.ref 0, .int (zI l1)]) [] (rd S) (rv (some (.int (zI w.1))) (rd w.2)) := by
  unfold fD_person at h
  show eG o 21 0 [some (.ref 0), some (.int (zI l1))] [] (rd S) _
  refine g_run 1 1 [some (.ref 0), some (.int (zI l1))] [.int (zI l1)] (rd S) rfl ?_
  refine s_if_eq rfl h (fun h => ?_) (fun h => ?_)
  · show eG _ 21 16 [some (.ref 0), some (.int (zI l1))] [] (rd S) _
    refine g_run 1 17 [some (.ref 0), some (.int (zI l1))] [.int (zI (-1))] (rd S) rfl ?_
    cases h
    exact s_ret rfl rfl rfl
  · show eG _ 21 4 [some (.ref 0), some (.int (zI l1))] [] (rd S) _
    refine g_run 1 5 [some (.ref 0), some (.int (zI l1))] [.ref 0] (rd S) rfl ?_
    refine g_getf rfl rfl (rd_o0 _) rfl ?_
    show eG _ 21 8 [some (.ref 0), some (.int (zI l1))] [.ref 1] (rd S) _
    refine g_run 1 9 [some (.ref 0), some (.int (zI l1))] [.int (zI l1), .ref 1] (rd S) rfl ?_
    refine s_i2l rfl h (fun h => ?_)
    refine s_vir (fun z => some (.int (zI z))) (fun _ => rd S) rfl rfl rfl (rd_o1 _) rfl rfl (fun z hz => sT_isSet o n S 1 (Or.inl rfl) l1 hz) rfl h (fun z1 h => ?_)
    show eG _ 21 13 [some (.ref 0), some (.int (zI l1))] [.int (zI z1)] (rd S) _
    refine s_if_ne rfl h (fun h => ?_) (fun h => ?_)
    · show eG _ 21 18 [some (.ref 0), some (.int (zI l1))] [] (rd S) _
      refine g_run 1 19 [some (.ref 0), some (.int (zI l1))] [.ref 0] (rd S) rfl ?_
      refine g_getf rfl rfl (rd_o0 _) rfl ?_
      show eG _ 21 22 [some (.ref 0), some (.int (zI l1))] [.ref 1] (rd S) _
      refine s_vir (fun z => some (.int (zI z))) (fun _ => rd S) rfl rfl rfl (rd_o1 _) rfl rfl (fun z hz => sT_isPeopled o n S 1 (Or.inl rfl) hz) rfl h (fun z2 h => ?_)
      show eG _ 21 25 [some (.ref 0), some (.int (zI l1))] [.int (zI z2)] (rd S) _
      refine s_if_eq rfl h (fun h => ?_) (fun h => ?_)
      · show eG _ 21 31 [some (.ref 0), some (.int (zI l1))] [] (rd S) _
        refine g_run 1 32 [some (.ref 0), some (.int (zI l1))] [.ref 0] (rd S) rfl ?_
        refine g_getf rfl rfl (rd_o0 _) rfl ?_
        show eG _ 21 35 [some (.ref 0), some (.int (zI l1))] [.ref 1] (rd S) _
        refine g_run 1 36 [some (.ref 0), some (.int (zI l1))] [.int (zI l1), .ref 1] (rd S) rfl ?_
        refine s_vir (fun _ => none) (fun z => rd z) rfl rfl rfl (rd_o1 _) rfl rfl (fun z hz => sT_addPerson_1 o n S l1 hz) rfl h (fun z3 h => ?_)
        show eG _ 21 39 [some (.ref 0), some (.int (zI l1))] [] (rd z3) _
        refine g_run 1 40 [some (.ref 0), some (.int (zI l1))] [.ref 0] (rd z3) rfl ?_
        refine g_getf rfl rfl (rd_o0 _) rfl ?_
        show eG _ 21 43 [some (.ref 0), some (.int (zI l1))] [.ref 24] (rd z3) _
        refine s_vir (fun _ => none) (fun z => rd z) rfl rfl rfl (rd_o24 _) rfl rfl (fun z hz => sW_forget o n z3 hz) rfl h (fun z4 h => ?_)
        show eG _ 21 46 [some (.ref 0), some (.int (zI l1))] [] (rd z4) _
        refine g_run 1 47 [some (.ref 0), some (.int (zI l1))] [.ref 0] (rd z4) rfl ?_
        refine g_getf rfl rfl (rd_o0 _) rfl ?_
        show eG _ 21 50 [some (.ref 0), some (.int (zI l1))] [.ref 1] (rd z4) _
        refine g_getf rfl rfl (rd_o1 _) rfl ?_
        show eG _ 21 53 [some (.ref 0), some (.int (zI l1))] [.int (zI (zF z4 1 7))] (rd z4) _
        refine g_run 1 54 [some (.ref 0), some (.int (zI l1))] [.int (zI 1), .int (zI (zF z4 1 7))] (rd z4) rfl ?_
        refine s_isub rfl ?_
        cases h
        exact s_ret rfl rfl rfl
      · show eG _ 21 28 [some (.ref 0), some (.int (zI l1))] [] (rd S) _
        refine g_run 1 30 [some (.ref 0), some (.int (zI l1))] [.int (zI (-3))] (rd S) rfl ?_
        cases h
        exact s_ret rfl rfl rfl
    · show eG _ 21 16 [some (.ref 0), some (.int (zI l1))] [] (rd S) _
      refine g_run 1 17 [some (.ref 0), some (.int (zI l1))] [.int (zI (-1))] (rd S) rfl ?_
      cases h
      exact s_ret rfl rfl rfl
def fD_set (n : Nat) (S : ZS) (l1 l2 : Int) : Option (Int × ZS) := gC l1 0 (if l1 = 0 then gC l2 0 (if l2 < 0 then gC l1 1 (if l1 = 1 then gC l2 1 (if l2 < 1 then some (-1, S) else gC l2 999 (if 999 < l2 then some (-1, S) else (fW_forget n (wF S 1 11 l2)).bind fun z2 => some (zF S 1 11, z2))) else some (-1, S)) else gC l2 999 (if 999 < l2 then gC l1 1 (if l1 = 1 then gC l2 1 (if l2 < 1 then some (-1, S) else gC l2 999 (if 999 < l2 then some (-1, S) else (fW_forget n (wF S 1 11 l2)).bind fun z3 => some (zF S 1 11, z3))) else some (-1, S)) else (fW_forget n (wF S 1 10 l2)).bind fun z4 => some (zF S 1 10, z4))) else gC l1 1 (if l1 = 1 then gC l2 1 (if l2 < 1 then some (-1, S) else gC l2 999 (if 999 < l2 then some (-1, S) else (fW_forget n (wF S 1 11 l2)).bind fun z1 => some (zF S 1 11, z1))) else some (-1, S)))
set_option maxRecDepth 100000 in
set_option maxHeartbeats 4000000 in
theorem sD_set (o : eO) (n : Nat) (S : ZS) (l1 l2 : Int) {w : Int × ZS} (h : fD_set n S l1 l2 = some w) : eG o 24 0 (eEnt 24 [.ref 0, .int (zI l1), .int (zI l2)]) [] (rd S) (rv (some (.int (zI w.1))) (rd w.2)) := by
  unfold fD_set at h
  show eG o 24 0 [some (.ref 0), some (.int (zI l1)), some (.int (zI l2)), none] [] (rd S) _
  refine g_run 1 1 [some (.ref 0), some (.int (zI l1)), some (.int (zI l2)), none] [.int (zI l1)] (rd S) rfl ?_
  refine s_if_ne rfl h (fun h => ?_) (fun h => ?_)
  · show eG _ 24 40 [some (.ref 0), some (.int (zI l1)), some (.int (zI l2)), none] [] (rd S) _
    refine g_run 2 42 [some (.ref 0), some (.int (zI l1)), some (.int (zI l2)), none] [.int (zI 1), .int (zI l1)] (rd S) rfl ?_
    refine s_icmp_ne rfl h (fun h => ?_) (fun h => ?_)
    · show eG _ 24 82 [some (.ref 0), some (.int (zI l1)), some (.int (zI l2)), none] [] (rd S) _
      refine g_run 1 83 [some (.ref 0), some (.int (zI l1)), some (.int (zI l2)), none] [.int (zI (-1))] (rd S) rfl ?_
      cases h
      exact s_ret rfl rfl rfl
    · show eG _ 24 45 [some (.ref 0), some (.int (zI l1)), some (.int (zI l2)), none] [] (rd S) _
      refine g_run 2 47 [some (.ref 0), some (.int (zI l1)), some (.int (zI l2)), none] [.int (zI 1), .int (zI l2)] (rd S) rfl ?_
      refine s_icmp_lt rfl h (fun h => ?_) (fun h => ?_)
      · show eG _ 24 82 [some (.ref 0), some (.int (zI l1)), some (.int (zI l2)), none] [] (rd S) _
        refine g_run 1 83 [some (.ref 0), some (.int (zI l1)), some (.int (zI l2)), none] [.int (zI (-1))] (rd S) rfl ?_
        cases h
        exact s_ret rfl rfl rfl
      · show eG _ 24 50 [some (.ref 0), some (.int (zI l1)), some (.int (zI l2)), none] [] (rd S) _
        refine g_run 2 54 [some (.ref 0), some (.int (zI l1)), some (.int (zI l2)), none] [.int (zI 999), .int (zI l2)] (rd S) rfl ?_
        refine s_icmp_gt rfl h (fun h => ?_) (fun h => ?_)
        · show eG _ 24 82 [some (.ref 0), some (.int (zI l1)), some (.int (zI l2)), none] [] (rd S) _
          refine g_run 1 83 [some (.ref 0), some (.int (zI l1)), some (.int (zI l2)), none] [.int (zI (-1))] (rd S) rfl ?_
          cases h
          exact s_ret rfl rfl rfl
        · show eG _ 24 57 [some (.ref 0), some (.int (zI l1)), some (.int (zI l2)), none] [] (rd S) _
          refine g_run 1 58 [some (.ref 0), some (.int (zI l1)), some (.int (zI l2)), none] [.ref 0] (rd S) rfl ?_
          refine g_getf rfl rfl (rd_o0 _) rfl ?_
          show eG _ 24 61 [some (.ref 0), some (.int (zI l1)), some (.int (zI l2)), none] [.ref 1] (rd S) _
          refine g_getf rfl rfl (rd_o1 _) rfl ?_
          show eG _ 24 64 [some (.ref 0), some (.int (zI l1)), some (.int (zI l2)), none] [.int (zI (zF S 1 11))] (rd S) _
          refine g_run 2 66 [some (.ref 0), some (.int (zI l1)), some (.int (zI l2)), some (.int (zI (zF S 1 11)))] [.ref 0] (rd S) rfl ?_
          refine g_getf rfl rfl (rd_o0 _) rfl ?_
          show eG _ 24 69 [some (.ref 0), some (.int (zI l1)), some (.int (zI l2)), some (.int (zI (zF S 1 11)))] [.ref 1] (rd S) _
          refine g_run 1 70 [some (.ref 0), some (.int (zI l1)), some (.int (zI l2)), some (.int (zI (zF S 1 11)))] [.int (zI l2), .ref 1] (rd S) rfl ?_
          refine s_putf rfl rfl (rd_o1 _) rfl rfl rfl rfl rfl (rw_o1_11 _ _) ?_
          show eG _ 24 73 [some (.ref 0), some (.int (zI l1)), some (.int (zI l2)), some (.int (zI (zF S 1 11)))] [] (rd (wF S 1 11 l2)) _
          refine g_run 1 74 [some (.ref 0), some (.int (zI l1)), some (.int (zI l2)), some (.int (zI (zF S 1 11)))] [.ref 0] (rd (wF S 1 11 l2)) rfl ?_
          refine g_getf rfl rfl (rd_o0 _) rfl ?_
          show eG _ 24 77 [some (.ref 0), some (.int (zI l1)), some (.int (zI l2)), some (.int (zI (zF S 1 11)))] [.ref 24] (rd (wF S 1 11 l2)) _
          refine s_vir (fun _ => none) (fun z => rd z) rfl rfl rfl (rd_o24 _) rfl rfl (fun z hz => sW_forget o n (wF S 1 11 l2) hz) rfl h (fun z1 h => ?_)
          show eG _ 24 80 [some (.ref 0), some (.int (zI l1)), some (.int (zI l2)), some (.int (zI (zF S 1 11)))] [] (rd z1) _
          refine g_run 1 81 [some (.ref 0), some (.int (zI l1)), some (.int (zI l2)), some (.int (zI (zF S 1 11)))] [.int (zI (zF S 1 11))] (rd z1) rfl ?_
          cases h
          exact s_ret rfl rfl rfl
  · show eG _ 24 4 [some (.ref 0), some (.int (zI l1)), some (.int (zI l2)), none] [] (rd S) _
    refine g_run 1 5 [some (.ref 0), some (.int (zI l1)), some (.int (zI l2)), none] [.int (zI l2)] (rd S) rfl ?_
    refine s_if_lt rfl h (fun h => ?_) (fun h => ?_)
    · show eG _ 24 40 [some (.ref 0), some (.int (zI l1)), some (.int (zI l2)), none] [] (rd S) _
      refine g_run 2 42 [some (.ref 0), some (.int (zI l1)), some (.int (zI l2)), none] [.int (zI 1), .int (zI l1)] (rd S) rfl ?_
      refine s_icmp_ne rfl h (fun h => ?_) (fun h => ?_)
      · show eG _ 24 82 [some (.ref 0), some (.int (zI l1)), some (.int (zI l2)), none] [] (rd S) _
        refine g_run 1 83 [some (.ref 0), some (.int (zI l1)), some (.int (zI l2)), none] [.int (zI (-1))] (rd S) rfl ?_
        cases h
        exact s_ret rfl rfl rfl
      · show eG _ 24 45 [some (.ref 0), some (.int (zI l1)), some (.int (zI l2)), none] [] (rd S) _
        refine g_run 2 47 [some (.ref 0), some (.int (zI l1)), some (.int (zI l2)), none] [.int (zI 1), .int (zI l2)] (rd S) rfl ?_
        refine s_icmp_lt rfl h (fun h => ?_) (fun h => ?_)
        · show eG _ 24 82 [some (.ref 0), some (.int (zI l1)), some (.int (zI l2)), none] [] (rd S) _
          refine g_run 1 83 [some (.ref 0), some (.int (zI l1)), some (.int (zI l2)), none] [.int (zI (-1))] (rd S) rfl ?_
          cases h
          exact s_ret rfl rfl rfl
        · show eG _ 24 50 [some (.ref 0), some (.int (zI l1)), some (.int (zI l2)), none] [] (rd S) _
          refine g_run 2 54 [some (.ref 0), some (.int (zI l1)), some (.int (zI l2)), none] [.int (zI 999), .int (zI l2)] (rd S) rfl ?_
          refine s_icmp_gt rfl h (fun h => ?_) (fun h => ?_)
          · show eG _ 24 82 [some (.ref 0), some (.int (zI l1)), some (.int (zI l2)), none] [] (rd S) _
            refine g_run 1 83 [some (.ref 0), some (.int (zI l1)), some (.int (zI l2)), none] [.int (zI (-1))] (rd S) rfl ?_
            cases h
            exact s_ret rfl rfl rfl
          · show eG _ 24 57 [some (.ref 0), some (.int (zI l1)), some (.int (zI l2)), none] [] (rd S) _
            refine g_run 1 58 [some (.ref 0), some (.int (zI l1)), some (.int (zI l2)), none] [.ref 0] (rd S) rfl ?_
            refine g_getf rfl rfl (rd_o0 _) rfl ?_
            show eG _ 24 61 [some (.ref 0), some (.int (zI l1)), some (.int (zI l2)), none] [.ref 1] (rd S) _
            refine g_getf rfl rfl (rd_o1 _) rfl ?_
            show eG _ 24 64 [some (.ref 0), some (.int (zI l1)), some (.int (zI l2)), none] [.int (zI (zF S 1 11))] (rd S) _
            refine g_run 2 66 [some (.ref 0), some (.int (zI l1)), some (.int (zI l2)), some (.int (zI (zF S 1 11)))] [.ref 0] (rd S) rfl ?_
            refine g_getf rfl rfl (rd_o0 _) rfl ?_
            show eG _ 24 69 [some (.ref 0), some (.int (zI l1)), some (.int (zI l2)), some (.int (zI (zF S 1 11)))] [.ref 1] (rd S) _
            refine g_run 1 70 [some (.ref 0), some (.int (zI l1)), some (.int (zI l2)), some (.int (zI (zF S 1 11)))] [.int (zI l2), .ref 1] (rd S) rfl ?_
            refine s_putf rfl rfl (rd_o1 _) rfl rfl rfl rfl rfl (rw_o1_11 _ _) ?_
            show eG _ 24 73 [some (.ref 0), some (.int (zI l1)), some (.int (zI l2)), some (.int (zI (zF S 1 11)))] [] (rd (wF S 1 11 l2)) _
            refine g_run 1 74 [some (.ref 0), some (.int (zI l1)), some (.int (zI l2)), some (.int (zI (zF S 1 11)))] [.ref 0] (rd (wF S 1 11 l2)) rfl ?_
            refine g_getf rfl rfl (rd_o0 _) rfl ?_
            show eG _ 24 77 [some (.ref 0), some (.int (zI l1)), some (.int (zI l2)), some (.int (zI (zF S 1 11)))] [.ref 24] (rd (wF S 1 11 l2)) _
            refine s_vir (fun _ => none) (fun z => rd z) rfl rfl rfl (rd_o24 _) rfl rfl (fun z hz => sW_forget o n (wF S 1 11 l2) hz) rfl h (fun z2 h => ?_)
            show eG _ 24 80 [some (.ref 0), some (.int (zI l1)), some (.int (zI l2)), some (.int (zI (zF S 1 11)))] [] (rd z2) _
            refine g_run 1 81 [some (.ref 0), some (.int (zI l1)), some (.int (zI l2)), some (.int (zI (zF S 1 11)))] [.int (zI (zF S 1 11))] (rd z2) rfl ?_
            cases h
            exact s_ret rfl rfl rfl
    · show eG _ 24 8 [some (.ref 0), some (.int (zI l1)), some (.int (zI l2)), none] [] (rd S) _
      refine g_run 2 12 [some (.ref 0), some (.int (zI l1)), some (.int (zI l2)), none] [.int (zI 999), .int (zI l2)] (rd S) rfl ?_
      refine s_icmp_gt rfl h (fun h => ?_) (fun h => ?_)
      · show eG _ 24 40 [some (.ref 0), some (.int (zI l1)), some (.int (zI l2)), none] [] (rd S) _
        refine g_run 2 42 [some (.ref 0), some (.int (zI l1)), some (.int (zI l2)), none] [.int (zI 1), .int (zI l1)] (rd S) rfl ?_
        refine s_icmp_ne rfl h (fun h => ?_) (fun h => ?_)
        · show eG _ 24 82 [some (.ref 0), some (.int (zI l1)), some (.int (zI l2)), none] [] (rd S) _
          refine g_run 1 83 [some (.ref 0), some (.int (zI l1)), some (.int (zI l2)), none] [.int (zI (-1))] (rd S) rfl ?_
          cases h
          exact s_ret rfl rfl rfl
        · show eG _ 24 45 [some (.ref 0), some (.int (zI l1)), some (.int (zI l2)), none] [] (rd S) _
          refine g_run 2 47 [some (.ref 0), some (.int (zI l1)), some (.int (zI l2)), none] [.int (zI 1), .int (zI l2)] (rd S) rfl ?_
          refine s_icmp_lt rfl h (fun h => ?_) (fun h => ?_)
          · show eG _ 24 82 [some (.ref 0), some (.int (zI l1)), some (.int (zI l2)), none] [] (rd S) _
            refine g_run 1 83 [some (.ref 0), some (.int (zI l1)), some (.int (zI l2)), none] [.int (zI (-1))] (rd S) rfl ?_
            cases h
            exact s_ret rfl rfl rfl
          · show eG _ 24 50 [some (.ref 0), some (.int (zI l1)), some (.int (zI l2)), none] [] (rd S) _
            refine g_run 2 54 [some (.ref 0), some (.int (zI l1)), some (.int (zI l2)), none] [.int (zI 999), .int (zI l2)] (rd S) rfl ?_
            refine s_icmp_gt rfl h (fun h => ?_) (fun h => ?_)
            · show eG _ 24 82 [some (.ref 0), some (.int (zI l1)), some (.int (zI l2)), none] [] (rd S) _
              refine g_run 1 83 [some (.ref 0), some (.int (zI l1)), some (.int (zI l2)), none] [.int (zI (-1))] (rd S) rfl ?_
              cases h
              exact s_ret rfl rfl rfl
            · show eG _ 24 57 [some (.ref 0), some (.int (zI l1)), some (.int (zI l2)), none] [] (rd S) _
              refine g_run 1 58 [some (.ref 0), some (.int (zI l1)), some (.int (zI l2)), none] [.ref 0] (rd S) rfl ?_
              refine g_getf rfl rfl (rd_o0 _) rfl ?_
              show eG _ 24 61 [some (.ref 0), some (.int (zI l1)), some (.int (zI l2)), none] [.ref 1] (rd S) _
              refine g_getf rfl rfl (rd_o1 _) rfl ?_
              show eG _ 24 64 [some (.ref 0), some (.int (zI l1)), some (.int (zI l2)), none] [.int (zI (zF S 1 11))] (rd S) _
              refine g_run 2 66 [some (.ref 0), some (.int (zI l1)), some (.int (zI l2)), some (.int (zI (zF S 1 11)))] [.ref 0] (rd S) rfl ?_
              refine g_getf rfl rfl (rd_o0 _) rfl ?_
              show eG _ 24 69 [some (.ref 0), some (.int (zI l1)), some (.int (zI l2)), some (.int (zI (zF S 1 11)))] [.ref 1] (rd S) _
              refine g_run 1 70 [some (.ref 0), some (.int (zI l1)), some (.int (zI l2)), some (.int (zI (zF S 1 11)))] [.int (zI l2), .ref 1] (rd S) rfl ?_
              refine s_putf rfl rfl (rd_o1 _) rfl rfl rfl rfl rfl (rw_o1_11 _ _) ?_
              show eG _ 24 73 [some (.ref 0), some (.int (zI l1)), some (.int (zI l2)), some (.int (zI (zF S 1 11)))] [] (rd (wF S 1 11 l2)) _
              refine g_run 1 74 [some (.ref 0), some (.int (zI l1)), some (.int (zI l2)), some (.int (zI (zF S 1 11)))] [.ref 0] (rd (wF S 1 11 l2)) rfl ?_
              refine g_getf rfl rfl (rd_o0 _) rfl ?_
              show eG _ 24 77 [some (.ref 0), some (.int (zI l1)), some (.int (zI l2)), some (.int (zI (zF S 1 11)))] [.ref 24] (rd (wF S 1 11 l2)) _
              refine s_vir (fun _ => none) (fun z => rd z) rfl rfl rfl (rd_o24 _) rfl rfl (fun z hz => sW_forget o n (wF S 1 11 l2) hz) rfl h (fun z3 h => ?_)
              show eG _ 24 80 [some (.ref 0), some (.int (zI l1)), some (.int (zI l2)), some (.int (zI (zF S 1 11)))] [] (rd z3) _
              refine g_run 1 81 [some (.ref 0), some (.int (zI l1)), some (.int (zI l2)), some (.int (zI (zF S 1 11)))] [.int (zI (zF S 1 11))] (rd z3) rfl ?_
              cases h
              exact s_ret rfl rfl rfl
      · show eG _ 24 15 [some (.ref 0), some (.int (zI l1)), some (.int (zI l2)), none] [] (rd S) _
        refine g_run 1 16 [some (.ref 0), some (.int (zI l1)), some (.int (zI l2)), none] [.ref 0] (rd S) rfl ?_
        refine g_getf rfl rfl (rd_o0 _) rfl ?_
        show eG _ 24 19 [some (.ref 0), some (.int (zI l1)), some (.int (zI l2)), none] [.ref 1] (rd S) _
        refine g_getf rfl rfl (rd_o1 _) rfl ?_
        show eG _ 24 22 [some (.ref 0), some (.int (zI l1)), some (.int (zI l2)), none] [.int (zI (zF S 1 10))] (rd S) _
        refine g_run 2 24 [some (.ref 0), some (.int (zI l1)), some (.int (zI l2)), some (.int (zI (zF S 1 10)))] [.ref 0] (rd S) rfl ?_
        refine g_getf rfl rfl (rd_o0 _) rfl ?_
        show eG _ 24 27 [some (.ref 0), some (.int (zI l1)), some (.int (zI l2)), some (.int (zI (zF S 1 10)))] [.ref 1] (rd S) _
        refine g_run 1 28 [some (.ref 0), some (.int (zI l1)), some (.int (zI l2)), some (.int (zI (zF S 1 10)))] [.int (zI l2), .ref 1] (rd S) rfl ?_
        refine s_putf rfl rfl (rd_o1 _) rfl rfl rfl rfl rfl (rw_o1_10 _ _) ?_
        show eG _ 24 31 [some (.ref 0), some (.int (zI l1)), some (.int (zI l2)), some (.int (zI (zF S 1 10)))] [] (rd (wF S 1 10 l2)) _
        refine g_run 1 32 [some (.ref 0), some (.int (zI l1)), some (.int (zI l2)), some (.int (zI (zF S 1 10)))] [.ref 0] (rd (wF S 1 10 l2)) rfl ?_
        refine g_getf rfl rfl (rd_o0 _) rfl ?_
        show eG _ 24 35 [some (.ref 0), some (.int (zI l1)), some (.int (zI l2)), some (.int (zI (zF S 1 10)))] [.ref 24] (rd (wF S 1 10 l2)) _
        refine s_vir (fun _ => none) (fun z => rd z) rfl rfl rfl (rd_o24 _) rfl rfl (fun z hz => sW_forget o n (wF S 1 10 l2) hz) rfl h (fun z4 h => ?_)
        show eG _ 24 38 [some (.ref 0), some (.int (zI l1)), some (.int (zI l2)), some (.int (zI (zF S 1 10)))] [] (rd z4) _
        refine g_run 1 39 [some (.ref 0), some (.int (zI l1)), some (.int (zI l2)), some (.int (zI (zF S 1 10)))] [.int (zI (zF S 1 10))] (rd z4) rfl ?_
        cases h
        exact s_ret rfl rfl rfl
def fD_want (n : Nat) (S : ZS) (l1 : Int) : Option (Int × ZS) := gC l1 0 ((fT_isSet n S 1 l1).bind fun z1 => gC z1 0 (if z1 = 0 then some (-1, S) else (fW_forget n (wF S 1 9 l1)).bind fun z2 => some (zF S 1 9, z2)))
set_option maxRecDepth 100000 in
set_option maxHeartbeats 4000000 in
theorem sD_want (o : eO) (n : Nat) (S : ZS) (l1 : Int) {w : Int × ZS} (h : fD_want n S l1 = some w) : eG o 25 0 (eEnt 25 [.ref 0, .int (zI l1)]) [] (rd S) (rv (some (.int (zI w.1))) (rd w.2)) := by
  unfold fD_want at h
  show eG o 25 0 [some (.ref 0), some (.int (zI l1)), none] [] (rd S) _
  refine g_run 1 1 [some (.ref 0), some (.int (zI l1)), none] [.ref 0] (rd S) rfl ?_
  refine g_getf rfl rfl (rd_o0 _) rfl ?_
  show eG _ 25 4 [some (.ref 0), some (.int (zI l1)), none] [.ref 1] (rd S) _
  refine g_run 1 5 [some (.ref 0), some (.int (zI l1)), none] [.int (zI l1), .ref 1] (rd S) rfl ?_
  refine s_i2l rfl h (fun h => ?_)
  refine s_vir (fun z => some (.int (zI z))) (fun _ => rd S) rfl rfl rfl (rd_o1 _) rfl rfl (fun z hz => sT_isSet o n S 1 (Or.inl rfl) l1 hz) rfl h (fun z1 h => ?_)
  show eG _ 25 9 [some (.ref 0), some (.int (zI l1)), none] [.int (zI z1)] (rd S) _
  refine s_if_ne rfl h (fun h => ?_) (fun h => ?_)
  · show eG _ 25 14 [some (.ref 0), some (.int (zI l1)), none] [] (rd S) _
    refine g_run 1 15 [some (.ref 0), some (.int (zI l1)), none] [.ref 0] (rd S) rfl ?_
    refine g_getf rfl rfl (rd_o0 _) rfl ?_
    show eG _ 25 18 [some (.ref 0), some (.int (zI l1)), none] [.ref 1] (rd S) _
    refine g_getf rfl rfl (rd_o1 _) rfl ?_
    show eG _ 25 21 [some (.ref 0), some (.int (zI l1)), none] [.int (zI (zF S 1 9))] (rd S) _
    refine g_run 2 23 [some (.ref 0), some (.int (zI l1)), some (.int (zI (zF S 1 9)))] [.ref 0] (rd S) rfl ?_
    refine g_getf rfl rfl (rd_o0 _) rfl ?_
    show eG _ 25 26 [some (.ref 0), some (.int (zI l1)), some (.int (zI (zF S 1 9)))] [.ref 1] (rd S) _
    refine g_run 1 27 [some (.ref 0), some (.int (zI l1)), some (.int (zI (zF S 1 9)))] [.int (zI l1), .ref 1] (rd S) rfl ?_
    refine s_putf rfl rfl (rd_o1 _) rfl rfl rfl rfl rfl (rw_o1_9 _ _) ?_
    show eG _ 25 30 [some (.ref 0), some (.int (zI l1)), some (.int (zI (zF S 1 9)))] [] (rd (wF S 1 9 l1)) _
    refine g_run 1 31 [some (.ref 0), some (.int (zI l1)), some (.int (zI (zF S 1 9)))] [.ref 0] (rd (wF S 1 9 l1)) rfl ?_
    refine g_getf rfl rfl (rd_o0 _) rfl ?_
    show eG _ 25 34 [some (.ref 0), some (.int (zI l1)), some (.int (zI (zF S 1 9)))] [.ref 24] (rd (wF S 1 9 l1)) _
    refine s_vir (fun _ => none) (fun z => rd z) rfl rfl rfl (rd_o24 _) rfl rfl (fun z hz => sW_forget o n (wF S 1 9 l1) hz) rfl h (fun z2 h => ?_)
    show eG _ 25 37 [some (.ref 0), some (.int (zI l1)), some (.int (zI (zF S 1 9)))] [] (rd z2) _
    refine g_run 1 38 [some (.ref 0), some (.int (zI l1)), some (.int (zI (zF S 1 9)))] [.int (zI (zF S 1 9))] (rd z2) rfl ?_
    cases h
    exact s_ret rfl rfl rfl
  · show eG _ 25 12 [some (.ref 0), some (.int (zI l1)), none] [] (rd S) _
    refine g_run 1 13 [some (.ref 0), some (.int (zI l1)), none] [.int (zI (-1))] (rd S) rfl ?_
    cases h
    exact s_ret rfl rfl rfl
def fP_isPlain_1 : Nat → ZS → Int → Int → Int → Option ((Int) ⊕ (Unit))
  | 0, _, _, _, _ => none
  | n + 1, S, l0, l2, l3 => gC l3 l2 (if l3 < l2 then gL (zlan (zlushr l0 (8 * l3)) 255) 32 (gC (zcmp (zlan (zlushr l0 (8 * l3)) 255) 32) 0 (if (zcmp (zlan (zlushr l0 (8 * l3)) 255) 32) < 0 then gB 0 (some (.inl 0)) else gL (zlan (zlushr l0 (8 * l3)) 255) 126 (gC (zcmp (zlan (zlushr l0 (8 * l3)) 255) 126) 0 (if 0 < (zcmp (zlan (zlushr l0 (8 * l3)) 255) 126) then gB 0 (some (.inl 0)) else fP_isPlain_1 n S l0 l2 (l3 + 1))))) else some (.inr ()))
set_option maxRecDepth 100000 in
set_option maxHeartbeats 4000000 in
theorem sP_isPlain_1 (o : eO) : ∀ (n : Nat) (S : ZS) (l0 l2 l3 : Int) {w : (Int) ⊕ (Unit)} {r : eP} (h : fP_isPlain_1 n S l0 l2 l3 = some w) (hr : ∀ v, w = .inl v → r (some (.int (zI v)), rd S)) (hk : ∀ x, w = .inr x → eG o 27 45 [none, none, none, none, none, none] [] (rd S) r), eG o 27 2 [some (.long (zL l0)), none, some (.int (zI l2)), some (.int (zI l3)), none, none] [] (rd S) r := by
  intro n
  induction n with
  | zero => intro S l0 l2 l3 w r h hr hk; unfold fP_isPlain_1 at h; cases h
  | succ n ih =>
    intro S l0 l2 l3 w r h hr hk
    unfold fP_isPlain_1 at h
    refine g_run 2 4 [some (.long (zL l0)), none, some (.int (zI l2)), some (.int (zI l3)), none, none] [.int (zI l2), .int (zI l3)] (rd S) rfl ?_
    refine s_icmp_ge rfl h (fun h => ?_) (fun h => ?_)
    · show eG _ 27 45 [some (.long (zL l0)), none, some (.int (zI l2)), some (.int (zI l3)), none, none] [] (rd S) _
      refine g_fgt [true, true, true, true, true, true] ?_
      show eG _ 27 45 [none, none, none, none, none, none] [] (rd S) _
      cases h
      exact hk _ rfl
    · show eG _ 27 7 [some (.long (zL l0)), none, some (.int (zI l2)), some (.int (zI l3)), none, none] [] (rd S) _
      refine g_run 3 11 [some (.long (zL l0)), none, some (.int (zI l2)), some (.int (zI l3)), none, none] [.int (zI l3), .int (zI 8), .long (zL l0)] (rd S) rfl ?_
      refine s_imul rfl ?_
      refine s_lushr rfl ?_
      refine g_run 1 16 [some (.long (zL l0)), none, some (.int (zI l2)), some (.int (zI l3)), none, none] [.long (zL 255), .long (zL (zlushr l0 (8 * l3)))] (rd S) rfl ?_
      refine s_land rfl ?_
      refine g_run 3 24 [some (.long (zL l0)), none, some (.int (zI l2)), some (.int (zI l3)), some (.long (zL (zlan (zlushr l0 (8 * l3)) 255))), none] [.long (zL 32), .long (zL (zlan (zlushr l0 (8 * l3)) 255))] (rd S) rfl ?_
      refine s_lcmp rfl h (fun h => ?_)
      refine s_if_lt rfl h (fun h => ?_) (fun h => ?_)
      · show eG _ 27 37 [some (.long (zL l0)), none, some (.int (zI l2)), some (.int (zI l3)), some (.long (zL (zlan (zlushr l0 (8 * l3)) 255))), none] [] (rd S) _
        refine g_run 1 38 [some (.long (zL l0)), none, some (.int (zI l2)), some (.int (zI l3)), some (.long (zL (zlan (zlushr l0 (8 * l3)) 255))), none] [.int (zI 0)] (rd S) rfl ?_
        exact s_retB rfl rfl h (fun h => by cases h; exact hr _ rfl)
      · show eG _ 27 28 [some (.long (zL l0)), none, some (.int (zI l2)), some (.int (zI l3)), some (.long (zL (zlan (zlushr l0 (8 * l3)) 255))), none] [] (rd S) _
        refine g_run 2 33 [some (.long (zL l0)), none, some (.int (zI l2)), some (.int (zI l3)), some (.long (zL (zlan (zlushr l0 (8 * l3)) 255))), none] [.long (zL 126), .long (zL (zlan (zlushr l0 (8 * l3)) 255))] (rd S) rfl ?_
        refine s_lcmp rfl h (fun h => ?_)
        refine s_if_le rfl h (fun h => ?_) (fun h => ?_)
        · show eG _ 27 39 [some (.long (zL l0)), none, some (.int (zI l2)), some (.int (zI l3)), some (.long (zL (zlan (zlushr l0 (8 * l3)) 255))), none] [] (rd S) _
          refine s_iinc (L' := [some (.long (zL l0)), none, some (.int (zI l2)), some (.int (zI (l3 + 1))), some (.long (zL (zlan (zlushr l0 (8 * l3)) 255))), none]) rfl rfl rfl ?_
          refine g_run 1 2 [some (.long (zL l0)), none, some (.int (zI l2)), some (.int (zI (l3 + 1))), some (.long (zL (zlan (zlushr l0 (8 * l3)) 255))), none] [] (rd S) rfl ?_
          refine g_fgt [false, true, false, false, true, true] ?_
          show eG _ 27 2 [some (.long (zL l0)), none, some (.int (zI l2)), some (.int (zI (l3 + 1))), none, none] [] (rd S) _
          exact ih S l0 l2 (l3 + 1) h hr hk
        · show eG _ 27 37 [some (.long (zL l0)), none, some (.int (zI l2)), some (.int (zI l3)), some (.long (zL (zlan (zlushr l0 (8 * l3)) 255))), none] [] (rd S) _
          refine g_run 1 38 [some (.long (zL l0)), none, some (.int (zI l2)), some (.int (zI l3)), some (.long (zL (zlan (zlushr l0 (8 * l3)) 255))), none] [.int (zI 0)] (rd S) rfl ?_
          exact s_retB rfl rfl h (fun h => by cases h; exact hr _ rfl)
def fP_isPlain (n : Nat) (S : ZS) (l0 l2 : Int) : Option (Int) := zR (fP_isPlain_1 n S l0 l2 0) fun z1 => gB 1 (some 1)
set_option maxRecDepth 100000 in
set_option maxHeartbeats 4000000 in
theorem sP_isPlain (o : eO) (n : Nat) (S : ZS) (l0 l2 : Int) {w : Int} (h : fP_isPlain n S l0 l2 = some w) : eG o 27 0 (eEnt 27 [.long (zL l0), .int (zI l2)]) [] (rd S) (rv (some (.int (zI w))) (rd S)) := by
  unfold fP_isPlain at h
  show eG o 27 0 [some (.long (zL l0)), none, some (.int (zI l2)), none, none, none] [] (rd S) _
  refine g_run 2 2 [some (.long (zL l0)), none, some (.int (zI l2)), some (.int (zI 0)), none, none] [] (rd S) rfl ?_
  rcases zR_inv h with h1 | ⟨z1, h1, h⟩
  · exact sP_isPlain_1 o n S l0 l2 0 h1 (fun v e => by cases e; rfl) (fun x e => by cases e)
  refine sP_isPlain_1 o n S l0 l2 0 h1 (fun v e => by cases e) (fun x e => ?_)
  cases e
  show eG _ 27 45 [none, none, none, none, none, none] [] (rd S) _
  refine g_run 1 46 [none, none, none, none, none, none] [.int (zI 1)] (rd S) rfl ?_
  exact s_retB rfl rfl h (fun h => by cases h; exact rfl)
def fP_hasRoom (n : Nat) (S : ZS) (l1 : Int) : Option (Int) := gC l1 (160 - (zF S 22 1)) (if (160 - (zF S 22 1)) < l1 then gB 0 (some 0) else gB 1 (some 1))
set_option maxRecDepth 100000 in
set_option maxHeartbeats 4000000 in
theorem sP_hasRoom (o : eO) (n : Nat) (S : ZS) (l1 : Int) {w : Int} (h : fP_hasRoom n S l1 = some w) : eG o 28 0 (eEnt 28 [.ref 22, .int (zI l1)]) [] (rd S) (rv (some (.int (zI w))) (rd S)) := by
  unfold fP_hasRoom at h
  show eG o 28 0 [some (.ref 22), some (.int (zI l1))] [] (rd S) _
  refine g_run 3 5 [some (.ref 22), some (.int (zI l1))] [.ref 22, .int (zI 160), .int (zI l1)] (rd S) rfl ?_
  refine g_getf rfl rfl (rd_o22 _) rfl ?_
  show eG _ 28 8 [some (.ref 22), some (.int (zI l1))] [.int (zI (zF S 22 1)), .int (zI 160), .int (zI l1)] (rd S) _
  refine s_isub rfl ?_
  refine s_icmp_gt rfl h (fun h => ?_) (fun h => ?_)
  · show eG _ 28 16 [some (.ref 22), some (.int (zI l1))] [] (rd S) _
    refine g_run 1 17 [some (.ref 22), some (.int (zI l1))] [.int (zI 0)] (rd S) rfl ?_
    exact s_retB rfl rfl h (fun h => by cases h; exact rfl)
  · show eG _ 28 12 [some (.ref 22), some (.int (zI l1))] [] (rd S) _
    refine g_run 2 17 [some (.ref 22), some (.int (zI l1))] [.int (zI 1)] (rd S) rfl ?_
    exact s_retB rfl rfl h (fun h => by cases h; exact rfl)
def fP_append_1 : Nat → ZS → Int → Int → Option (ZS)
  | 0, _, _, _ => none
  | n + 1, S, l1, l4 => gC l4 0 (if l4 < 0 then some S else gH (zc16 (zl2i (zlan (zlushr l1 (8 * l4)) 255))) (gX (zF S 22 1) 160 (fP_append_1 n (wF (wA S 23 (zF S 22 1) (zc16 (zl2i (zlan (zlushr l1 (8 * l4)) 255)))) 22 1 ((zF S 22 1) + 1)) l1 (l4 + (-1)))))
set_option maxRecDepth 100000 in
set_option maxHeartbeats 4000000 in
theorem sP_append_1 (o : eO) : ∀ (n : Nat) (S : ZS) (l1 l4 : Int) {w : ZS} {r : eP} (h : fP_append_1 n S l1 l4 = some w) (hk : eG o 29 48 [none, none, none, none, none] [] (rd w) r), eG o 29 5 [some (.ref 22), some (.long (zL l1)), none, none, some (.int (zI l4))] [] (rd S) r := by
  intro n
  induction n with
  | zero => intro S l1 l4 w r h hk; unfold fP_append_1 at h; cases h
  | succ n ih =>
    intro S l1 l4 w r h hk
    unfold fP_append_1 at h
    refine g_run 1 7 [some (.ref 22), some (.long (zL l1)), none, none, some (.int (zI l4))] [.int (zI l4)] (rd S) rfl ?_
    refine s_if_lt rfl h (fun h => ?_) (fun h => ?_)
    · show eG _ 29 48 [some (.ref 22), some (.long (zL l1)), none, none, some (.int (zI l4))] [] (rd S) _
      refine g_fgt [true, true, true, true, true] ?_
      show eG _ 29 48 [none, none, none, none, none] [] (rd S) _
      cases h
      exact hk
    · show eG _ 29 10 [some (.ref 22), some (.long (zL l1)), none, none, some (.int (zI l4))] [] (rd S) _
      refine g_run 1 11 [some (.ref 22), some (.long (zL l1)), none, none, some (.int (zI l4))] [.ref 22] (rd S) rfl ?_
      refine g_getf rfl rfl (rd_o22 _) rfl ?_
      show eG _ 29 14 [some (.ref 22), some (.long (zL l1)), none, none, some (.int (zI l4))] [.ref 23] (rd S) _
      refine g_run 1 15 [some (.ref 22), some (.long (zL l1)), none, none, some (.int (zI l4))] [.ref 22, .ref 23] (rd S) rfl ?_
      refine g_getf rfl rfl (rd_o22 _) rfl ?_
      show eG _ 29 18 [some (.ref 22), some (.long (zL l1)), none, none, some (.int (zI l4))] [.int (zI (zF S 22 1)), .ref 23] (rd S) _
      refine g_run 3 23 [some (.ref 22), some (.long (zL l1)), none, none, some (.int (zI l4))] [.int (zI l4), .int (zI 8), .long (zL l1), .int (zI (zF S 22 1)), .ref 23] (rd S) rfl ?_
      refine s_imul rfl ?_
      refine s_lushr rfl ?_
      refine g_run 1 28 [some (.ref 22), some (.long (zL l1)), none, none, some (.int (zI l4))] [.long (zL 255), .long (zL (zlushr l1 (8 * l4))), .int (zI (zF S 22 1)), .ref 23] (rd S) rfl ?_
      refine s_land rfl ?_
      refine s_l2i rfl ?_
      refine s_i2c rfl ?_
      refine s_cast rfl (rd_a23 _) (rw_a23 _ _) h (fun h => ?_)
      show eG _ 29 32 [some (.ref 22), some (.long (zL l1)), none, none, some (.int (zI l4))] [] (rd (wA S 23 (zF S 22 1) (zc16 (zl2i (zlan (zlushr l1 (8 * l4)) 255))))) _
      refine g_run 2 34 [some (.ref 22), some (.long (zL l1)), none, none, some (.int (zI l4))] [.ref 22, .ref 22] (rd (wA S 23 (zF S 22 1) (zc16 (zl2i (zlan (zlushr l1 (8 * l4)) 255))))) rfl ?_
      refine g_getf rfl rfl (rd_o22 _) rfl ?_
      show eG _ 29 37 [some (.ref 22), some (.long (zL l1)), none, none, some (.int (zI l4))] [.int (zI (zF S 22 1)), .ref 22] (rd (wA S 23 (zF S 22 1) (zc16 (zl2i (zlan (zlushr l1 (8 * l4)) 255))))) _
      refine g_run 1 38 [some (.ref 22), some (.long (zL l1)), none, none, some (.int (zI l4))] [.int (zI 1), .int (zI (zF S 22 1)), .ref 22] (rd (wA S 23 (zF S 22 1) (zc16 (zl2i (zlan (zlushr l1 (8 * l4)) 255))))) rfl ?_
      refine s_iadd rfl ?_
      refine s_putf rfl rfl (rd_o22 _) rfl rfl rfl rfl rfl (rw_o22_1 _ _) ?_
      show eG _ 29 42 [some (.ref 22), some (.long (zL l1)), none, none, some (.int (zI l4))] [] (rd (wF (wA S 23 (zF S 22 1) (zc16 (zl2i (zlan (zlushr l1 (8 * l4)) 255)))) 22 1 ((zF S 22 1) + 1))) _
      refine s_iinc (L' := [some (.ref 22), some (.long (zL l1)), none, none, some (.int (zI (l4 + (-1))))]) rfl rfl rfl ?_
      refine g_run 1 5 [some (.ref 22), some (.long (zL l1)), none, none, some (.int (zI (l4 + (-1))))] [] (rd (wF (wA S 23 (zF S 22 1) (zc16 (zl2i (zlan (zlushr l1 (8 * l4)) 255)))) 22 1 ((zF S 22 1) + 1))) rfl ?_
      exact ih (wF (wA S 23 (zF S 22 1) (zc16 (zl2i (zlan (zlushr l1 (8 * l4)) 255)))) 22 1 ((zF S 22 1) + 1)) l1 (l4 + (-1)) h hk
def fP_append (n : Nat) (S : ZS) (l1 l3 : Int) : Option (ZS) := (fP_append_1 n S l1 (l3 - 1)).bind fun z1 => some z1
set_option maxRecDepth 100000 in
set_option maxHeartbeats 4000000 in
theorem sP_append (o : eO) (n : Nat) (S : ZS) (l1 l3 : Int) {w : ZS} (h : fP_append n S l1 l3 = some w) : eG o 29 0 (eEnt 29 [.ref 22, .long (zL l1), .int (zI l3)]) [] (rd S) (rv (none) (rd w)) := by
  unfold fP_append at h
  show eG o 29 0 [some (.ref 22), some (.long (zL l1)), none, some (.int (zI l3)), none] [] (rd S) _
  refine g_run 2 2 [some (.ref 22), some (.long (zL l1)), none, some (.int (zI l3)), none] [.int (zI 1), .int (zI l3)] (rd S) rfl ?_
  refine s_isub rfl ?_
  refine g_run 1 5 [some (.ref 22), some (.long (zL l1)), none, some (.int (zI l3)), some (.int (zI (l3 - 1)))] [] (rd S) rfl ?_
  refine g_fgt [false, false, true, true, false] ?_
  show eG _ 29 5 [some (.ref 22), some (.long (zL l1)), none, none, some (.int (zI (l3 - 1)))] [] (rd S) _
  obtain ⟨z1, h1, h⟩ := zB_inv h
  refine sP_append_1 o n S l1 (l3 - 1) h1 ?_
  show eG _ 29 48 [none, none, none, none, none] [] (rd z1) _
  cases h
  exact g_retv rfl rfl rfl
def fD_type (n : Nat) (S : ZS) (l1 l3 : Int) : Option (Int × ZS) := gC l3 1 (if l3 < 1 then some (-1, S) else gC l3 8 (if 8 < l3 then some (-1, S) else (fP_isPlain n S l1 l3).bind fun z1 => gC z1 0 (if z1 = 0 then some (-1, S) else (fP_hasRoom n S l3).bind fun z2 => gC z2 0 (if z2 = 0 then some (-3, S) else (fP_append n S l1 l3).bind fun z3 => some (zF z3 22 1, z3)))))
set_option maxRecDepth 100000 in
set_option maxHeartbeats 4000000 in
theorem sD_type (o : eO) (n : Nat) (S : ZS) (l1 l3 : Int) {w : Int × ZS} (h : fD_type n S l1 l3 = some w) : eG o 26 0 (eEnt 26 [.ref 0, .long (zL l1), .int (zI l3)]) [] (rd S) (rv (some (.int (zI w.1))) (rd w.2)) := by
  unfold fD_type at h
  show eG o 26 0 [some (.ref 0), some (.long (zL l1)), none, some (.int (zI l3))] [] (rd S) _
  refine g_run 2 2 [some (.ref 0), some (.long (zL l1)), none, some (.int (zI l3))] [.int (zI 1), .int (zI l3)] (rd S) rfl ?_
  refine s_icmp_lt rfl h (fun h => ?_) (fun h => ?_)
  · show eG _ 26 19 [some (.ref 0), some (.long (zL l1)), none, some (.int (zI l3))] [] (rd S) _
    refine g_run 1 20 [some (.ref 0), some (.long (zL l1)), none, some (.int (zI l3))] [.int (zI (-1))] (rd S) rfl ?_
    cases h
    exact s_ret rfl rfl rfl
  · show eG _ 26 5 [some (.ref 0), some (.long (zL l1)), none, some (.int (zI l3))] [] (rd S) _
    refine g_run 2 8 [some (.ref 0), some (.long (zL l1)), none, some (.int (zI l3))] [.int (zI 8), .int (zI l3)] (rd S) rfl ?_
    refine s_icmp_gt rfl h (fun h => ?_) (fun h => ?_)
    · show eG _ 26 19 [some (.ref 0), some (.long (zL l1)), none, some (.int (zI l3))] [] (rd S) _
      refine g_run 1 20 [some (.ref 0), some (.long (zL l1)), none, some (.int (zI l3))] [.int (zI (-1))] (rd S) rfl ?_
      cases h
      exact s_ret rfl rfl rfl
    · show eG _ 26 11 [some (.ref 0), some (.long (zL l1)), none, some (.int (zI l3))] [] (rd S) _
      refine g_run 2 13 [some (.ref 0), some (.long (zL l1)), none, some (.int (zI l3))] [.int (zI l3), .long (zL l1)] (rd S) rfl ?_
      refine s_sta (fun z => some (.int (zI z))) (fun _ => rd S) rfl rfl rfl rfl rfl rfl rfl (fun z hz => sP_isPlain o n S l1 l3 hz) rfl h (fun z1 h => ?_)
      show eG _ 26 16 [some (.ref 0), some (.long (zL l1)), none, some (.int (zI l3))] [.int (zI z1)] (rd S) _
      refine s_if_ne rfl h (fun h => ?_) (fun h => ?_)
      · show eG _ 26 21 [some (.ref 0), some (.long (zL l1)), none, some (.int (zI l3))] [] (rd S) _
        refine g_run 1 22 [some (.ref 0), some (.long (zL l1)), none, some (.int (zI l3))] [.ref 0] (rd S) rfl ?_
        refine g_getf rfl rfl (rd_o0 _) rfl ?_
        show eG _ 26 25 [some (.ref 0), some (.long (zL l1)), none, some (.int (zI l3))] [.ref 22] (rd S) _
        refine g_run 1 26 [some (.ref 0), some (.long (zL l1)), none, some (.int (zI l3))] [.int (zI l3), .ref 22] (rd S) rfl ?_
        refine s_vir (fun z => some (.int (zI z))) (fun _ => rd S) rfl rfl rfl (rd_o22 _) rfl rfl (fun z hz => sP_hasRoom o n S l3 hz) rfl h (fun z2 h => ?_)
        show eG _ 26 29 [some (.ref 0), some (.long (zL l1)), none, some (.int (zI l3))] [.int (zI z2)] (rd S) _
        refine s_if_ne rfl h (fun h => ?_) (fun h => ?_)
        · show eG _ 26 35 [some (.ref 0), some (.long (zL l1)), none, some (.int (zI l3))] [] (rd S) _
          refine g_run 1 36 [some (.ref 0), some (.long (zL l1)), none, some (.int (zI l3))] [.ref 0] (rd S) rfl ?_
          refine g_getf rfl rfl (rd_o0 _) rfl ?_
          show eG _ 26 39 [some (.ref 0), some (.long (zL l1)), none, some (.int (zI l3))] [.ref 22] (rd S) _
          refine g_run 2 41 [some (.ref 0), some (.long (zL l1)), none, some (.int (zI l3))] [.int (zI l3), .long (zL l1), .ref 22] (rd S) rfl ?_
          refine s_vir (fun _ => none) (fun z => rd z) rfl rfl rfl (rd_o22 _) rfl rfl (fun z hz => sP_append o n S l1 l3 hz) rfl h (fun z3 h => ?_)
          show eG _ 26 44 [some (.ref 0), some (.long (zL l1)), none, some (.int (zI l3))] [] (rd z3) _
          refine g_run 1 45 [some (.ref 0), some (.long (zL l1)), none, some (.int (zI l3))] [.ref 0] (rd z3) rfl ?_
          refine g_getf rfl rfl (rd_o0 _) rfl ?_
          show eG _ 26 48 [some (.ref 0), some (.long (zL l1)), none, some (.int (zI l3))] [.ref 22] (rd z3) _
          refine g_getf rfl rfl (rd_o22 _) rfl ?_
          show eG _ 26 51 [some (.ref 0), some (.long (zL l1)), none, some (.int (zI l3))] [.int (zI (zF z3 22 1))] (rd z3) _
          cases h
          exact s_ret rfl rfl rfl
        · show eG _ 26 32 [some (.ref 0), some (.long (zL l1)), none, some (.int (zI l3))] [] (rd S) _
          refine g_run 1 34 [some (.ref 0), some (.long (zL l1)), none, some (.int (zI l3))] [.int (zI (-3))] (rd S) rfl ?_
          cases h
          exact s_ret rfl rfl rfl
      · show eG _ 26 19 [some (.ref 0), some (.long (zL l1)), none, some (.int (zI l3))] [] (rd S) _
        refine g_run 1 20 [some (.ref 0), some (.long (zL l1)), none, some (.int (zI l3))] [.int (zI (-1))] (rd S) rfl ?_
        cases h
        exact s_ret rfl rfl rfl
