/-! ===== Town ===== -/
/-- a town: its six rows (kinds, yards, places, owners, rests, shelters), its six numbers (parts, persons, standing, wanted, free, work) -/
abbrev Tn : Type := (Nat → Nat → Int32) × (Nat → Int32)
def tnAt (H : eH) (t : Nat) (T : Tn) : Prop :=
  H[t]? = some (.inr (4, [.ref (t + 1), .ref (t + 2), .ref (t + 3), .ref (t + 4), .ref (t + 5), .ref (t + 6), .int (T.2 0), .int (T.2 1), .int (T.2 2), .int (T.2 3), .int (T.2 4), .int (T.2 5)])) ∧
  H[t + 1]? = some (.inl (0, 8, .inl (T.1 0))) ∧ H[t + 2]? = some (.inl (0, 8, .inl (T.1 1))) ∧ H[t + 3]? = some (.inl (0, 8, .inl (T.1 2))) ∧ H[t + 4]? = some (.inl (0, 8, .inl (T.1 3))) ∧ H[t + 5]? = some (.inl (0, 8, .inl (T.1 4))) ∧ H[t + 6]? = some (.inl (0, 4, .inl (T.1 5)))
def f_isKind (x : Int32) : Int32 := (if x < 0 then 0 else (if 3 < x then 0 else 1))
theorem fit_isKind (x : Int32) : eFit .boolean (.int (f_isKind x)) = true := by
  unfold f_isKind
  (repeat' split) <;> first | rfl
theorem t_isKind (o : eO) (x : Int32) (H : eH)  : eG o 8 0 (eEnt 8 [.int x]) [] H (some (.int (f_isKind x)), H) := by
  show eG o 8 0 [some (.int x)] [] H _
  refine g_run 1 1 [some (.int x)] [.int x] H rfl ?_
  refine g_if_lt rfl (fun c1 => ?_) (fun c1 => ?_)
  · show eG _ 8 13 [some (.int x)] [] H _
    refine g_run 1 14 [some (.int x)] [.int 0] H rfl ?_
    exact g_reti rfl rfl rfl (by unfold f_isKind; rw [if_pos c1])
  · show eG _ 8 4 [some (.int x)] [] H _
    refine g_run 2 6 [some (.int x)] [.int 3, .int x] H rfl ?_
    refine g_icmp_gt rfl (fun c2 => ?_) (fun c2 => ?_)
    · show eG _ 8 13 [some (.int x)] [] H _
      refine g_run 1 14 [some (.int x)] [.int 0] H rfl ?_
      exact g_reti rfl rfl rfl (by unfold f_isKind; rw [if_neg c1, if_pos c2])
    · show eG _ 8 9 [some (.int x)] [] H _
      refine g_run 2 14 [some (.int x)] [.int 1] H rfl ?_
      exact g_reti rfl rfl rfl (by unfold f_isKind; rw [if_neg c1, if_neg c2])
def f_isYards (x : Int32) : Int32 := (if x < 1 then 0 else (if 99 < x then 0 else 1))
theorem fit_isYards (x : Int32) : eFit .boolean (.int (f_isYards x)) = true := by
  unfold f_isYards
  (repeat' split) <;> first | rfl | exact (fit_isKind ..)
theorem t_isYards (o : eO) (x : Int32) (H : eH)  : eG o 9 0 (eEnt 9 [.int x]) [] H (some (.int (f_isYards x)), H) := by
  show eG o 9 0 [some (.int x)] [] H _
  refine g_run 2 2 [some (.int x)] [.int 1, .int x] H rfl ?_
  refine g_icmp_lt rfl (fun c1 => ?_) (fun c1 => ?_)
  · show eG _ 9 15 [some (.int x)] [] H _
    refine g_run 1 16 [some (.int x)] [.int 0] H rfl ?_
    exact g_reti rfl rfl rfl (by unfold f_isYards; rw [if_pos c1])
  · show eG _ 9 5 [some (.int x)] [] H _
    refine g_run 2 8 [some (.int x)] [.int 99, .int x] H rfl ?_
    refine g_icmp_gt rfl (fun c2 => ?_) (fun c2 => ?_)
    · show eG _ 9 15 [some (.int x)] [] H _
      refine g_run 1 16 [some (.int x)] [.int 0] H rfl ?_
      exact g_reti rfl rfl rfl (by unfold f_isYards; rw [if_neg c1, if_pos c2])
    · show eG _ 9 11 [some (.int x)] [] H _
      refine g_run 2 16 [some (.int x)] [.int 1] H rfl ?_
      exact g_reti rfl rfl rfl (by unfold f_isYards; rw [if_neg c1, if_neg c2])
def f_isPlace (x : Int32) : Int32 := (if x < 0 then 0 else (if 99 < x then 0 else 1))
theorem fit_isPlace (x : Int32) : eFit .boolean (.int (f_isPlace x)) = true := by
  unfold f_isPlace
  (repeat' split) <;> first | rfl | exact (fit_isKind ..) | exact (fit_isYards ..)
theorem t_isPlace (o : eO) (x : Int32) (H : eH)  : eG o 10 0 (eEnt 10 [.int x]) [] H (some (.int (f_isPlace x)), H) := by
  show eG o 10 0 [some (.int x)] [] H _
  refine g_run 1 1 [some (.int x)] [.int x] H rfl ?_
  refine g_if_lt rfl (fun c1 => ?_) (fun c1 => ?_)
  · show eG _ 10 14 [some (.int x)] [] H _
    refine g_run 1 15 [some (.int x)] [.int 0] H rfl ?_
    exact g_reti rfl rfl rfl (by unfold f_isPlace; rw [if_pos c1])
  · show eG _ 10 4 [some (.int x)] [] H _
    refine g_run 2 7 [some (.int x)] [.int 99, .int x] H rfl ?_
    refine g_icmp_gt rfl (fun c2 => ?_) (fun c2 => ?_)
    · show eG _ 10 14 [some (.int x)] [] H _
      refine g_run 1 15 [some (.int x)] [.int 0] H rfl ?_
      exact g_reti rfl rfl rfl (by unfold f_isPlace; rw [if_neg c1, if_pos c2])
    · show eG _ 10 10 [some (.int x)] [] H _
      refine g_run 2 15 [some (.int x)] [.int 1] H rfl ?_
      exact g_reti rfl rfl rfl (by unfold f_isPlace; rw [if_neg c1, if_neg c2])
def f_isOwner (x : Int32) : Int32 := (if x < 0 then 0 else (if 4 ≤ x then 0 else 1))
theorem fit_isOwner (x : Int32) : eFit .boolean (.int (f_isOwner x)) = true := by
  unfold f_isOwner
  (repeat' split) <;> first | rfl | exact (fit_isKind ..) | exact (fit_isPlace ..) | exact (fit_isYards ..)
theorem t_isOwner (o : eO) (x : Int32) (H : eH)  : eG o 11 0 (eEnt 11 [.int x]) [] H (some (.int (f_isOwner x)), H) := by
  show eG o 11 0 [some (.int x)] [] H _
  refine g_run 1 1 [some (.int x)] [.int x] H rfl ?_
  refine g_if_lt rfl (fun c1 => ?_) (fun c1 => ?_)
  · show eG _ 11 13 [some (.int x)] [] H _
    refine g_run 1 14 [some (.int x)] [.int 0] H rfl ?_
    exact g_reti rfl rfl rfl (by unfold f_isOwner; rw [if_pos c1])
  · show eG _ 11 4 [some (.int x)] [] H _
    refine g_run 2 6 [some (.int x)] [.int 4, .int x] H rfl ?_
    refine g_icmp_ge rfl (fun c2 => ?_) (fun c2 => ?_)
    · show eG _ 11 13 [some (.int x)] [] H _
      refine g_run 1 14 [some (.int x)] [.int 0] H rfl ?_
      exact g_reti rfl rfl rfl (by unfold f_isOwner; rw [if_neg c1, if_pos c2])
    · show eG _ 11 9 [some (.int x)] [] H _
      refine g_run 2 14 [some (.int x)] [.int 1] H rfl ?_
      exact g_reti rfl rfl rfl (by unfold f_isOwner; rw [if_neg c1, if_neg c2])
def f_isPart (T : Tn) (x : Int32) : Int32 := (if x < 0 then 0 else (if (T.2 0) ≤ x then 0 else 1))
theorem fit_isPart (T : Tn) (x : Int32) : eFit .boolean (.int (f_isPart T x)) = true := by
  unfold f_isPart
  (repeat' split) <;> first | rfl | exact (fit_isKind ..) | exact (fit_isOwner ..) | exact (fit_isPlace ..) | exact (fit_isYards ..)
theorem t_isPart (o : eO) (t : Nat) (T : Tn) (x : Int32) (H : eH) (hT : tnAt H t T) : eG o 18 0 (eEnt 18 [.ref t, .int x]) [] H (some (.int (f_isPart T x)), H) := by
  show eG o 18 0 [some (.ref t), some (.int x)] [] H _
  refine g_run 1 1 [some (.ref t), some (.int x)] [.int x] H rfl ?_
  refine g_if_lt rfl (fun c1 => ?_) (fun c1 => ?_)
  · show eG _ 18 16 [some (.ref t), some (.int x)] [] H _
    refine g_run 1 17 [some (.ref t), some (.int x)] [.int 0] H rfl ?_
    exact g_reti rfl rfl rfl (by unfold f_isPart; rw [if_pos c1])
  · show eG _ 18 4 [some (.ref t), some (.int x)] [] H _
    refine g_run 2 6 [some (.ref t), some (.int x)] [.ref t, .int x] H rfl ?_
    refine g_getf rfl rfl hT.1 rfl ?_
    refine g_icmp_ge rfl (fun c2 => ?_) (fun c2 => ?_)
    · show eG _ 18 16 [some (.ref t), some (.int x)] [] H _
      refine g_run 1 17 [some (.ref t), some (.int x)] [.int 0] H rfl ?_
      exact g_reti rfl rfl rfl (by unfold f_isPart; rw [if_neg c1, if_pos c2])
    · show eG _ 18 12 [some (.ref t), some (.int x)] [] H _
      refine g_run 2 17 [some (.ref t), some (.int x)] [.int 1] H rfl ?_
      exact g_reti rfl rfl rfl (by unfold f_isPart; rw [if_neg c1, if_neg c2])
def f_all (T : Tn) : Int32 := ((1 <<< ((T.2 0) &&& 31)) - 1)
theorem t_all (o : eO) (t : Nat) (T : Tn) (H : eH) (hT : tnAt H t T) : eG o 13 0 (eEnt 13 [.ref t]) [] H (some (.int (f_all T)), H) := by
  show eG o 13 0 [some (.ref t)] [] H _
  refine g_run 2 2 [some (.ref t)] [.ref t, .int 1] H rfl ?_
  refine g_getf rfl rfl hT.1 rfl ?_
  refine g_run 3 8 [some (.ref t)] [.int ((1 <<< ((T.2 0) &&& 31)) - 1)] H rfl ?_
  exact g_reti rfl rfl rfl rfl
def f_isSet (T : Tn) (x : Int64) : Int32 := (if (lg_cmp x 0) < 0 then 0 else (if 0 < (lg_cmp x ((f_all T).toInt64)) then 0 else 1))
theorem fit_isSet (T : Tn) (x : Int64) : eFit .boolean (.int (f_isSet T x)) = true := by
  unfold f_isSet
  (repeat' split) <;> first | rfl | exact (fit_isKind ..) | exact (fit_isOwner ..) | exact (fit_isPart ..) | exact (fit_isPlace ..) | exact (fit_isYards ..)
theorem t_isSet (o : eO) (t : Nat) (T : Tn) (x : Int64) (H : eH) (hT : tnAt H t T) : eG o 12 0 (eEnt 12 [.ref t, .long x]) [] H (some (.int (f_isSet T x)), H) := by
  show eG o 12 0 [some (.ref t), some (.long x), none] [] H _
  refine g_run 3 3 [some (.ref t), some (.long x), none] [.int (lg_cmp x 0)] H rfl ?_
  refine g_if_lt rfl (fun c1 => ?_) (fun c1 => ?_)
  · show eG _ 12 20 [some (.ref t), some (.long x), none] [] H _
    refine g_run 1 21 [some (.ref t), some (.long x), none] [.int 0] H rfl ?_
    exact g_reti rfl rfl rfl (by unfold f_isSet; rw [if_pos c1])
  · show eG _ 12 6 [some (.ref t), some (.long x), none] [] H _
    refine g_run 2 8 [some (.ref t), some (.long x), none] [.ref t, .long x] H rfl ?_
    refine g_vir rfl rfl rfl hT.1 rfl rfl (t_all o t T H hT) rfl ?_
    show eG _ 12 11 [some (.ref t), some (.long x), none] [.int (f_all T), .long x] H _
    refine g_run 2 13 [some (.ref t), some (.long x), none] [.int (lg_cmp x ((f_all T).toInt64))] H rfl ?_
    refine g_if_gt rfl (fun c2 => ?_) (fun c2 => ?_)
    · show eG _ 12 20 [some (.ref t), some (.long x), none] [] H _
      refine g_run 1 21 [some (.ref t), some (.long x), none] [.int 0] H rfl ?_
      exact g_reti rfl rfl rfl (by unfold f_isSet; rw [if_neg c1, if_pos c2])
    · show eG _ 12 16 [some (.ref t), some (.long x), none] [] H _
      refine g_run 2 21 [some (.ref t), some (.long x), none] [.int 1] H rfl ?_
      exact g_reti rfl rfl rfl (by unfold f_isSet; rw [if_neg c1, if_neg c2])
def f_isBuiltUp (T : Tn) : Int32 := (if (T.2 0) < 8 then 0 else 1)
theorem fit_isBuiltUp (T : Tn) : eFit .boolean (.int (f_isBuiltUp T)) = true := by
  unfold f_isBuiltUp
  (repeat' split) <;> first | rfl | exact (fit_isKind ..) | exact (fit_isOwner ..) | exact (fit_isPart ..) | exact (fit_isPlace ..) | exact (fit_isSet ..) | exact (fit_isYards ..)
theorem t_isBuiltUp (o : eO) (t : Nat) (T : Tn) (H : eH) (hT : tnAt H t T) : eG o 14 0 (eEnt 14 [.ref t]) [] H (some (.int (f_isBuiltUp T)), H) := by
  show eG o 14 0 [some (.ref t)] [] H _
  refine g_run 1 1 [some (.ref t)] [.ref t] H rfl ?_
  refine g_getf rfl rfl hT.1 rfl ?_
  refine g_run 1 6 [some (.ref t)] [.int 8, .int (T.2 0)] H rfl ?_
  refine g_icmp_lt rfl (fun c1 => ?_) (fun c1 => ?_)
  · show eG _ 14 13 [some (.ref t)] [] H _
    refine g_run 1 14 [some (.ref t)] [.int 0] H rfl ?_
    exact g_reti rfl rfl rfl (by unfold f_isBuiltUp; rw [if_pos c1])
  · show eG _ 14 9 [some (.ref t)] [] H _
    refine g_run 2 14 [some (.ref t)] [.int 1] H rfl ?_
    exact g_reti rfl rfl rfl (by unfold f_isBuiltUp; rw [if_neg c1])
def f_isPeopled (T : Tn) : Int32 := (if (T.2 1) < 4 then 0 else 1)
theorem fit_isPeopled (T : Tn) : eFit .boolean (.int (f_isPeopled T)) = true := by
  unfold f_isPeopled
  (repeat' split) <;> first | rfl | exact (fit_isBuiltUp ..) | exact (fit_isKind ..) | exact (fit_isOwner ..) | exact (fit_isPart ..) | exact (fit_isPlace ..) | exact (fit_isSet ..) | exact (fit_isYards ..)
theorem t_isPeopled (o : eO) (t : Nat) (T : Tn) (H : eH) (hT : tnAt H t T) : eG o 22 0 (eEnt 22 [.ref t]) [] H (some (.int (f_isPeopled T)), H) := by
  show eG o 22 0 [some (.ref t)] [] H _
  refine g_run 1 1 [some (.ref t)] [.ref t] H rfl ?_
  refine g_getf rfl rfl hT.1 rfl ?_
  refine g_run 1 5 [some (.ref t)] [.int 4, .int (T.2 1)] H rfl ?_
  refine g_icmp_lt rfl (fun c1 => ?_) (fun c1 => ?_)
  · show eG _ 22 12 [some (.ref t)] [] H _
    refine g_run 1 13 [some (.ref t)] [.int 0] H rfl ?_
    exact g_reti rfl rfl rfl (by unfold f_isPeopled; rw [if_pos c1])
  · show eG _ 22 8 [some (.ref t)] [] H _
    refine g_run 2 13 [some (.ref t)] [.int 1] H rfl ?_
    exact g_reti rfl rfl rfl (by unfold f_isPeopled; rw [if_neg c1])
