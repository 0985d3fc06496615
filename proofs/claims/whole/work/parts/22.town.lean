/-! ===== Town ===== -/
/-- a town: its six rows (kinds, yards, places, owners, rests, shelters), four numbers (standing, wanted, free, work), how many parts and persons -/
abbrev Tn : Type := (Nat → Nat → Int32) × (Nat → Int32) × Nat × Nat
def tnAt (H : eH) (t : Nat) (T : Tn) : Prop :=
  H[t]? = some (.inr (4, [.ref (t + 1), .ref (t + 2), .ref (t + 3), .ref (t + 4), .ref (t + 5), .ref (t + 6), .int (nI T.2.2.1), .int (nI T.2.2.2), .int (T.2.1 0), .int (T.2.1 1), .int (T.2.1 2), .int (T.2.1 3)])) ∧
  arN 0 H (t + 1) 8 (T.1 0) ∧ arN 0 H (t + 2) 8 (T.1 1) ∧ arN 0 H (t + 3) 8 (T.1 2) ∧ arN 0 H (t + 4) 8 (T.1 3) ∧ arN 0 H (t + 5) 8 (T.1 4) ∧ arN 0 H (t + 6) 4 (T.1 5)
def b_isKind (x : Int32) : Bool := (if x < 0 then false else (if 3 < x then false else true))
theorem t_isKind (o : eO) (x : Int32) (H : eH)  : eG o 8 0 (eEnt 8 [.int x]) [] H (rv (some (.int (bI (b_isKind x)))) H) := by
  show eG o 8 0 [some (.int x)] [] H _
  refine g_run 1 1 [some (.int x)] [.int x] H rfl ?_
  refine g_if_lt rfl (fun c1 => ?_) (fun c1 => ?_)
  · show eG _ 8 13 [some (.int x)] [] H _
    refine g_run 1 14 [some (.int x)] [.int 0] H rfl ?_
    exact g_reti rfl rfl rfl (by unfold b_isKind; rw [if_pos c1]; rfl)
  · show eG _ 8 4 [some (.int x)] [] H _
    refine g_run 2 6 [some (.int x)] [.int 3, .int x] H rfl ?_
    refine g_icmp_gt rfl (fun c2 => ?_) (fun c2 => ?_)
    · show eG _ 8 13 [some (.int x)] [] H _
      refine g_run 1 14 [some (.int x)] [.int 0] H rfl ?_
      exact g_reti rfl rfl rfl (by unfold b_isKind; rw [if_neg c1, if_pos c2]; rfl)
    · show eG _ 8 9 [some (.int x)] [] H _
      refine g_run 2 14 [some (.int x)] [.int 1] H rfl ?_
      exact g_reti rfl rfl rfl (by unfold b_isKind; rw [if_neg c1, if_neg c2]; rfl)
def b_isYards (x : Int32) : Bool := (if x < 1 then false else (if 99 < x then false else true))
theorem t_isYards (o : eO) (x : Int32) (H : eH)  : eG o 9 0 (eEnt 9 [.int x]) [] H (rv (some (.int (bI (b_isYards x)))) H) := by
  show eG o 9 0 [some (.int x)] [] H _
  refine g_run 2 2 [some (.int x)] [.int 1, .int x] H rfl ?_
  refine g_icmp_lt rfl (fun c1 => ?_) (fun c1 => ?_)
  · show eG _ 9 15 [some (.int x)] [] H _
    refine g_run 1 16 [some (.int x)] [.int 0] H rfl ?_
    exact g_reti rfl rfl rfl (by unfold b_isYards; rw [if_pos c1]; rfl)
  · show eG _ 9 5 [some (.int x)] [] H _
    refine g_run 2 8 [some (.int x)] [.int 99, .int x] H rfl ?_
    refine g_icmp_gt rfl (fun c2 => ?_) (fun c2 => ?_)
    · show eG _ 9 15 [some (.int x)] [] H _
      refine g_run 1 16 [some (.int x)] [.int 0] H rfl ?_
      exact g_reti rfl rfl rfl (by unfold b_isYards; rw [if_neg c1, if_pos c2]; rfl)
    · show eG _ 9 11 [some (.int x)] [] H _
      refine g_run 2 16 [some (.int x)] [.int 1] H rfl ?_
      exact g_reti rfl rfl rfl (by unfold b_isYards; rw [if_neg c1, if_neg c2]; rfl)
def b_isPlace (x : Int32) : Bool := (if x < 0 then false else (if 99 < x then false else true))
theorem t_isPlace (o : eO) (x : Int32) (H : eH)  : eG o 10 0 (eEnt 10 [.int x]) [] H (rv (some (.int (bI (b_isPlace x)))) H) := by
  show eG o 10 0 [some (.int x)] [] H _
  refine g_run 1 1 [some (.int x)] [.int x] H rfl ?_
  refine g_if_lt rfl (fun c1 => ?_) (fun c1 => ?_)
  · show eG _ 10 14 [some (.int x)] [] H _
    refine g_run 1 15 [some (.int x)] [.int 0] H rfl ?_
    exact g_reti rfl rfl rfl (by unfold b_isPlace; rw [if_pos c1]; rfl)
  · show eG _ 10 4 [some (.int x)] [] H _
    refine g_run 2 7 [some (.int x)] [.int 99, .int x] H rfl ?_
    refine g_icmp_gt rfl (fun c2 => ?_) (fun c2 => ?_)
    · show eG _ 10 14 [some (.int x)] [] H _
      refine g_run 1 15 [some (.int x)] [.int 0] H rfl ?_
      exact g_reti rfl rfl rfl (by unfold b_isPlace; rw [if_neg c1, if_pos c2]; rfl)
    · show eG _ 10 10 [some (.int x)] [] H _
      refine g_run 2 15 [some (.int x)] [.int 1] H rfl ?_
      exact g_reti rfl rfl rfl (by unfold b_isPlace; rw [if_neg c1, if_neg c2]; rfl)
def b_isOwner (x : Int32) : Bool := (if x < 0 then false else (if 4 ≤ x then false else true))
theorem t_isOwner (o : eO) (x : Int32) (H : eH)  : eG o 11 0 (eEnt 11 [.int x]) [] H (rv (some (.int (bI (b_isOwner x)))) H) := by
  show eG o 11 0 [some (.int x)] [] H _
  refine g_run 1 1 [some (.int x)] [.int x] H rfl ?_
  refine g_if_lt rfl (fun c1 => ?_) (fun c1 => ?_)
  · show eG _ 11 13 [some (.int x)] [] H _
    refine g_run 1 14 [some (.int x)] [.int 0] H rfl ?_
    exact g_reti rfl rfl rfl (by unfold b_isOwner; rw [if_pos c1]; rfl)
  · show eG _ 11 4 [some (.int x)] [] H _
    refine g_run 2 6 [some (.int x)] [.int 4, .int x] H rfl ?_
    refine g_icmp_ge rfl (fun c2 => ?_) (fun c2 => ?_)
    · show eG _ 11 13 [some (.int x)] [] H _
      refine g_run 1 14 [some (.int x)] [.int 0] H rfl ?_
      exact g_reti rfl rfl rfl (by unfold b_isOwner; rw [if_neg c1, if_pos c2]; rfl)
    · show eG _ 11 9 [some (.int x)] [] H _
      refine g_run 2 14 [some (.int x)] [.int 1] H rfl ?_
      exact g_reti rfl rfl rfl (by unfold b_isOwner; rw [if_neg c1, if_neg c2]; rfl)
def b_isPart (T : Tn) (x : Int32) : Bool := (if x < 0 then false else (if (nI T.2.2.1) ≤ x then false else true))
theorem t_isPart (o : eO) (t : Nat) (T : Tn) (x : Int32) (H : eH) (hT : tnAt H t T) : eG o 18 0 (eEnt 18 [.ref t, .int x]) [] H (rv (some (.int (bI (b_isPart T x)))) H) := by
  show eG o 18 0 [some (.ref t), some (.int x)] [] H _
  refine g_run 1 1 [some (.ref t), some (.int x)] [.int x] H rfl ?_
  refine g_if_lt rfl (fun c1 => ?_) (fun c1 => ?_)
  · show eG _ 18 16 [some (.ref t), some (.int x)] [] H _
    refine g_run 1 17 [some (.ref t), some (.int x)] [.int 0] H rfl ?_
    exact g_reti rfl rfl rfl (by unfold b_isPart; rw [if_pos c1]; rfl)
  · show eG _ 18 4 [some (.ref t), some (.int x)] [] H _
    refine g_run 2 6 [some (.ref t), some (.int x)] [.ref t, .int x] H rfl ?_
    refine g_getf rfl rfl hT.1 rfl ?_
    refine g_icmp_ge rfl (fun c2 => ?_) (fun c2 => ?_)
    · show eG _ 18 16 [some (.ref t), some (.int x)] [] H _
      refine g_run 1 17 [some (.ref t), some (.int x)] [.int 0] H rfl ?_
      exact g_reti rfl rfl rfl (by unfold b_isPart; rw [if_neg c1, if_pos c2]; rfl)
    · show eG _ 18 12 [some (.ref t), some (.int x)] [] H _
      refine g_run 2 17 [some (.ref t), some (.int x)] [.int 1] H rfl ?_
      exact g_reti rfl rfl rfl (by unfold b_isPart; rw [if_neg c1, if_neg c2]; rfl)
def f_all (T : Tn) : Int32 := ((1 <<< ((nI T.2.2.1) &&& 31)) - 1)
theorem t_all (o : eO) (t : Nat) (T : Tn) (H : eH) (hT : tnAt H t T) : eG o 13 0 (eEnt 13 [.ref t]) [] H (rv (some (.int (f_all T))) H) := by
  show eG o 13 0 [some (.ref t)] [] H _
  refine g_run 2 2 [some (.ref t)] [.ref t, .int 1] H rfl ?_
  refine g_getf rfl rfl hT.1 rfl ?_
  refine g_run 3 8 [some (.ref t)] [.int ((1 <<< ((nI T.2.2.1) &&& 31)) - 1)] H rfl ?_
  exact g_reti rfl rfl rfl rfl
def b_isSet (T : Tn) (x : Int64) : Bool := (if (lg_cmp x 0) < 0 then false else (if 0 < (lg_cmp x ((f_all T).toInt64)) then false else true))
theorem t_isSet (o : eO) (t : Nat) (T : Tn) (x : Int64) (H : eH) (hT : tnAt H t T) : eG o 12 0 (eEnt 12 [.ref t, .long x]) [] H (rv (some (.int (bI (b_isSet T x)))) H) := by
  show eG o 12 0 [some (.ref t), some (.long x), none] [] H _
  refine g_run 3 3 [some (.ref t), some (.long x), none] [.int (lg_cmp x 0)] H rfl ?_
  refine g_if_lt rfl (fun c1 => ?_) (fun c1 => ?_)
  · show eG _ 12 20 [some (.ref t), some (.long x), none] [] H _
    refine g_run 1 21 [some (.ref t), some (.long x), none] [.int 0] H rfl ?_
    exact g_reti rfl rfl rfl (by unfold b_isSet; rw [if_pos c1]; rfl)
  · show eG _ 12 6 [some (.ref t), some (.long x), none] [] H _
    refine g_run 2 8 [some (.ref t), some (.long x), none] [.ref t, .long x] H rfl ?_
    refine g_vir rfl rfl rfl hT.1 rfl rfl (t_all o t T H hT) rfl ?_
    show eG _ 12 11 [some (.ref t), some (.long x), none] [.int (f_all T), .long x] H _
    refine g_run 2 13 [some (.ref t), some (.long x), none] [.int (lg_cmp x ((f_all T).toInt64))] H rfl ?_
    refine g_if_gt rfl (fun c2 => ?_) (fun c2 => ?_)
    · show eG _ 12 20 [some (.ref t), some (.long x), none] [] H _
      refine g_run 1 21 [some (.ref t), some (.long x), none] [.int 0] H rfl ?_
      exact g_reti rfl rfl rfl (by unfold b_isSet; rw [if_neg c1, if_pos c2]; rfl)
    · show eG _ 12 16 [some (.ref t), some (.long x), none] [] H _
      refine g_run 2 21 [some (.ref t), some (.long x), none] [.int 1] H rfl ?_
      exact g_reti rfl rfl rfl (by unfold b_isSet; rw [if_neg c1, if_neg c2]; rfl)
def b_isBuiltUp (T : Tn) : Bool := (if (nI T.2.2.1) < 8 then false else true)
theorem t_isBuiltUp (o : eO) (t : Nat) (T : Tn) (H : eH) (hT : tnAt H t T) : eG o 14 0 (eEnt 14 [.ref t]) [] H (rv (some (.int (bI (b_isBuiltUp T)))) H) := by
  show eG o 14 0 [some (.ref t)] [] H _
  refine g_run 1 1 [some (.ref t)] [.ref t] H rfl ?_
  refine g_getf rfl rfl hT.1 rfl ?_
  refine g_run 1 6 [some (.ref t)] [.int 8, .int (nI T.2.2.1)] H rfl ?_
  refine g_icmp_lt rfl (fun c1 => ?_) (fun c1 => ?_)
  · show eG _ 14 13 [some (.ref t)] [] H _
    refine g_run 1 14 [some (.ref t)] [.int 0] H rfl ?_
    exact g_reti rfl rfl rfl (by unfold b_isBuiltUp; rw [if_pos c1]; rfl)
  · show eG _ 14 9 [some (.ref t)] [] H _
    refine g_run 2 14 [some (.ref t)] [.int 1] H rfl ?_
    exact g_reti rfl rfl rfl (by unfold b_isBuiltUp; rw [if_neg c1]; rfl)
def b_isPeopled (T : Tn) : Bool := (if (nI T.2.2.2) < 4 then false else true)
theorem t_isPeopled (o : eO) (t : Nat) (T : Tn) (H : eH) (hT : tnAt H t T) : eG o 22 0 (eEnt 22 [.ref t]) [] H (rv (some (.int (bI (b_isPeopled T)))) H) := by
  show eG o 22 0 [some (.ref t)] [] H _
  refine g_run 1 1 [some (.ref t)] [.ref t] H rfl ?_
  refine g_getf rfl rfl hT.1 rfl ?_
  refine g_run 1 5 [some (.ref t)] [.int 4, .int (nI T.2.2.2)] H rfl ?_
  refine g_icmp_lt rfl (fun c1 => ?_) (fun c1 => ?_)
  · show eG _ 22 12 [some (.ref t)] [] H _
    refine g_run 1 13 [some (.ref t)] [.int 0] H rfl ?_
    exact g_reti rfl rfl rfl (by unfold b_isPeopled; rw [if_pos c1]; rfl)
  · show eG _ 22 8 [some (.ref t)] [] H _
    refine g_run 2 13 [some (.ref t)] [.int 1] H rfl ?_
    exact g_reti rfl rfl rfl (by unfold b_isPeopled; rw [if_neg c1]; rfl)
def ysum (y : Nat → Int32) (s : Int32) : Nat → Int32
  | 0 => 0
  | p + 1 => if bit s p then ysum y s p + y p else ysum y s p
theorem l_yardsOf (o : eO) (t : Nat) (T : Tn) (s : Int32) (H : eH) (hT : tnAt H t T) (hn : T.2.2.1 ≤ 8) {r : eP} (hk : eG o 48 36 [some (.ref t), some (.int s), some (.int (ysum (T.1 1) s T.2.2.1)), some (.int (nI T.2.2.1))] [] H r) : ∀ (j p : Nat), p + j = T.2.2.1 → eG o 48 4 [some (.ref t), some (.int s), some (.int (ysum (T.1 1) s p)), some (.int (nI p))] [] H r := by
  intro j
  induction j with
  | zero =>
    intro p hp
    have hp : T.2.2.1 = p := by omega
    subst hp
    refine g_run 2 6 [some (.ref t), some (.int s), some (.int (ysum (T.1 1) s T.2.2.1)), some (.int (nI T.2.2.1))] [.ref t, .int (nI T.2.2.1)] H rfl ?_
    refine g_getf rfl rfl hT.1 rfl ?_
    refine g_icmp_ge rfl (fun _ => ?_) (fun c1 => absurd (nI_le (Nat.le_refl _) (by omega)) c1)
    show eG _ 48 36 [some (.ref t), some (.int s), some (.int (ysum (T.1 1) s T.2.2.1)), some (.int (nI T.2.2.1))] [] H _
    exact hk
  | succ j ih =>
    intro p hp
    refine g_run 2 6 [some (.ref t), some (.int s), some (.int (ysum (T.1 1) s p)), some (.int (nI p))] [.ref t, .int (nI p)] H rfl ?_
    refine g_getf rfl rfl hT.1 rfl ?_
    refine g_icmp_ge rfl (fun c1 => absurd c1 (nI_ge (show p < T.2.2.1 by omega) (by omega))) (fun _ => ?_)
    show eG _ 48 12 [some (.ref t), some (.int s), some (.int (ysum (T.1 1) s p)), some (.int (nI p))] [] H _
    refine g_run 6 18 [some (.ref t), some (.int s), some (.int (ysum (T.1 1) s p)), some (.int (nI p))] [.int 1, .int ((s >>> ((nI p) &&& 31)) &&& 1)] H rfl ?_
    refine g_icmp_ne rfl (fun c2 => ?_) (fun c2 => ?_)
    · show eG _ 48 30 [some (.ref t), some (.int s), some (.int (ysum (T.1 1) s p)), some (.int (nI p))] [] H _
      refine g_run 2 4 [some (.ref t), some (.int s), some (.int (ysum (T.1 1) s p)), some (.int ((nI p) + 1))] [] H rfl ?_
      have e1 : nI p + 1 = nI (p + 1) := nI_1 p
      have e2 : ysum (T.1 1) s p = ysum (T.1 1) s (p + 1) := by first | exact (if_pos c2).symm | exact (if_neg c2).symm
      rw [e1, e2]
      exact ih (p + 1) (by omega)
    · show eG _ 48 21 [some (.ref t), some (.int s), some (.int (ysum (T.1 1) s p)), some (.int (nI p))] [] H _
      refine g_run 2 23 [some (.ref t), some (.int s), some (.int (ysum (T.1 1) s p)), some (.int (nI p))] [.ref t, .int (ysum (T.1 1) s p)] H rfl ?_
      refine g_getf rfl rfl hT.1 rfl ?_
      refine g_run 1 27 [some (.ref t), some (.int s), some (.int (ysum (T.1 1) s p)), some (.int (nI p))] [.int (nI p), .ref (t + 2), .int (ysum (T.1 1) s p)] H rfl ?_
      refine g_iald_a rfl hT.2.2.1 (by omega) (by decide) ?_
      refine g_run 4 4 [some (.ref t), some (.int s), some (.int ((ysum (T.1 1) s p) + ((T.1 1) p))), some (.int ((nI p) + 1))] [] H rfl ?_
      have e1 : nI p + 1 = nI (p + 1) := nI_1 p
      have e2 : (ysum (T.1 1) s p) + ((T.1 1) p) = ysum (T.1 1) s (p + 1) := by first | exact (if_pos c2).symm | exact (if_neg c2).symm
      rw [e1, e2]
      exact ih (p + 1) (by omega)
theorem t_yardsOf (o : eO) (t : Nat) (T : Tn) (s : Int32) (H : eH) (hT : tnAt H t T) (hn : T.2.2.1 ≤ 8) : eG o 48 0 (eEnt 48 [.ref t, .int s]) [] H (rv (some (.int (ysum (T.1 1) s T.2.2.1))) H) := by
  refine g_run 4 4 [some (.ref t), some (.int s), some (.int 0), some (.int (nI 0))] [] H rfl ?_
  refine l_yardsOf o t T s H hT hn ?_ T.2.2.1 0 (by omega)
  refine g_run 1 37 [some (.ref t), some (.int s), some (.int (ysum (T.1 1) s T.2.2.1)), some (.int (nI T.2.2.1))] [.int (ysum (T.1 1) s T.2.2.1)] H rfl ?_
  exact g_reti rfl rfl rfl rfl
def shel (f : Nat → Int32) (s : Int32) : Nat → Int32
  | 0 => 0
  | p + 1 => if f p &&& s = 0 then shel f s p else shel f s p ||| (1 <<< (nI p &&& 31))
theorem l_sheltered (o : eO) (t : Nat) (T : Tn) (s : Int32) (H : eH) (hT : tnAt H t T) (hm : T.2.2.2 ≤ 4) {r : eP} (hk : eG o 49 35 [some (.ref t), some (.int s), some (.int (shel (T.1 5) s T.2.2.2)), some (.int (nI T.2.2.2))] [] H r) : ∀ (j p : Nat), p + j = T.2.2.2 → eG o 49 4 [some (.ref t), some (.int s), some (.int (shel (T.1 5) s p)), some (.int (nI p))] [] H r := by
  intro j
  induction j with
  | zero =>
    intro p hp
    have hp : T.2.2.2 = p := by omega
    subst hp
    refine g_run 2 6 [some (.ref t), some (.int s), some (.int (shel (T.1 5) s T.2.2.2)), some (.int (nI T.2.2.2))] [.ref t, .int (nI T.2.2.2)] H rfl ?_
    refine g_getf rfl rfl hT.1 rfl ?_
    refine g_icmp_ge rfl (fun _ => ?_) (fun c1 => absurd (nI_le (Nat.le_refl _) (by omega)) c1)
    show eG _ 49 35 [some (.ref t), some (.int s), some (.int (shel (T.1 5) s T.2.2.2)), some (.int (nI T.2.2.2))] [] H _
    exact hk
  | succ j ih =>
    intro p hp
    refine g_run 2 6 [some (.ref t), some (.int s), some (.int (shel (T.1 5) s p)), some (.int (nI p))] [.ref t, .int (nI p)] H rfl ?_
    refine g_getf rfl rfl hT.1 rfl ?_
    refine g_icmp_ge rfl (fun c1 => absurd c1 (nI_ge (show p < T.2.2.2 by omega) (by omega))) (fun _ => ?_)
    show eG _ 49 12 [some (.ref t), some (.int s), some (.int (shel (T.1 5) s p)), some (.int (nI p))] [] H _
    refine g_run 1 13 [some (.ref t), some (.int s), some (.int (shel (T.1 5) s p)), some (.int (nI p))] [.ref t] H rfl ?_
    refine g_getf rfl rfl hT.1 rfl ?_
    refine g_run 1 17 [some (.ref t), some (.int s), some (.int (shel (T.1 5) s p)), some (.int (nI p))] [.int (nI p), .ref (t + 6)] H rfl ?_
    refine g_iald_a rfl hT.2.2.2.2.2.2 (by omega) (by decide) ?_
    refine g_run 2 20 [some (.ref t), some (.int s), some (.int (shel (T.1 5) s p)), some (.int (nI p))] [.int (((T.1 5) p) &&& s)] H rfl ?_
    refine g_if_eq rfl (fun c2 => ?_) (fun c2 => ?_)
    · show eG _ 49 29 [some (.ref t), some (.int s), some (.int (shel (T.1 5) s p)), some (.int (nI p))] [] H _
      refine g_run 2 4 [some (.ref t), some (.int s), some (.int (shel (T.1 5) s p)), some (.int ((nI p) + 1))] [] H rfl ?_
      have e1 : nI p + 1 = nI (p + 1) := nI_1 p
      have e2 : shel (T.1 5) s p = shel (T.1 5) s (p + 1) := by first | exact (if_pos c2).symm | exact (if_neg c2).symm
      rw [e1, e2]
      exact ih (p + 1) (by omega)
    · show eG _ 49 23 [some (.ref t), some (.int s), some (.int (shel (T.1 5) s p)), some (.int (nI p))] [] H _
      refine g_run 8 4 [some (.ref t), some (.int s), some (.int ((shel (T.1 5) s p) ||| (1 <<< ((nI p) &&& 31)))), some (.int ((nI p) + 1))] [] H rfl ?_
      have e1 : nI p + 1 = nI (p + 1) := nI_1 p
      have e2 : (shel (T.1 5) s p) ||| (1 <<< ((nI p) &&& 31)) = shel (T.1 5) s (p + 1) := by first | exact (if_pos c2).symm | exact (if_neg c2).symm
      rw [e1, e2]
      exact ih (p + 1) (by omega)
theorem t_sheltered (o : eO) (t : Nat) (T : Tn) (s : Int32) (H : eH) (hT : tnAt H t T) (hm : T.2.2.2 ≤ 4) : eG o 49 0 (eEnt 49 [.ref t, .int s]) [] H (rv (some (.int (shel (T.1 5) s T.2.2.2))) H) := by
  refine g_run 4 4 [some (.ref t), some (.int s), some (.int 0), some (.int (nI 0))] [] H rfl ?_
  refine l_sheltered o t T s H hT hm ?_ T.2.2.2 0 (by omega)
  refine g_run 1 36 [some (.ref t), some (.int s), some (.int (shel (T.1 5) s T.2.2.2)), some (.int (nI T.2.2.2))] [.int (shel (T.1 5) s T.2.2.2)] H rfl ?_
  exact g_reti rfl rfl rfl rfl
/-- each part of a set has all it rests on -/
def firmB (f : Nat → Int32) (s : Int32) : Nat → Bool
  | 0 => true
  | p + 1 => firmB f s p && (decide (¬ bit s p) || decide (f p &&& (s ^^^ (-1)) = 0))
theorem firmB_false {f : Nat → Int32} {s : Int32} {p n : Nat} (h : firmB f s p = false) (hn : p ≤ n) : firmB f s n = false := by
  obtain ⟨d, rfl⟩ := Nat.exists_eq_add_of_le hn
  clear hn
  induction d with
  | zero => exact h
  | succ d ih => show (firmB f s (p + d) && _) = false; rw [ih]; rfl
theorem l_isFirm (o : eO) (t : Nat) (T : Tn) (s : Int32) (H : eH) (hT : tnAt H t T) (hn : T.2.2.1 ≤ 8)  (hk : firmB (T.1 4) s T.2.2.1 = true → eG o 20 40 [some (.ref t), some (.int s), some (.int (nI T.2.2.1))] [] H (rv (some (.int (bI (firmB (T.1 4) s T.2.2.1)))) H)) : ∀ (j p : Nat), p + j = T.2.2.1 → firmB (T.1 4) s p = true → eG o 20 2 [some (.ref t), some (.int s), some (.int (nI p))] [] H (rv (some (.int (bI (firmB (T.1 4) s T.2.2.1)))) H) := by
  intro j
  induction j with
  | zero =>
    intro p hp hi
    have hp : T.2.2.1 = p := by omega
    subst hp
    refine g_run 2 4 [some (.ref t), some (.int s), some (.int (nI T.2.2.1))] [.ref t, .int (nI T.2.2.1)] H rfl ?_
    refine g_getf rfl rfl hT.1 rfl ?_
    refine g_icmp_ge rfl (fun _ => ?_) (fun c1 => absurd (nI_le (Nat.le_refl _) (by omega)) c1)
    show eG _ 20 40 [some (.ref t), some (.int s), some (.int (nI T.2.2.1))] [] H _
    exact hk hi
  | succ j ih =>
    intro p hp hi
    refine g_run 2 4 [some (.ref t), some (.int s), some (.int (nI p))] [.ref t, .int (nI p)] H rfl ?_
    refine g_getf rfl rfl hT.1 rfl ?_
    refine g_icmp_ge rfl (fun c1 => absurd c1 (nI_ge (show p < T.2.2.1 by omega) (by omega))) (fun _ => ?_)
    show eG _ 20 10 [some (.ref t), some (.int s), some (.int (nI p))] [] H _
    refine g_run 6 16 [some (.ref t), some (.int s), some (.int (nI p))] [.int 1, .int ((s >>> ((nI p) &&& 31)) &&& 1)] H rfl ?_
    refine g_icmp_ne rfl (fun c2 => ?_) (fun c2 => ?_)
    · show eG _ 20 34 [some (.ref t), some (.int s), some (.int (nI p))] [] H _
      refine g_run 2 2 [some (.ref t), some (.int s), some (.int ((nI p) + 1))] [] H rfl ?_
      have e1 : nI p + 1 = nI (p + 1) := nI_1 p
      rw [e1]
      exact ih (p + 1) (by omega) (by unfold firmB; rw [hi]; first | (rw [decide_eq_true (show ¬ bit s p from c2)]; rfl) | (rw [decide_eq_true c3, Bool.or_true]; rfl))
    · show eG _ 20 19 [some (.ref t), some (.int s), some (.int (nI p))] [] H _
      refine g_run 1 20 [some (.ref t), some (.int s), some (.int (nI p))] [.ref t] H rfl ?_
      refine g_getf rfl rfl hT.1 rfl ?_
      refine g_run 1 24 [some (.ref t), some (.int s), some (.int (nI p))] [.int (nI p), .ref (t + 5)] H rfl ?_
      refine g_iald_a rfl hT.2.2.2.2.2.1 (by omega) (by decide) ?_
      refine g_run 4 29 [some (.ref t), some (.int s), some (.int (nI p))] [.int (((T.1 4) p) &&& (s ^^^ (-1)))] H rfl ?_
      refine g_if_eq rfl (fun c3 => ?_) (fun c3 => ?_)
      · show eG _ 20 34 [some (.ref t), some (.int s), some (.int (nI p))] [] H _
        refine g_run 2 2 [some (.ref t), some (.int s), some (.int ((nI p) + 1))] [] H rfl ?_
        have e1 : nI p + 1 = nI (p + 1) := nI_1 p
        rw [e1]
        exact ih (p + 1) (by omega) (by unfold firmB; rw [hi]; first | (rw [decide_eq_true (show ¬ bit s p from c2)]; rfl) | (rw [decide_eq_true c3, Bool.or_true]; rfl))
      · show eG _ 20 32 [some (.ref t), some (.int s), some (.int (nI p))] [] H _
        refine g_run 1 33 [some (.ref t), some (.int s), some (.int (nI p))] [.int 0] H rfl ?_
        exact g_reti rfl rfl rfl (by rw [firmB_false (p := p + 1) (by unfold firmB; rw [hi, decide_eq_false (show ¬ ¬ bit s p from fun z => z c2), decide_eq_false c3]; rfl) (by omega)]; rfl)
theorem t_isFirm (o : eO) (t : Nat) (T : Tn) (s : Int32) (H : eH) (hT : tnAt H t T) (hn : T.2.2.1 ≤ 8) : eG o 20 0 (eEnt 20 [.ref t, .int s]) [] H (rv (some (.int (bI (firmB (T.1 4) s T.2.2.1)))) H) := by
  refine g_run 2 2 [some (.ref t), some (.int s), some (.int (nI 0))] [] H rfl ?_
  refine l_isFirm o t T s H hT hn (fun hi => ?_) T.2.2.1 0 (by omega) rfl
  refine g_run 1 41 [some (.ref t), some (.int s), some (.int (nI T.2.2.1))] [.int 1] H rfl ?_
  exact g_reti rfl rfl rfl (by rw [hi]; rfl)
def f_givenByGoing (T : Tn) (p : Nat) : Int32 := (if ((T.1 0) p) = 1 then (((T.1 1) p) - 1) else (if ((T.1 0) p) = 2 then (-((T.1 1) p)) else (if ((T.1 0) p) = 3 then (((T.1 1) p) / 2) else ((T.1 1) p))))
theorem t_givenByGoing (o : eO) (t : Nat) (T : Tn) (p : Nat) (H : eH) (hT : tnAt H t T) (hp : p < 8) : eG o 54 0 (eEnt 54 [.ref t, .int (nI p)]) [] H (rv (some (.int (f_givenByGoing T p))) H) := by
  show eG o 54 0 [some (.ref t), some (.int (nI p))] [] H _
  refine g_run 1 1 [some (.ref t), some (.int (nI p))] [.ref t] H rfl ?_
  refine g_getf rfl rfl hT.1 rfl ?_
  refine g_run 1 5 [some (.ref t), some (.int (nI p))] [.int (nI p), .ref (t + 1)] H rfl ?_
  refine g_iald_a rfl hT.2.1 (by omega) (by decide) ?_
  by_cases c1 : ((T.1 0) p) = 1
  · refine g_tabv 1 32 rfl c1 (by decide) ?_
    refine g_run 1 33 [some (.ref t), some (.int (nI p))] [.ref t] H rfl ?_
    refine g_getf rfl rfl hT.1 rfl ?_
    refine g_run 1 37 [some (.ref t), some (.int (nI p))] [.int (nI p), .ref (t + 2)] H rfl ?_
    refine g_iald_a rfl hT.2.2.1 (by omega) (by decide) ?_
    refine g_run 2 40 [some (.ref t), some (.int (nI p))] [.int (((T.1 1) p) - 1)] H rfl ?_
    exact g_reti rfl rfl rfl (by unfold f_givenByGoing; rw [if_pos c1])
  by_cases c2 : ((T.1 0) p) = 2
  · refine g_tabv 2 41 rfl c2 (by decide) ?_
    refine g_run 1 42 [some (.ref t), some (.int (nI p))] [.ref t] H rfl ?_
    refine g_getf rfl rfl hT.1 rfl ?_
    refine g_run 1 46 [some (.ref t), some (.int (nI p))] [.int (nI p), .ref (t + 2)] H rfl ?_
    refine g_iald_a rfl hT.2.2.1 (by omega) (by decide) ?_
    refine g_run 1 48 [some (.ref t), some (.int (nI p))] [.int (-((T.1 1) p))] H rfl ?_
    exact g_reti rfl rfl rfl (by unfold f_givenByGoing; rw [if_neg c1, if_pos c2])
  by_cases c3 : ((T.1 0) p) = 3
  · refine g_tabv 3 49 rfl c3 (by decide) ?_
    refine g_run 1 50 [some (.ref t), some (.int (nI p))] [.ref t] H rfl ?_
    refine g_getf rfl rfl hT.1 rfl ?_
    refine g_run 1 54 [some (.ref t), some (.int (nI p))] [.int (nI p), .ref (t + 2)] H rfl ?_
    refine g_iald_a rfl hT.2.2.1 (by omega) (by decide) ?_
    refine g_run 2 57 [some (.ref t), some (.int (nI p))] [.int (((T.1 1) p) / 2)] H rfl ?_
    exact g_reti rfl rfl rfl (by unfold f_givenByGoing; rw [if_neg c1, if_neg c2, if_pos c3])
  have d4 : ((T.1 0) p).toInt < 1 ∨ 3 < ((T.1 0) p).toInt := by
    have qc1 := eNe_toInt c1
    have qc2 := eNe_toInt c2
    have qc3 := eNe_toInt c3
    rw [show (1 : Int32).toInt = 1 from by decide] at qc1
    rw [show (2 : Int32).toInt = 2 from by decide] at qc2
    rw [show (3 : Int32).toInt = 3 from by decide] at qc3
    omega
  refine g_tabd 58 rfl d4 (by decide) ?_
  refine g_run 1 59 [some (.ref t), some (.int (nI p))] [.ref t] H rfl ?_
  refine g_getf rfl rfl hT.1 rfl ?_
  refine g_run 1 63 [some (.ref t), some (.int (nI p))] [.int (nI p), .ref (t + 2)] H rfl ?_
  refine g_iald_a rfl hT.2.2.1 (by omega) (by decide) ?_
  exact g_reti rfl rfl rfl (by unfold f_givenByGoing; rw [if_neg c1, if_neg c2, if_neg c3])
def f_givenByComing (T : Tn) (p : Nat) : Int32 := (if ((T.1 0) p) = 2 then ((T.1 1) p) else (-((T.1 1) p)))
theorem t_givenByComing (o : eO) (t : Nat) (T : Tn) (p : Nat) (H : eH) (hT : tnAt H t T) (hp : p < 8) : eG o 55 0 (eEnt 55 [.ref t, .int (nI p)]) [] H (rv (some (.int (f_givenByComing T p))) H) := by
  show eG o 55 0 [some (.ref t), some (.int (nI p))] [] H _
  refine g_run 1 1 [some (.ref t), some (.int (nI p))] [.ref t] H rfl ?_
  refine g_getf rfl rfl hT.1 rfl ?_
  refine g_run 1 5 [some (.ref t), some (.int (nI p))] [.int (nI p), .ref (t + 1)] H rfl ?_
  refine g_iald_a rfl hT.2.1 (by omega) (by decide) ?_
  refine g_run 1 7 [some (.ref t), some (.int (nI p))] [.int 2, .int ((T.1 0) p)] H rfl ?_
  refine g_icmp_ne rfl (fun c1 => ?_) (fun c1 => ?_)
  · show eG _ 55 19 [some (.ref t), some (.int (nI p))] [] H _
    refine g_run 1 20 [some (.ref t), some (.int (nI p))] [.ref t] H rfl ?_
    refine g_getf rfl rfl hT.1 rfl ?_
    refine g_run 1 24 [some (.ref t), some (.int (nI p))] [.int (nI p), .ref (t + 2)] H rfl ?_
    refine g_iald_a rfl hT.2.2.1 (by omega) (by decide) ?_
    refine g_run 1 26 [some (.ref t), some (.int (nI p))] [.int (-((T.1 1) p))] H rfl ?_
    exact g_reti rfl rfl rfl (by unfold f_givenByComing; rw [if_neg c1])
  · show eG _ 55 10 [some (.ref t), some (.int (nI p))] [] H _
    refine g_run 1 11 [some (.ref t), some (.int (nI p))] [.ref t] H rfl ?_
    refine g_getf rfl rfl hT.1 rfl ?_
    refine g_run 1 15 [some (.ref t), some (.int (nI p))] [.int (nI p), .ref (t + 2)] H rfl ?_
    refine g_iald_a rfl hT.2.2.1 (by omega) (by decide) ?_
    refine g_run 1 26 [some (.ref t), some (.int (nI p))] [.int ((T.1 1) p)] H rfl ?_
    exact g_reti rfl rfl rfl (by unfold f_givenByComing; rw [if_pos c1])
def overF (T : Tn) (g c : Int32) : Nat → Int32
  | 0 => T.2.1 2
  | p + 1 => if bit g p then overF T g c p + f_givenByGoing T p else if bit c p then overF T g c p + f_givenByComing T p else overF T g c p
theorem l_over (o : eO) (t : Nat) (T : Tn) (g c : Int32) (H : eH) (hT : tnAt H t T) (hn : T.2.2.1 ≤ 8) {r : eP} (hk : eG o 53 64 [some (.ref t), some (.int g), some (.int c), some (.int (overF T g c T.2.2.1)), some (.int (nI T.2.2.1))] [] H r) : ∀ (j p : Nat), p + j = T.2.2.1 → eG o 53 8 [some (.ref t), some (.int g), some (.int c), some (.int (overF T g c p)), some (.int (nI p))] [] H r := by
  intro j
  induction j with
  | zero =>
    intro p hp
    have hp : T.2.2.1 = p := by omega
    subst hp
    refine g_run 2 11 [some (.ref t), some (.int g), some (.int c), some (.int (overF T g c T.2.2.1)), some (.int (nI T.2.2.1))] [.ref t, .int (nI T.2.2.1)] H rfl ?_
    refine g_getf rfl rfl hT.1 rfl ?_
    refine g_icmp_ge rfl (fun _ => ?_) (fun c1 => absurd (nI_le (Nat.le_refl _) (by omega)) c1)
    show eG _ 53 64 [some (.ref t), some (.int g), some (.int c), some (.int (overF T g c T.2.2.1)), some (.int (nI T.2.2.1))] [] H _
    exact hk
  | succ j ih =>
    intro p hp
    refine g_run 2 11 [some (.ref t), some (.int g), some (.int c), some (.int (overF T g c p)), some (.int (nI p))] [.ref t, .int (nI p)] H rfl ?_
    refine g_getf rfl rfl hT.1 rfl ?_
    refine g_icmp_ge rfl (fun c1 => absurd c1 (nI_ge (show p < T.2.2.1 by omega) (by omega))) (fun _ => ?_)
    show eG _ 53 17 [some (.ref t), some (.int g), some (.int c), some (.int (overF T g c p)), some (.int (nI p))] [] H _
    refine g_run 6 24 [some (.ref t), some (.int g), some (.int c), some (.int (overF T g c p)), some (.int (nI p))] [.int 1, .int ((g >>> ((nI p) &&& 31)) &&& 1)] H rfl ?_
    refine g_icmp_ne rfl (fun c2 => ?_) (fun c2 => ?_)
    · show eG _ 53 39 [some (.ref t), some (.int g), some (.int c), some (.int (overF T g c p)), some (.int (nI p))] [] H _
      refine g_run 6 46 [some (.ref t), some (.int g), some (.int c), some (.int (overF T g c p)), some (.int (nI p))] [.int 1, .int ((c >>> ((nI p) &&& 31)) &&& 1)] H rfl ?_
      refine g_icmp_ne rfl (fun c3 => ?_) (fun c3 => ?_)
      · show eG _ 53 58 [some (.ref t), some (.int g), some (.int c), some (.int (overF T g c p)), some (.int (nI p))] [] H _
        refine g_run 2 8 [some (.ref t), some (.int g), some (.int c), some (.int (overF T g c p)), some (.int ((nI p) + 1))] [] H rfl ?_
        have e1 : nI p + 1 = nI (p + 1) := nI_1 p
        have e2 : overF T g c p = overF T g c (p + 1) := by first | exact (if_pos c2).symm | exact ((if_neg c2).trans (if_pos c3)).symm | exact ((if_neg c2).trans (if_neg c3)).symm | exact (if_neg c2).symm
        rw [e1, e2]
        exact ih (p + 1) (by omega)
      · show eG _ 53 49 [some (.ref t), some (.int g), some (.int c), some (.int (overF T g c p)), some (.int (nI p))] [] H _
        refine g_run 3 53 [some (.ref t), some (.int g), some (.int c), some (.int (overF T g c p)), some (.int (nI p))] [.int (nI p), .ref t, .int (overF T g c p)] H rfl ?_
        refine g_vir rfl rfl rfl hT.1 rfl rfl (t_givenByComing o t T p H hT (by omega)) rfl ?_
        show eG _ 53 56 [some (.ref t), some (.int g), some (.int c), some (.int (overF T g c p)), some (.int (nI p))] [.int (f_givenByComing T p), .int (overF T g c p)] H _
        refine g_run 4 8 [some (.ref t), some (.int g), some (.int c), some (.int ((overF T g c p) + (f_givenByComing T p))), some (.int ((nI p) + 1))] [] H rfl ?_
        have e1 : nI p + 1 = nI (p + 1) := nI_1 p
        have e2 : (overF T g c p) + (f_givenByComing T p) = overF T g c (p + 1) := by first | exact (if_pos c2).symm | exact ((if_neg c2).trans (if_pos c3)).symm | exact ((if_neg c2).trans (if_neg c3)).symm | exact (if_neg c2).symm
        rw [e1, e2]
        exact ih (p + 1) (by omega)
    · show eG _ 53 27 [some (.ref t), some (.int g), some (.int c), some (.int (overF T g c p)), some (.int (nI p))] [] H _
      refine g_run 3 31 [some (.ref t), some (.int g), some (.int c), some (.int (overF T g c p)), some (.int (nI p))] [.int (nI p), .ref t, .int (overF T g c p)] H rfl ?_
      refine g_vir rfl rfl rfl hT.1 rfl rfl (t_givenByGoing o t T p H hT (by omega)) rfl ?_
      show eG _ 53 34 [some (.ref t), some (.int g), some (.int c), some (.int (overF T g c p)), some (.int (nI p))] [.int (f_givenByGoing T p), .int (overF T g c p)] H _
      refine g_run 5 8 [some (.ref t), some (.int g), some (.int c), some (.int ((overF T g c p) + (f_givenByGoing T p))), some (.int ((nI p) + 1))] [] H rfl ?_
      have e1 : nI p + 1 = nI (p + 1) := nI_1 p
      have e2 : (overF T g c p) + (f_givenByGoing T p) = overF T g c (p + 1) := by first | exact (if_pos c2).symm | exact ((if_neg c2).trans (if_pos c3)).symm | exact ((if_neg c2).trans (if_neg c3)).symm | exact (if_neg c2).symm
      rw [e1, e2]
      exact ih (p + 1) (by omega)
theorem t_over (o : eO) (t : Nat) (T : Tn) (g c : Int32) (H : eH) (hT : tnAt H t T) (hn : T.2.2.1 ≤ 8) : eG o 53 0 (eEnt 53 [.ref t, .int g, .int c]) [] H (rv (some (.int (overF T g c T.2.2.1))) H) := by
  refine g_run 1 1 [some (.ref t), some (.int g), some (.int c), none, none] [.ref t] H rfl ?_
  refine g_getf rfl rfl hT.1 rfl ?_
  refine g_run 3 8 [some (.ref t), some (.int g), some (.int c), some (.int (T.2.1 2)), some (.int (nI 0))] [] H rfl ?_
  refine l_over o t T g c H hT hn ?_ T.2.2.1 0 (by omega)
  refine g_run 1 65 [some (.ref t), some (.int g), some (.int c), some (.int (overF T g c T.2.2.1)), some (.int (nI T.2.2.1))] [.int (overF T g c T.2.2.1)] H rfl ?_
  exact g_reti rfl rfl rfl rfl
def b_isEveryoneDry (T : Tn) (s : Int32) : Bool := (if (shel (T.1 5) s T.2.2.2) = ((1 <<< ((nI T.2.2.2) &&& 31)) - 1) then true else false)
theorem t_isEveryoneDry (o : eO) (t : Nat) (T : Tn) (s : Int32) (H : eH) (hT : tnAt H t T) (hm : T.2.2.2 ≤ 4) : eG o 56 0 (eEnt 56 [.ref t, .int s]) [] H (rv (some (.int (bI (b_isEveryoneDry T s)))) H) := by
  show eG o 56 0 [some (.ref t), some (.int s)] [] H _
  refine g_run 2 2 [some (.ref t), some (.int s)] [.int s, .ref t] H rfl ?_
  refine g_vir rfl rfl rfl hT.1 rfl rfl (t_sheltered o t T _ H hT hm) rfl ?_
  show eG _ 56 5 [some (.ref t), some (.int s)] [.int (shel (T.1 5) s T.2.2.2)] H _
  refine g_run 2 7 [some (.ref t), some (.int s)] [.ref t, .int 1, .int (shel (T.1 5) s T.2.2.2)] H rfl ?_
  refine g_getf rfl rfl hT.1 rfl ?_
  refine g_run 3 13 [some (.ref t), some (.int s)] [.int ((1 <<< ((nI T.2.2.2) &&& 31)) - 1), .int (shel (T.1 5) s T.2.2.2)] H rfl ?_
  refine g_icmp_ne rfl (fun c1 => ?_) (fun c1 => ?_)
  · show eG _ 56 20 [some (.ref t), some (.int s)] [] H _
    refine g_run 1 21 [some (.ref t), some (.int s)] [.int 0] H rfl ?_
    exact g_reti rfl rfl rfl (by unfold b_isEveryoneDry; rw [if_neg c1]; rfl)
  · show eG _ 56 16 [some (.ref t), some (.int s)] [] H _
    refine g_run 2 21 [some (.ref t), some (.int s)] [.int 1] H rfl ?_
    exact g_reti rfl rfl rfl (by unfold b_isEveryoneDry; rw [if_pos c1]; rfl)
def b_isWeek (T : Tn) (g : Int64) (c : Int64) : Bool := (if (b_isSet T g) = true then (if (b_isSet T c) = true then (if (lg_cmp (g &&& (((T.2.1 0) ^^^ (-1)).toInt64)) 0) = 0 then (if (lg_cmp (c &&& ((T.2.1 0).toInt64)) 0) = 0 then true else false) else false) else false) else false)
theorem t_isWeek (o : eO) (t : Nat) (T : Tn) (g : Int64) (c : Int64) (H : eH) (hT : tnAt H t T) : eG o 51 0 (eEnt 51 [.ref t, .long g, .long c]) [] H (rv (some (.int (bI (b_isWeek T g c)))) H) := by
  show eG o 51 0 [some (.ref t), some (.long g), none, some (.long c), none] [] H _
  refine g_run 2 2 [some (.ref t), some (.long g), none, some (.long c), none] [.long g, .ref t] H rfl ?_
  refine g_vir rfl rfl rfl hT.1 rfl rfl (t_isSet o t T _ H hT) rfl ?_
  show eG _ 51 5 [some (.ref t), some (.long g), none, some (.long c), none] [.int (bI (b_isSet T g))] H _
  refine g_ifb_eq rfl (fun c1 => ?_) (fun c1 => ?_)
  · show eG _ 51 46 [some (.ref t), some (.long g), none, some (.long c), none] [] H _
    refine g_run 1 47 [some (.ref t), some (.long g), none, some (.long c), none] [.int 0] H rfl ?_
    exact g_reti rfl rfl rfl (by unfold b_isWeek; rw [if_neg (Bool.eq_false_iff.mp c1)]; rfl)
  · show eG _ 51 8 [some (.ref t), some (.long g), none, some (.long c), none] [] H _
    refine g_run 2 10 [some (.ref t), some (.long g), none, some (.long c), none] [.long c, .ref t] H rfl ?_
    refine g_vir rfl rfl rfl hT.1 rfl rfl (t_isSet o t T _ H hT) rfl ?_
    show eG _ 51 13 [some (.ref t), some (.long g), none, some (.long c), none] [.int (bI (b_isSet T c))] H _
    refine g_ifb_eq rfl (fun c2 => ?_) (fun c2 => ?_)
    · show eG _ 51 46 [some (.ref t), some (.long g), none, some (.long c), none] [] H _
      refine g_run 1 47 [some (.ref t), some (.long g), none, some (.long c), none] [.int 0] H rfl ?_
      exact g_reti rfl rfl rfl (by unfold b_isWeek; rw [if_pos c1, if_neg (Bool.eq_false_iff.mp c2)]; rfl)
    · show eG _ 51 16 [some (.ref t), some (.long g), none, some (.long c), none] [] H _
      refine g_run 2 18 [some (.ref t), some (.long g), none, some (.long c), none] [.ref t, .long g] H rfl ?_
      refine g_getf rfl rfl hT.1 rfl ?_
      refine g_run 6 27 [some (.ref t), some (.long g), none, some (.long c), none] [.int (lg_cmp (g &&& (((T.2.1 0) ^^^ (-1)).toInt64)) 0)] H rfl ?_
      refine g_if_ne rfl (fun c3 => ?_) (fun c3 => ?_)
      · show eG _ 51 46 [some (.ref t), some (.long g), none, some (.long c), none] [] H _
        refine g_run 1 47 [some (.ref t), some (.long g), none, some (.long c), none] [.int 0] H rfl ?_
        exact g_reti rfl rfl rfl (by unfold b_isWeek; rw [if_pos c1, if_pos c2, if_neg c3]; rfl)
      · show eG _ 51 30 [some (.ref t), some (.long g), none, some (.long c), none] [] H _
        refine g_run 2 32 [some (.ref t), some (.long g), none, some (.long c), none] [.ref t, .long c] H rfl ?_
        refine g_getf rfl rfl hT.1 rfl ?_
        refine g_run 4 39 [some (.ref t), some (.long g), none, some (.long c), none] [.int (lg_cmp (c &&& ((T.2.1 0).toInt64)) 0)] H rfl ?_
        refine g_if_ne rfl (fun c4 => ?_) (fun c4 => ?_)
        · show eG _ 51 46 [some (.ref t), some (.long g), none, some (.long c), none] [] H _
          refine g_run 1 47 [some (.ref t), some (.long g), none, some (.long c), none] [.int 0] H rfl ?_
          exact g_reti rfl rfl rfl (by unfold b_isWeek; rw [if_pos c1, if_pos c2, if_pos c3, if_neg c4]; rfl)
        · show eG _ 51 42 [some (.ref t), some (.long g), none, some (.long c), none] [] H _
          refine g_run 2 47 [some (.ref t), some (.long g), none, some (.long c), none] [.int 1] H rfl ?_
          exact g_reti rfl rfl rfl (by unfold b_isWeek; rw [if_pos c1, if_pos c2, if_pos c3, if_pos c4]; rfl)
def b_isLawful (T : Tn) (g : Int32) (c : Int32) : Bool := (if (overF T g c T.2.2.1) < 0 then false else (if (T.2.1 3) < (ysum (T.1 1) (g ||| c) T.2.2.1) then false else (if (firmB (T.1 4) (((T.2.1 0) &&& (g ^^^ (-1))) ||| c) T.2.2.1) = true then (if (b_isEveryoneDry T ((T.2.1 0) &&& (g ^^^ (-1)))) = true then true else false) else false)))
theorem t_isLawful (o : eO) (t : Nat) (T : Tn) (g : Int32) (c : Int32) (H : eH) (hT : tnAt H t T) (hn : T.2.2.1 ≤ 8) (hm : T.2.2.2 ≤ 4) : eG o 52 0 (eEnt 52 [.ref t, .int g, .int c]) [] H (rv (some (.int (bI (b_isLawful T g c)))) H) := by
  show eG o 52 0 [some (.ref t), some (.int g), some (.int c)] [] H _
  refine g_run 3 3 [some (.ref t), some (.int g), some (.int c)] [.int c, .int g, .ref t] H rfl ?_
  refine g_vir rfl rfl rfl hT.1 rfl rfl (t_over o t T _ _ H hT hn) rfl ?_
  show eG _ 52 6 [some (.ref t), some (.int g), some (.int c)] [.int (overF T g c T.2.2.1)] H _
  refine g_if_lt rfl (fun c1 => ?_) (fun c1 => ?_)
  · show eG _ 52 59 [some (.ref t), some (.int g), some (.int c)] [] H _
    refine g_run 1 60 [some (.ref t), some (.int g), some (.int c)] [.int 0] H rfl ?_
    exact g_reti rfl rfl rfl (by unfold b_isLawful; rw [if_pos c1]; rfl)
  · show eG _ 52 9 [some (.ref t), some (.int g), some (.int c)] [] H _
    refine g_run 4 13 [some (.ref t), some (.int g), some (.int c)] [.int (g ||| c), .ref t] H rfl ?_
    refine g_vir rfl rfl rfl hT.1 rfl rfl (t_yardsOf o t T _ H hT hn) rfl ?_
    show eG _ 52 16 [some (.ref t), some (.int g), some (.int c)] [.int (ysum (T.1 1) (g ||| c) T.2.2.1)] H _
    refine g_run 1 17 [some (.ref t), some (.int g), some (.int c)] [.ref t, .int (ysum (T.1 1) (g ||| c) T.2.2.1)] H rfl ?_
    refine g_getf rfl rfl hT.1 rfl ?_
    refine g_icmp_gt rfl (fun c2 => ?_) (fun c2 => ?_)
    · show eG _ 52 59 [some (.ref t), some (.int g), some (.int c)] [] H _
      refine g_run 1 60 [some (.ref t), some (.int g), some (.int c)] [.int 0] H rfl ?_
      exact g_reti rfl rfl rfl (by unfold b_isLawful; rw [if_neg c1, if_pos c2]; rfl)
    · show eG _ 52 23 [some (.ref t), some (.int g), some (.int c)] [] H _
      refine g_run 2 25 [some (.ref t), some (.int g), some (.int c)] [.ref t, .ref t] H rfl ?_
      refine g_getf rfl rfl hT.1 rfl ?_
      refine g_run 6 34 [some (.ref t), some (.int g), some (.int c)] [.int (((T.2.1 0) &&& (g ^^^ (-1))) ||| c), .ref t] H rfl ?_
      refine g_vir rfl rfl rfl hT.1 rfl rfl (t_isFirm o t T _ H hT hn) rfl ?_
      show eG _ 52 37 [some (.ref t), some (.int g), some (.int c)] [.int (bI (firmB (T.1 4) (((T.2.1 0) &&& (g ^^^ (-1))) ||| c) T.2.2.1))] H _
      refine g_ifb_eq rfl (fun c3 => ?_) (fun c3 => ?_)
      · show eG _ 52 59 [some (.ref t), some (.int g), some (.int c)] [] H _
        refine g_run 1 60 [some (.ref t), some (.int g), some (.int c)] [.int 0] H rfl ?_
        exact g_reti rfl rfl rfl (by unfold b_isLawful; rw [if_neg c1, if_neg c2, if_neg (Bool.eq_false_iff.mp c3)]; rfl)
      · show eG _ 52 40 [some (.ref t), some (.int g), some (.int c)] [] H _
        refine g_run 2 42 [some (.ref t), some (.int g), some (.int c)] [.ref t, .ref t] H rfl ?_
        refine g_getf rfl rfl hT.1 rfl ?_
        refine g_run 4 49 [some (.ref t), some (.int g), some (.int c)] [.int ((T.2.1 0) &&& (g ^^^ (-1))), .ref t] H rfl ?_
        refine g_vir rfl rfl rfl hT.1 rfl rfl (t_isEveryoneDry o t T _ H hT hm) rfl ?_
        show eG _ 52 52 [some (.ref t), some (.int g), some (.int c)] [.int (bI (b_isEveryoneDry T ((T.2.1 0) &&& (g ^^^ (-1)))))] H _
        refine g_ifb_eq rfl (fun c4 => ?_) (fun c4 => ?_)
        · show eG _ 52 59 [some (.ref t), some (.int g), some (.int c)] [] H _
          refine g_run 1 60 [some (.ref t), some (.int g), some (.int c)] [.int 0] H rfl ?_
          exact g_reti rfl rfl rfl (by unfold b_isLawful; rw [if_neg c1, if_neg c2, if_pos c3, if_neg (Bool.eq_false_iff.mp c4)]; rfl)
        · show eG _ 52 55 [some (.ref t), some (.int g), some (.int c)] [] H _
          refine g_run 2 60 [some (.ref t), some (.int g), some (.int c)] [.int 1] H rfl ?_
          exact g_reti rfl rfl rfl (by unfold b_isLawful; rw [if_neg c1, if_neg c2, if_pos c3, if_pos c4]; rfl)
