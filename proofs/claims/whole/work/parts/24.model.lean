/-- a component: rows of ints, rows of longs, fields that are any ints, fields that are numbers -/
abbrev Cm : Type := (Nat → Nat → Int32) × (Nat → Nat → Int64) × (Nat → Int32) × (Nat → Nat)
def cR (X : Cm) (i : Nat) (f : Nat → Int32) : Cm := (fun j => if j = i then f else X.1 j, X.2)
def cJ (X : Cm) (i : Nat) (f : Nat → Int64) : Cm := (X.1, fun j => if j = i then f else X.2.1 j, X.2.2)
def cV (X : Cm) (i : Nat) (v : Int32) : Cm := (X.1, X.2.1, fun j => if j = i then v else X.2.2.1 j, X.2.2.2)
def cN (X : Cm) (i : Nat) (v : Nat) : Cm := (X.1, X.2.1, X.2.2.1, fun j => if j = i then v else X.2.2.2 j)
def mdAt (H : eH) (m : Nat) (M : Cm) : Prop :=
  H[m]? = some (.inr (7, [.ref (m + 1), .int (nI (M.2.2.2 1)), .int (M.2.2.1 2), .int (M.2.2.1 3), .int (M.2.2.1 4), .int (M.2.2.1 5), .ref (m + 2), .int (nI (M.2.2.2 7)), .ref (m + 3), .int (nI (M.2.2.2 9)), .int (nI (M.2.2.2 10)), .int (nI (M.2.2.2 11)), .int (M.2.2.1 12), .ref (m + 4), .ref (m + 5), .ref (m + 6), .ref (m + 7), .ref (m + 8), .ref (m + 9), .ref (m + 10), .ref (m + 11), .ref (m + 12), .ref (m + 13), .ref (m + 14), .ref (m + 15), .ref (m + 16), .ref (m + 17), .ref (m + 18), .int (M.2.2.1 28), .ref (m + 19), .ref (m + 20), .ref (m + 21), .ref (m + 22), .ref (m + 23), .int (M.2.2.1 34), .ref (m + 24)])) ∧ arN 0 H (m + 1) 40 (M.1 1) ∧ arN 0 H (m + 2) 4 (M.1 2) ∧ arN 0 H (m + 3) 160 (M.1 3) ∧ arN 0 H (m + 4) 40 (M.1 4) ∧ arN 0 H (m + 5) 256 (M.1 5) ∧ arN 2 H (m + 6) 256 (M.1 6) ∧ arN 0 H (m + 7) 256 (M.1 7) ∧ arN 0 H (m + 8) 256 (M.1 8) ∧ arN 0 H (m + 9) 65536 (M.1 9) ∧ arN 0 H (m + 10) 256 (M.1 10) ∧ arN 0 H (m + 11) 256 (M.1 11) ∧ arN 0 H (m + 12) 9 (M.1 12) ∧ arN 0 H (m + 13) 8 (M.1 13) ∧ arN 0 H (m + 14) 72 (M.1 14) ∧ arN 0 H (m + 15) 17 (M.1 15) ∧ arN 0 H (m + 16) 17 (M.1 16) ∧ arN 0 H (m + 17) 8 (M.1 17) ∧ arN 2 H (m + 18) 16 (M.1 18) ∧ arN 0 H (m + 19) 44 (M.1 19) ∧ arN 0 H (m + 20) 6 (M.1 20) ∧ arN 0 H (m + 21) 4 (M.1 21) ∧ arN 0 H (m + 22) 4 (M.1 22) ∧ arJ H (m + 23) 96 (M.2.1 23) ∧ arJ H (m + 24) 24 (M.2.1 24)
theorem mdAt_off {lo hi m : Nat} {M : Cm} {H H1 : eH} (hw : off lo hi H H1) (hX : mdAt H m M) (ha : m + 25 ≤ lo ∨ hi ≤ m) : mdAt H1 m M := by
  obtain ⟨h0, h1, h2, h3, h4, h5, h6, h7, h8, h9, h10, h11, h12, h13, h14, h15, h16, h17, h18, h19, h20, h21, h22, h23, h24⟩ := hX
  exact ⟨off_ob hw h0 (by omega), off_ar hw h1 (by omega), off_ar hw h2 (by omega), off_ar hw h3 (by omega), off_ar hw h4 (by omega), off_ar hw h5 (by omega), off_ar hw h6 (by omega), off_ar hw h7 (by omega), off_ar hw h8 (by omega), off_ar hw h9 (by omega), off_ar hw h10 (by omega), off_ar hw h11 (by omega), off_ar hw h12 (by omega), off_ar hw h13 (by omega), off_ar hw h14 (by omega), off_ar hw h15 (by omega), off_ar hw h16 (by omega), off_ar hw h17 (by omega), off_ar hw h18 (by omega), off_ar hw h19 (by omega), off_ar hw h20 (by omega), off_ar hw h21 (by omega), off_ar hw h22 (by omega), off_aj hw h23 (by omega), off_aj hw h24 (by omega)⟩
def b_in_ (x : Int64) (a : Int64) (b : Int64) : Bool := (if (lg_cmp x a) < 0 then false else (if 0 < (lg_cmp x b) then false else true))
theorem t_in_ (o : eO) (x : Int64) (a : Int64) (b : Int64) (H : eH)  : eG o 130 0 (eEnt 130 [.long x, .long a, .long b]) [] H (rv (some (.int (bI (b_in_ x a b)))) H) := by
  show eG o 130 0 [some (.long x), none, some (.long a), none, some (.long b), none] [] H _
  refine g_run 3 3 [some (.long x), none, some (.long a), none, some (.long b), none] [.int (lg_cmp x a)] H rfl ?_
  refine g_if_lt rfl (fun c1 => ?_) (fun c1 => ?_)
  · show eG _ 130 17 [some (.long x), none, some (.long a), none, some (.long b), none] [] H _
    refine g_run 1 18 [some (.long x), none, some (.long a), none, some (.long b), none] [.int 0] H rfl ?_
    exact g_reti rfl rfl rfl (by unfold b_in_; rw [if_pos c1]; rfl)
  · show eG _ 130 6 [some (.long x), none, some (.long a), none, some (.long b), none] [] H _
    refine g_run 3 10 [some (.long x), none, some (.long a), none, some (.long b), none] [.int (lg_cmp x b)] H rfl ?_
    refine g_if_gt rfl (fun c2 => ?_) (fun c2 => ?_)
    · show eG _ 130 17 [some (.long x), none, some (.long a), none, some (.long b), none] [] H _
      refine g_run 1 18 [some (.long x), none, some (.long a), none, some (.long b), none] [.int 0] H rfl ?_
      exact g_reti rfl rfl rfl (by unfold b_in_; rw [if_neg c1, if_pos c2]; rfl)
    · show eG _ 130 13 [some (.long x), none, some (.long a), none, some (.long b), none] [] H _
      refine g_run 2 18 [some (.long x), none, some (.long a), none, some (.long b), none] [.int 1] H rfl ?_
      exact g_reti rfl rfl rfl (by unfold b_in_; rw [if_neg c1, if_neg c2]; rfl)
def b_has (s : Int32) (p : Nat) : Bool := (if ((s >>> ((nI p) &&& 31)) &&& 1) = 1 then true else false)
theorem t_has (o : eO) (s : Int32) (p : Nat) (H : eH)  : eG o 136 0 (eEnt 136 [.int s, .int (nI p)]) [] H (rv (some (.int (bI (b_has s p)))) H) := by
  show eG o 136 0 [some (.int s), some (.int (nI p))] [] H _
  refine g_run 6 6 [some (.int s), some (.int (nI p))] [.int 1, .int ((s >>> ((nI p) &&& 31)) &&& 1)] H rfl ?_
  refine g_icmp_ne rfl (fun c1 => ?_) (fun c1 => ?_)
  · show eG _ 136 13 [some (.int s), some (.int (nI p))] [] H _
    refine g_run 1 14 [some (.int s), some (.int (nI p))] [.int 0] H rfl ?_
    exact g_reti rfl rfl rfl (by unfold b_has; rw [if_neg c1]; rfl)
  · show eG _ 136 9 [some (.int s), some (.int (nI p))] [] H _
    refine g_run 2 14 [some (.int s), some (.int (nI p))] [.int 1] H rfl ?_
    exact g_reti rfl rfl rfl (by unfold b_has; rw [if_pos c1]; rfl)
def b_hasI (s p : Int32) : Bool := (if ((s >>> (p &&& 31)) &&& 1) = 1 then true else false)
theorem t_hasI (o : eO) (s p : Int32) (H : eH)  : eG o 136 0 (eEnt 136 [.int s, .int p]) [] H (rv (some (.int (bI (b_hasI s p)))) H) := by
  show eG o 136 0 [some (.int s), some (.int p)] [] H _
  refine g_run 6 6 [some (.int s), some (.int p)] [.int 1, .int ((s >>> (p &&& 31)) &&& 1)] H rfl ?_
  refine g_icmp_ne rfl (fun c1 => ?_) (fun c1 => ?_)
  · show eG _ 136 13 [some (.int s), some (.int p)] [] H _
    refine g_run 1 14 [some (.int s), some (.int p)] [.int 0] H rfl ?_
    exact g_reti rfl rfl rfl (by unfold b_hasI; rw [if_neg c1]; rfl)
  · show eG _ 136 9 [some (.int s), some (.int p)] [] H _
    refine g_run 2 14 [some (.int s), some (.int p)] [.int 1] H rfl ?_
    exact g_reti rfl rfl rfl (by unfold b_hasI; rw [if_pos c1]; rfl)
def b_m_isSet (M : Cm) (x : Int64) : Bool := (b_in_ x 0 (((1 <<< ((nI (M.2.2.2 1)) &&& 31)) - 1).toInt64))
theorem t_m_isSet (o : eO) (m : Nat) (M : Cm) (x : Int64) (H : eH) (hM : mdAt H m M) : eG o 131 0 (eEnt 131 [.ref m, .long x]) [] H (rv (some (.int (bI (b_m_isSet M x)))) H) := by
  obtain ⟨h0, h1, h2, h3, h4, h5, h6, h7, h8, h9, h10, h11, h12, h13, h14, h15, h16, h17, h18, h19, h20, h21, h22, h23, h24⟩ := id hM
  show eG o 131 0 [some (.ref m), some (.long x), none] [] H _
  refine g_run 4 4 [some (.ref m), some (.long x), none] [.ref m, .int 1, .long 0, .long x] H rfl ?_
  refine g_getf rfl rfl h0 rfl ?_
  refine g_run 4 11 [some (.ref m), some (.long x), none] [.long (((1 <<< ((nI (M.2.2.2 1)) &&& 31)) - 1).toInt64), .long 0, .long x] H rfl ?_
  refine g_sta rfl rfl rfl rfl rfl rfl rfl (t_in_ o _ _ _ _) rfl ?_
  show eG _ 131 14 [some (.ref m), some (.long x), none] [.int (bI (b_in_ x 0 (((1 <<< ((nI (M.2.2.2 1)) &&& 31)) - 1).toInt64)))] H _
  exact g_reti rfl rfl (bI_fit _) rfl
def f_most (x : Int32) : Int32 := (if x ≤ 999 then x else 999)
theorem t_most (o : eO) (x : Int32) (H : eH)  : eG o 161 0 (eEnt 161 [.int x]) [] H (rv (some (.int (f_most x))) H) := by
  show eG o 161 0 [some (.int x)] [] H _
  refine g_run 2 4 [some (.int x)] [.int 999, .int x] H rfl ?_
  refine g_icmp_le rfl (fun c1 => ?_) (fun c1 => ?_)
  · show eG _ 161 13 [some (.int x)] [] H _
    refine g_run 1 14 [some (.int x)] [.int x] H rfl ?_
    exact g_reti rfl rfl rfl (by unfold f_most; rw [if_pos c1])
  · show eG _ 161 7 [some (.int x)] [] H _
    refine g_run 2 14 [some (.int x)] [.int 999] H rfl ?_
    exact g_reti rfl rfl rfl (by unfold f_most; rw [if_neg c1])
def b_m_isSheet (s : Int32) (l : Int32) : Bool := (if (b_in_ s.toInt64 0 3) = true then (if (b_in_ l.toInt64 0 2) = true then true else false) else false)
theorem t_m_isSheet (o : eO) (s : Int32) (l : Int32) (H : eH)  : eG o 184 0 (eEnt 184 [.int s, .int l]) [] H (rv (some (.int (bI (b_m_isSheet s l)))) H) := by
  show eG o 184 0 [some (.int s), some (.int l)] [] H _
  refine g_run 4 6 [some (.int s), some (.int l)] [.long 3, .long 0, .long s.toInt64] H rfl ?_
  refine g_sta rfl rfl rfl rfl rfl rfl rfl (t_in_ o _ _ _ _) rfl ?_
  show eG _ 184 9 [some (.int s), some (.int l)] [.int (bI (b_in_ s.toInt64 0 3))] H _
  refine g_ifb_eq rfl (fun c1 => ?_) (fun c1 => ?_)
  · show eG _ 184 28 [some (.int s), some (.int l)] [] H _
    refine g_run 1 29 [some (.int s), some (.int l)] [.int 0] H rfl ?_
    exact g_reti rfl rfl rfl (by unfold b_m_isSheet; rw [if_neg (Bool.eq_false_iff.mp c1)]; rfl)
  · show eG _ 184 12 [some (.int s), some (.int l)] [] H _
    refine g_run 4 18 [some (.int s), some (.int l)] [.long 2, .long 0, .long l.toInt64] H rfl ?_
    refine g_sta rfl rfl rfl rfl rfl rfl rfl (t_in_ o _ _ _ _) rfl ?_
    show eG _ 184 21 [some (.int s), some (.int l)] [.int (bI (b_in_ l.toInt64 0 2))] H _
    refine g_ifb_eq rfl (fun c2 => ?_) (fun c2 => ?_)
    · show eG _ 184 28 [some (.int s), some (.int l)] [] H _
      refine g_run 1 29 [some (.int s), some (.int l)] [.int 0] H rfl ?_
      exact g_reti rfl rfl rfl (by unfold b_m_isSheet; rw [if_pos c1, if_neg (Bool.eq_false_iff.mp c2)]; rfl)
    · show eG _ 184 24 [some (.int s), some (.int l)] [] H _
      refine g_run 2 29 [some (.int s), some (.int l)] [.int 1] H rfl ?_
      exact g_reti rfl rfl rfl (by unfold b_m_isSheet; rw [if_pos c1, if_pos c2]; rfl)
def f_asLane (l : Int32) (v : Int64) : Int64 := (if l = 0 then ((v <<< ((48 : Int32).toInt64 &&& 63)) >>> ((48 : Int32).toInt64 &&& 63)) else (if l = 1 then ((v <<< ((32 : Int32).toInt64 &&& 63)) >>> ((32 : Int32).toInt64 &&& 63)) else v))
theorem t_asLane (o : eO) (l : Int32) (v : Int64) (H : eH)  : eG o 188 0 (eEnt 188 [.int l, .long v]) [] H (rv (some (.long (f_asLane l v))) H) := by
  show eG o 188 0 [some (.int l), some (.long v), none] [] H _
  refine g_run 1 1 [some (.int l), some (.long v), none] [.int l] H rfl ?_
  refine g_if_ne rfl (fun c1 => ?_) (fun c1 => ?_)
  · show eG _ 188 14 [some (.int l), some (.long v), none] [] H _
    refine g_run 2 16 [some (.int l), some (.long v), none] [.int 1, .int l] H rfl ?_
    refine g_icmp_ne rfl (fun c2 => ?_) (fun c2 => ?_)
    · show eG _ 188 29 [some (.int l), some (.long v), none] [] H _
      refine g_run 1 30 [some (.int l), some (.long v), none] [.long v] H rfl ?_
      exact g_retl rfl rfl (by unfold f_asLane; rw [if_neg c1, if_neg c2])
    · show eG _ 188 19 [some (.int l), some (.long v), none] [] H _
      refine g_run 6 30 [some (.int l), some (.long v), none] [.long ((v <<< ((32 : Int32).toInt64 &&& 63)) >>> ((32 : Int32).toInt64 &&& 63))] H rfl ?_
      exact g_retl rfl rfl (by unfold f_asLane; rw [if_neg c1, if_pos c2])
  · show eG _ 188 4 [some (.int l), some (.long v), none] [] H _
    refine g_run 6 30 [some (.int l), some (.long v), none] [.long ((v <<< ((48 : Int32).toInt64 &&& 63)) >>> ((48 : Int32).toInt64 &&& 63))] H rfl ?_
    exact g_retl rfl rfl (by unfold f_asLane; rw [if_pos c1])
def f_givenBy (M : Cm) (p : Nat) : Int32 := (if ((M.1 1) (5 * p)) = 1 then (((M.1 1) ((5 * p) + 1)) - 1) else (if ((M.1 1) (5 * p)) = 2 then (-((M.1 1) ((5 * p) + 1))) else (if ((M.1 1) (5 * p)) = 3 then (((M.1 1) ((5 * p) + 1)) / 2) else ((M.1 1) ((5 * p) + 1)))))
theorem t_givenBy (o : eO) (m : Nat) (M : Cm) (p : Nat) (H : eH) (hM : mdAt H m M) (hp : p < 8) : eG o 157 0 (eEnt 157 [.ref m, .int (nI p)]) [] H (rv (some (.int (f_givenBy M p))) H) := by
  obtain ⟨h0, h1, h2, h3, h4, h5, h6, h7, h8, h9, h10, h11, h12, h13, h14, h15, h16, h17, h18, h19, h20, h21, h22, h23, h24⟩ := id hM
  show eG o 157 0 [some (.ref m), some (.int (nI p)), none, none] [] H _
  refine g_run 1 1 [some (.ref m), some (.int (nI p)), none, none] [.ref m] H rfl ?_
  refine g_getf rfl rfl h0 rfl ?_
  refine g_run 3 7 [some (.ref m), some (.int (nI p)), none, none] [.int (nI 5 * nI p), .ref (m + 1)] H rfl ?_
  refine g_top (nI_mul 5 p) ?_
  refine g_run 2 9 [some (.ref m), some (.int (nI p)), none, none] [.int (nI (5 * p) + nI 1), .ref (m + 1)] H rfl ?_
  refine g_top (nI_add (5 * p) 1) ?_
  refine g_iald_a rfl h1 (by omega) (by decide) ?_
  refine g_run 2 12 [some (.ref m), some (.int (nI p)), some (.int ((M.1 1) ((5 * p) + 1))), none] [.ref m] H rfl ?_
  refine g_getf rfl rfl h0 rfl ?_
  refine g_run 3 18 [some (.ref m), some (.int (nI p)), some (.int ((M.1 1) ((5 * p) + 1))), none] [.int (nI 5 * nI p), .ref (m + 1)] H rfl ?_
  refine g_top (nI_mul 5 p) ?_
  refine g_iald_a rfl h1 (by omega) (by decide) ?_
  refine g_run 3 22 [some (.ref m), some (.int (nI p)), some (.int ((M.1 1) ((5 * p) + 1))), some (.int ((M.1 1) (5 * p)))] [.int 1, .int ((M.1 1) (5 * p))] H rfl ?_
  refine g_icmp_ne rfl (fun c1 => ?_) (fun c1 => ?_)
  · show eG _ 157 31 [some (.ref m), some (.int (nI p)), some (.int ((M.1 1) ((5 * p) + 1))), some (.int ((M.1 1) (5 * p)))] [] H _
    refine g_run 2 33 [some (.ref m), some (.int (nI p)), some (.int ((M.1 1) ((5 * p) + 1))), some (.int ((M.1 1) (5 * p)))] [.int 2, .int ((M.1 1) (5 * p))] H rfl ?_
    refine g_icmp_ne rfl (fun c2 => ?_) (fun c2 => ?_)
    · show eG _ 157 41 [some (.ref m), some (.int (nI p)), some (.int ((M.1 1) ((5 * p) + 1))), some (.int ((M.1 1) (5 * p)))] [] H _
      refine g_run 2 43 [some (.ref m), some (.int (nI p)), some (.int ((M.1 1) ((5 * p) + 1))), some (.int ((M.1 1) (5 * p)))] [.int 3, .int ((M.1 1) (5 * p))] H rfl ?_
      refine g_icmp_ne rfl (fun c3 => ?_) (fun c3 => ?_)
      · show eG _ 157 52 [some (.ref m), some (.int (nI p)), some (.int ((M.1 1) ((5 * p) + 1))), some (.int ((M.1 1) (5 * p)))] [] H _
        refine g_run 1 53 [some (.ref m), some (.int (nI p)), some (.int ((M.1 1) ((5 * p) + 1))), some (.int ((M.1 1) (5 * p)))] [.int ((M.1 1) ((5 * p) + 1))] H rfl ?_
        exact g_reti rfl rfl rfl (by unfold f_givenBy; rw [if_neg c1, if_neg c2, if_neg c3])
      · show eG _ 157 46 [some (.ref m), some (.int (nI p)), some (.int ((M.1 1) ((5 * p) + 1))), some (.int ((M.1 1) (5 * p)))] [] H _
        refine g_run 4 53 [some (.ref m), some (.int (nI p)), some (.int ((M.1 1) ((5 * p) + 1))), some (.int ((M.1 1) (5 * p)))] [.int (((M.1 1) ((5 * p) + 1)) / 2)] H rfl ?_
        exact g_reti rfl rfl rfl (by unfold f_givenBy; rw [if_neg c1, if_neg c2, if_pos c3])
    · show eG _ 157 36 [some (.ref m), some (.int (nI p)), some (.int ((M.1 1) ((5 * p) + 1))), some (.int ((M.1 1) (5 * p)))] [] H _
      refine g_run 3 53 [some (.ref m), some (.int (nI p)), some (.int ((M.1 1) ((5 * p) + 1))), some (.int ((M.1 1) (5 * p)))] [.int (-((M.1 1) ((5 * p) + 1)))] H rfl ?_
      exact g_reti rfl rfl rfl (by unfold f_givenBy; rw [if_neg c1, if_pos c2])
  · show eG _ 157 25 [some (.ref m), some (.int (nI p)), some (.int ((M.1 1) ((5 * p) + 1))), some (.int ((M.1 1) (5 * p)))] [] H _
    refine g_run 4 53 [some (.ref m), some (.int (nI p)), some (.int ((M.1 1) ((5 * p) + 1))), some (.int ((M.1 1) (5 * p)))] [.int (((M.1 1) ((5 * p) + 1)) - 1)] H rfl ?_
    exact g_reti rfl rfl rfl (by unfold f_givenBy; rw [if_pos c1])
def f_takenBy (M : Cm) (p : Nat) : Int32 := (if ((M.1 1) (5 * p)) = 2 then (-((M.1 1) ((5 * p) + 1))) else ((M.1 1) ((5 * p) + 1)))
theorem t_takenBy (o : eO) (m : Nat) (M : Cm) (p : Nat) (H : eH) (hM : mdAt H m M) (hp : p < 8) : eG o 158 0 (eEnt 158 [.ref m, .int (nI p)]) [] H (rv (some (.int (f_takenBy M p))) H) := by
  obtain ⟨h0, h1, h2, h3, h4, h5, h6, h7, h8, h9, h10, h11, h12, h13, h14, h15, h16, h17, h18, h19, h20, h21, h22, h23, h24⟩ := id hM
  show eG o 158 0 [some (.ref m), some (.int (nI p))] [] H _
  refine g_run 1 1 [some (.ref m), some (.int (nI p))] [.ref m] H rfl ?_
  refine g_getf rfl rfl h0 rfl ?_
  refine g_run 3 7 [some (.ref m), some (.int (nI p))] [.int (nI 5 * nI p), .ref (m + 1)] H rfl ?_
  refine g_top (nI_mul 5 p) ?_
  refine g_iald_a rfl h1 (by omega) (by decide) ?_
  refine g_run 1 9 [some (.ref m), some (.int (nI p))] [.int 2, .int ((M.1 1) (5 * p))] H rfl ?_
  refine g_icmp_ne rfl (fun c1 => ?_) (fun c1 => ?_)
  · show eG _ 158 26 [some (.ref m), some (.int (nI p))] [] H _
    refine g_run 1 27 [some (.ref m), some (.int (nI p))] [.ref m] H rfl ?_
    refine g_getf rfl rfl h0 rfl ?_
    refine g_run 3 33 [some (.ref m), some (.int (nI p))] [.int (nI 5 * nI p), .ref (m + 1)] H rfl ?_
    refine g_top (nI_mul 5 p) ?_
    refine g_run 2 35 [some (.ref m), some (.int (nI p))] [.int (nI (5 * p) + nI 1), .ref (m + 1)] H rfl ?_
    refine g_top (nI_add (5 * p) 1) ?_
    refine g_iald_a rfl h1 (by omega) (by decide) ?_
    exact g_reti rfl rfl rfl (by unfold f_takenBy; rw [if_neg c1])
  · show eG _ 158 12 [some (.ref m), some (.int (nI p))] [] H _
    refine g_run 1 13 [some (.ref m), some (.int (nI p))] [.ref m] H rfl ?_
    refine g_getf rfl rfl h0 rfl ?_
    refine g_run 3 19 [some (.ref m), some (.int (nI p))] [.int (nI 5 * nI p), .ref (m + 1)] H rfl ?_
    refine g_top (nI_mul 5 p) ?_
    refine g_run 2 21 [some (.ref m), some (.int (nI p))] [.int (nI (5 * p) + nI 1), .ref (m + 1)] H rfl ?_
    refine g_top (nI_add (5 * p) 1) ?_
    refine g_iald_a rfl h1 (by omega) (by decide) ?_
    refine g_run 2 36 [some (.ref m), some (.int (nI p))] [.int (-((M.1 1) ((5 * p) + 1)))] H rfl ?_
    exact g_reti rfl rfl rfl (by unfold f_takenBy; rw [if_pos c1])
def b_m_isWeek (M : Cm) (f : Int32) (g : Int64) (c : Int64) : Bool := (if (b_m_isSet M g) = true then (if (b_m_isSet M c) = true then (if (lg_cmp (g &&& ((f ^^^ (-1)).toInt64)) 0) = 0 then (if (lg_cmp (c &&& f.toInt64) 0) = 0 then true else false) else false) else false) else false)
theorem t_m_isWeek (o : eO) (m : Nat) (M : Cm) (f : Int32) (g : Int64) (c : Int64) (H : eH) (hM : mdAt H m M) : eG o 153 0 (eEnt 153 [.ref m, .int f, .long g, .long c]) [] H (rv (some (.int (bI (b_m_isWeek M f g c)))) H) := by
  obtain ⟨h0, h1, h2, h3, h4, h5, h6, h7, h8, h9, h10, h11, h12, h13, h14, h15, h16, h17, h18, h19, h20, h21, h22, h23, h24⟩ := id hM
  show eG o 153 0 [some (.ref m), some (.int f), some (.long g), none, some (.long c), none] [] H _
  refine g_run 2 2 [some (.ref m), some (.int f), some (.long g), none, some (.long c), none] [.long g, .ref m] H rfl ?_
  refine g_vir rfl rfl rfl h0 rfl rfl (t_m_isSet o m M _ H hM) rfl ?_
  show eG _ 153 5 [some (.ref m), some (.int f), some (.long g), none, some (.long c), none] [.int (bI (b_m_isSet M g))] H _
  refine g_ifb_eq rfl (fun c1 => ?_) (fun c1 => ?_)
  · show eG _ 153 42 [some (.ref m), some (.int f), some (.long g), none, some (.long c), none] [] H _
    refine g_run 1 43 [some (.ref m), some (.int f), some (.long g), none, some (.long c), none] [.int 0] H rfl ?_
    exact g_reti rfl rfl rfl (by unfold b_m_isWeek; rw [if_neg (Bool.eq_false_iff.mp c1)]; rfl)
  · show eG _ 153 8 [some (.ref m), some (.int f), some (.long g), none, some (.long c), none] [] H _
    refine g_run 2 11 [some (.ref m), some (.int f), some (.long g), none, some (.long c), none] [.long c, .ref m] H rfl ?_
    refine g_vir rfl rfl rfl h0 rfl rfl (t_m_isSet o m M _ H hM) rfl ?_
    show eG _ 153 14 [some (.ref m), some (.int f), some (.long g), none, some (.long c), none] [.int (bI (b_m_isSet M c))] H _
    refine g_ifb_eq rfl (fun c2 => ?_) (fun c2 => ?_)
    · show eG _ 153 42 [some (.ref m), some (.int f), some (.long g), none, some (.long c), none] [] H _
      refine g_run 1 43 [some (.ref m), some (.int f), some (.long g), none, some (.long c), none] [.int 0] H rfl ?_
      exact g_reti rfl rfl rfl (by unfold b_m_isWeek; rw [if_pos c1, if_neg (Bool.eq_false_iff.mp c2)]; rfl)
    · show eG _ 153 17 [some (.ref m), some (.int f), some (.long g), none, some (.long c), none] [] H _
      refine g_run 8 25 [some (.ref m), some (.int f), some (.long g), none, some (.long c), none] [.int (lg_cmp (g &&& ((f ^^^ (-1)).toInt64)) 0)] H rfl ?_
      refine g_if_ne rfl (fun c3 => ?_) (fun c3 => ?_)
      · show eG _ 153 42 [some (.ref m), some (.int f), some (.long g), none, some (.long c), none] [] H _
        refine g_run 1 43 [some (.ref m), some (.int f), some (.long g), none, some (.long c), none] [.int 0] H rfl ?_
        exact g_reti rfl rfl rfl (by unfold b_m_isWeek; rw [if_pos c1, if_pos c2, if_neg c3]; rfl)
      · show eG _ 153 28 [some (.ref m), some (.int f), some (.long g), none, some (.long c), none] [] H _
        refine g_run 6 35 [some (.ref m), some (.int f), some (.long g), none, some (.long c), none] [.int (lg_cmp (c &&& f.toInt64) 0)] H rfl ?_
        refine g_if_ne rfl (fun c4 => ?_) (fun c4 => ?_)
        · show eG _ 153 42 [some (.ref m), some (.int f), some (.long g), none, some (.long c), none] [] H _
          refine g_run 1 43 [some (.ref m), some (.int f), some (.long g), none, some (.long c), none] [.int 0] H rfl ?_
          exact g_reti rfl rfl rfl (by unfold b_m_isWeek; rw [if_pos c1, if_pos c2, if_pos c3, if_neg c4]; rfl)
        · show eG _ 153 38 [some (.ref m), some (.int f), some (.long g), none, some (.long c), none] [] H _
          refine g_run 2 43 [some (.ref m), some (.int f), some (.long g), none, some (.long c), none] [.int 1] H rfl ?_
          exact g_reti rfl rfl rfl (by unfold b_m_isWeek; rw [if_pos c1, if_pos c2, if_pos c3, if_pos c4]; rfl)
