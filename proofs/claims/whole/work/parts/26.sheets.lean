def shAt (H : eH) (h : Nat) (S : Cm) : Prop :=
  H[h]? = some (.inr (2, [.ref (h + 1), .ref (h + 2), .ref (h + 3)])) ∧ arJ H (h + 1) 96 (S.2.1 1) ∧ arN 0 H (h + 2) 4 (S.1 2) ∧ arN 0 H (h + 3) 4 (S.1 3)
theorem shAt_off {lo hi h : Nat} {S : Cm} {H H1 : eH} (h : off lo hi H H1) (hX : shAt H h S) (ha : h + 4 ≤ lo ∨ hi ≤ h) : shAt H1 h S := by
  obtain ⟨h0, h1, h2, h3⟩ := hX
  exact ⟨off_ob h h0 (by omega), off_aj h h1 (by omega), off_ar h h2 (by omega), off_ar h h3 (by omega)⟩
def b_isSheet (x : Int32) : Bool := (if x < 0 then false else (if 4 ≤ x then false else true))
theorem t_isSheet (o : eO) (x : Int32) (H : eH)  : eG o 110 0 (eEnt 110 [.int x]) [] H (rv (some (.int (bI (b_isSheet x)))) H) := by
  show eG o 110 0 [some (.int x)] [] H _
  refine g_run 1 1 [some (.int x)] [.int x] H rfl ?_
  refine g_if_lt rfl (fun c1 => ?_) (fun c1 => ?_)
  · show eG _ 110 13 [some (.int x)] [] H _
    refine g_run 1 14 [some (.int x)] [.int 0] H rfl ?_
    exact g_reti rfl rfl rfl (by unfold b_isSheet; rw [if_pos c1]; rfl)
  · show eG _ 110 4 [some (.int x)] [] H _
    refine g_run 2 6 [some (.int x)] [.int 4, .int x] H rfl ?_
    refine g_icmp_ge rfl (fun c2 => ?_) (fun c2 => ?_)
    · show eG _ 110 13 [some (.int x)] [] H _
      refine g_run 1 14 [some (.int x)] [.int 0] H rfl ?_
      exact g_reti rfl rfl rfl (by unfold b_isSheet; rw [if_neg c1, if_pos c2]; rfl)
    · show eG _ 110 9 [some (.int x)] [] H _
      refine g_run 2 14 [some (.int x)] [.int 1] H rfl ?_
      exact g_reti rfl rfl rfl (by unfold b_isSheet; rw [if_neg c1, if_neg c2]; rfl)
def b_isNamed (x : Int32) (l : Int32) : Bool := (if (b_isSheet x) = true then (if l < 0 then false else (if 2 < l then false else true)) else false)
theorem t_isNamed (o : eO) (x : Int32) (l : Int32) (H : eH)  : eG o 109 0 (eEnt 109 [.int x, .int l]) [] H (rv (some (.int (bI (b_isNamed x l)))) H) := by
  show eG o 109 0 [some (.int x), some (.int l)] [] H _
  refine g_run 1 1 [some (.int x), some (.int l)] [.int x] H rfl ?_
  refine g_sta rfl rfl rfl rfl rfl rfl rfl (t_isSheet o _ _) rfl ?_
  show eG _ 109 4 [some (.int x), some (.int l)] [.int (bI (b_isSheet x))] H _
  refine g_ifb_eq rfl (fun c1 => ?_) (fun c1 => ?_)
  · show eG _ 109 20 [some (.int x), some (.int l)] [] H _
    refine g_run 1 21 [some (.int x), some (.int l)] [.int 0] H rfl ?_
    exact g_reti rfl rfl rfl (by unfold b_isNamed; rw [if_neg (Bool.eq_false_iff.mp c1)]; rfl)
  · show eG _ 109 7 [some (.int x), some (.int l)] [] H _
    refine g_run 1 8 [some (.int x), some (.int l)] [.int l] H rfl ?_
    refine g_if_lt rfl (fun c2 => ?_) (fun c2 => ?_)
    · show eG _ 109 20 [some (.int x), some (.int l)] [] H _
      refine g_run 1 21 [some (.int x), some (.int l)] [.int 0] H rfl ?_
      exact g_reti rfl rfl rfl (by unfold b_isNamed; rw [if_pos c1, if_pos c2]; rfl)
    · show eG _ 109 11 [some (.int x), some (.int l)] [] H _
      refine g_run 2 13 [some (.int x), some (.int l)] [.int 2, .int l] H rfl ?_
      refine g_icmp_gt rfl (fun c3 => ?_) (fun c3 => ?_)
      · show eG _ 109 20 [some (.int x), some (.int l)] [] H _
        refine g_run 1 21 [some (.int x), some (.int l)] [.int 0] H rfl ?_
        exact g_reti rfl rfl rfl (by unfold b_isNamed; rw [if_pos c1, if_neg c2, if_pos c3]; rfl)
      · show eG _ 109 16 [some (.int x), some (.int l)] [] H _
        refine g_run 2 21 [some (.int x), some (.int l)] [.int 1] H rfl ?_
        exact g_reti rfl rfl rfl (by unfold b_isNamed; rw [if_pos c1, if_neg c2, if_neg c3]; rfl)
def b_isNothing (S : Cm) (s : Nat) : Bool := (if 0 ≤ ((S.1 3) s) then false else true)
theorem t_isNothing (o : eO) (h : Nat) (S : Cm) (s : Nat) (H : eH) (hS : shAt H h S) (hs : s < 4) : eG o 111 0 (eEnt 111 [.ref h, .int (nI s)]) [] H (rv (some (.int (bI (b_isNothing S s)))) H) := by
  obtain ⟨h0, h1, h2, h3⟩ := id hS
  show eG o 111 0 [some (.ref h), some (.int (nI s))] [] H _
  refine g_run 1 1 [some (.ref h), some (.int (nI s))] [.ref h] H rfl ?_
  refine g_getf rfl rfl h0 rfl ?_
  refine g_run 1 5 [some (.ref h), some (.int (nI s))] [.int (nI s), .ref (h + 3)] H rfl ?_
  refine g_iald_a rfl h3 (by omega) (by decide) ?_
  refine g_if_ge rfl (fun c1 => ?_) (fun c1 => ?_)
  · show eG _ 111 13 [some (.ref h), some (.int (nI s))] [] H _
    refine g_run 1 14 [some (.ref h), some (.int (nI s))] [.int 0] H rfl ?_
    exact g_reti rfl rfl rfl (by unfold b_isNothing; rw [if_pos c1]; rfl)
  · show eG _ 111 9 [some (.ref h), some (.int (nI s))] [] H _
    refine g_run 2 14 [some (.ref h), some (.int (nI s))] [.int 1] H rfl ?_
    exact g_reti rfl rfl rfl (by unfold b_isNothing; rw [if_neg c1]; rfl)
def b_areAlike (S : Cm) (s t : Nat) : Bool := (if ((S.1 2) s) = ((S.1 2) t) then true else false)
theorem t_areAlike (o : eO) (h : Nat) (S : Cm) (s t : Nat) (H : eH) (hS : shAt H h S) (hs : s < 4) (ht : t < 4) : eG o 126 0 (eEnt 126 [.ref h, .int (nI s), .int (nI t)]) [] H (rv (some (.int (bI (b_areAlike S s t)))) H) := by
  obtain ⟨h0, h1, h2, h3⟩ := id hS
  show eG o 126 0 [some (.ref h), some (.int (nI s)), some (.int (nI t))] [] H _
  refine g_run 1 1 [some (.ref h), some (.int (nI s)), some (.int (nI t))] [.ref h] H rfl ?_
  refine g_getf rfl rfl h0 rfl ?_
  refine g_run 1 5 [some (.ref h), some (.int (nI s)), some (.int (nI t))] [.int (nI s), .ref (h + 2)] H rfl ?_
  refine g_iald_a rfl h2 (by omega) (by decide) ?_
  refine g_run 1 7 [some (.ref h), some (.int (nI s)), some (.int (nI t))] [.ref h, .int ((S.1 2) s)] H rfl ?_
  refine g_getf rfl rfl h0 rfl ?_
  refine g_run 1 11 [some (.ref h), some (.int (nI s)), some (.int (nI t))] [.int (nI t), .ref (h + 2), .int ((S.1 2) s)] H rfl ?_
  refine g_iald_a rfl h2 (by omega) (by decide) ?_
  refine g_icmp_ne rfl (fun c1 => ?_) (fun c1 => ?_)
  · show eG _ 126 19 [some (.ref h), some (.int (nI s)), some (.int (nI t))] [] H _
    refine g_run 1 20 [some (.ref h), some (.int (nI s)), some (.int (nI t))] [.int 0] H rfl ?_
    exact g_reti rfl rfl rfl (by unfold b_areAlike; rw [if_neg c1]; rfl)
  · show eG _ 126 15 [some (.ref h), some (.int (nI s)), some (.int (nI t))] [] H _
    refine g_run 2 20 [some (.ref h), some (.int (nI s)), some (.int (nI t))] [.int 1] H rfl ?_
    exact g_reti rfl rfl rfl (by unfold b_areAlike; rw [if_pos c1]; rfl)
def b_holds (S : Cm) (s : Nat) (f : Int32) (n : Int32) : Bool := (if f < 0 then false else (if n < 0 then false else (if ((S.1 3) s) < n then false else (if (((S.1 3) s) - n) < f then false else true))))
theorem t_holds (o : eO) (h : Nat) (S : Cm) (s : Nat) (f : Int32) (n : Int32) (H : eH) (hS : shAt H h S) (hs : s < 4) : eG o 112 0 (eEnt 112 [.ref h, .int (nI s), .int f, .int n]) [] H (rv (some (.int (bI (b_holds S s f n)))) H) := by
  obtain ⟨h0, h1, h2, h3⟩ := id hS
  show eG o 112 0 [some (.ref h), some (.int (nI s)), some (.int f), some (.int n)] [] H _
  refine g_run 1 1 [some (.ref h), some (.int (nI s)), some (.int f), some (.int n)] [.int f] H rfl ?_
  refine g_if_lt rfl (fun c1 => ?_) (fun c1 => ?_)
  · show eG _ 112 34 [some (.ref h), some (.int (nI s)), some (.int f), some (.int n)] [] H _
    refine g_run 1 35 [some (.ref h), some (.int (nI s)), some (.int f), some (.int n)] [.int 0] H rfl ?_
    exact g_reti rfl rfl rfl (by unfold b_holds; rw [if_pos c1]; rfl)
  · show eG _ 112 4 [some (.ref h), some (.int (nI s)), some (.int f), some (.int n)] [] H _
    refine g_run 1 5 [some (.ref h), some (.int (nI s)), some (.int f), some (.int n)] [.int n] H rfl ?_
    refine g_if_lt rfl (fun c2 => ?_) (fun c2 => ?_)
    · show eG _ 112 34 [some (.ref h), some (.int (nI s)), some (.int f), some (.int n)] [] H _
      refine g_run 1 35 [some (.ref h), some (.int (nI s)), some (.int f), some (.int n)] [.int 0] H rfl ?_
      exact g_reti rfl rfl rfl (by unfold b_holds; rw [if_neg c1, if_pos c2]; rfl)
    · show eG _ 112 8 [some (.ref h), some (.int (nI s)), some (.int f), some (.int n)] [] H _
      refine g_run 2 10 [some (.ref h), some (.int (nI s)), some (.int f), some (.int n)] [.ref h, .int n] H rfl ?_
      refine g_getf rfl rfl h0 rfl ?_
      refine g_run 1 14 [some (.ref h), some (.int (nI s)), some (.int f), some (.int n)] [.int (nI s), .ref (h + 3), .int n] H rfl ?_
      refine g_iald_a rfl h3 (by omega) (by decide) ?_
      refine g_icmp_gt rfl (fun c3 => ?_) (fun c3 => ?_)
      · show eG _ 112 34 [some (.ref h), some (.int (nI s)), some (.int f), some (.int n)] [] H _
        refine g_run 1 35 [some (.ref h), some (.int (nI s)), some (.int f), some (.int n)] [.int 0] H rfl ?_
        exact g_reti rfl rfl rfl (by unfold b_holds; rw [if_neg c1, if_neg c2, if_pos c3]; rfl)
      · show eG _ 112 18 [some (.ref h), some (.int (nI s)), some (.int f), some (.int n)] [] H _
        refine g_run 2 20 [some (.ref h), some (.int (nI s)), some (.int f), some (.int n)] [.ref h, .int f] H rfl ?_
        refine g_getf rfl rfl h0 rfl ?_
        refine g_run 1 24 [some (.ref h), some (.int (nI s)), some (.int f), some (.int n)] [.int (nI s), .ref (h + 3), .int f] H rfl ?_
        refine g_iald_a rfl h3 (by omega) (by decide) ?_
        refine g_run 2 27 [some (.ref h), some (.int (nI s)), some (.int f), some (.int n)] [.int (((S.1 3) s) - n), .int f] H rfl ?_
        refine g_icmp_gt rfl (fun c4 => ?_) (fun c4 => ?_)
        · show eG _ 112 34 [some (.ref h), some (.int (nI s)), some (.int f), some (.int n)] [] H _
          refine g_run 1 35 [some (.ref h), some (.int (nI s)), some (.int f), some (.int n)] [.int 0] H rfl ?_
          exact g_reti rfl rfl rfl (by unfold b_holds; rw [if_neg c1, if_neg c2, if_neg c3, if_pos c4]; rfl)
        · show eG _ 112 30 [some (.ref h), some (.int (nI s)), some (.int f), some (.int n)] [] H _
          refine g_run 2 35 [some (.ref h), some (.int (nI s)), some (.int f), some (.int n)] [.int 1] H rfl ?_
          exact g_reti rfl rfl rfl (by unfold b_holds; rw [if_neg c1, if_neg c2, if_neg c3, if_neg c4]; rfl)
def f_refusal (S : Cm) (s : Nat) (l : Int32) (f : Int32) (n : Int32) : Int32 := (if (b_isNamed (nI s) l) = true then (if (b_isNothing S s) = true then (-11) else (if ((S.1 2) s) = l then (if (b_holds S s f n) = true then 0 else (-13)) else (-12))) else (-1))
theorem t_refusal (o : eO) (h : Nat) (S : Cm) (s : Nat) (l : Int32) (f : Int32) (n : Int32) (H : eH) (hS : shAt H h S) (hs : s < 4) : eG o 108 0 (eEnt 108 [.ref h, .int (nI s), .int l, .int f, .int n]) [] H (rv (some (.int (f_refusal S s l f n))) H) := by
  obtain ⟨h0, h1, h2, h3⟩ := id hS
  show eG o 108 0 [some (.ref h), some (.int (nI s)), some (.int l), some (.int f), some (.int n)] [] H _
  refine g_run 2 2 [some (.ref h), some (.int (nI s)), some (.int l), some (.int f), some (.int n)] [.int l, .int (nI s)] H rfl ?_
  refine g_sta rfl rfl rfl rfl rfl rfl rfl (t_isNamed o _ _ _) rfl ?_
  show eG _ 108 5 [some (.ref h), some (.int (nI s)), some (.int l), some (.int f), some (.int n)] [.int (bI (b_isNamed (nI s) l))] H _
  refine g_ifb_ne rfl (fun c1 => ?_) (fun c1 => ?_)
  · show eG _ 108 10 [some (.ref h), some (.int (nI s)), some (.int l), some (.int f), some (.int n)] [] H _
    refine g_run 2 12 [some (.ref h), some (.int (nI s)), some (.int l), some (.int f), some (.int n)] [.int (nI s), .ref h] H rfl ?_
    refine g_vir rfl rfl rfl h0 rfl rfl (t_isNothing o h S s H hS hs) rfl ?_
    show eG _ 108 15 [some (.ref h), some (.int (nI s)), some (.int l), some (.int f), some (.int n)] [.int (bI (b_isNothing S s))] H _
    refine g_ifb_eq rfl (fun c2 => ?_) (fun c2 => ?_)
    · show eG _ 108 21 [some (.ref h), some (.int (nI s)), some (.int l), some (.int f), some (.int n)] [] H _
      refine g_run 1 22 [some (.ref h), some (.int (nI s)), some (.int l), some (.int f), some (.int n)] [.ref h] H rfl ?_
      refine g_getf rfl rfl h0 rfl ?_
      refine g_run 1 26 [some (.ref h), some (.int (nI s)), some (.int l), some (.int f), some (.int n)] [.int (nI s), .ref (h + 2)] H rfl ?_
      refine g_iald_a rfl h2 (by omega) (by decide) ?_
      refine g_run 1 28 [some (.ref h), some (.int (nI s)), some (.int l), some (.int f), some (.int n)] [.int l, .int ((S.1 2) s)] H rfl ?_
      refine g_icmp_eq rfl (fun c3 => ?_) (fun c3 => ?_)
      · show eG _ 108 34 [some (.ref h), some (.int (nI s)), some (.int l), some (.int f), some (.int n)] [] H _
        refine g_run 4 39 [some (.ref h), some (.int (nI s)), some (.int l), some (.int f), some (.int n)] [.int n, .int f, .int (nI s), .ref h] H rfl ?_
        refine g_vir rfl rfl rfl h0 rfl rfl (t_holds o h S s _ _ H hS hs) rfl ?_
        show eG _ 108 42 [some (.ref h), some (.int (nI s)), some (.int l), some (.int f), some (.int n)] [.int (bI (b_holds S s f n))] H _
        refine g_ifb_eq rfl (fun c4 => ?_) (fun c4 => ?_)
        · show eG _ 108 49 [some (.ref h), some (.int (nI s)), some (.int l), some (.int f), some (.int n)] [] H _
          refine g_run 1 51 [some (.ref h), some (.int (nI s)), some (.int l), some (.int f), some (.int n)] [.int (-13)] H rfl ?_
          exact g_reti rfl rfl rfl (by unfold f_refusal; rw [if_pos c1, if_neg (Bool.eq_false_iff.mp c2), if_pos c3, if_neg (Bool.eq_false_iff.mp c4)])
        · show eG _ 108 45 [some (.ref h), some (.int (nI s)), some (.int l), some (.int f), some (.int n)] [] H _
          refine g_run 2 51 [some (.ref h), some (.int (nI s)), some (.int l), some (.int f), some (.int n)] [.int 0] H rfl ?_
          exact g_reti rfl rfl rfl (by unfold f_refusal; rw [if_pos c1, if_neg (Bool.eq_false_iff.mp c2), if_pos c3, if_pos c4])
      · show eG _ 108 31 [some (.ref h), some (.int (nI s)), some (.int l), some (.int f), some (.int n)] [] H _
        refine g_run 1 33 [some (.ref h), some (.int (nI s)), some (.int l), some (.int f), some (.int n)] [.int (-12)] H rfl ?_
        exact g_reti rfl rfl rfl (by unfold f_refusal; rw [if_pos c1, if_neg (Bool.eq_false_iff.mp c2), if_neg c3])
    · show eG _ 108 18 [some (.ref h), some (.int (nI s)), some (.int l), some (.int f), some (.int n)] [] H _
      refine g_run 1 20 [some (.ref h), some (.int (nI s)), some (.int l), some (.int f), some (.int n)] [.int (-11)] H rfl ?_
      exact g_reti rfl rfl rfl (by unfold f_refusal; rw [if_pos c1, if_pos c2])
  · show eG _ 108 8 [some (.ref h), some (.int (nI s)), some (.int l), some (.int f), some (.int n)] [] H _
    refine g_run 1 9 [some (.ref h), some (.int (nI s)), some (.int l), some (.int f), some (.int n)] [.int (-1)] H rfl ?_
    exact g_reti rfl rfl rfl (by unfold f_refusal; rw [if_neg (Bool.eq_false_iff.mp c1)])
def f_look (S : Cm) (s i : Nat) : Int64 := ((S.2.1 1) ((s * 24) + i))
theorem t_look (o : eO) (h : Nat) (S : Cm) (s i : Nat) (H : eH) (hS : shAt H h S) (hs : s < 4) (hi : i < 24) : eG o 115 0 (eEnt 115 [.ref h, .int (nI s), .int (nI i)]) [] H (rv (some (.long (f_look S s i))) H) := by
  obtain ⟨h0, h1, h2, h3⟩ := id hS
  show eG o 115 0 [some (.ref h), some (.int (nI s)), some (.int (nI i))] [] H _
  refine g_run 1 1 [some (.ref h), some (.int (nI s)), some (.int (nI i))] [.ref h] H rfl ?_
  refine g_getf rfl rfl h0 rfl ?_
  refine g_run 3 8 [some (.ref h), some (.int (nI s)), some (.int (nI i))] [.int (nI s * nI 24), .ref (h + 1)] H rfl ?_
  refine g_top (nI_mul s 24) ?_
  refine g_run 2 10 [some (.ref h), some (.int (nI s)), some (.int (nI i))] [.int (nI (s * 24) + nI i), .ref (h + 1)] H rfl ?_
  refine g_top (nI_add (s * 24) i) ?_
  refine g_lald_a rfl h1 (by omega) (by decide) ?_
  exact g_retl rfl rfl rfl
theorem t_sh_clear (o : eO) (h : Nat) (S : Cm) (s : Nat) (H : eH) (hS : shAt H h S)  (hs : s < 4) : eG o 121 0 (eEnt 121 [.ref h, .int (nI s)]) [] H (fun z => z.1 = some (.int (S.1 3 s)) ∧ shAt z.2 h (cR S 3 (upd (S.1 3) s (-1))) ∧ off h (h + 4) H z.2) := by
  obtain ⟨h0, h1, h2, h3⟩ := id hS
  show eG o 121 0 [some (.ref h), some (.int (nI s)), none] [] H _
  refine g_run 1 1 [some (.ref h), some (.int (nI s)), none] [.ref h] H rfl ?_
  refine g_getf rfl rfl h0 rfl ?_
  refine g_run 1 5 [some (.ref h), some (.int (nI s)), none] [.int (nI s), .ref (h + 3)] H rfl ?_
  refine g_iald_a rfl h3 (by omega) (by decide) ?_
  refine g_run 2 8 [some (.ref h), some (.int (nI s)), some (.int ((S.1 3) s))] [.ref h] H rfl ?_
  refine g_getf rfl rfl h0 rfl ?_
  refine g_run 2 13 [some (.ref h), some (.int (nI s)), some (.int ((S.1 3) s))] [.int (-1), .int (nI s), .ref (h + 3)] H rfl ?_
  refine g_iast_a rfl h3 (by omega) (by decide) (fun H1 q1 w1 => ?_)
  show eG _ 121 14 [some (.ref h), some (.int (nI s)), some (.int ((S.1 3) s))] [] H1 _
  refine g_run 1 15 [some (.ref h), some (.int (nI s)), some (.int ((S.1 3) s))] [.int ((S.1 3) s)] H1 rfl ?_
  refine g_retiS rfl rfl rfl ⟨rfl, ?_, (off_trans off_rfl (off_wide w1 (by omega) (by omega)))⟩
  exact ⟨(off_ob w1 h0 (by omega)), (off_aj w1 h1 (by omega)), (off_ar w1 h2 (by omega)), q1⟩
