def shAt (H : eH) (u : Nat) (S : Cm) : Prop :=
  H[u]? = some (.inr (2, [.ref (u + 1), .ref (u + 2), .ref (u + 3)])) ∧ arJ H (u + 1) 96 (S.2.1 1) ∧ arN 0 H (u + 2) 4 (S.1 2) ∧ arN 0 H (u + 3) 4 (S.1 3)
theorem shAt_off {lo hi u : Nat} {S : Cm} {H H1 : eH} (hw : off lo hi H H1) (hX : shAt H u S) (ha : u + 4 ≤ lo ∨ hi ≤ u) : shAt H1 u S := by
  obtain ⟨h0, h1, h2, h3⟩ := hX
  exact ⟨off_ob hw h0 (by omega), off_aj hw h1 (by omega), off_ar hw h2 (by omega), off_ar hw h3 (by omega)⟩
def b_isSheet (x : Int32) : Bool := (if x < 0 then false else (if 4 ≤ x then false else true))
theorem t_isSheet (o : eO) (x : Int32) (H : eH)  : eG o 110 0 (eEnt 110 [.int x]) [] H (rv (some (.int (bI (b_isSheet x)))) H) := by
  show eG o 110 0 [some (.int x)] [] H _
  refine g_run 1 1 [some (.int x)] [.int x] H rfl ?_
  refine g_if_lt rfl (fun c1 => ?_) (fun c1 => ?_)
  · show eG _ 110 13 [some (.int x)] [] H _
    refine g_run 1 14 [some (.int x)] [.int 0] H rfl ?_
    exact g_reti rfl rfl rfl (by unfold b_isSheet; rw [if_pos c1]; rfl)
  · show eG _ 110 4 [some (.int x)] [] H _
    refine g_run 2 6 [some (.int x)] [.int 4, .int x] H rfl ?_
    refine g_icmp_ge rfl (fun c2 => ?_) (fun c2 => ?_)
    · show eG _ 110 13 [some (.int x)] [] H _
      refine g_run 1 14 [some (.int x)] [.int 0] H rfl ?_
      exact g_reti rfl rfl rfl (by unfold b_isSheet; rw [if_neg c1, if_pos c2]; rfl)
    · show eG _ 110 9 [some (.int x)] [] H _
      refine g_run 2 14 [some (.int x)] [.int 1] H rfl ?_
      exact g_reti rfl rfl rfl (by unfold b_isSheet; rw [if_neg c1, if_neg c2]; rfl)
def b_isNamed (x : Int32) (l : Int32) : Bool := (if (b_isSheet x) = true then (if l < 0 then false else (if 2 < l then false else true)) else false)
theorem t_isNamed (o : eO) (x : Int32) (l : Int32) (H : eH)  : eG o 109 0 (eEnt 109 [.int x, .int l]) [] H (rv (some (.int (bI (b_isNamed x l)))) H) := by
  show eG o 109 0 [some (.int x), some (.int l)] [] H _
  refine g_run 1 1 [some (.int x), some (.int l)] [.int x] H rfl ?_
  refine g_sta rfl rfl rfl rfl rfl rfl rfl (t_isSheet o _ _) rfl ?_
  show eG _ 109 4 [some (.int x), some (.int l)] [.int (bI (b_isSheet x))] H _
  refine g_ifb_eq rfl (fun c1 => ?_) (fun c1 => ?_)
  · show eG _ 109 20 [some (.int x), some (.int l)] [] H _
    refine g_run 1 21 [some (.int x), some (.int l)] [.int 0] H rfl ?_
    exact g_reti rfl rfl rfl (by unfold b_isNamed; rw [if_neg (Bool.eq_false_iff.mp c1)]; rfl)
  · show eG _ 109 7 [some (.int x), some (.int l)] [] H _
    refine g_run 1 8 [some (.int x), some (.int l)] [.int l] H rfl ?_
    refine g_if_lt rfl (fun c2 => ?_) (fun c2 => ?_)
    · show eG _ 109 20 [some (.int x), some (.int l)] [] H _
      refine g_run 1 21 [some (.int x), some (.int l)] [.int 0] H rfl ?_
      exact g_reti rfl rfl rfl (by unfold b_isNamed; rw [if_pos c1, if_pos c2]; rfl)
    · show eG _ 109 11 [some (.int x), some (.int l)] [] H _
      refine g_run 2 13 [some (.int x), some (.int l)] [.int 2, .int l] H rfl ?_
      refine g_icmp_gt rfl (fun c3 => ?_) (fun c3 => ?_)
      · show eG _ 109 20 [some (.int x), some (.int l)] [] H _
        refine g_run 1 21 [some (.int x), some (.int l)] [.int 0] H rfl ?_
        exact g_reti rfl rfl rfl (by unfold b_isNamed; rw [if_pos c1, if_neg c2, if_pos c3]; rfl)
      · show eG _ 109 16 [some (.int x), some (.int l)] [] H _
        refine g_run 2 21 [some (.int x), some (.int l)] [.int 1] H rfl ?_
        exact g_reti rfl rfl rfl (by unfold b_isNamed; rw [if_pos c1, if_neg c2, if_neg c3]; rfl)
def b_isNothing (S : Cm) (s : Nat) : Bool := (if 0 ≤ ((S.1 3) s) then false else true)
theorem t_isNothing (o : eO) (u : Nat) (S : Cm) (s : Nat) (H : eH) (hS : shAt H u S) (hs : s < 4) : eG o 111 0 (eEnt 111 [.ref u, .int (nI s)]) [] H (rv (some (.int (bI (b_isNothing S s)))) H) := by
  obtain ⟨h0, h1, h2, h3⟩ := id hS
  show eG o 111 0 [some (.ref u), some (.int (nI s))] [] H _
  refine g_run 1 1 [some (.ref u), some (.int (nI s))] [.ref u] H rfl ?_
  refine g_getf rfl rfl h0 rfl ?_
  refine g_run 1 5 [some (.ref u), some (.int (nI s))] [.int (nI s), .ref (u + 3)] H rfl ?_
  refine g_iald_a rfl h3 (by omega) (by decide) ?_
  refine g_if_ge rfl (fun c1 => ?_) (fun c1 => ?_)
  · show eG _ 111 13 [some (.ref u), some (.int (nI s))] [] H _
    refine g_run 1 14 [some (.ref u), some (.int (nI s))] [.int 0] H rfl ?_
    exact g_reti rfl rfl rfl (by unfold b_isNothing; rw [if_pos c1]; rfl)
  · show eG _ 111 9 [some (.ref u), some (.int (nI s))] [] H _
    refine g_run 2 14 [some (.ref u), some (.int (nI s))] [.int 1] H rfl ?_
    exact g_reti rfl rfl rfl (by unfold b_isNothing; rw [if_neg c1]; rfl)
def b_areAlike (S : Cm) (s t : Nat) : Bool := (if ((S.1 2) s) = ((S.1 2) t) then true else false)
theorem t_areAlike (o : eO) (u : Nat) (S : Cm) (s t : Nat) (H : eH) (hS : shAt H u S) (hs : s < 4) (ht : t < 4) : eG o 126 0 (eEnt 126 [.ref u, .int (nI s), .int (nI t)]) [] H (rv (some (.int (bI (b_areAlike S s t)))) H) := by
  obtain ⟨h0, h1, h2, h3⟩ := id hS
  show eG o 126 0 [some (.ref u), some (.int (nI s)), some (.int (nI t))] [] H _
  refine g_run 1 1 [some (.ref u), some (.int (nI s)), some (.int (nI t))] [.ref u] H rfl ?_
  refine g_getf rfl rfl h0 rfl ?_
  refine g_run 1 5 [some (.ref u), some (.int (nI s)), some (.int (nI t))] [.int (nI s), .ref (u + 2)] H rfl ?_
  refine g_iald_a rfl h2 (by omega) (by decide) ?_
  refine g_run 1 7 [some (.ref u), some (.int (nI s)), some (.int (nI t))] [.ref u, .int ((S.1 2) s)] H rfl ?_
  refine g_getf rfl rfl h0 rfl ?_
  refine g_run 1 11 [some (.ref u), some (.int (nI s)), some (.int (nI t))] [.int (nI t), .ref (u + 2), .int ((S.1 2) s)] H rfl ?_
  refine g_iald_a rfl h2 (by omega) (by decide) ?_
  refine g_icmp_ne rfl (fun c1 => ?_) (fun c1 => ?_)
  · show eG _ 126 19 [some (.ref u), some (.int (nI s)), some (.int (nI t))] [] H _
    refine g_run 1 20 [some (.ref u), some (.int (nI s)), some (.int (nI t))] [.int 0] H rfl ?_
    exact g_reti rfl rfl rfl (by unfold b_areAlike; rw [if_neg c1]; rfl)
  · show eG _ 126 15 [some (.ref u), some (.int (nI s)), some (.int (nI t))] [] H _
    refine g_run 2 20 [some (.ref u), some (.int (nI s)), some (.int (nI t))] [.int 1] H rfl ?_
    exact g_reti rfl rfl rfl (by unfold b_areAlike; rw [if_pos c1]; rfl)
def b_holds (S : Cm) (s : Nat) (f : Int32) (n : Int32) : Bool := (if f < 0 then false else (if n < 0 then false else (if ((S.1 3) s) < n then false else (if (((S.1 3) s) - n) < f then false else true))))
theorem t_holds (o : eO) (u : Nat) (S : Cm) (s : Nat) (f : Int32) (n : Int32) (H : eH) (hS : shAt H u S) (hs : s < 4) : eG o 112 0 (eEnt 112 [.ref u, .int (nI s), .int f, .int n]) [] H (rv (some (.int (bI (b_holds S s f n)))) H) := by
  obtain ⟨h0, h1, h2, h3⟩ := id hS
  show eG o 112 0 [some (.ref u), some (.int (nI s)), some (.int f), some (.int n)] [] H _
  refine g_run 1 1 [some (.ref u), some (.int (nI s)), some (.int f), some (.int n)] [.int f] H rfl ?_
  refine g_if_lt rfl (fun c1 => ?_) (fun c1 => ?_)
  · show eG _ 112 34 [some (.ref u), some (.int (nI s)), some (.int f), some (.int n)] [] H _
    refine g_run 1 35 [some (.ref u), some (.int (nI s)), some (.int f), some (.int n)] [.int 0] H rfl ?_
    exact g_reti rfl rfl rfl (by unfold b_holds; rw [if_pos c1]; rfl)
  · show eG _ 112 4 [some (.ref u), some (.int (nI s)), some (.int f), some (.int n)] [] H _
    refine g_run 1 5 [some (.ref u), some (.int (nI s)), some (.int f), some (.int n)] [.int n] H rfl ?_
    refine g_if_lt rfl (fun c2 => ?_) (fun c2 => ?_)
    · show eG _ 112 34 [some (.ref u), some (.int (nI s)), some (.int f), some (.int n)] [] H _
      refine g_run 1 35 [some (.ref u), some (.int (nI s)), some (.int f), some (.int n)] [.int 0] H rfl ?_
      exact g_reti rfl rfl rfl (by unfold b_holds; rw [if_neg c1, if_pos c2]; rfl)
    · show eG _ 112 8 [some (.ref u), some (.int (nI s)), some (.int f), some (.int n)] [] H _
      refine g_run 2 10 [some (.ref u), some (.int (nI s)), some (.int f), some (.int n)] [.ref u, .int n] H rfl ?_
      refine g_getf rfl rfl h0 rfl ?_
      refine g_run 1 14 [some (.ref u), some (.int (nI s)), some (.int f), some (.int n)] [.int (nI s), .ref (u + 3), .int n] H rfl ?_
      refine g_iald_a rfl h3 (by omega) (by decide) ?_
      refine g_icmp_gt rfl (fun c3 => ?_) (fun c3 => ?_)
      · show eG _ 112 34 [some (.ref u), some (.int (nI s)), some (.int f), some (.int n)] [] H _
        refine g_run 1 35 [some (.ref u), some (.int (nI s)), some (.int f), some (.int n)] [.int 0] H rfl ?_
        exact g_reti rfl rfl rfl (by unfold b_holds; rw [if_neg c1, if_neg c2, if_pos c3]; rfl)
      · show eG _ 112 18 [some (.ref u), some (.int (nI s)), some (.int f), some (.int n)] [] H _
        refine g_run 2 20 [some (.ref u), some (.int (nI s)), some (.int f), some (.int n)] [.ref u, .int f] H rfl ?_
        refine g_getf rfl rfl h0 rfl ?_
        refine g_run 1 24 [some (.ref u), some (.int (nI s)), some (.int f), some (.int n)] [.int (nI s), .ref (u + 3), .int f] H rfl ?_
        refine g_iald_a rfl h3 (by omega) (by decide) ?_
        refine g_run 2 27 [some (.ref u), some (.int (nI s)), some (.int f), some (.int n)] [.int (((S.1 3) s) - n), .int f] H rfl ?_
        refine g_icmp_gt rfl (fun c4 => ?_) (fun c4 => ?_)
        · show eG _ 112 34 [some (.ref u), some (.int (nI s)), some (.int f), some (.int n)] [] H _
          refine g_run 1 35 [some (.ref u), some (.int (nI s)), some (.int f), some (.int n)] [.int 0] H rfl ?_
          exact g_reti rfl rfl rfl (by unfold b_holds; rw [if_neg c1, if_neg c2, if_neg c3, if_pos c4]; rfl)
        · show eG _ 112 30 [some (.ref u), some (.int (nI s)), some (.int f), some (.int n)] [] H _
          refine g_run 2 35 [some (.ref u), some (.int (nI s)), some (.int f), some (.int n)] [.int 1] H rfl ?_
          exact g_reti rfl rfl rfl (by unfold b_holds; rw [if_neg c1, if_neg c2, if_neg c3, if_neg c4]; rfl)
def f_refusal (S : Cm) (s : Nat) (l : Int32) (f : Int32) (n : Int32) : Int32 := (if (b_isNamed (nI s) l) = true then (if (b_isNothing S s) = true then (-11) else (if ((S.1 2) s) = l then (if (b_holds S s f n) = true then 0 else (-13)) else (-12))) else (-1))
theorem t_refusal (o : eO) (u : Nat) (S : Cm) (s : Nat) (l : Int32) (f : Int32) (n : Int32) (H : eH) (hS : shAt H u S) (hs : s < 4) : eG o 108 0 (eEnt 108 [.ref u, .int (nI s), .int l, .int f, .int n]) [] H (rv (some (.int (f_refusal S s l f n))) H) := by
  obtain ⟨h0, h1, h2, h3⟩ := id hS
  show eG o 108 0 [some (.ref u), some (.int (nI s)), some (.int l), some (.int f), some (.int n)] [] H _
  refine g_run 2 2 [some (.ref u), some (.int (nI s)), some (.int l), some (.int f), some (.int n)] [.int l, .int (nI s)] H rfl ?_
  refine g_sta rfl rfl rfl rfl rfl rfl rfl (t_isNamed o _ _ _) rfl ?_
  show eG _ 108 5 [some (.ref u), some (.int (nI s)), some (.int l), some (.int f), some (.int n)] [.int (bI (b_isNamed (nI s) l))] H _
  refine g_ifb_ne rfl (fun c1 => ?_) (fun c1 => ?_)
  · show eG _ 108 10 [some (.ref u), some (.int (nI s)), some (.int l), some (.int f), some (.int n)] [] H _
    refine g_run 2 12 [some (.ref u), some (.int (nI s)), some (.int l), some (.int f), some (.int n)] [.int (nI s), .ref u] H rfl ?_
    refine g_vir rfl rfl rfl h0 rfl rfl (t_isNothing o u S s H hS hs) rfl ?_
    show eG _ 108 15 [some (.ref u), some (.int (nI s)), some (.int l), some (.int f), some (.int n)] [.int (bI (b_isNothing S s))] H _
    refine g_ifb_eq rfl (fun c2 => ?_) (fun c2 => ?_)
    · show eG _ 108 21 [some (.ref u), some (.int (nI s)), some (.int l), some (.int f), some (.int n)] [] H _
      refine g_run 1 22 [some (.ref u), some (.int (nI s)), some (.int l), some (.int f), some (.int n)] [.ref u] H rfl ?_
      refine g_getf rfl rfl h0 rfl ?_
      refine g_run 1 26 [some (.ref u), some (.int (nI s)), some (.int l), some (.int f), some (.int n)] [.int (nI s), .ref (u + 2)] H rfl ?_
      refine g_iald_a rfl h2 (by omega) (by decide) ?_
      refine g_run 1 28 [some (.ref u), some (.int (nI s)), some (.int l), some (.int f), some (.int n)] [.int l, .int ((S.1 2) s)] H rfl ?_
      refine g_icmp_eq rfl (fun c3 => ?_) (fun c3 => ?_)
      · show eG _ 108 34 [some (.ref u), some (.int (nI s)), some (.int l), some (.int f), some (.int n)] [] H _
        refine g_run 4 39 [some (.ref u), some (.int (nI s)), some (.int l), some (.int f), some (.int n)] [.int n, .int f, .int (nI s), .ref u] H rfl ?_
        refine g_vir rfl rfl rfl h0 rfl rfl (t_holds o u S s _ _ H hS hs) rfl ?_
        show eG _ 108 42 [some (.ref u), some (.int (nI s)), some (.int l), some (.int f), some (.int n)] [.int (bI (b_holds S s f n))] H _
        refine g_ifb_eq rfl (fun c4 => ?_) (fun c4 => ?_)
        · show eG _ 108 49 [some (.ref u), some (.int (nI s)), some (.int l), some (.int f), some (.int n)] [] H _
          refine g_run 1 51 [some (.ref u), some (.int (nI s)), some (.int l), some (.int f), some (.int n)] [.int (-13)] H rfl ?_
          exact g_reti rfl rfl rfl (by unfold f_refusal; rw [if_pos c1, if_neg (Bool.eq_false_iff.mp c2), if_pos c3, if_neg (Bool.eq_false_iff.mp c4)])
        · show eG _ 108 45 [some (.ref u), some (.int (nI s)), some (.int l), some (.int f), some (.int n)] [] H _
          refine g_run 2 51 [some (.ref u), some (.int (nI s)), some (.int l), some (.int f), some (.int n)] [.int 0] H rfl ?_
          exact g_reti rfl rfl rfl (by unfold f_refusal; rw [if_pos c1, if_neg (Bool.eq_false_iff.mp c2), if_pos c3, if_pos c4])
      · show eG _ 108 31 [some (.ref u), some (.int (nI s)), some (.int l), some (.int f), some (.int n)] [] H _
        refine g_run 1 33 [some (.ref u), some (.int (nI s)), some (.int l), some (.int f), some (.int n)] [.int (-12)] H rfl ?_
        exact g_reti rfl rfl rfl (by unfold f_refusal; rw [if_pos c1, if_neg (Bool.eq_false_iff.mp c2), if_neg c3])
    · show eG _ 108 18 [some (.ref u), some (.int (nI s)), some (.int l), some (.int f), some (.int n)] [] H _
      refine g_run 1 20 [some (.ref u), some (.int (nI s)), some (.int l), some (.int f), some (.int n)] [.int (-11)] H rfl ?_
      exact g_reti rfl rfl rfl (by unfold f_refusal; rw [if_pos c1, if_pos c2])
  · show eG _ 108 8 [some (.ref u), some (.int (nI s)), some (.int l), some (.int f), some (.int n)] [] H _
    refine g_run 1 9 [some (.ref u), some (.int (nI s)), some (.int l), some (.int f), some (.int n)] [.int (-1)] H rfl ?_
    exact g_reti rfl rfl rfl (by unfold f_refusal; rw [if_neg (Bool.eq_false_iff.mp c1)])
def f_look (S : Cm) (s i : Nat) : Int64 := ((S.2.1 1) ((s * 24) + i))
theorem t_look (o : eO) (u : Nat) (S : Cm) (s i : Nat) (H : eH) (hS : shAt H u S) (hs : s < 4) (hi : i < 24) : eG o 115 0 (eEnt 115 [.ref u, .int (nI s), .int (nI i)]) [] H (rv (some (.long (f_look S s i))) H) := by
  obtain ⟨h0, h1, h2, h3⟩ := id hS
  show eG o 115 0 [some (.ref u), some (.int (nI s)), some (.int (nI i))] [] H _
  refine g_run 1 1 [some (.ref u), some (.int (nI s)), some (.int (nI i))] [.ref u] H rfl ?_
  refine g_getf rfl rfl h0 rfl ?_
  refine g_run 3 8 [some (.ref u), some (.int (nI s)), some (.int (nI i))] [.int (nI s * nI 24), .ref (u + 1)] H rfl ?_
  refine g_top (nI_mul s 24) ?_
  refine g_run 2 10 [some (.ref u), some (.int (nI s)), some (.int (nI i))] [.int (nI (s * 24) + nI i), .ref (u + 1)] H rfl ?_
  refine g_top (nI_add (s * 24) i) ?_
  refine g_lald_a rfl h1 (by omega) (by decide) ?_
  exact g_retl rfl rfl rfl
theorem t_sh_clear (o : eO) (u : Nat) (S : Cm) (s : Nat) (H : eH) (hS : shAt H u S)  (hs : s < 4) : eG o 121 0 (eEnt 121 [.ref u, .int (nI s)]) [] H (fun z => z.1 = some (.int (S.1 3 s)) ∧ shAt z.2 u (cR S 3 (upd (S.1 3) s (-1))) ∧ off u (u + 4) H z.2) := by
  obtain ⟨h0, h1, h2, h3⟩ := id hS
  show eG o 121 0 [some (.ref u), some (.int (nI s)), none] [] H _
  refine g_run 1 1 [some (.ref u), some (.int (nI s)), none] [.ref u] H rfl ?_
  refine g_getf rfl rfl h0 rfl ?_
  refine g_run 1 5 [some (.ref u), some (.int (nI s)), none] [.int (nI s), .ref (u + 3)] H rfl ?_
  refine g_iald_a rfl h3 (by omega) (by decide) ?_
  refine g_run 2 8 [some (.ref u), some (.int (nI s)), some (.int ((S.1 3) s))] [.ref u] H rfl ?_
  refine g_getf rfl rfl h0 rfl ?_
  refine g_run 2 13 [some (.ref u), some (.int (nI s)), some (.int ((S.1 3) s))] [.int (-1), .int (nI s), .ref (u + 3)] H rfl ?_
  refine g_iast_a rfl h3 (by omega) (by decide) (fun H1 q1 w1 => ?_)
  show eG _ 121 14 [some (.ref u), some (.int (nI s)), some (.int ((S.1 3) s))] [] H1 _
  refine g_run 1 15 [some (.ref u), some (.int (nI s)), some (.int ((S.1 3) s))] [.int ((S.1 3) s)] H1 rfl ?_
  refine g_retiS rfl rfl rfl ⟨rfl, ?_, (off_trans off_rfl (off_wide w1 (by omega) (by omega)))⟩
  exact ⟨(off_ob w1 h0 (by omega)), (off_aj w1 h1 (by omega)), (off_ar w1 h2 (by omega)), q1⟩
/-- a stretch filled -/
def filJ (f : Nat → Int64) (v : Int64) (a b : Nat) : Nat → Int64 := fun j => if a ≤ j ∧ j < b then v else f j
theorem filJ_0 (f : Nat → Int64) (v : Int64) (a n : Nat) : ∀ q, q < n → f q = filJ f v a a q := by
  intro q _
  unfold filJ
  rw [if_neg (by omega)]
theorem filJ_1 (f : Nat → Int64) (v : Int64) (a b n : Nat) (hb : a ≤ b) : ∀ q, q < n → vp_updL (filJ f v a b) b v q = filJ f v a (b + 1) q := by
  intro q _
  show (if q = b then v else if a ≤ q ∧ q < b then v else f q) = (if a ≤ q ∧ q < b + 1 then v else f q)
  by_cases h : q = b
  · subst h
    rw [if_pos rfl, if_pos (by omega)]
  · rw [if_neg h]
    by_cases h2 : a ≤ q ∧ q < b
    · rw [if_pos h2, if_pos (by omega)]
    · rw [if_neg h2, if_neg (by omega)]
theorem arJ_ext {a n : Nat} {H : eH} {g g' : Nat → Int64} (h : arJ H a n g) (he : ∀ p, p < n → g p = g' p) : arJ H a n g' := by
  obtain ⟨f, h1, h2⟩ := h
  exact ⟨f, h1, fun p hp => (h2 p hp).trans (he p hp)⟩
theorem g_alen_j {o : eO} {k pc : Nat} {L : eL} {st : List Value} {H : eH} {r : eP} {a n : Nat} {f : Nat → Int64} (h : eAt k pc = some (.arraylength, 1)) (hH : arJ H a n f) (g : eG o k (pc + 1) L (.int (nI n) :: st) H r) : eG o k pc L (.ref a :: st) H r := by
  obtain ⟨f', h1, -⟩ := hH
  exact g_alen h h1 rfl g
theorem t_rangeCheck (o : eO) (n a b : Nat) (H : eH) (h1 : a ≤ b) (h2 : b ≤ n) (h3 : n ≤ 1000000) : eG o 66 0 (eEnt 66 [.int (nI n), .int (nI a), .int (nI b)]) [] H (rv none H) := by
  show eG o 66 0 [some (.int (nI n)), some (.int (nI a)), some (.int (nI b))] [] H _
  refine g_run 2 2 [some (.int (nI n)), some (.int (nI a)), some (.int (nI b))] [.int (nI b), .int (nI a)] H rfl ?_
  refine g_icmp_le rfl (fun _ => ?_) (fun c => absurd (nI_le h1 (by omega)) c)
  refine g_run 1 47 [some (.int (nI n)), some (.int (nI a)), some (.int (nI b))] [.int (nI a)] H rfl ?_
  refine g_if_ge rfl (fun _ => ?_) (fun c => absurd (nI_pos' (by omega)) c)
  refine g_run 2 61 [some (.int (nI n)), some (.int (nI a)), some (.int (nI b))] [.int (nI n), .int (nI b)] H rfl ?_
  refine g_icmp_le rfl (fun _ => ?_) (fun c => absurd (nI_le h2 (by omega)) c)
  exact g_retv rfl rfl rfl
theorem l_fillJ (o : eO) (a n loQ hiQ : Nat) (f : Nat → Int64) (v : Int64) (hloQ : hiQ ≤ n) (hn : n ≤ 1000000) {r : eP} : ∀ (j p : Nat) (H : eH), arJ H a n (filJ f v loQ p) ∧ loQ ≤ p → p + j = hiQ → (∀ H1, arJ H1 a n (filJ f v loQ hiQ) ∧ loQ ≤ hiQ → off a (a + 1) H H1 → eG o 119 27 [some (.ref a), some (.int (nI loQ)), some (.int (nI hiQ)), some (.long v), none, some (.int (nI hiQ))] [] H1 r) → eG o 119 10 [some (.ref a), some (.int (nI loQ)), some (.int (nI hiQ)), some (.long v), none, some (.int (nI p))] [] H r := by
  intro j
  induction j with
  | zero =>
    intro p H hX hp hk
    have hp : hiQ = p := by omega
    subst hp
    refine g_run 2 13 [some (.ref a), some (.int (nI loQ)), some (.int (nI hiQ)), some (.long v), none, some (.int (nI hiQ))] [.int (nI hiQ), .int (nI hiQ)] H rfl ?_
    refine g_icmp_ge rfl (fun _ => ?_) (fun c1 => absurd (nI_le (Nat.le_refl _) (by omega)) c1)
    show eG _ 119 27 [some (.ref a), some (.int (nI loQ)), some (.int (nI hiQ)), some (.long v), none, some (.int (nI hiQ))] [] H _
    exact hk H hX off_rfl
  | succ j ih =>
    intro p H hX hp hk
    refine g_run 2 13 [some (.ref a), some (.int (nI loQ)), some (.int (nI hiQ)), some (.long v), none, some (.int (nI p))] [.int (nI hiQ), .int (nI p)] H rfl ?_
    refine g_icmp_ge rfl (fun c1 => absurd c1 (nI_ge (show p < hiQ by omega) (by omega))) (fun _ => ?_)
    show eG _ 119 16 [some (.ref a), some (.int (nI loQ)), some (.int (nI hiQ)), some (.long v), none, some (.int (nI p))] [] H _
    refine g_run 3 20 [some (.ref a), some (.int (nI loQ)), some (.int (nI hiQ)), some (.long v), none, some (.int (nI p))] [.long v, .int (nI p), .ref a] H rfl ?_
    refine g_last_a rfl hX.1 (by omega) hn (fun H1 q1 w1 => ?_)
    show eG _ 119 21 [some (.ref a), some (.int (nI loQ)), some (.int (nI hiQ)), some (.long v), none, some (.int (nI p))] [] H1 _
    refine g_run 2 10 [some (.ref a), some (.int (nI loQ)), some (.int (nI hiQ)), some (.long v), none, some (.int ((nI p) + 1))] [] H1 rfl ?_
    have e1 : nI p + 1 = nI (p + 1) := nI_1 p
    rw [e1]
    have hX1 : arJ H1 a n (filJ f v loQ (p + 1)) ∧ loQ ≤ p + 1 := ⟨arJ_ext q1 (filJ_1 f v loQ p n hX.2), by omega⟩
    exact ih (p + 1) H1 hX1 (by omega) (fun H9 f9 w9 => hk H9 f9 (off_trans (off_trans off_rfl (off_wide w1 (by omega) (by omega))) w9))
theorem t_fillJ (o : eO) (a n loQ hiQ : Nat) (f : Nat → Int64) (v : Int64) (H : eH) (hA : arJ H a n f) (hloQ : loQ ≤ hiQ) (hhiQ : hiQ ≤ n) (hn : n ≤ 1000000) : eG o 119 0 (eEnt 119 [.ref a, .int (nI loQ), .int (nI hiQ), .long v]) [] H (fun z => z.1 = none ∧ arJ z.2 a n (filJ f v loQ hiQ) ∧ off a (a + 1) H z.2) := by
  show eG o 119 0 [some (.ref a), some (.int (nI loQ)), some (.int (nI hiQ)), some (.long v), none, none] [] H _
  refine g_run 1 1 [some (.ref a), some (.int (nI loQ)), some (.int (nI hiQ)), some (.long v), none, none] [.ref a] H rfl ?_
  refine g_alen_j rfl hA ?_
  refine g_run 2 4 [some (.ref a), some (.int (nI loQ)), some (.int (nI hiQ)), some (.long v), none, none] [.int (nI hiQ), .int (nI loQ), .int (nI n)] H rfl ?_
  refine g_sta rfl rfl rfl rfl rfl rfl rfl (t_rangeCheck o n loQ hiQ H hloQ hhiQ hn) rfl ?_
  refine g_run 2 10 [some (.ref a), some (.int (nI loQ)), some (.int (nI hiQ)), some (.long v), none, some (.int (nI loQ))] [] H rfl ?_
  refine l_fillJ o a n loQ hiQ f v hhiQ hn (hiQ - loQ) loQ H ⟨arJ_ext hA (filJ_0 f v loQ n), Nat.le_refl _⟩ (by omega) fun H1 h1 w1 => ?_
  exact g_retv rfl rfl ⟨rfl, h1.1, w1⟩
/-- what a lane keeps of a number -/
def cutF (l : Int32) (v : Int64) : Int64 := if l = 0 then v.toInt32.toInt16.toInt32.toInt64 else if l = 1 then v.toInt32.toInt64 else v
theorem t_sh_put (o : eO) (u : Nat) (S : Cm) (s i : Nat) (v : Int64) (H : eH) (hS : shAt H u S)  (hs : s < 4) (hi : i < 24) : eG o 123 0 (eEnt 123 [.ref u, .int (nI s), .int (nI i), .long v]) [] H (fun z => z.1 = none ∧ shAt z.2 u (cJ S 1 (vp_updL (S.2.1 1) ((s * 24) + i) (cutF (S.1 2 s) v))) ∧ off u (u + 4) H z.2) := by
  obtain ⟨h0, h1, h2, h3⟩ := id hS
  show eG o 123 0 [some (.ref u), some (.int (nI s)), some (.int (nI i)), some (.long v), none, none, none] [] H _
  refine g_run 3 4 [some (.ref u), some (.int (nI s)), some (.int (nI i)), some (.long v), none, some (.long v), none] [.ref u] H rfl ?_
  refine g_getf rfl rfl h0 rfl ?_
  refine g_run 1 8 [some (.ref u), some (.int (nI s)), some (.int (nI i)), some (.long v), none, some (.long v), none] [.int (nI s), .ref (u + 2)] H rfl ?_
  refine g_iald_a rfl h2 (by omega) (by decide) ?_
  refine g_if_ne rfl (fun c1 => ?_) (fun c1 => ?_)
  · show eG _ 123 21 [some (.ref u), some (.int (nI s)), some (.int (nI i)), some (.long v), none, some (.long v), none] [] H _
    refine g_run 1 22 [some (.ref u), some (.int (nI s)), some (.int (nI i)), some (.long v), none, some (.long v), none] [.ref u] H rfl ?_
    refine g_getf rfl rfl h0 rfl ?_
    refine g_run 1 26 [some (.ref u), some (.int (nI s)), some (.int (nI i)), some (.long v), none, some (.long v), none] [.int (nI s), .ref (u + 2)] H rfl ?_
    refine g_iald_a rfl h2 (by omega) (by decide) ?_
    refine g_run 1 28 [some (.ref u), some (.int (nI s)), some (.int (nI i)), some (.long v), none, some (.long v), none] [.int 1, .int ((S.1 2) s)] H rfl ?_
    refine g_icmp_ne rfl (fun c2 => ?_) (fun c2 => ?_)
    · show eG _ 123 36 [some (.ref u), some (.int (nI s)), some (.int (nI i)), some (.long v), none, some (.long v), none] [] H _
      refine g_run 1 37 [some (.ref u), some (.int (nI s)), some (.int (nI i)), some (.long v), none, some (.long v), none] [.ref u] H rfl ?_
      refine g_getf rfl rfl h0 rfl ?_
      refine g_run 3 44 [some (.ref u), some (.int (nI s)), some (.int (nI i)), some (.long v), none, some (.long v), none] [.int (nI s * nI 24), .ref (u + 1)] H rfl ?_
      refine g_top (nI_mul s 24) ?_
      refine g_run 2 46 [some (.ref u), some (.int (nI s)), some (.int (nI i)), some (.long v), none, some (.long v), none] [.int (nI (s * 24) + nI i), .ref (u + 1)] H rfl ?_
      refine g_top (nI_add (s * 24) i) ?_
      refine g_run 1 48 [some (.ref u), some (.int (nI s)), some (.int (nI i)), some (.long v), none, some (.long v), none] [.long v, .int (nI ((s * 24) + i)), .ref (u + 1)] H rfl ?_
      refine g_last_a rfl h1 (by omega) (by decide) (fun H3 q3 w3 => ?_)
      show eG _ 123 49 [some (.ref u), some (.int (nI s)), some (.int (nI i)), some (.long v), none, some (.long v), none] [] H3 _
      refine g_retv rfl rfl ⟨rfl, ?_, (off_trans off_rfl (off_wide w3 (by omega) (by omega)))⟩
      have e0 : cutF (S.1 2 s) v = _ := ((if_neg c1).trans (if_neg c2))
      rw [e0]
      exact ⟨(off_ob w3 h0 (by omega)), q3, (off_ar w3 h2 (by omega)), (off_ar w3 h3 (by omega))⟩
    · show eG _ 123 31 [some (.ref u), some (.int (nI s)), some (.int (nI i)), some (.long v), none, some (.long v), none] [] H _
      refine g_run 5 37 [some (.ref u), some (.int (nI s)), some (.int (nI i)), some (.long v), none, some (.long v.toInt32.toInt64), none] [.ref u] H rfl ?_
      refine g_getf rfl rfl h0 rfl ?_
      refine g_run 3 44 [some (.ref u), some (.int (nI s)), some (.int (nI i)), some (.long v), none, some (.long v.toInt32.toInt64), none] [.int (nI s * nI 24), .ref (u + 1)] H rfl ?_
      refine g_top (nI_mul s 24) ?_
      refine g_run 2 46 [some (.ref u), some (.int (nI s)), some (.int (nI i)), some (.long v), none, some (.long v.toInt32.toInt64), none] [.int (nI (s * 24) + nI i), .ref (u + 1)] H rfl ?_
      refine g_top (nI_add (s * 24) i) ?_
      refine g_run 1 48 [some (.ref u), some (.int (nI s)), some (.int (nI i)), some (.long v), none, some (.long v.toInt32.toInt64), none] [.long v.toInt32.toInt64, .int (nI ((s * 24) + i)), .ref (u + 1)] H rfl ?_
      refine g_last_a rfl h1 (by omega) (by decide) (fun H4 q4 w4 => ?_)
      show eG _ 123 49 [some (.ref u), some (.int (nI s)), some (.int (nI i)), some (.long v), none, some (.long v.toInt32.toInt64), none] [] H4 _
      refine g_retv rfl rfl ⟨rfl, ?_, (off_trans off_rfl (off_wide w4 (by omega) (by omega)))⟩
      have e0 : cutF (S.1 2 s) v = _ := ((if_neg c1).trans (if_pos c2))
      rw [e0]
      exact ⟨(off_ob w4 h0 (by omega)), q4, (off_ar w4 h2 (by omega)), (off_ar w4 h3 (by omega))⟩
  · show eG _ 123 12 [some (.ref u), some (.int (nI s)), some (.int (nI i)), some (.long v), none, some (.long v), none] [] H _
    refine g_run 7 37 [some (.ref u), some (.int (nI s)), some (.int (nI i)), some (.long v), none, some (.long v.toInt32.toInt16.toInt32.toInt64), none] [.ref u] H rfl ?_
    refine g_getf rfl rfl h0 rfl ?_
    refine g_run 3 44 [some (.ref u), some (.int (nI s)), some (.int (nI i)), some (.long v), none, some (.long v.toInt32.toInt16.toInt32.toInt64), none] [.int (nI s * nI 24), .ref (u + 1)] H rfl ?_
    refine g_top (nI_mul s 24) ?_
    refine g_run 2 46 [some (.ref u), some (.int (nI s)), some (.int (nI i)), some (.long v), none, some (.long v.toInt32.toInt16.toInt32.toInt64), none] [.int (nI (s * 24) + nI i), .ref (u + 1)] H rfl ?_
    refine g_top (nI_add (s * 24) i) ?_
    refine g_run 1 48 [some (.ref u), some (.int (nI s)), some (.int (nI i)), some (.long v), none, some (.long v.toInt32.toInt16.toInt32.toInt64), none] [.long v.toInt32.toInt16.toInt32.toInt64, .int (nI ((s * 24) + i)), .ref (u + 1)] H rfl ?_
    refine g_last_a rfl h1 (by omega) (by decide) (fun H5 q5 w5 => ?_)
    show eG _ 123 49 [some (.ref u), some (.int (nI s)), some (.int (nI i)), some (.long v), none, some (.long v.toInt32.toInt16.toInt32.toInt64), none] [] H5 _
    refine g_retv rfl rfl ⟨rfl, ?_, (off_trans off_rfl (off_wide w5 (by omega) (by omega)))⟩
    have e0 : cutF (S.1 2 s) v = _ := (if_pos c1)
    rw [e0]
    exact ⟨(off_ob w5 h0 (by omega)), q5, (off_ar w5 h2 (by omega)), (off_ar w5 h3 (by omega))⟩
theorem t_sh_renew (o : eO) (u : Nat) (S : Cm) (s : Nat) (l n : Int32) (H : eH) (hS : shAt H u S)  (hs : s < 4) : eG o 118 0 (eEnt 118 [.ref u, .int (nI s), .int l, .int n]) [] H (fun z => z.1 = none ∧ shAt z.2 u (cJ (cR (cR S 2 (upd (S.1 2) s l)) 3 (upd (S.1 3) s n)) 1 (filJ (S.2.1 1) 0 (s * 24) ((s + 1) * 24))) ∧ off u (u + 4) H z.2) := by
  obtain ⟨h0, h1, h2, h3⟩ := id hS
  show eG o 118 0 [some (.ref u), some (.int (nI s)), some (.int l), some (.int n)] [] H _
  refine g_run 1 1 [some (.ref u), some (.int (nI s)), some (.int l), some (.int n)] [.ref u] H rfl ?_
  refine g_getf rfl rfl h0 rfl ?_
  refine g_run 2 6 [some (.ref u), some (.int (nI s)), some (.int l), some (.int n)] [.int l, .int (nI s), .ref (u + 2)] H rfl ?_
  refine g_iast_a rfl h2 (by omega) (by decide) (fun H1 q1 w1 => ?_)
  show eG _ 118 7 [some (.ref u), some (.int (nI s)), some (.int l), some (.int n)] [] H1 _
  refine g_run 1 8 [some (.ref u), some (.int (nI s)), some (.int l), some (.int n)] [.ref u] H1 rfl ?_
  refine g_getf rfl rfl (off_ob w1 h0 (by omega)) rfl ?_
  refine g_run 2 13 [some (.ref u), some (.int (nI s)), some (.int l), some (.int n)] [.int n, .int (nI s), .ref (u + 3)] H1 rfl ?_
  refine g_iast_a rfl (off_ar w1 h3 (by omega)) (by omega) (by decide) (fun H2 q2 w2 => ?_)
  show eG _ 118 14 [some (.ref u), some (.int (nI s)), some (.int l), some (.int n)] [] H2 _
  refine g_run 1 15 [some (.ref u), some (.int (nI s)), some (.int l), some (.int n)] [.ref u] H2 rfl ?_
  refine g_getf rfl rfl (off_ob w2 (off_ob w1 h0 (by omega)) (by omega)) rfl ?_
  refine g_run 3 22 [some (.ref u), some (.int (nI s)), some (.int l), some (.int n)] [.int (nI s * nI 24), .ref (u + 1)] H2 rfl ?_
  refine g_top (nI_mul s 24) ?_
  refine g_run 3 25 [some (.ref u), some (.int (nI s)), some (.int l), some (.int n)] [.int (nI s + nI 1), .int (nI (s * 24)), .ref (u + 1)] H2 rfl ?_
  refine g_top (nI_add s 1) ?_
  refine g_run 2 28 [some (.ref u), some (.int (nI s)), some (.int l), some (.int n)] [.int (nI (s + 1) * nI 24), .int (nI (s * 24)), .ref (u + 1)] H2 rfl ?_
  refine g_top (nI_mul (s + 1) 24) ?_
  refine g_run 1 29 [some (.ref u), some (.int (nI s)), some (.int l), some (.int n)] [.long 0, .int (nI ((s + 1) * 24)), .int (nI (s * 24)), .ref (u + 1)] H2 rfl ?_
  refine g_staS rfl rfl rfl rfl rfl rfl rfl (t_fillJ o _ _ (s * 24) ((s + 1) * 24) _ _ _ (off_aj w2 (off_aj w1 h1 (by omega)) (by omega)) (by omega) (by omega) (by decide)) rfl (fun v9 H3 q3 => ?_)
  obtain ⟨rfl, q3, w3⟩ := q3
  show eG _ 118 32 [some (.ref u), some (.int (nI s)), some (.int l), some (.int n)] [] H3 _
  refine g_retv rfl rfl ⟨rfl, ?_, (off_trans (off_trans (off_trans off_rfl (off_wide w1 (by omega) (by omega))) (off_wide w2 (by omega) (by omega))) (off_wide w3 (by omega) (by omega)))⟩
  exact ⟨(off_ob w3 (off_ob w2 (off_ob w1 h0 (by omega)) (by omega)) (by omega)), q3, (off_ar w3 (off_ar w2 q1 (by omega)) (by omega)), (off_ar w3 q2 (by omega))⟩
