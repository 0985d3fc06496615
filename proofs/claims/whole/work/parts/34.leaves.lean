def f_bitCount (x : Int32) : Int32 := ((((((((x - (((x.toUInt32 >>> ((1 : Int32).toUInt32 &&& Int32.toUInt32 31)).toInt32) &&& 1431655765)) &&& 858993459) + ((((x - (((x.toUInt32 >>> ((1 : Int32).toUInt32 &&& Int32.toUInt32 31)).toInt32) &&& 1431655765)).toUInt32 >>> ((2 : Int32).toUInt32 &&& Int32.toUInt32 31)).toInt32) &&& 858993459)) + (((((x - (((x.toUInt32 >>> ((1 : Int32).toUInt32 &&& Int32.toUInt32 31)).toInt32) &&& 1431655765)) &&& 858993459) + ((((x - (((x.toUInt32 >>> ((1 : Int32).toUInt32 &&& Int32.toUInt32 31)).toInt32) &&& 1431655765)).toUInt32 >>> ((2 : Int32).toUInt32 &&& Int32.toUInt32 31)).toInt32) &&& 858993459)).toUInt32 >>> ((4 : Int32).toUInt32 &&& Int32.toUInt32 31)).toInt32)) &&& 252645135) + (((((((x - (((x.toUInt32 >>> ((1 : Int32).toUInt32 &&& Int32.toUInt32 31)).toInt32) &&& 1431655765)) &&& 858993459) + ((((x - (((x.toUInt32 >>> ((1 : Int32).toUInt32 &&& Int32.toUInt32 31)).toInt32) &&& 1431655765)).toUInt32 >>> ((2 : Int32).toUInt32 &&& Int32.toUInt32 31)).toInt32) &&& 858993459)) + (((((x - (((x.toUInt32 >>> ((1 : Int32).toUInt32 &&& Int32.toUInt32 31)).toInt32) &&& 1431655765)) &&& 858993459) + ((((x - (((x.toUInt32 >>> ((1 : Int32).toUInt32 &&& Int32.toUInt32 31)).toInt32) &&& 1431655765)).toUInt32 >>> ((2 : Int32).toUInt32 &&& Int32.toUInt32 31)).toInt32) &&& 858993459)).toUInt32 >>> ((4 : Int32).toUInt32 &&& Int32.toUInt32 31)).toInt32)) &&& 252645135).toUInt32 >>> ((8 : Int32).toUInt32 &&& Int32.toUInt32 31)).toInt32)) + ((((((((x - (((x.toUInt32 >>> ((1 : Int32).toUInt32 &&& Int32.toUInt32 31)).toInt32) &&& 1431655765)) &&& 858993459) + ((((x - (((x.toUInt32 >>> ((1 : Int32).toUInt32 &&& Int32.toUInt32 31)).toInt32) &&& 1431655765)).toUInt32 >>> ((2 : Int32).toUInt32 &&& Int32.toUInt32 31)).toInt32) &&& 858993459)) + (((((x - (((x.toUInt32 >>> ((1 : Int32).toUInt32 &&& Int32.toUInt32 31)).toInt32) &&& 1431655765)) &&& 858993459) + ((((x - (((x.toUInt32 >>> ((1 : Int32).toUInt32 &&& Int32.toUInt32 31)).toInt32) &&& 1431655765)).toUInt32 >>> ((2 : Int32).toUInt32 &&& Int32.toUInt32 31)).toInt32) &&& 858993459)).toUInt32 >>> ((4 : Int32).toUInt32 &&& Int32.toUInt32 31)).toInt32)) &&& 252645135) + (((((((x - (((x.toUInt32 >>> ((1 : Int32).toUInt32 &&& Int32.toUInt32 31)).toInt32) &&& 1431655765)) &&& 858993459) + ((((x - (((x.toUInt32 >>> ((1 : Int32).toUInt32 &&& Int32.toUInt32 31)).toInt32) &&& 1431655765)).toUInt32 >>> ((2 : Int32).toUInt32 &&& Int32.toUInt32 31)).toInt32) &&& 858993459)) + (((((x - (((x.toUInt32 >>> ((1 : Int32).toUInt32 &&& Int32.toUInt32 31)).toInt32) &&& 1431655765)) &&& 858993459) + ((((x - (((x.toUInt32 >>> ((1 : Int32).toUInt32 &&& Int32.toUInt32 31)).toInt32) &&& 1431655765)).toUInt32 >>> ((2 : Int32).toUInt32 &&& Int32.toUInt32 31)).toInt32) &&& 858993459)).toUInt32 >>> ((4 : Int32).toUInt32 &&& Int32.toUInt32 31)).toInt32)) &&& 252645135).toUInt32 >>> ((8 : Int32).toUInt32 &&& Int32.toUInt32 31)).toInt32)).toUInt32 >>> ((16 : Int32).toUInt32 &&& Int32.toUInt32 31)).toInt32)) &&& 63)
theorem t_bitCount (o : eO) (x : Int32) (H : eH)  : eG o 102 0 (eEnt 102 [.int x]) [] H (rv (some (.int (f_bitCount x))) H) := by
  show eG o 102 0 [some (.int x)] [] H _
  refine g_run 41 52 [some (.int (((((((x - (((x.toUInt32 >>> ((1 : Int32).toUInt32 &&& Int32.toUInt32 31)).toInt32) &&& 1431655765)) &&& 858993459) + ((((x - (((x.toUInt32 >>> ((1 : Int32).toUInt32 &&& Int32.toUInt32 31)).toInt32) &&& 1431655765)).toUInt32 >>> ((2 : Int32).toUInt32 &&& Int32.toUInt32 31)).toInt32) &&& 858993459)) + (((((x - (((x.toUInt32 >>> ((1 : Int32).toUInt32 &&& Int32.toUInt32 31)).toInt32) &&& 1431655765)) &&& 858993459) + ((((x - (((x.toUInt32 >>> ((1 : Int32).toUInt32 &&& Int32.toUInt32 31)).toInt32) &&& 1431655765)).toUInt32 >>> ((2 : Int32).toUInt32 &&& Int32.toUInt32 31)).toInt32) &&& 858993459)).toUInt32 >>> ((4 : Int32).toUInt32 &&& Int32.toUInt32 31)).toInt32)) &&& 252645135) + (((((((x - (((x.toUInt32 >>> ((1 : Int32).toUInt32 &&& Int32.toUInt32 31)).toInt32) &&& 1431655765)) &&& 858993459) + ((((x - (((x.toUInt32 >>> ((1 : Int32).toUInt32 &&& Int32.toUInt32 31)).toInt32) &&& 1431655765)).toUInt32 >>> ((2 : Int32).toUInt32 &&& Int32.toUInt32 31)).toInt32) &&& 858993459)) + (((((x - (((x.toUInt32 >>> ((1 : Int32).toUInt32 &&& Int32.toUInt32 31)).toInt32) &&& 1431655765)) &&& 858993459) + ((((x - (((x.toUInt32 >>> ((1 : Int32).toUInt32 &&& Int32.toUInt32 31)).toInt32) &&& 1431655765)).toUInt32 >>> ((2 : Int32).toUInt32 &&& Int32.toUInt32 31)).toInt32) &&& 858993459)).toUInt32 >>> ((4 : Int32).toUInt32 &&& Int32.toUInt32 31)).toInt32)) &&& 252645135).toUInt32 >>> ((8 : Int32).toUInt32 &&& Int32.toUInt32 31)).toInt32)) + ((((((((x - (((x.toUInt32 >>> ((1 : Int32).toUInt32 &&& Int32.toUInt32 31)).toInt32) &&& 1431655765)) &&& 858993459) + ((((x - (((x.toUInt32 >>> ((1 : Int32).toUInt32 &&& Int32.toUInt32 31)).toInt32) &&& 1431655765)).toUInt32 >>> ((2 : Int32).toUInt32 &&& Int32.toUInt32 31)).toInt32) &&& 858993459)) + (((((x - (((x.toUInt32 >>> ((1 : Int32).toUInt32 &&& Int32.toUInt32 31)).toInt32) &&& 1431655765)) &&& 858993459) + ((((x - (((x.toUInt32 >>> ((1 : Int32).toUInt32 &&& Int32.toUInt32 31)).toInt32) &&& 1431655765)).toUInt32 >>> ((2 : Int32).toUInt32 &&& Int32.toUInt32 31)).toInt32) &&& 858993459)).toUInt32 >>> ((4 : Int32).toUInt32 &&& Int32.toUInt32 31)).toInt32)) &&& 252645135) + (((((((x - (((x.toUInt32 >>> ((1 : Int32).toUInt32 &&& Int32.toUInt32 31)).toInt32) &&& 1431655765)) &&& 858993459) + ((((x - (((x.toUInt32 >>> ((1 : Int32).toUInt32 &&& Int32.toUInt32 31)).toInt32) &&& 1431655765)).toUInt32 >>> ((2 : Int32).toUInt32 &&& Int32.toUInt32 31)).toInt32) &&& 858993459)) + (((((x - (((x.toUInt32 >>> ((1 : Int32).toUInt32 &&& Int32.toUInt32 31)).toInt32) &&& 1431655765)) &&& 858993459) + ((((x - (((x.toUInt32 >>> ((1 : Int32).toUInt32 &&& Int32.toUInt32 31)).toInt32) &&& 1431655765)).toUInt32 >>> ((2 : Int32).toUInt32 &&& Int32.toUInt32 31)).toInt32) &&& 858993459)).toUInt32 >>> ((4 : Int32).toUInt32 &&& Int32.toUInt32 31)).toInt32)) &&& 252645135).toUInt32 >>> ((8 : Int32).toUInt32 &&& Int32.toUInt32 31)).toInt32)).toUInt32 >>> ((16 : Int32).toUInt32 &&& Int32.toUInt32 31)).toInt32)))] [.int ((((((((x - (((x.toUInt32 >>> ((1 : Int32).toUInt32 &&& Int32.toUInt32 31)).toInt32) &&& 1431655765)) &&& 858993459) + ((((x - (((x.toUInt32 >>> ((1 : Int32).toUInt32 &&& Int32.toUInt32 31)).toInt32) &&& 1431655765)).toUInt32 >>> ((2 : Int32).toUInt32 &&& Int32.toUInt32 31)).toInt32) &&& 858993459)) + (((((x - (((x.toUInt32 >>> ((1 : Int32).toUInt32 &&& Int32.toUInt32 31)).toInt32) &&& 1431655765)) &&& 858993459) + ((((x - (((x.toUInt32 >>> ((1 : Int32).toUInt32 &&& Int32.toUInt32 31)).toInt32) &&& 1431655765)).toUInt32 >>> ((2 : Int32).toUInt32 &&& Int32.toUInt32 31)).toInt32) &&& 858993459)).toUInt32 >>> ((4 : Int32).toUInt32 &&& Int32.toUInt32 31)).toInt32)) &&& 252645135) + (((((((x - (((x.toUInt32 >>> ((1 : Int32).toUInt32 &&& Int32.toUInt32 31)).toInt32) &&& 1431655765)) &&& 858993459) + ((((x - (((x.toUInt32 >>> ((1 : Int32).toUInt32 &&& Int32.toUInt32 31)).toInt32) &&& 1431655765)).toUInt32 >>> ((2 : Int32).toUInt32 &&& Int32.toUInt32 31)).toInt32) &&& 858993459)) + (((((x - (((x.toUInt32 >>> ((1 : Int32).toUInt32 &&& Int32.toUInt32 31)).toInt32) &&& 1431655765)) &&& 858993459) + ((((x - (((x.toUInt32 >>> ((1 : Int32).toUInt32 &&& Int32.toUInt32 31)).toInt32) &&& 1431655765)).toUInt32 >>> ((2 : Int32).toUInt32 &&& Int32.toUInt32 31)).toInt32) &&& 858993459)).toUInt32 >>> ((4 : Int32).toUInt32 &&& Int32.toUInt32 31)).toInt32)) &&& 252645135).toUInt32 >>> ((8 : Int32).toUInt32 &&& Int32.toUInt32 31)).toInt32)) + ((((((((x - (((x.toUInt32 >>> ((1 : Int32).toUInt32 &&& Int32.toUInt32 31)).toInt32) &&& 1431655765)) &&& 858993459) + ((((x - (((x.toUInt32 >>> ((1 : Int32).toUInt32 &&& Int32.toUInt32 31)).toInt32) &&& 1431655765)).toUInt32 >>> ((2 : Int32).toUInt32 &&& Int32.toUInt32 31)).toInt32) &&& 858993459)) + (((((x - (((x.toUInt32 >>> ((1 : Int32).toUInt32 &&& Int32.toUInt32 31)).toInt32) &&& 1431655765)) &&& 858993459) + ((((x - (((x.toUInt32 >>> ((1 : Int32).toUInt32 &&& Int32.toUInt32 31)).toInt32) &&& 1431655765)).toUInt32 >>> ((2 : Int32).toUInt32 &&& Int32.toUInt32 31)).toInt32) &&& 858993459)).toUInt32 >>> ((4 : Int32).toUInt32 &&& Int32.toUInt32 31)).toInt32)) &&& 252645135) + (((((((x - (((x.toUInt32 >>> ((1 : Int32).toUInt32 &&& Int32.toUInt32 31)).toInt32) &&& 1431655765)) &&& 858993459) + ((((x - (((x.toUInt32 >>> ((1 : Int32).toUInt32 &&& Int32.toUInt32 31)).toInt32) &&& 1431655765)).toUInt32 >>> ((2 : Int32).toUInt32 &&& Int32.toUInt32 31)).toInt32) &&& 858993459)) + (((((x - (((x.toUInt32 >>> ((1 : Int32).toUInt32 &&& Int32.toUInt32 31)).toInt32) &&& 1431655765)) &&& 858993459) + ((((x - (((x.toUInt32 >>> ((1 : Int32).toUInt32 &&& Int32.toUInt32 31)).toInt32) &&& 1431655765)).toUInt32 >>> ((2 : Int32).toUInt32 &&& Int32.toUInt32 31)).toInt32) &&& 858993459)).toUInt32 >>> ((4 : Int32).toUInt32 &&& Int32.toUInt32 31)).toInt32)) &&& 252645135).toUInt32 >>> ((8 : Int32).toUInt32 &&& Int32.toUInt32 31)).toInt32)).toUInt32 >>> ((16 : Int32).toUInt32 &&& Int32.toUInt32 31)).toInt32)) &&& 63)] H rfl ?_
  exact g_reti rfl rfl rfl rfl
def b_isBuilder (x : Int32) : Bool := (if x < 0 then false else (if 3 < x then false else true))
theorem t_isBuilder (o : eO) (x : Int32) (H : eH)  : eG o 89 0 (eEnt 89 [.int x]) [] H (rv (some (.int (bI (b_isBuilder x)))) H) := by
  show eG o 89 0 [some (.int x)] [] H _
  refine g_run 1 1 [some (.int x)] [.int x] H rfl ?_
  refine g_if_lt rfl (fun c1 => ?_) (fun c1 => ?_)
  · show eG _ 89 13 [some (.int x)] [] H _
    refine g_run 1 14 [some (.int x)] [.int 0] H rfl ?_
    exact g_reti rfl rfl rfl (by unfold b_isBuilder; rw [if_pos c1]; rfl)
  · show eG _ 89 4 [some (.int x)] [] H _
    refine g_run 2 6 [some (.int x)] [.int 3, .int x] H rfl ?_
    refine g_icmp_gt rfl (fun c2 => ?_) (fun c2 => ?_)
    · show eG _ 89 13 [some (.int x)] [] H _
      refine g_run 1 14 [some (.int x)] [.int 0] H rfl ?_
      exact g_reti rfl rfl rfl (by unfold b_isBuilder; rw [if_neg c1, if_pos c2]; rfl)
    · show eG _ 89 9 [some (.int x)] [] H _
      refine g_run 2 14 [some (.int x)] [.int 1] H rfl ?_
      exact g_reti rfl rfl rfl (by unfold b_isBuilder; rw [if_neg c1, if_neg c2]; rfl)
def b_isAble (x : Int32) (p : Nat) : Bool := (if ((x >>> ((nI p) &&& 31)) &&& 1) = 1 then true else false)
theorem t_isAble (o : eO) (x : Int32) (p : Nat) (H : eH)  : eG o 100 0 (eEnt 100 [.int x, .int (nI p)]) [] H (rv (some (.int (bI (b_isAble x p)))) H) := by
  show eG o 100 0 [some (.int x), some (.int (nI p))] [] H _
  refine g_run 6 6 [some (.int x), some (.int (nI p))] [.int 1, .int ((x >>> ((nI p) &&& 31)) &&& 1)] H rfl ?_
  refine g_icmp_ne rfl (fun c1 => ?_) (fun c1 => ?_)
  · show eG _ 100 13 [some (.int x), some (.int (nI p))] [] H _
    refine g_run 1 14 [some (.int x), some (.int (nI p))] [.int 0] H rfl ?_
    exact g_reti rfl rfl rfl (by unfold b_isAble; rw [if_neg c1]; rfl)
  · show eG _ 100 9 [some (.int x), some (.int (nI p))] [] H _
    refine g_run 2 14 [some (.int x), some (.int (nI p))] [.int 1] H rfl ?_
    exact g_reti rfl rfl rfl (by unfold b_isAble; rw [if_pos c1]; rfl)
def crAt (H : eH) (u : Nat) (K : Cm) : Prop :=
  H[u]? = some (.inr (1, [.ref (u + 1), .ref (u + 2), .ref (u + 3), .ref (u + 4), .ref (u + 5), .ref (u + 6), .ref (u + 7), .ref (u + 8), .ref (u + 9), .int (nI (K.2.2.2 9)), .int (nI (K.2.2.2 10)), .int (K.2.2.1 11), .int (K.2.2.1 12)])) ∧ arN 0 H (u + 1) 9 (K.1 1) ∧ arN 0 H (u + 2) 9 (K.1 2) ∧ arN 0 H (u + 3) 9 (K.1 3) ∧ arN 0 H (u + 4) 9 (K.1 4) ∧ arN 0 H (u + 5) 8 (K.1 5) ∧ arN 0 H (u + 6) 8 (K.1 6) ∧ arN 0 H (u + 7) 8 (K.1 7) ∧ arN 0 H (u + 8) 8 (K.1 8) ∧ arN 0 H (u + 9) 72 (K.1 9)
theorem crAt_off {lo hi u : Nat} {K : Cm} {H H1 : eH} (hw : off lo hi H H1) (hX : crAt H u K) (ha : u + 10 ≤ lo ∨ hi ≤ u) : crAt H1 u K := by
  obtain ⟨h0, h1, h2, h3, h4, h5, h6, h7, h8, h9⟩ := hX
  exact ⟨off_ob hw h0 (by omega), off_ar hw h1 (by omega), off_ar hw h2 (by omega), off_ar hw h3 (by omega), off_ar hw h4 (by omega), off_ar hw h5 (by omega), off_ar hw h6 (by omega), off_ar hw h7 (by omega), off_ar hw h8 (by omega), off_ar hw h9 (by omega)⟩
def f_far (K : Cm) (h s : Nat) : Int32 := (if 0 ≤ (((K.1 1) h) - ((K.1 5) s)) then (((K.1 1) h) - ((K.1 5) s)) else 0 - (((K.1 1) h) - ((K.1 5) s)))
theorem t_far (o : eO) (u : Nat) (K : Cm) (h s : Nat) (H : eH) (hK : crAt H u K) (hh : h < 9) (hs : s < 8) : eG o 83 0 (eEnt 83 [.ref u, .int (nI h), .int (nI s)]) [] H (rv (some (.int (f_far K h s))) H) := by
  obtain ⟨h0, h1, h2, h3, h4, h5, h6, h7, h8, h9⟩ := id hK
  show eG o 83 0 [some (.ref u), some (.int (nI h)), some (.int (nI s))] [] H _
  refine g_run 1 1 [some (.ref u), some (.int (nI h)), some (.int (nI s))] [.ref u] H rfl ?_
  refine g_getf rfl rfl h0 rfl ?_
  refine g_run 1 5 [some (.ref u), some (.int (nI h)), some (.int (nI s))] [.int (nI h), .ref (u + 1)] H rfl ?_
  refine g_iald_a rfl h1 (by omega) (by decide) ?_
  refine g_run 1 7 [some (.ref u), some (.int (nI h)), some (.int (nI s))] [.ref u, .int ((K.1 1) h)] H rfl ?_
  refine g_getf rfl rfl h0 rfl ?_
  refine g_run 1 11 [some (.ref u), some (.int (nI h)), some (.int (nI s))] [.int (nI s), .ref (u + 5), .int ((K.1 1) h)] H rfl ?_
  refine g_iald_a rfl h5 (by omega) (by decide) ?_
  refine g_run 2 16 [some (.ref u), some (.int (nI h)), some (.int (nI s))] [.int (if 0 ≤ (((K.1 1) h) - ((K.1 5) s)) then (((K.1 1) h) - ((K.1 5) s)) else 0 - (((K.1 1) h) - ((K.1 5) s)))] H rfl ?_
  exact g_reti rfl rfl rfl rfl
def b_isEnough (K : Cm) : Bool := (if (K.2.2.1 12) < (K.2.2.1 11) then false else true)
theorem t_isEnough (o : eO) (u : Nat) (K : Cm) (H : eH) (hK : crAt H u K) : eG o 79 0 (eEnt 79 [.ref u]) [] H (rv (some (.int (bI (b_isEnough K)))) H) := by
  obtain ⟨h0, h1, h2, h3, h4, h5, h6, h7, h8, h9⟩ := id hK
  show eG o 79 0 [some (.ref u)] [] H _
  refine g_run 1 1 [some (.ref u)] [.ref u] H rfl ?_
  refine g_getf rfl rfl h0 rfl ?_
  refine g_run 1 5 [some (.ref u)] [.ref u, .int (K.2.2.1 12)] H rfl ?_
  refine g_getf rfl rfl h0 rfl ?_
  refine g_icmp_lt rfl (fun c1 => ?_) (fun c1 => ?_)
  · show eG _ 79 15 [some (.ref u)] [] H _
    refine g_run 1 16 [some (.ref u)] [.int 0] H rfl ?_
    exact g_reti rfl rfl rfl (by unfold b_isEnough; rw [if_pos c1]; rfl)
  · show eG _ 79 11 [some (.ref u)] [] H _
    refine g_run 2 16 [some (.ref u)] [.int 1] H rfl ?_
    exact g_reti rfl rfl rfl (by unfold b_isEnough; rw [if_neg c1]; rfl)
theorem t_addHeap (o : eO) (u : Nat) (K : Cm) (a b : Int32) (H : eH) (hK : crAt H u K)  (hh : K.2.2.2 9 < 9) : eG o 77 0 (eEnt 77 [.ref u, .int a, .int b]) [] H (fun z => z.1 = none ∧ crAt z.2 u (cV (cN (cR (cR K 1 (upd (K.1 1) (K.2.2.2 9) a)) 2 (upd (K.1 2) (K.2.2.2 9) b)) 9 (K.2.2.2 9 + 1)) 12 (K.2.2.1 12 + b)) ∧ off u (u + 10) H z.2) := by
  obtain ⟨h0, h1, h2, h3, h4, h5, h6, h7, h8, h9⟩ := id hK
  show eG o 77 0 [some (.ref u), some (.int a), some (.int b)] [] H _
  refine g_run 1 1 [some (.ref u), some (.int a), some (.int b)] [.ref u] H rfl ?_
  refine g_getf rfl rfl h0 rfl ?_
  refine g_run 1 5 [some (.ref u), some (.int a), some (.int b)] [.ref u, .ref (u + 1)] H rfl ?_
  refine g_getf rfl rfl h0 rfl ?_
  refine g_run 1 9 [some (.ref u), some (.int a), some (.int b)] [.int a, .int (nI (K.2.2.2 9)), .ref (u + 1)] H rfl ?_
  refine g_iast_a rfl h1 (by omega) (by decide) (fun H1 q1 w1 => ?_)
  show eG _ 77 10 [some (.ref u), some (.int a), some (.int b)] [] H1 _
  refine g_run 1 11 [some (.ref u), some (.int a), some (.int b)] [.ref u] H1 rfl ?_
  refine g_getf rfl rfl (off_ob w1 h0 (by omega)) rfl ?_
  refine g_run 1 15 [some (.ref u), some (.int a), some (.int b)] [.ref u, .ref (u + 2)] H1 rfl ?_
  refine g_getf rfl rfl (off_ob w1 h0 (by omega)) rfl ?_
  refine g_run 1 19 [some (.ref u), some (.int a), some (.int b)] [.int b, .int (nI (K.2.2.2 9)), .ref (u + 2)] H1 rfl ?_
  refine g_iast_a rfl (off_ar w1 h2 (by omega)) (by omega) (by decide) (fun H2 q2 w2 => ?_)
  show eG _ 77 20 [some (.ref u), some (.int a), some (.int b)] [] H2 _
  refine g_run 2 22 [some (.ref u), some (.int a), some (.int b)] [.ref u, .ref u] H2 rfl ?_
  refine g_getf rfl rfl (off_ob w2 (off_ob w1 h0 (by omega)) (by omega)) rfl ?_
  refine g_run 2 27 [some (.ref u), some (.int a), some (.int b)] [.int (nI (K.2.2.2 9) + nI 1), .ref u] H2 rfl ?_
  refine g_top (nI_add (K.2.2.2 9) 1) ?_
  refine g_putf_a rfl rfl (off_ob w2 (off_ob w1 h0 (by omega)) (by omega)) rfl rfl rfl rfl rfl (fun H3 q3 w3 => ?_)
  show eG _ 77 30 [some (.ref u), some (.int a), some (.int b)] [] H3 _
  refine g_run 2 32 [some (.ref u), some (.int a), some (.int b)] [.ref u, .ref u] H3 rfl ?_
  refine g_getf rfl rfl q3 rfl ?_
  refine g_run 2 37 [some (.ref u), some (.int a), some (.int b)] [.int ((K.2.2.1 12) + b), .ref u] H3 rfl ?_
  refine g_putf_a rfl rfl q3 rfl rfl rfl rfl rfl (fun H4 q4 w4 => ?_)
  show eG _ 77 40 [some (.ref u), some (.int a), some (.int b)] [] H4 _
  refine g_retv rfl rfl ⟨rfl, ?_, (off_trans (off_trans (off_trans (off_trans off_rfl (off_wide w1 (by omega) (by omega))) (off_wide w2 (by omega) (by omega))) (off_wide w3 (by omega) (by omega))) (off_wide w4 (by omega) (by omega)))⟩
  exact ⟨q4, (off_ar w4 (off_ar w3 (off_ar w2 q1 (by omega)) (by omega)) (by omega)), (off_ar w4 (off_ar w3 q2 (by omega)) (by omega)), (off_ar w4 (off_ar w3 (off_ar w2 (off_ar w1 h3 (by omega)) (by omega)) (by omega)) (by omega)), (off_ar w4 (off_ar w3 (off_ar w2 (off_ar w1 h4 (by omega)) (by omega)) (by omega)) (by omega)), (off_ar w4 (off_ar w3 (off_ar w2 (off_ar w1 h5 (by omega)) (by omega)) (by omega)) (by omega)), (off_ar w4 (off_ar w3 (off_ar w2 (off_ar w1 h6 (by omega)) (by omega)) (by omega)) (by omega)), (off_ar w4 (off_ar w3 (off_ar w2 (off_ar w1 h7 (by omega)) (by omega)) (by omega)) (by omega)), (off_ar w4 (off_ar w3 (off_ar w2 (off_ar w1 h8 (by omega)) (by omega)) (by omega)) (by omega)), (off_ar w4 (off_ar w3 (off_ar w2 (off_ar w1 h9 (by omega)) (by omega)) (by omega)) (by omega))⟩
theorem t_addSite (o : eO) (u : Nat) (K : Cm) (a b : Int32) (H : eH) (hK : crAt H u K)  (hh : K.2.2.2 10 < 8) : eG o 78 0 (eEnt 78 [.ref u, .int a, .int b]) [] H (fun z => z.1 = none ∧ crAt z.2 u (cV (cN (cR (cR K 5 (upd (K.1 5) (K.2.2.2 10) a)) 6 (upd (K.1 6) (K.2.2.2 10) b)) 10 (K.2.2.2 10 + 1)) 11 (K.2.2.1 11 + b)) ∧ off u (u + 10) H z.2) := by
  obtain ⟨h0, h1, h2, h3, h4, h5, h6, h7, h8, h9⟩ := id hK
  show eG o 78 0 [some (.ref u), some (.int a), some (.int b)] [] H _
  refine g_run 1 1 [some (.ref u), some (.int a), some (.int b)] [.ref u] H rfl ?_
  refine g_getf rfl rfl h0 rfl ?_
  refine g_run 1 5 [some (.ref u), some (.int a), some (.int b)] [.ref u, .ref (u + 5)] H rfl ?_
  refine g_getf rfl rfl h0 rfl ?_
  refine g_run 1 9 [some (.ref u), some (.int a), some (.int b)] [.int a, .int (nI (K.2.2.2 10)), .ref (u + 5)] H rfl ?_
  refine g_iast_a rfl h5 (by omega) (by decide) (fun H1 q1 w1 => ?_)
  show eG _ 78 10 [some (.ref u), some (.int a), some (.int b)] [] H1 _
  refine g_run 1 11 [some (.ref u), some (.int a), some (.int b)] [.ref u] H1 rfl ?_
  refine g_getf rfl rfl (off_ob w1 h0 (by omega)) rfl ?_
  refine g_run 1 15 [some (.ref u), some (.int a), some (.int b)] [.ref u, .ref (u + 6)] H1 rfl ?_
  refine g_getf rfl rfl (off_ob w1 h0 (by omega)) rfl ?_
  refine g_run 1 19 [some (.ref u), some (.int a), some (.int b)] [.int b, .int (nI (K.2.2.2 10)), .ref (u + 6)] H1 rfl ?_
  refine g_iast_a rfl (off_ar w1 h6 (by omega)) (by omega) (by decide) (fun H2 q2 w2 => ?_)
  show eG _ 78 20 [some (.ref u), some (.int a), some (.int b)] [] H2 _
  refine g_run 2 22 [some (.ref u), some (.int a), some (.int b)] [.ref u, .ref u] H2 rfl ?_
  refine g_getf rfl rfl (off_ob w2 (off_ob w1 h0 (by omega)) (by omega)) rfl ?_
  refine g_run 2 27 [some (.ref u), some (.int a), some (.int b)] [.int (nI (K.2.2.2 10) + nI 1), .ref u] H2 rfl ?_
  refine g_top (nI_add (K.2.2.2 10) 1) ?_
  refine g_putf_a rfl rfl (off_ob w2 (off_ob w1 h0 (by omega)) (by omega)) rfl rfl rfl rfl rfl (fun H3 q3 w3 => ?_)
  show eG _ 78 30 [some (.ref u), some (.int a), some (.int b)] [] H3 _
  refine g_run 2 32 [some (.ref u), some (.int a), some (.int b)] [.ref u, .ref u] H3 rfl ?_
  refine g_getf rfl rfl q3 rfl ?_
  refine g_run 2 37 [some (.ref u), some (.int a), some (.int b)] [.int ((K.2.2.1 11) + b), .ref u] H3 rfl ?_
  refine g_putf_a rfl rfl q3 rfl rfl rfl rfl rfl (fun H4 q4 w4 => ?_)
  show eG _ 78 40 [some (.ref u), some (.int a), some (.int b)] [] H4 _
  refine g_retv rfl rfl ⟨rfl, ?_, (off_trans (off_trans (off_trans (off_trans off_rfl (off_wide w1 (by omega) (by omega))) (off_wide w2 (by omega) (by omega))) (off_wide w3 (by omega) (by omega))) (off_wide w4 (by omega) (by omega)))⟩
  exact ⟨q4, (off_ar w4 (off_ar w3 (off_ar w2 (off_ar w1 h1 (by omega)) (by omega)) (by omega)) (by omega)), (off_ar w4 (off_ar w3 (off_ar w2 (off_ar w1 h2 (by omega)) (by omega)) (by omega)) (by omega)), (off_ar w4 (off_ar w3 (off_ar w2 (off_ar w1 h3 (by omega)) (by omega)) (by omega)) (by omega)), (off_ar w4 (off_ar w3 (off_ar w2 (off_ar w1 h4 (by omega)) (by omega)) (by omega)) (by omega)), (off_ar w4 (off_ar w3 (off_ar w2 q1 (by omega)) (by omega)) (by omega)), (off_ar w4 (off_ar w3 q2 (by omega)) (by omega)), (off_ar w4 (off_ar w3 (off_ar w2 (off_ar w1 h7 (by omega)) (by omega)) (by omega)) (by omega)), (off_ar w4 (off_ar w3 (off_ar w2 (off_ar w1 h8 (by omega)) (by omega)) (by omega)) (by omega)), (off_ar w4 (off_ar w3 (off_ar w2 (off_ar w1 h9 (by omega)) (by omega)) (by omega)) (by omega))⟩
