def tpAt (H : eH) (u : Nat) (X : Cm) : Prop :=
  H[u]? = some (.inr (3, [.ref (u + 1), .int (nI (X.2.2.2 1)), .int (nI (X.2.2.2 2))])) ∧ arN 3 H (u + 1) 160 (X.1 1)
theorem tpAt_off {lo hi u : Nat} {X : Cm} {H H1 : eH} (hw : off lo hi H H1) (hX : tpAt H u X) (ha : u + 2 ≤ lo ∨ hi ≤ u) : tpAt H1 u X := by
  obtain ⟨h0, h1⟩ := hX
  exact ⟨off_ob hw h0 (by omega), off_ar hw h1 (by omega)⟩
def b_isDigit (x : Int32) : Bool := (if x < 48 then false else (if 57 < x then false else true))
theorem t_isDigit (o : eO) (x : Int32) (H : eH)  : eG o 39 0 (eEnt 39 [.int x]) [] H (rv (some (.int (bI (b_isDigit x)))) H) := by
  show eG o 39 0 [some (.int x)] [] H _
  refine g_run 2 3 [some (.int x)] [.int 48, .int x] H rfl ?_
  refine g_icmp_lt rfl (fun c1 => ?_) (fun c1 => ?_)
  · show eG _ 39 16 [some (.int x)] [] H _
    refine g_run 1 17 [some (.int x)] [.int 0] H rfl ?_
    exact g_reti rfl rfl rfl (by unfold b_isDigit; rw [if_pos c1]; rfl)
  · show eG _ 39 6 [some (.int x)] [] H _
    refine g_run 2 9 [some (.int x)] [.int 57, .int x] H rfl ?_
    refine g_icmp_gt rfl (fun c2 => ?_) (fun c2 => ?_)
    · show eG _ 39 16 [some (.int x)] [] H _
      refine g_run 1 17 [some (.int x)] [.int 0] H rfl ?_
      exact g_reti rfl rfl rfl (by unfold b_isDigit; rw [if_neg c1, if_pos c2]; rfl)
    · show eG _ 39 12 [some (.int x)] [] H _
      refine g_run 2 17 [some (.int x)] [.int 1] H rfl ?_
      exact g_reti rfl rfl rfl (by unfold b_isDigit; rw [if_neg c1, if_neg c2]; rfl)
def b_hasRoom (X : Cm) (x : Int32) : Bool := (if (160 - (nI (X.2.2.2 1))) < x then false else true)
theorem t_hasRoom (o : eO) (u : Nat) (X : Cm) (x : Int32) (H : eH) (hX : tpAt H u X) : eG o 28 0 (eEnt 28 [.ref u, .int x]) [] H (rv (some (.int (bI (b_hasRoom X x)))) H) := by
  obtain ⟨h0, h1⟩ := id hX
  show eG o 28 0 [some (.ref u), some (.int x)] [] H _
  refine g_run 3 5 [some (.ref u), some (.int x)] [.ref u, .int 160, .int x] H rfl ?_
  refine g_getf rfl rfl h0 rfl ?_
  refine g_run 1 9 [some (.ref u), some (.int x)] [.int (160 - (nI (X.2.2.2 1))), .int x] H rfl ?_
  refine g_icmp_gt rfl (fun c1 => ?_) (fun c1 => ?_)
  · show eG _ 28 16 [some (.ref u), some (.int x)] [] H _
    refine g_run 1 17 [some (.ref u), some (.int x)] [.int 0] H rfl ?_
    exact g_reti rfl rfl rfl (by unfold b_hasRoom; rw [if_pos c1]; rfl)
  · show eG _ 28 12 [some (.ref u), some (.int x)] [] H _
    refine g_run 2 17 [some (.ref u), some (.int x)] [.int 1] H rfl ?_
    exact g_reti rfl rfl rfl (by unfold b_hasRoom; rw [if_neg c1]; rfl)
theorem t_tp_empty (o : eO) (u : Nat) (X : Cm)  (H : eH) (hX : tpAt H u X)  : eG o 44 0 (eEnt 44 [.ref u]) [] H (fun z => z.1 = none ∧ tpAt z.2 u (cN (cN X 1 0) 2 0) ∧ off u (u + 2) H z.2) := by
  obtain ⟨h0, h1⟩ := id hX
  show eG o 44 0 [some (.ref u)] [] H _
  refine g_run 2 2 [some (.ref u)] [.int 0, .ref u] H rfl ?_
  refine g_putf_a rfl rfl h0 rfl rfl rfl rfl rfl (fun H1 q1 w1 => ?_)
  show eG _ 44 5 [some (.ref u)] [] H1 _
  refine g_run 2 7 [some (.ref u)] [.int 0, .ref u] H1 rfl ?_
  refine g_putf_a rfl rfl q1 rfl rfl rfl rfl rfl (fun H2 q2 w2 => ?_)
  show eG _ 44 10 [some (.ref u)] [] H2 _
  refine g_retv rfl rfl ⟨rfl, ?_, (off_trans (off_trans off_rfl (off_wide w1 (by omega) (by omega))) (off_wide w2 (by omega) (by omega)))⟩
  exact ⟨q2, (off_ar w2 (off_ar w1 h1 (by omega)) (by omega))⟩
/-- the first place from a on that is no blank, d places being looked at -/
def skp (f : Nat → Int32) : Nat → Nat → Nat
  | 0, a => a
  | d + 1, a => if f a = 32 then skp f d (a + 1) else a
theorem skp_le (f : Nat → Int32) : ∀ (d a : Nat), a ≤ skp f d a ∧ skp f d a ≤ a + d
  | 0, a => ⟨Nat.le_refl _, Nat.le_refl _⟩
  | d + 1, a => by
    unfold skp
    split
    · have h := skp_le f d (a + 1)
      omega
    · omega
theorem l_tp_next (o : eO) (u : Nat) (X : Cm) (hz : (X.2.2.2 1) ≤ 160) {r : eP} : ∀ (d aQ : Nat) (H : eH), tpAt H u (cN X 2 aQ) → aQ + d = (X.2.2.2 1) → (∀ H1, tpAt H1 u (cN X 2 (skp (X.1 1) d aQ)) → off u (u + 2) H H1 → eG o 35 38 [some (.ref u)] [] H1 r) → eG o 35 0 [some (.ref u)] [] H r := by
  intro d
  induction d with
  | zero =>
    intro aQ H hX hp hk
    obtain ⟨h0, h1⟩ := id hX
    have hp : aQ = (X.2.2.2 1) := by omega
    refine g_run 1 1 [some (.ref u)] [.ref u] H rfl ?_
    refine g_getf rfl rfl h0 rfl ?_
    show eG _ 35 4 [some (.ref u)] [.int (nI aQ)] H _
    refine g_run 1 5 [some (.ref u)] [.ref u, .int (nI aQ)] H rfl ?_
    refine g_getf rfl rfl h0 rfl ?_
    show eG _ 35 8 [some (.ref u)] [.int (nI (X.2.2.2 1)), .int (nI aQ)] H _
    refine g_icmp_ge rfl (fun _ => ?_) (fun c1 => absurd (nI_le (show (X.2.2.2 1) ≤ aQ by omega) (by omega)) c1)
    show eG _ 35 38 [some (.ref u)] [] H _
    exact hk H hX off_rfl
  | succ d ih =>
    intro aQ H hX hp hk
    obtain ⟨h0, h1⟩ := id hX
    refine g_run 1 1 [some (.ref u)] [.ref u] H rfl ?_
    refine g_getf rfl rfl h0 rfl ?_
    show eG _ 35 4 [some (.ref u)] [.int (nI aQ)] H _
    refine g_run 1 5 [some (.ref u)] [.ref u, .int (nI aQ)] H rfl ?_
    refine g_getf rfl rfl h0 rfl ?_
    show eG _ 35 8 [some (.ref u)] [.int (nI (X.2.2.2 1)), .int (nI aQ)] H _
    refine g_icmp_ge rfl (fun c1 => absurd c1 (nI_ge (show aQ < (X.2.2.2 1) by omega) (by omega))) (fun _ => ?_)
    show eG _ 35 11 [some (.ref u)] [] H _
    refine g_run 1 12 [some (.ref u)] [.ref u] H rfl ?_
    refine g_getf rfl rfl h0 rfl ?_
    show eG _ 35 15 [some (.ref u)] [.ref (u + 1)] H _
    refine g_run 1 16 [some (.ref u)] [.ref u, .ref (u + 1)] H rfl ?_
    refine g_getf rfl rfl h0 rfl ?_
    show eG _ 35 19 [some (.ref u)] [.int (nI aQ), .ref (u + 1)] H _
    refine g_cald_a rfl h1 (by omega) (by decide) ?_
    refine g_run 1 22 [some (.ref u)] [.int 32, .int ((X.1 1) aQ)] H rfl ?_
    refine g_icmp_ne rfl (fun c2 => ?_) (fun c2 => ?_)
    · show eG _ 35 38 [some (.ref u)] [] H _
      exact hk H (by rw [show skp (X.1 1) (d + 1) aQ = aQ from if_neg c2]; exact hX) off_rfl
    · show eG _ 35 25 [some (.ref u)] [] H _
      refine g_run 2 27 [some (.ref u)] [.ref u, .ref u] H rfl ?_
      refine g_getf rfl rfl h0 rfl ?_
      show eG _ 35 30 [some (.ref u)] [.int (nI aQ), .ref u] H _
      refine g_run 2 32 [some (.ref u)] [.int (nI aQ + nI 1), .ref u] H rfl ?_
      refine g_top (nI_add aQ 1) ?_
      refine g_putf_a rfl rfl h0 rfl rfl rfl rfl rfl (fun H1 q1 w1 => ?_)
      show eG _ 35 35 [some (.ref u)] [] H1 _
      refine g_run 1 0 [some (.ref u)] [] H1 rfl ?_
      refine ih (aQ + 1) H1 ?_ (by omega) (fun H9 f9 w9 => hk H9 (by rw [show skp (X.1 1) (d + 1) aQ = skp (X.1 1) d (aQ + 1) from if_pos c2]; exact f9) (off_trans (off_trans off_rfl (off_wide w1 (by omega) (by omega))) w9))
      exact ⟨q1, (off_ar w1 h1 (by omega))⟩
/-- the byte there, or what the end is -/
def byt (f : Nat → Int32) (z a : Nat) (e : Int32) : Int32 := if a < z then f a else e
theorem t_tp_next (o : eO) (u : Nat) (X : Cm) (H : eH) (hX : tpAt H u X) (hz : (X.2.2.2 1) ≤ 160) (ha : X.2.2.2 2 ≤ X.2.2.2 1) (hc : ∀ p, p < X.2.2.2 1 → eFit .char (.int (X.1 1 p)) = true) : eG o 35 0 (eEnt 35 [.ref u]) [] H (fun z => z.1 = some (.int (byt (X.1 1) (X.2.2.2 1) (skp (X.1 1) (X.2.2.2 1 - X.2.2.2 2) (X.2.2.2 2)) 0)) ∧ tpAt z.2 u (cN X 2 (skp (X.1 1) (X.2.2.2 1 - X.2.2.2 2) (X.2.2.2 2))) ∧ off u (u + 2) H z.2) := by
  show eG o 35 0 [some (.ref u)] [] H _
  have hX0 : tpAt H u (cN X 2 (X.2.2.2 2)) := by
    obtain ⟨h0, h1⟩ := id hX
    exact ⟨h0, h1⟩
  refine l_tp_next o u X hz (X.2.2.2 1 - X.2.2.2 2) (X.2.2.2 2) H hX0 (by omega) (fun H9 f9 w9 => ?_)
  generalize hg : skp (X.1 1) (X.2.2.2 1 - X.2.2.2 2) (X.2.2.2 2) = aQ at f9 ⊢
  have hle := skp_le (X.1 1) (X.2.2.2 1 - X.2.2.2 2) (X.2.2.2 2)
  rw [hg] at hle
  obtain ⟨h0, h1⟩ := id f9
  by_cases cq : aQ < X.2.2.2 1
  · refine g_run 1 39 [some (.ref u)] [.ref u] H9 rfl ?_
    refine g_getf rfl rfl h0 rfl ?_
    show eG _ 35 42 [some (.ref u)] [.int (nI aQ)] H9 _
    refine g_run 1 43 [some (.ref u)] [.ref u, .int (nI aQ)] H9 rfl ?_
    refine g_getf rfl rfl h0 rfl ?_
    show eG _ 35 46 [some (.ref u)] [.int (nI (X.2.2.2 1)), .int (nI aQ)] H9 _
    refine g_icmp_ge rfl (fun c1 => absurd c1 (nI_ge cq (by omega))) (fun _ => ?_)
    show eG _ 35 49 [some (.ref u)] [] H9 _
    refine g_run 1 50 [some (.ref u)] [.ref u] H9 rfl ?_
    refine g_getf rfl rfl h0 rfl ?_
    show eG _ 35 53 [some (.ref u)] [.ref (u + 1)] H9 _
    refine g_run 1 54 [some (.ref u)] [.ref u, .ref (u + 1)] H9 rfl ?_
    refine g_getf rfl rfl h0 rfl ?_
    show eG _ 35 57 [some (.ref u)] [.int (nI aQ), .ref (u + 1)] H9 _
    refine g_cald_a rfl h1 (by omega) (by decide) ?_
    refine g_run 1 62 [some (.ref u)] [.int ((X.1 1) aQ)] H9 rfl ?_
    refine g_retiS rfl rfl (hc aQ cq) ⟨?_, f9, w9⟩
    show some (Value.int _) = some (Value.int (byt _ _ _ _))
    unfold byt
    rw [if_pos cq]
  · refine g_run 1 39 [some (.ref u)] [.ref u] H9 rfl ?_
    refine g_getf rfl rfl h0 rfl ?_
    show eG _ 35 42 [some (.ref u)] [.int (nI aQ)] H9 _
    refine g_run 1 43 [some (.ref u)] [.ref u, .int (nI aQ)] H9 rfl ?_
    refine g_getf rfl rfl h0 rfl ?_
    show eG _ 35 46 [some (.ref u)] [.int (nI (X.2.2.2 1)), .int (nI aQ)] H9 _
    refine g_icmp_ge rfl (fun _ => ?_) (fun c1 => absurd (nI_le (show X.2.2.2 1 ≤ aQ by omega) (by omega)) c1)
    show eG _ 35 61 [some (.ref u)] [] H9 _
    refine g_run 1 62 [some (.ref u)] [.int 0] H9 rfl ?_
    refine g_retiS rfl rfl rfl ⟨?_, f9, w9⟩
    show some (Value.int _) = some (Value.int (byt _ _ _ _))
    unfold byt
    rw [if_neg cq]
