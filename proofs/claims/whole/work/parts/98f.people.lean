/-! ===== people read on both sides ===== -/
section PPL
variable {b : Int → Int} {N : Nat}
def rpAt (R : ZS) (T : TW) : Prop := ∀ p : Nat, p < T.2 7 → zA R 53 (p : Int) = (T.1 6 p : Int)
def likeT (T T' : TW) : Prop := T'.2 6 = T.2 6 ∧ T'.2 8 = T.2 8 ∧ T'.2 9 = T.2 9 ∧ T'.2 10 = T.2 10 ∧ T'.2 11 = T.2 11 ∧ ∀ i p, i ≤ 5 → T'.1 i p = T.1 i p
theorem like_trans {T T1 T2 : TW} (h : likeT T T1) (g : likeT T1 T2) : likeT T T2 := ⟨g.1.trans h.1, g.2.1.trans h.2.1, g.2.2.1.trans h.2.2.1, g.2.2.2.1.trans h.2.2.2.1, g.2.2.2.2.1.trans h.2.2.2.2.1, fun i p a => (g.2.2.2.2.2 i p a).trans (h.2.2.2.2.2 i p a)⟩
theorem like_Q (T : TW) (a : Nat) : likeT T (tQ T a) := ⟨rfl, rfl, rfl, rfl, rfl, fun i p h => if_neg (fun q => absurd q.2 (by omega))⟩
theorem sp_addp15 {S : ZS} {T : TW} (ht : tAt S 15 T) (h7 : T.2 7 < 4) (a n : Nat) : ∃ S', fT_addPerson_15 n S (a : Int) = some S' ∧ frD S S' ∧ zF S' 22 2 = zF S 22 2 ∧ tAt S' 15 (tQ T a) := by
  refine ⟨wF (wA S 21 (T.2 7 : Int) (a : Int)) 15 7 ((T.2 7 : Int) + 1), ?_, ?_, zF_o _ _ (by omega), fun j x y => ?_, fun i p x y z => ?_, fun p x => ?_⟩
  · unfold fT_addPerson_15
    rw [ht.1 7 (by omega) (by omega), gX_pos (by omega) (by omega) (by omega)]
  · exact frD_trans (frD_wA _ _ _ (by omega) (by omega)) (frD_wF _ _ _)
  · show (if j = 7 then (if 15 = 15 then (T.2 7 : Int) + 1 else _) else zF S 15 j) = ((if j = 7 then T.2 7 + 1 else T.2 j : Nat) : Int)
    by_cases c : j = 7
    · rw [if_pos c, if_pos c, if_pos rfl]
      rfl
    · rw [if_neg c, if_neg c]
      exact ht.1 j x y
  · rw [show (tQ T a).1 i p = T.1 i p from if_neg (fun q => absurd q.2 (by omega))]
    rw [zA_wF, zA_wA, if_neg (by omega)]
    exact ht.2.1 i p x y z
  · have x : p < T.2 7 + 1 := x
    rw [zA_wF, zA_wA, if_pos (by omega)]
    by_cases c : p = T.2 7
    · rw [show (tQ T a).1 6 p = a from if_pos ⟨c, rfl⟩, if_pos (by omega)]
    · rw [show (tQ T a).1 6 p = T.1 6 p from if_neg (fun q => c q.1), if_neg (by omega)]
      exact ht.2.2 p (by omega)
theorem wfR_Q {T : TW} (w : wfR T) (h7 : T.2 7 < 4) {a : Nat} (ha : a < 2 ^ T.2 6) : wfR (tQ T a) := by
  refine ⟨w.1, ?_, fun p hp => ?_, fun p hp => ?_⟩
  · show T.2 7 + 1 ≤ 4
    omega
  · have : ∀ i, i ≤ 5 → (tQ T a).1 i p = T.1 i p := fun i hi => if_neg (fun q => absurd q.2 (by omega))
    rw [this 1 (by omega), this 2 (by omega), this 3 (by omega), this 4 (by omega), this 5 (by omega)]
    exact w.2.2.1 p hp
  · have hp : p < T.2 7 + 1 := hp
    show (if p = T.2 7 ∧ 6 = 6 then a else T.1 6 p) < 2 ^ T.2 6
    by_cases c : p = T.2 7
    · rw [if_pos ⟨c, rfl⟩]
      exact ha
    · rw [if_neg (fun q => c q.1)]
      exact w.2.2.2 p (by omega)
/-- one more person read -/
theorem rp_add {R R' : ZS} {T : TW} (h : rpAt R T) (f : fr1 49 10 R R') (a : Nat) : rpAt (wA R' 53 (T.2 7 : Int) (a : Int)) (tQ T a) := by
  intro p hp
  have hp : p < T.2 7 + 1 := hp
  by_cases c : p = T.2 7
  · rw [show (tQ T a).1 6 p = a from if_pos ⟨c, rfl⟩, c]
    exact zA_same _ _ _ _
  · rw [show (tQ T a).1 6 p = T.1 6 p from if_neg (fun q => c q.1)]
    exact (zA_keep f (by omega)).trans (h p (by omega))
theorem rp_fr1 {R R' : ZS} {T : TW} (h : rpAt R T) (f : fr1 49 10 R R') : rpAt R' T := fun p hp => (fr1_A f _ _).trans (h p hp)
theorem people_both (o : okb b N) : ∀ (d : Nat) (T : TW) (S R : ZS) (p n : Nat), T.2 7 + d + 1 = 4 → d + 900 ≤ n → tC S b N p → tM R b N p → tAt S 15 T → rpAt R T → zF R 49 1 = (T.2 6 : Int) → wfR T → ∃ v S' R' p', fP_readPeople_1 n S ((T.2 7 : Int) + 1) = some (.inl (v, S')) ∧ fM_readAll_1 n R 0 4 (T.2 7 : Int) = some (.inl (v, R')) ∧ frD S S' ∧ frT R R' ∧ tC S' b N p' ∧ tM R' b N p' ∧ ((v = 0 ∧ skp b N p' = p') ∨ (v = 1 ∧ ∃ T', tAt S' 15 T' ∧ rpAt R' T' ∧ wfR T' ∧ likeT T T' ∧ zF R' 49 11 = (T'.2 7 : Int))) := by
  intro d
  induction d with
  | zero =>
    intro T S R p n h1 h2 hC hM ht hr h49 w
    have w6 := w.1
    have s8 := pw_le w.1
    obtain ⟨m, rfl⟩ : ∃ m, n = m + 1 := ⟨n - 1, by omega⟩
    obtain ⟨S1, a1, a2, a3⟩ := tC_parts o (m := T.2 6) (by omega) (n := m) (by omega) hC
    obtain ⟨R1, b1, b2, b3⟩ := tM_set o (m := T.2 6) (by omega) (n := m) (by omega) hM
    rw [fP_readPeople_1, fM_readAll_1, gC_pos (x := (T.2 7 : Int) + 1) (y := 4) (by omega) (by omega) (by omega) (by omega), if_neg (show ¬ (4 : Int) < (T.2 7 : Int) + 1 by omega), ht.1 6 (by omega) (by omega), a1, Option.bind_some, gC_pos (x := (T.2 7 : Int)) (y := 4) (by omega) (by omega) (by omega) (by omega), if_pos (show (T.2 7 : Int) < 4 by omega), gC_pos (x := 0) (y := 0) (by omega) (by omega) (by omega) (by omega), if_pos (show (0 : Int) = 0 from rfl), h49, b1, Option.bind_some]
    dsimp only
    rw [gX_pos (x := (T.2 7 : Int)) (by omega) (by omega) (by omega), gX_pos (x := (T.2 7 : Int)) (by omega) (by omega) (by omega), zA_same]
    have g1 : frT R (wA R1 53 (T.2 7 : Int) (rS b N (T.2 6) p).1) := frT_trans (frT_1 b2) (frT_wA _ _ _)
    rcases rS_bd (b := b) (m := T.2 6) hC.2.2.1 with ⟨v1, v2⟩ | ⟨a, v1, v2⟩
    · rw [v1] at g1 ⊢
      rw [gC_pos (x := -1) (y := 0) (by omega) (by omega) (by omega) (by omega), if_pos (show (-1 : Int) < 0 by decide), gB_0, gC_pos (x := -1) (y := 0) (by omega) (by omega) (by omega) (by omega), if_pos (show (-1 : Int) < 0 by decide), gB_0]
      exact ⟨0, S1, _, _, rfl, rfl, frD_1 a2, g1, a3, tM_wA b3 _ _, Or.inl ⟨rfl, v2⟩⟩
    · rw [v2] at g1 ⊢
      obtain ⟨S2, c1, c2, c3, c4⟩ := sp_addp15 (fr1_tAt a2 ht (by decide)) (by omega) a m
      rw [gC_pos (x := (a : Int)) (y := 0) (by omega) (by omega) (by omega) (by omega), if_neg (show ¬ (a : Int) < 0 by omega), gC_pos (x := (a : Int)) (y := 0) (by omega) (by omega) (by omega) (by omega), if_neg (show ¬ (a : Int) < 0 by omega), c1, Option.bind_some]
      have w' := wfR_Q w (by omega) v1
      have C2 : tC S2 b N (rS b N (T.2 6) p).2 := ⟨(c2.2.1 22 1 (by decide) (Or.inr (by decide))).trans a3.1, c3.trans a3.2.1, a3.2.2.1, fun i hi => (congrFun (c2.1 23 (by omega)) _).trans (a3.2.2.2 i hi)⟩
      have M2 : tM (wF (wA R1 53 (T.2 7 : Int) (a : Int)) 49 11 ((T.2 7 : Int) + 1)) b N (rS b N (T.2 6) p).2 := tM_wA b3 _ _
      have r2 : rpAt (wF (wA R1 53 (T.2 7 : Int) (a : Int)) 49 11 ((T.2 7 : Int) + 1)) (tQ T a) := rp_add hr b2 a
      have g2 : frT R (wF (wA R1 53 (T.2 7 : Int) (a : Int)) 49 11 ((T.2 7 : Int) + 1)) := frT_trans g1 (frT_wF _ _ (by omega) (by omega))
      have f2 : frD S S2 := frD_trans (frD_1 a2) c2
      generalize (rS b N (T.2 6) p).2 = p1 at *
      have e11 : zF (wF (wA R1 53 (T.2 7 : Int) (a : Int)) 49 11 ((T.2 7 : Int) + 1)) 49 11 = (T.2 7 : Int) + 1 := zF_s _ _ _ _
      generalize (wF (wA R1 53 (T.2 7 : Int) (a : Int)) 49 11 ((T.2 7 : Int) + 1)) = R2 at *
      obtain ⟨S3, d1, d2, d3⟩ := tC_next o C2 (n := m) (by omega)
      obtain ⟨R3, e1, e2, e3⟩ := tM_next o M2 (n := m) (by omega)
      rw [d1, e1, Option.bind_some, Option.bind_some]
      dsimp only
      have kk := skp_skp (b := b) C2.2.2.1
      have f3 := frD_trans f2 (frD_1 d2)
      have g3 := frT_trans g2 (frT_1 e2)
      by_cases k : skp b N p1 < N
      · have bb := o.2 _ k
        rw [if_pos k, if_pos k, gC_pos (x := b ((skp b N p1 : Nat) : Int)) (y := 0) (by omega) (by omega) (by omega) (by omega), if_neg (by omega), gC_pos (x := (T.2 7 : Int) + 1) (y := 4) (by omega) (by omega) (by omega) (by omega), if_pos (by omega), gB_0, gC_pos (x := b ((skp b N p1 : Nat) : Int)) (y := 0) (by omega) (by omega) (by omega) (by omega), if_neg (show ¬ b ((skp b N p1 : Nat) : Int) < 0 by omega), gC_pos (x := b ((skp b N p1 : Nat) : Int)) (y := 44) (by omega) (by omega) (by omega) (by omega), gC_pos (x := (T.2 7 : Int)) (y := 4 - 1) (by omega) (by omega) (by omega) (by omega), if_pos (show (T.2 7 : Int) = 4 - 1 by omega), gB_0, ite_self]
        exact ⟨0, S3, R3, _, rfl, rfl, f3, g3, d3, e3, Or.inl ⟨rfl, kk⟩⟩
      · rw [if_neg k, if_neg k, gC_pos (x := 0) (y := 0) (by omega) (by omega) (by omega) (by omega), if_pos rfl, gB_1, gC_pos (x := -1) (y := 0) (by omega) (by omega) (by omega) (by omega), if_pos (show (-1 : Int) < 0 by decide), gB_1]
        exact ⟨1, S3, R3, _, rfl, rfl, f3, g3, d3, e3, Or.inr ⟨rfl, _, fr1_tAt d2 c4 (by decide), rp_fr1 r2 e2, w', like_Q T a, (fr1_F e2 (Or.inr (by decide))).trans e11⟩⟩
  | succ d ih =>
    intro T S R p n h1 h2 hC hM ht hr h49 w
    have w6 := w.1
    have s8 := pw_le w.1
    obtain ⟨m, rfl⟩ : ∃ m, n = m + 1 := ⟨n - 1, by omega⟩
    obtain ⟨S1, a1, a2, a3⟩ := tC_parts o (m := T.2 6) (by omega) (n := m) (by omega) hC
    obtain ⟨R1, b1, b2, b3⟩ := tM_set o (m := T.2 6) (by omega) (n := m) (by omega) hM
    rw [fP_readPeople_1, fM_readAll_1, gC_pos (x := (T.2 7 : Int) + 1) (y := 4) (by omega) (by omega) (by omega) (by omega), if_neg (show ¬ (4 : Int) < (T.2 7 : Int) + 1 by omega), ht.1 6 (by omega) (by omega), a1, Option.bind_some, gC_pos (x := (T.2 7 : Int)) (y := 4) (by omega) (by omega) (by omega) (by omega), if_pos (show (T.2 7 : Int) < 4 by omega), gC_pos (x := 0) (y := 0) (by omega) (by omega) (by omega) (by omega), if_pos (show (0 : Int) = 0 from rfl), h49, b1, Option.bind_some]
    dsimp only
    rw [gX_pos (x := (T.2 7 : Int)) (by omega) (by omega) (by omega), gX_pos (x := (T.2 7 : Int)) (by omega) (by omega) (by omega), zA_same]
    have g1 : frT R (wA R1 53 (T.2 7 : Int) (rS b N (T.2 6) p).1) := frT_trans (frT_1 b2) (frT_wA _ _ _)
    rcases rS_bd (b := b) (m := T.2 6) hC.2.2.1 with ⟨v1, v2⟩ | ⟨a, v1, v2⟩
    · rw [v1] at g1 ⊢
      rw [gC_pos (x := -1) (y := 0) (by omega) (by omega) (by omega) (by omega), if_pos (show (-1 : Int) < 0 by decide), gB_0, gC_pos (x := -1) (y := 0) (by omega) (by omega) (by omega) (by omega), if_pos (show (-1 : Int) < 0 by decide), gB_0]
      exact ⟨0, S1, _, _, rfl, rfl, frD_1 a2, g1, a3, tM_wA b3 _ _, Or.inl ⟨rfl, v2⟩⟩
    · rw [v2] at g1 ⊢
      obtain ⟨S2, c1, c2, c3, c4⟩ := sp_addp15 (fr1_tAt a2 ht (by decide)) (by omega) a m
      rw [gC_pos (x := (a : Int)) (y := 0) (by omega) (by omega) (by omega) (by omega), if_neg (show ¬ (a : Int) < 0 by omega), gC_pos (x := (a : Int)) (y := 0) (by omega) (by omega) (by omega) (by omega), if_neg (show ¬ (a : Int) < 0 by omega), c1, Option.bind_some]
      have w' := wfR_Q w (by omega) v1
      have C2 : tC S2 b N (rS b N (T.2 6) p).2 := ⟨(c2.2.1 22 1 (by decide) (Or.inr (by decide))).trans a3.1, c3.trans a3.2.1, a3.2.2.1, fun i hi => (congrFun (c2.1 23 (by omega)) _).trans (a3.2.2.2 i hi)⟩
      have M2 : tM (wF (wA R1 53 (T.2 7 : Int) (a : Int)) 49 11 ((T.2 7 : Int) + 1)) b N (rS b N (T.2 6) p).2 := tM_wA b3 _ _
      have r2 : rpAt (wF (wA R1 53 (T.2 7 : Int) (a : Int)) 49 11 ((T.2 7 : Int) + 1)) (tQ T a) := rp_add hr b2 a
      have g2 : frT R (wF (wA R1 53 (T.2 7 : Int) (a : Int)) 49 11 ((T.2 7 : Int) + 1)) := frT_trans g1 (frT_wF _ _ (by omega) (by omega))
      have f2 : frD S S2 := frD_trans (frD_1 a2) c2
      generalize (rS b N (T.2 6) p).2 = p1 at *
      have e11 : zF (wF (wA R1 53 (T.2 7 : Int) (a : Int)) 49 11 ((T.2 7 : Int) + 1)) 49 11 = (T.2 7 : Int) + 1 := zF_s _ _ _ _
      generalize (wF (wA R1 53 (T.2 7 : Int) (a : Int)) 49 11 ((T.2 7 : Int) + 1)) = R2 at *
      obtain ⟨S3, d1, d2, d3⟩ := tC_next o C2 (n := m) (by omega)
      obtain ⟨R3, e1, e2, e3⟩ := tM_next o M2 (n := m) (by omega)
      rw [d1, e1, Option.bind_some, Option.bind_some]
      dsimp only
      have kk := skp_skp (b := b) C2.2.2.1
      have f3 := frD_trans f2 (frD_1 d2)
      have g3 := frT_trans g2 (frT_1 e2)
      by_cases k : skp b N p1 < N
      · have bb := o.2 _ k
        obtain ⟨S4, i1, i2, i3⟩ := tC_take o d3 (n := m) (by omega) (c := 44) (by omega) (by omega)
        rw [if_pos k, if_pos k, gC_pos (x := b ((skp b N p1 : Nat) : Int)) (y := 0) (by omega) (by omega) (by omega) (by omega), if_neg (by omega), gC_pos (x := (T.2 7 : Int) + 1) (y := 4) (by omega) (by omega) (by omega) (by omega), if_neg (by omega), i1, Option.bind_some, gC_pos (x := b ((skp b N p1 : Nat) : Int)) (y := 0) (by omega) (by omega) (by omega) (by omega), if_neg (show ¬ b ((skp b N p1 : Nat) : Int) < 0 by omega), gC_pos (x := b ((skp b N p1 : Nat) : Int)) (y := 44) (by omega) (by omega) (by omega) (by omega), gC_pos (x := (T.2 7 : Int)) (y := 4 - 1) (by omega) (by omega) (by omega) (by omega), if_neg (show ¬ (T.2 7 : Int) = 4 - 1 by omega), gB_0]
        dsimp only
        unfold tk at i3 ⊢
        rw [kk] at i3 ⊢
        by_cases k2 : b ((skp b N p1 : Nat) : Int) = 44
        · rw [if_pos ⟨k, k2⟩] at i3 ⊢
          dsimp only at i3 ⊢
          rw [gC_pos (x := 1) (y := 0) (by omega) (by omega) (by omega) (by omega), if_neg (show ¬ (1 : Int) = 0 by decide), if_pos k2, e3.2.1]
          obtain ⟨v, S', R', p', j1, j2, j3, j4, j5, j6, j7⟩ := ih (tQ T a) S4 (wF R3 49 10 (((skp b N p1 : Nat) : Int) + 1)) (skp b N p1 + 1) m (by show T.2 7 + 1 + d + 1 = 4; omega) (by omega) i3 (tM_to e3 (by omega) (by omega)) (fr1_tAt i2 (fr1_tAt d2 c4 (by decide)) (by decide)) (rp_fr1 (rp_fr1 r2 e2) (fr1_wF _ _ _ _)) (((zF_o _ _ (by omega)).trans (g3.2.1 49 1 (by omega))).trans h49) w'
          have j1 : fP_readPeople_1 m S4 ((T.2 7 : Int) + 1 + 1) = some (.inl (v, S')) := j1
          have j2 : fM_readAll_1 m (wF R3 49 10 (((skp b N p1 : Nat) : Int) + 1)) 0 4 ((T.2 7 : Int) + 1) = some (.inl (v, R')) := j2
          refine ⟨v, S', R', p', j1, j2, frD_trans (frD_trans f3 (frD_1 i2)) j3, frT_trans (frT_trans g3 (frT_1 (fr1_wF _ _ _ _))) j4, j5, j6, j7.imp id (fun q => ⟨q.1, ?_⟩)⟩
          obtain ⟨T', q1, q2, q3, q4, q5⟩ := q.2
          exact ⟨T', q1, q2, q3, like_trans (like_Q T a) q4, q5⟩
        · rw [if_neg (fun z => k2 z.2)] at i3 ⊢
          dsimp only at i3 ⊢
          rw [gC_pos (x := 0) (y := 0) (by omega) (by omega) (by omega) (by omega), if_pos rfl, gB_0, if_neg k2]
          exact ⟨0, S4, R3, _, rfl, rfl, frD_trans f3 (frD_1 i2), g3, i3, e3, Or.inl ⟨rfl, kk⟩⟩
      · rw [if_neg k, if_neg k, gC_pos (x := 0) (y := 0) (by omega) (by omega) (by omega) (by omega), if_pos rfl, gB_1, gC_pos (x := -1) (y := 0) (by omega) (by omega) (by omega) (by omega), if_pos (show (-1 : Int) < 0 by decide), gB_1]
        exact ⟨1, S3, R3, _, rfl, rfl, f3, g3, d3, e3, Or.inr ⟨rfl, _, fr1_tAt d2 c4 (by decide), rp_fr1 r2 e2, w', like_Q T a, (fr1_F e2 (Or.inr (by decide))).trans e11⟩⟩
end PPL
