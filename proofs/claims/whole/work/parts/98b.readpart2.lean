/-! ===== reading: a part, both sides at once ===== -/
section RDe
variable {S R : ZS} {b : Int → Int} {N p n : Nat} {T : TW}
theorem zA_keep {R' : ZS} (f : fr1 49 10 R R') {j x v : Int} (hj : j ≠ x) : zA (wA R' 53 x v) 53 j = zA R 53 j := by rw [zA_wA, if_pos rfl, if_neg hj, fr1_A f]
theorem sm_kind {u : Int} (h1 : -1 ≤ u) (h2 : u ≤ 126) : (gC u 104 (if u = 104 then some (0 : Int) else gC u 98 (if u = 98 then some 1 else gC u 99 (if u = 99 then some 2 else gC u 114 (if u = 114 then some 3 else some (-1)))))) = some (kix u) := by
  unfold kix
  rw [gC_pos (x := u) (y := 104) (by omega) (by omega) (by omega) (by omega), gC_pos (x := u) (y := 98) (by omega) (by omega) (by omega) (by omega), gC_pos (x := u) (y := 99) (by omega) (by omega) (by omega) (by omega), gC_pos (x := u) (y := 114) (by omega) (by omega) (by omega) (by omega)]
  split
  · rfl
  · split
    · rfl
    · split
      · rfl
      · split
        · rfl
        · rfl
theorem kix_bd (u : Int) : -1 ≤ kix u ∧ kix u ≤ 3 := by
  unfold kix
  split
  · omega
  · split
    · omega
    · split
      · omega
      · split
        · omega
        · omega
theorem part_both (o : okb b N) (hn : 800 ≤ n) (hC : tC S b N p) (hM : tM R b N p) (ht : tAt S 15 T) (hr : rdAt R T) (h6 : T.2 6 < 8) (h8 : T.2 8 < 2 ^ T.2 6) : OUT b N T S R (fP_readPart n S) (fM_readPart n R (T.2 6 : Int)) := by
  obtain ⟨S1, a1, a2, a3⟩ := tC_next o hC (n := n) (by omega)
  obtain ⟨R1, b1, b2, b3⟩ := tM_next o hM (n := n) (by omega)
  have bd := skp_bd (b := b) hC.2.2.1
  have kk := skp_skp (b := b) hC.2.2.1
  have vc : ∃ v u : Int, (if skp b N p < N then b ((skp b N p : Nat) : Int) else 0) = v ∧ (if skp b N p < N then b ((skp b N p : Nat) : Int) else -1) = u ∧ 0 ≤ v ∧ v ≤ 126 ∧ -1 ≤ u ∧ u ≤ 126 ∧ kix v = kix u ∧ (0 ≤ kix u → skp b N p < N) := by
    by_cases k2 : skp b N p < N
    · have := o.2 _ k2
      exact ⟨_, _, if_pos k2, if_pos k2, by omega, by omega, by omega, by omega, rfl, fun _ => k2⟩
    · exact ⟨_, _, if_neg k2, if_neg k2, by omega, by omega, by omega, by omega, by decide, fun z => absurd z (by decide)⟩
  obtain ⟨v, u, v1, u1, v2, v3, u2, u3, vu, kq⟩ := vc
  rw [v1] at a1
  rw [u1] at b1
  have kb := kix_bd u
  unfold fP_readPart fM_readPart
  rw [a1, b1, Option.bind_some, Option.bind_some]
  dsimp only
  rw [sm_kind u2 u3, Option.bind_some, gH_pos v2 (by omega), vu, gC_pos (x := kix u) (y := 0) (by omega) (by omega) (by omega) (by omega), gX_pos (x := 5 * (T.2 6 : Int)) (by omega) (by omega) (by omega), gX_pos (x := 5 * (T.2 6 : Int)) (by omega) (by omega) (by omega), zA_same, gC_pos (x := kix u) (y := 0) (by omega) (by omega) (by omega) (by omega)]
  by_cases c1 : kix u < 0
  · rw [if_pos c1, if_pos c1, gB_0, gB_0]
    exact ⟨0, S1, _, _, rfl, rfl, frD_1 a2, frT_trans (frT_1 b2) (frT_wA _ _ _), a3, tM_wA b3 _ _, Or.inl ⟨rfl, kk⟩⟩
  rw [if_neg c1, if_neg c1]
  have kq := kq (by omega)
  obtain ⟨k, hk⟩ : ∃ k : Nat, kix u = (k : Int) := ⟨(kix u).toNat, by omega⟩
  rw [hk, a3.2.1, b3.2.1]
  obtain ⟨S2, c1, c2, c3⟩ := tC_num o (tC_to a3 (q := skp b N p + 1) (by omega) (x := ((skp b N p : Nat) : Int) + 1) (by omega)) (n := n) (by omega) (lo := 1) (hi := 99) (by omega) (by omega) (by omega)
  obtain ⟨R2, d1, d2, d3⟩ := tM_num o (tM_to (tM_wA b3 (5 * (T.2 6 : Int)) (k : Int)) (q := skp b N p + 1) (by omega) (x := ((skp b N p : Nat) : Int) + 1) (by omega)) (n := n) (by omega) (lo := 1) (hi := 99) (by omega) (by omega) (by omega)
  have rb := rN_bd (b := b) (N := N) (p := skp b N p + 1) (by omega) (lo := 1) (hi := 99) (by omega)
  have kk2 := skp_skp (b := b) (show skp b N p + 1 ≤ N by omega)
  rw [c1, d1, Option.bind_some, Option.bind_some]
  dsimp only
  have f2 : frD S S2 := frD_trans (frD_1 a2) (frD_trans (frD_1 (fr1_wF _ _ _ _)) (frD_1 c2))
  have d2' : fr1 49 10 (wA R1 53 (5 * (T.2 6 : Int)) (k : Int)) R2 := fr1_trans (fr1_wF _ _ _ _) d2
  have g2 : frT R R2 := frT_trans (frT_1 b2) (frT_trans (frT_wA _ _ _) (frT_1 d2'))
  have t2 : tAt S2 15 T := fr1_tAt c2 (fr1_tAt (fr1_wF _ _ _ _) (fr1_tAt a2 ht (by decide)) (by decide)) (by decide)
  have r2 : rdAt R2 T := rd_fr1 d2' (rd_wA (rd_fr1 b2 hr) (Int.le_refl _))
  have x20 : zA R2 53 (5 * (T.2 6 : Int)) = (k : Int) := (fr1_A d2' _ _).trans (zA_same _ _ _ _)
  generalize hy : (rN b N 1 99 (skp b N p + 1)).1 = y at *
  generalize hp2 : (rN b N 1 99 (skp b N p + 1)).2 = p2 at *
  rw [gC_pos (x := y) (y := 0) (by omega) (by omega) (by omega) (by omega), gX_pos (x := 5 * (T.2 6 : Int) + 1) (by omega) (by omega) (by omega), gX_pos (x := 5 * (T.2 6 : Int) + 1) (by omega) (by omega) (by omega), zA_same, gC_pos (x := y) (y := 0) (by omega) (by omega) (by omega) (by omega)]
  rcases rb with ⟨y1, y2⟩ | ⟨y1, y2⟩
  · rw [if_pos (by omega), if_pos (by omega), gB_0, gB_0]
    exact ⟨0, S2, _, p2, rfl, rfl, f2, frT_trans g2 (frT_wA _ _ _), c3, tM_wA d3 _ _, Or.inl ⟨rfl, by rw [y2]; exact kk2⟩⟩
  rw [if_neg (by omega), if_neg (by omega)]
  obtain ⟨y, rfl⟩ : ∃ a : Nat, y = (a : Int) := ⟨y.toNat, by omega⟩
  obtain ⟨S3, e1, e2, e3⟩ := tC_take o c3 (n := n) (by omega) (c := 64) (by omega) (by omega)
  obtain ⟨R3, g1, g3, g4⟩ := tM_take o (tM_wA d3 (5 * (T.2 6 : Int) + 1) (y : Int)) (n := n) (by omega) (c := 64) (by omega) (by omega)
  rw [e1, g1, Option.bind_some, Option.bind_some]
  dsimp only
  have mid : ∃ w S4 R4 p4, (gC (tk b N 64 p2).1 0 (if (tk b N 64 p2).1 = 0 then some (0, S3) else (fP_readNumber n S3 0 99).bind fun z17 => some (z17.1, z17.2))) = some (w, S4) ∧ (gC (tk b N 64 p2).1 0 (if (tk b N 64 p2).1 = 0 then some (0, R3) else (fM_readNumber n R3 0 99).bind fun z17 => some (z17.1, z17.2))) = some (w, R4) ∧ fr1 22 2 S2 S4 ∧ fr1 49 10 (wA R2 53 (5 * (T.2 6 : Int) + 1) (y : Int)) R4 ∧ tC S4 b N p4 ∧ tM R4 b N p4 ∧ ((w = -1 ∧ skp b N p4 = p4) ∨ (0 ≤ w ∧ w ≤ 99)) := by
    have tkb : (tk b N 64 p2).1 = 0 ∨ (tk b N 64 p2).1 = 1 := by unfold tk; split; exact Or.inr rfl; exact Or.inl rfl
    by_cases c : (tk b N 64 p2).1 = 0
    · rw [gC_pos (by omega) (by omega) (by omega) (by omega), if_pos c, if_pos c]
      refine ⟨0, S3, R3, _, rfl, ?_, e2, g3, e3, g4, Or.inr (by omega)⟩
      rw [gC_pos (by omega) (by omega) (by omega) (by omega)]
    · rw [gC_pos (by omega) (by omega) (by omega) (by omega), if_neg c, if_neg c]
      obtain ⟨S4, i1, i2, i3⟩ := tC_num o e3 (n := n) (by omega) (lo := 0) (hi := 99) (by omega) (by omega) (by omega)
      obtain ⟨R4, j1, j2, j3⟩ := tM_num o g4 (n := n) (by omega) (lo := 0) (hi := 99) (by omega) (by omega) (by omega)
      refine ⟨(rN b N 0 99 (tk b N 64 p2).2).1, S4, R4, (rN b N 0 99 (tk b N 64 p2).2).2, ?_, ?_, fr1_trans e2 i2, fr1_trans g3 j2, i3, j3, ?_⟩
      · rw [i1, Option.bind_some]
      · rw [gC_pos (by omega) (by omega) (by omega) (by omega), j1, Option.bind_some]
      · rcases rN_bd (b := b) (N := N) e3.2.2.1 (lo := 0) (hi := 99) (by omega) with q | q
        · refine Or.inl ⟨q.1, ?_⟩
          rw [q.2]
          exact skp_skp e3.2.2.1
        · exact Or.inr q
  obtain ⟨w, S4, R4, p4, m1, m2, m3, m4, m5, m6, m7⟩ := mid
  rw [m1, m2, Option.bind_some, Option.bind_some]
  dsimp only
  have f4 : frD S S4 := frD_trans f2 (frD_1 m3)
  have g4' : frT R R4 := frT_trans g2 (frT_trans (frT_wA _ _ _) (frT_1 m4))
  have t4 : tAt S4 15 T := fr1_tAt m3 t2 (by decide)
  have r4 : rdAt R4 T := rd_fr1 m4 (rd_wA r2 (by omega))
  have x40 : zA R4 53 (5 * (T.2 6 : Int)) = (k : Int) := (fr1_A m4 _ _).trans ((zA_keep fr1_rfl (by omega)).trans x20)
  have x41 : zA R4 53 (5 * (T.2 6 : Int) + 1) = (y : Int) := (fr1_A m4 _ _).trans (zA_same _ _ _ _)
  rw [gX_pos (x := 5 * (T.2 6 : Int) + 2) (by omega) (by omega) (by omega), gX_pos (x := 5 * (T.2 6 : Int) + 2) (by omega) (by omega) (by omega), zA_same, gC_pos (x := w) (y := 0) (by omega) (by omega) (by omega) (by omega), gC_pos (x := w) (y := 0) (by omega) (by omega) (by omega) (by omega)]
  rcases m7 with ⟨w1, w2⟩ | ⟨w1, w2⟩
  · rw [if_pos (by omega), if_pos (by omega), gB_0, gB_0]
    exact ⟨0, S4, _, p4, rfl, rfl, f4, frT_trans g4' (frT_wA _ _ _), m5, tM_wA m6 _ _, Or.inl ⟨rfl, w2⟩⟩
  rw [if_neg (by omega), if_neg (by omega), gX_pos (x := 5 * (T.2 6 : Int) + 3) (by omega) (by omega) (by omega)]
  obtain ⟨pl, rfl⟩ : ∃ a : Nat, w = (a : Int) := ⟨w.toNat, by omega⟩
  obtain ⟨S5, q1, q2, q3⟩ := tC_take o m5 (n := n) (by omega) (c := 111) (by omega) (by omega)
  obtain ⟨R5, s1, s2, s3⟩ := tM_take o (tM_wA (tM_wA m6 (5 * (T.2 6 : Int) + 2) (pl : Int)) (5 * (T.2 6 : Int) + 3) 0) (n := n) (by omega) (c := 111) (by omega) (by omega)
  rw [q1, s1, Option.bind_some, Option.bind_some]
  dsimp only
  have f5 : frD S S5 := frD_trans f4 (frD_1 q2)
  have g5 : frT R R5 := frT_trans g4' (frT_trans (frT_trans (frT_wA _ _ _) (frT_wA _ _ _)) (frT_1 s2))
  have t5 : tAt S5 15 T := fr1_tAt q2 t4 (by decide)
  have r5 : rdAt R5 T := rd_fr1 s2 (rd_wA (rd_wA r4 (by omega)) (by omega))
  have x5 : ∀ j : Int, j ≠ 5 * (T.2 6 : Int) + 3 → zA R5 53 j = zA (wA R4 53 (5 * (T.2 6 : Int) + 2) (pl : Int)) 53 j := fun j hj => (fr1_A s2 _ _).trans (zA_keep fr1_rfl hj)
  have x50 : zA R5 53 (5 * (T.2 6 : Int)) = (k : Int) := (x5 _ (by omega)).trans ((zA_keep fr1_rfl (by omega)).trans x40)
  have x51 : zA R5 53 (5 * (T.2 6 : Int) + 1) = (y : Int) := (x5 _ (by omega)).trans ((zA_keep fr1_rfl (by omega)).trans x41)
  have x52 : zA R5 53 (5 * (T.2 6 : Int) + 2) = (pl : Int) := (x5 _ (by omega)).trans (zA_same _ _ _ _)
  have x53 : zA R5 53 (5 * (T.2 6 : Int) + 3) = ((0 : Nat) : Int) := (fr1_A s2 _ _).trans (zA_same _ _ _ _)
  have tkb : (tk b N 111 p4).1 = 0 ∨ (tk b N 111 p4).1 = 1 := by unfold tk; split; exact Or.inr rfl; exact Or.inl rfl
  rw [gC_pos (x := (tk b N 111 p4).1) (y := 0) (by omega) (by omega) (by omega) (by omega), gC_pos (x := (tk b N 111 p4).1) (y := 0) (by omega) (by omega) (by omega) (by omega)]
  by_cases c5 : (tk b N 111 p4).1 = 0
  · rw [if_pos c5, if_pos c5, Option.bind_some]
    dsimp only
    rw [gC_pos (x := 0) (y := 0) (by omega) (by omega) (by omega) (by omega), if_neg (show ¬ (0 : Int) < 0 by decide)]
    exact OUT_mono f5 g5 (tail_both o (by omega) q3 s3 t5 r5 h6 h8 (ow := 0) (by omega) (by omega) (by omega) (by omega) x50 x51 x52 x53)
  · rw [if_neg c5, if_neg c5]
    obtain ⟨S6, i1, i2, i3⟩ := tC_digit o q3 (n := n) (by omega) (m := 4) (by omega) (by omega)
    obtain ⟨R6, j1, j2, j3⟩ := tM_next o s3 (n := n) (by omega)
    have kk5 := skp_skp (b := b) q3.2.2.1
    have p55 := q3.2.2.1
    rw [i1, j1, Option.bind_some, Option.bind_some, Option.bind_some]
    dsimp only
    rw [gX_pos (x := 5 * (T.2 6 : Int) + 3) (by omega) (by omega) (by omega), gX_pos (x := 5 * (T.2 6 : Int) + 3) (by omega) (by omega) (by omega), zA_same]
    generalize (tk b N 111 p4).2 = p5 at *
    have bd5 := skp_bd (b := b) p55
    unfold rD at i3 ⊢
    by_cases c6 : skp b N p5 < N ∧ (48 ≤ b ((skp b N p5 : Nat) : Int) ∧ b ((skp b N p5 : Nat) : Int) ≤ 57) ∧ b ((skp b N p5 : Nat) : Int) - 48 < 4
    · rw [if_pos c6] at i3 ⊢
      obtain ⟨ow, how⟩ : ∃ a : Nat, b ((skp b N p5 : Nat) : Int) - 48 = (a : Int) := ⟨(b ((skp b N p5 : Nat) : Int) - 48).toNat, by omega⟩
      dsimp only at i3 ⊢
      rw [if_pos c6.1, how, gC_pos (x := (ow : Int)) (y := 0) (by omega) (by omega) (by omega) (by omega), if_neg (show ¬ (ow : Int) < 0 by omega), gC_pos (x := (ow : Int)) (y := 0) (by omega) (by omega) (by omega) (by omega), sp_in _ n (by omega) (by omega) (by omega) (by omega) (by omega) (by omega), Option.bind_some, gC_b, decide_eq_true (show (0 : Int) ≤ (ow : Int) ∧ (ow : Int) ≤ 3 by omega), if_neg (show ¬ bZ true = 0 by decide), j3.2.1]
      have r6 : rdAt (wF (wA R6 53 (5 * (T.2 6 : Int) + 3) (ow : Int)) 49 10 (((skp b N p5 : Nat) : Int) + 1)) T := rd_fr1 (fr1_wF _ _ _ _) (rd_wA (rd_fr1 j2 r5) (by omega))
      refine OUT_mono (frD_trans f5 (frD_1 i2)) (frT_trans g5 (frT_trans (frT_1 j2) (frT_trans (frT_wA _ (5 * (T.2 6 : Int) + 3) (ow : Int)) (frT_1 (fr1_wF _ 49 10 (((skp b N p5 : Nat) : Int) + 1)))))) (tail_both o (by omega) i3 (tM_to (tM_wA j3 _ _) (by omega) (by omega)) (fr1_tAt i2 t5 (by decide)) r6 h6 h8 (k := k) (y := y) (pl := pl) (ow := ow) (by omega) (by omega) (by omega) (by omega) ?_ ?_ ?_ ?_)
      · exact (zA_keep j2 (by omega)).trans x50
      · exact (zA_keep j2 (by omega)).trans x51
      · exact (zA_keep j2 (by omega)).trans x52
      · exact zA_same R6 53 (5 * (T.2 6 : Int) + 3) (ow : Int)
    · rw [if_neg c6] at i3 ⊢
      have vb : ∃ v : Int, (if skp b N p5 < N then b ((skp b N p5 : Nat) : Int) else -1) = v ∧ -1 ≤ v ∧ v ≤ 126 ∧ ¬ (0 ≤ v - 48 ∧ v - 48 ≤ 3) := by
        by_cases k2 : skp b N p5 < N
        · have := o.2 _ k2
          exact ⟨_, if_pos k2, by omega, by omega, fun z => c6 ⟨k2, by omega, by omega⟩⟩
        · exact ⟨_, if_neg k2, by omega, by omega, by omega⟩
      obtain ⟨z, z1, z2, z3, z4⟩ := vb
      dsimp only at i3 ⊢
      rw [z1, gC_pos (x := -1) (y := 0) (by omega) (by omega) (by omega) (by omega), if_pos (by decide), gB_0, gC_pos (x := z - 48) (y := 0) (by omega) (by omega) (by omega) (by omega), sp_in _ n (by omega) (by omega) (by omega) (by omega) (by omega) (by omega), Option.bind_some, gC_b, decide_eq_false z4, if_pos (show bZ false = 0 from rfl), gB_0]
      exact ⟨0, S6, _, skp b N p5, rfl, rfl, frD_trans f5 (frD_1 i2), frT_trans g5 (frT_trans (frT_1 j2) (frT_wA _ _ _)), i3, tM_wA j3 _ _, Or.inl ⟨rfl, kk5⟩⟩
end RDe
