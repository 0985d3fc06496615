/-! ===== carry ===== -/
section CAR
variable {S : ZS}
theorem good_fr3 {S1 : ZS} (hG : Good S) (f1 : fr 34 42 33 S S1) : Good S1 := by
  obtain ⟨T, ⟨h1, h2, h3⟩, h4, h5, h6, h7, h8⟩ := hG
  exact ⟨T, ⟨fr_tAt f1 h1 (by omega) (by omega), fr_mAt f1 h2 (by omega) (by omega), h3⟩, fr_gTape f1 h4 (by omega) (by omega) (by omega), fr_gImg f1 h5 (by omega) (by omega) (by omega) (by omega), fr_gSh f1 h6 (by omega), fr_gWay f1 h7 (by omega) (by omega), fr_gRoom f1 h8⟩
theorem good_frN {S1 : ZS} (hG : Good S) (f0 : frN 61 65 S S1) : Good S1 := by
  have f1 : fr 61 65 1000 S S1 := ⟨f0.1, fun h j _ => by rw [f0.2], by rw [f0.2]⟩
  obtain ⟨T, ⟨h1, h2, h3⟩, h4, h5, h6, h7, h8⟩ := hG
  exact ⟨T, ⟨fr_tAt f1 h1 (by omega) (by omega), fr_mAt f1 h2 (by omega) (by omega), h3⟩, fr_gTape f1 h4 (by omega) (by omega) (by omega), fr_gImg f1 h5 (by omega) (by omega) (by omega) (by omega), fr_gSh f1 h6 (by omega), fr_gWay f1 h7 (by omega) (by omega), fr_gRoom f1 h8⟩
theorem fcOut_R {q : Option ((Int × ZS) ⊕ (Int × ZS))} {v : Int} {S' : ZS} (h : fcOut q v S') : zR q (fun z => some (z.1, z.2)) = some (v, S') := by
  rcases h with h | h
  · rw [h]; rfl
  · rw [h]; rfl
theorem plc_bd {T : TW} (w : wfR T) {a : Nat} (h : okM T a = true) : 0 ≤ plc T a ∧ plc T a ≤ 99 := by
  have ha := of_decide_eq_true h
  unfold plc
  by_cases c : a = 8
  · rw [if_pos c]; omega
  · rw [if_neg c]
    have := w.2.2.1 a (by omega)
    omega
theorem sm_carryV {T : TW} (hm : mAt S T) (w : wfR T) (wn : wfN T) {a b : Nat} (ha : a < 256) (hb : b < 256) {n : Nat} (hn : 18200000 ≤ n) : ∃ S' V, ((fM_carry_1 n S (a : Int) (b : Int) 0 0).bind fun z2 => gX 8 9 ((fM_carry_2 n (wA z2.2 61 8 (zF z2.2 49 4)) z2.1 0).bind fun z3 => zR (fM_carry_3 n z3 z2.1 0) fun z4 => some (z4.1, z4.2))) = some (V, S') ∧ frN 61 65 S S' ∧ (sumTo (WpM T b) (T.2 6) ≤ sumTo (LpM T a) 9 → ∃ m lf lk hh ss, FL 9 (T.2 6) (dM T) (LpM T a) (WpM T b) m lf lk V ∧ DU 9 (T.2 6) (dM T) m lf hh ss ∧ ∀ j, j < T.2 6 → lk j = 0) ∧ (sumTo (LpM T a) 9 < sumTo (WpM T b) (T.2 6) → V = -4) := by
  have w6 := w.1
  obtain ⟨S1, a1, a2, a3⟩ := sm_c1 w ha hb 8 0 n S (by omega) (by omega) hm (fun i hi => absurd hi (by omega))
  have a1 : fM_carry_1 n S (a : Int) (b : Int) 0 0 = some (sumTo (WpM T b) 8, S1) := a1
  have e8 : sumTo (WpM T b) 8 = sumTo (WpM T b) (T.2 6) := sumTo_z w6 (fun i h1 h2 => WpM_z (by
    cases c : isHb T b i with
    | false => rfl
    | true => have := (isHb_i c).1; omega))
  have m1 := frN_m a2 (by omega) hm
  have f2 : frN 61 62 S1 (wA S1 61 8 (T.2 10 : Int)) := frN_wA _ _ _ (by omega) (by omega)
  obtain ⟨S2, b1, b2, b3⟩ := sm_c2 (sumTo (WpM T b) 8) 72 0 n (wA S1 61 8 (T.2 10 : Int)) (by omega) (by omega) (fun i hi => absurd hi (by omega))
  rw [show ((0 : Nat) : Int) = 0 from rfl] at b1
  have fA : frN 61 63 S S2 := frN_trans (frN_up a2 (by omega) (by omega)) (frN_trans (frN_up f2 (by omega) (by omega)) (frN_up b2 (by omega) (by omega)))
  have lf2 : mLf (T.2 6) (LpM T a) (WpM T b) S2 := by
    refine ⟨fun i hi => (frN_A b2 (by omega) _).trans ?_, fun j hj => (frN_A b2 (by omega) _).trans ?_⟩
    · rw [zA_wA, if_pos rfl]
      by_cases c : i = 8
      · rw [if_pos (by omega), c]
        exact (if_pos rfl).symm
      · rw [if_neg (by omega)]
        exact (a3 i (by omega)).1
    · rw [zA_wA, if_neg (by omega)]
      exact (a3 j (by omega)).2
  have mr2 : mRep (T.2 6) S2 (fun _ _ => 0) := fun i j hi hj => by
    have := b3 (8 * i + j) (by omega)
    rw [show ((8 * i + j : Nat) : Int) = 8 * (i : Int) + (j : Int) by omega] at this
    exact this
  have sb := sumTo_bd (f := WpM T b) (B := 99) (T.2 6) (fun i _ => by have := WpM_bd (come := b) w i; omega)
  obtain ⟨S3, V, c1, c2, c3, c4⟩ := sm_c3 (Lp := LpM T a) (W := WpM T b) w (fun i _ => by have := LpM_bd (go := a) w wn i; omega) (fun j _ => by have := WpM_bd (come := b) w j; omega) (fun i hi h => by
    have h := of_decide_eq_false h
    exact LpM_z (by omega) (by
      cases c : isHb T a i with
      | false => rfl
      | true => have := (isHb_i c).1; omega)) 100000 n S2 (fun _ _ => 0) (LpM T a) (WpM T b) (fun _ => 0) (fun _ => 0) 0 (by omega) (by omega) (by omega) (FL_0 (fun i => (LpM_bd w wn i).1) (fun j => (WpM_bd w j).1)) (DU_0 (dM_ok w)) (frN_m fA (by omega) hm) mr2 lf2
  refine ⟨S3, V, ?_, frN_trans (frN_up fA (by omega) (by omega)) c2, c3, c4⟩
  rw [a1, Option.bind_some]
  dsimp only
  rw [gX_pos (x := 8) (by omega) (by omega) (by omega), m1.1.2.2.2.2.1, b1, Option.bind_some, e8]
  exact fcOut_R c1
theorem q_carry (hG : Good S) {x y : Int} (h1 : -2147483648 ≤ x) (h2 : x < 2147483648) (h3 : -2147483648 ≤ y) (h4 : y < 2147483648) : ∃ n v S1 S2, fD_carry n S x y = some (v, S1) ∧ fM_carry n S1 x y = some (v, S2) ∧ Good S2 := by
  obtain ⟨T, ⟨ht, hm, w, wn, wf⟩, hr⟩ := id hG
  have hq := pw_le w.1
  have w6 := w.1
  have h8 := wn.1
  obtain ⟨n, hn⟩ : ∃ n : Nat, 18200000 ≤ n := ⟨18200000, Nat.le_refl _⟩
  refine ⟨n, ?_⟩
  unfold fD_carry fM_carry
  by_cases c : wkB T (T.2 8) x y = true
  rotate_left
  · have c := ne_b c
    refine ⟨-1, S, S, ?_, ?_, hG⟩
    · rw [gC_pos (by omega) (by omega) (by omega) (by omega), gC_pos (by omega) (by omega) (by omega) (by omega), sp_isWeek ht w h8 n (by omega) (by omega) (by omega) (by omega), c, Option.bind_some, gC_b, if_pos (show bZ false = 0 from rfl)]
    · rw [gC_pos (by omega) (by omega) (by omega) (by omega), gC_pos (by omega) (by omega) (by omega) (by omega), hm.1.2.2.1, sm_isWeek hm w h8 n (by omega) (by omega) (by omega) (by omega), c, Option.bind_some, gC_b, if_pos (show bZ false = 0 from rfl)]
  obtain ⟨a, b, rfl, rfl, ha, hb, e1, e2⟩ := wk_split c
  have ap := wk_apart e1 e2
  obtain ⟨S1, l1, l2, l3⟩ := sc_load w wn ht (show a < 256 by omega) (show b < 256 by omega) ap (n := n) (by omega)
  obtain ⟨i1, i2, i3, i4, i5, i6, i7⟩ := l3
  have cA := ctn_le (isHb T a) (T.2 6)
  have cB := ctn_le (isHb T b) (T.2 6)
  have sW : sumTo (fun l => WpM T b (psi T b l)) (nSt T b) = sumTo (WpM T b) (T.2 6) := sum_S w (WpM T b) (fun i _ c => WpM_z c)
  have sL : sumTo (fun k => LpM T a (phi T a k)) (nHp T a) = sumTo (LpM T a) 9 := sum_H w (LpM T a) (fun i hi c => LpM_z hi c)
  have i3 : zF S1 33 12 = sumTo (LpM T a) 9 := by
    rw [i3]
    have e3 : sumTo (LpM T a) 8 = sumTo (LpM T a) (T.2 6) := sumTo_z w6 (fun i h1 h2 => LpM_z h2 (by
      cases c : isHb T a i with
      | false => rfl
      | true => have := (isHb_i c).1; omega))
    show _ = sumTo (LpM T a) 8 + LpM T a 8
    rw [e3, show LpM T a 8 = (T.2 10 : Int) from if_pos rfl]
    omega
  have sbW := sumTo_bd (f := WpM T b) (B := 99) (T.2 6) (fun i _ => by have := WpM_bd (come := b) w i; omega)
  have sbL := sumTo_bd (f := LpM T a) (B := 999) 9 (fun i _ => by have := LpM_bd (go := a) w wn i; omega)
  have X1 : ∀ A, (gC (a : Int) 0 (gC (b : Int) 0 ((fT_isWeek n S 1 (a : Int) (b : Int)).bind fun z1 => gC z1 0 (if z1 = 0 then some (-1, S) else (fC_load n S (a : Int) (b : Int)).bind fun z2 => (fC_isEnough n z2).bind fun z3 => gC z3 0 (if z3 = 0 then some (-4, z2) else (fC_leastCarried n z2).bind fun z4 => some (z4.1, z4.2)))))) = A ↔ (if sumTo (LpM T a) 9 < sumTo (WpM T b) (T.2 6) then some (-4, S1) else (fC_leastCarried n S1).bind fun z4 => some (z4.1, z4.2)) = A := by
    intro A
    rw [gC_pos (by omega) (by omega) (by omega) (by omega), gC_pos (by omega) (by omega) (by omega) (by omega), sp_isWeek ht w h8 n (by omega) (by omega) (by omega) (by omega), c, Option.bind_some, gC_b, if_neg (show ¬ bZ true = 0 by decide), l1, Option.bind_some]
    unfold fC_isEnough
    rw [i3, i4, gC_pos (by omega) (by omega) (by omega) (by omega), gB_0, gB_1]
    by_cases k : sumTo (LpM T a) 9 < sumTo (WpM T b) (T.2 6)
    · rw [if_pos k, if_pos k, Option.bind_some, gC_pos (by omega) (by omega) (by omega) (by omega), if_pos rfl]
    · rw [if_neg k, if_neg k, Option.bind_some, gC_pos (x := 1) (y := 0) (by omega) (by omega) (by omega) (by omega), if_neg (show ¬ (1 : Int) = 0 by decide)]
  have X2 : ∀ Y : ZS, mAt Y T → ∀ A, (gC (a : Int) 0 (gC (b : Int) 0 ((fM_isWeek n Y (zF Y 49 2) (a : Int) (b : Int)).bind fun z1 => gC z1 0 (if z1 = 0 then some (-1, Y) else (fM_carry_1 n Y (a : Int) (b : Int) 0 0).bind fun z2 => gX 8 9 ((fM_carry_2 n (wA z2.2 61 8 (zF z2.2 49 4)) z2.1 0).bind fun z3 => zR (fM_carry_3 n z3 z2.1 0) fun z4 => some (z4.1, z4.2)))))) = A ↔ ((fM_carry_1 n Y (a : Int) (b : Int) 0 0).bind fun z2 => gX 8 9 ((fM_carry_2 n (wA z2.2 61 8 (zF z2.2 49 4)) z2.1 0).bind fun z3 => zR (fM_carry_3 n z3 z2.1 0) fun z4 => some (z4.1, z4.2))) = A := by
    intro Y mY A
    rw [gC_pos (by omega) (by omega) (by omega) (by omega), gC_pos (by omega) (by omega) (by omega) (by omega), mY.1.2.2.1, sm_isWeek mY w h8 n (by omega) (by omega) (by omega) (by omega), c, Option.bind_some, gC_b, if_neg (show ¬ bZ true = 0 by decide)]
  by_cases k : sumTo (LpM T a) 9 < sumTo (WpM T b) (T.2 6)
  · have m1 := fr_mAt l2 hm (by omega) (by omega)
    obtain ⟨S2, V, r1, r2, r3, r4⟩ := sm_carryV m1 w wn (show a < 256 by omega) (show b < 256 by omega) hn
    have r4 := r4 k
    subst r4
    refine ⟨-4, S1, S2, (X1 _).mpr ?_, (X2 S1 m1 _).mpr r1, good_frN (good_fr3 hG l2) r2⟩
    rw [if_pos k]
  · have st : cS (nHp T a) (nSt T b) (fun k l => dM T (phi T a k) (psi T b l)) (fun _ _ => 0) S1 := by
      refine ⟨i1, i2, fun k l hk hl => ?_, fun k l hk hl => ?_⟩
      · have ok := phi_ok hk
        have p1 := plc_bd w ok
        have hl1 := isHb_i (psi_i hl).1
        have p2 := w.2.2.1 _ hl1.1
        have e34 : zA S1 34 (k : Int) = plc T (phi T a k) := (i5 k hk).1
        have e38 : zA S1 38 (l : Int) = (T.1 3 (psi T b l) : Int) := (i6 l hl).1
        rw [e34, e38]
        refine ⟨?_, (by omega), (by omega)⟩
        show _ = dM T (phi T a k) (psi T b l)
        unfold dM
        rw [if_pos ok]
      · have hk : k < 1 + ctn (isHb T a) (T.2 6) := hk
        have hl : l < ctn (isHb T b) (T.2 6) := hl
        have := i7 (k * 8 + l) (by omega)
        rw [show ((k * 8 + l : Nat) : Int) = (k : Int) * 8 + (l : Int) by omega] at this
        exact this
    have lf1 : cLf (nHp T a) (nSt T b) (fun k => LpM T a (phi T a k)) (fun l => WpM T b (psi T b l)) S1 := ⟨fun k hk => (i5 k hk).2, fun l hl => (i6 l hl).2⟩
    have hA : nHp T a ≤ 9 := by unfold nHp; omega
    have hB : nSt T b ≤ 8 := by unfold nSt; omega
    have hd : dOk (nHp T a) (nSt T b) (fun k l => dM T (phi T a k) (psi T b l)) := fun k l hk hl => dM_bd w (phi_ok hk) (isHb_i (psi_i hl).1).1
    obtain ⟨S2, V, g1, g2, mC, lfC, lkC, hC, sC, g3, g4, g5⟩ := sc_least (d := fun k l => dM T (phi T a k) (psi T b l)) (Lp := fun k => LpM T a (phi T a k)) (W := fun l => WpM T b (psi T b l)) hA hB hd (fun i _ => by have := LpM_bd (go := a) w wn (phi T a i); show LpM T a (phi T a i) ≤ _; omega) (fun j _ => by have := WpM_bd (come := b) w (psi T b j); show WpM T b (psi T b j) ≤ _; omega) (by rw [sW, sL]; omega) 792 0 n S1 (fun _ _ => 0) _ _ (fun _ => 0) (fun _ => 0) 0 (by rw [sW]; omega) (by omega) (by omega) (FL_0 (fun i => (LpM_bd w wn _).1) (fun j => (WpM_bd w _).1)) (DU_0 hd) st lf1 (i4.trans sW.symm)
    rw [show ((0 : Nat) : Int) = 0 from rfl] at g1
    have f12 := fr_trans l2 g2
    have m2 := fr_mAt f12 hm (by omega) (by omega)
    obtain ⟨S3, VM, r1, r2, r3, r4⟩ := sm_carryV m2 w wn (show a < 256 by omega) (show b < 256 by omega) hn
    obtain ⟨mM, lfM, lkM, hM, sM, q1, q2, q3⟩ := r3 (by omega)
    obtain rfl : V = VM := same_sum w g3 g4 g5 q1 q2 q3
    refine ⟨V, S2, S3, (X1 _).mpr ?_, (X2 S2 m2 _).mpr r1, good_frN (good_fr3 hG f12) r2⟩
    rw [if_neg k]
    unfold fC_leastCarried
    rw [fcOut_R g1, Option.bind_some]
theorem p_carry : P_carry Inv := by
  intro x0 x1
  have e0 : (Value.int x0) = .int (zI x0.toInt) := by rw [zI_of]
  have e1 : (Value.int x1) = .int (zI x1.toInt) := by rw [zI_of]
  rw [e0, e1]
  exact mkPair (fun n S => fD_carry n S x0.toInt x1.toInt) (fun n S => fM_carry n S x0.toInt x1.toInt) (fun o n S w h => sD_carry o n S _ _ h) (fun o n S w h => sM_carry o n S _ _ h) (fun S hG => q_carry hG (rngI x0).1 (rngI x0).2 (rngI x1).1 (rngI x1).2)
end CAR
