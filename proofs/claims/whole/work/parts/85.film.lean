/-! ===== pair: film ===== -/
section FI
variable {S : ZS} {T : TW}
/-- what holds between calls, the sheets left out -/
def gn (S : ZS) : Prop := ∃ T, (tAt S 1 T ∧ mAt S T ∧ wfT T) ∧ gTape S ∧ gImg S ∧ gWay S T ∧ gRoom S
theorem gn_of (hG : Good S) : gn S := by
  obtain ⟨T, h0, h4, h5, -, h7, h8⟩ := hG
  exact ⟨T, h0, h4, h5, h7, h8⟩
theorem gn_back (hG : gn S) (h : gSh S) : Good S := by
  obtain ⟨T, h0, h4, h5, h7, h8⟩ := hG
  exact ⟨T, h0, h4, h5, h, h7, h8⟩
theorem gn_fr {lo hi : Nat} {S1 : ZS} (hG : gn S) (f : frR lo hi S S1) (hl : (lo = 46 ∧ hi = 46) ∨ (lo = 54 ∧ hi = 60) ∨ (lo = 72 ∧ hi = 72)) : gn S1 := by
  obtain ⟨T, ⟨h1, h2, h3⟩, h4, h5, h7, h8⟩ := hG
  have f1 := frR_fr f 1000
  exact ⟨T, ⟨fr_tAt f1 h1 (by omega) (by omega), fr_mAt f1 h2 (by omega) (by omega), h3⟩, fr_gTape f1 h4 (by omega) (by omega) (by omega), fr_gImg f1 h5 (by omega) (by omega) (by omega) (by omega), fr_gWay f1 h7 (by omega) (by omega), fr_gRoom f1 h8⟩
theorem lacks_cg {S' : ZS} {s : Int} (n : Nat) (l f m : Int) (h1 : zA S' 70 s = zA S 70 s) (h2 : zA S' 71 s = zA S 71 s) : fM_lacksRow n S' s l f m = fM_lacksRow n S s l f m := by
  unfold fM_lacksRow
  rw [h1, h2]
  rfl
/-- row h got k items from b on -/
def filmed (S S' : ZS) (h : Nat) (b : Int) (g : Nat → Int) (k : Nat) : Prop := frR h h S S' ∧ (∀ x : Int, (x < b ∨ b + (k : Int) ≤ x) → zA S' h x = zA S h x) ∧ ∀ j : Nat, j < k → zA S' h (b + (j : Int)) = g j
theorem filmed_0 (S : ZS) (h : Nat) (b : Int) (g : Nat → Int) : filmed S S h b g 0 := ⟨frR_rfl, fun _ _ => rfl, fun j hj => absurd hj (by omega)⟩
theorem filmed_s {S S' : ZS} {h : Nat} {b : Int} {g : Nat → Int} {k : Nat} (f : filmed S S' h b g k) : filmed S (wA S' h (b + (k : Int)) (g k)) h b g (k + 1) := by
  obtain ⟨f1, f2, f3⟩ := f
  refine ⟨frR_trans f1 (frR_wA _ _ _ (by omega) (by omega)), fun x hx => ?_, fun j hj => ?_⟩
  · rw [zA_wA, if_pos rfl, if_neg (by omega)]
    exact f2 x (by omega)
  · rw [zA_wA, if_pos rfl]
    by_cases c : j = k
    · rw [c, if_pos rfl]
    · rw [if_neg (by omega)]
      exact f3 j (by omega)
def wv (T : TW) (k : Nat) (l : Int) (i : Nat) : Int := laneV l (((wayA T k (i + 1)).1 : Nat) : Int)
theorem sp_film (w : wfT T) {k : Nat} {s l f : Int} (h1 : 0 ≤ s) (h2 : s ≤ 3) (h3 : 0 ≤ l) (h4 : l ≤ 2) (h5 : 0 ≤ f) (h6 : f + (k : Int) ≤ 24) (h47 : zA S 47 s = l) (hw : zF S 24 9 = (k : Int)) (hr : ∀ i : Nat, i < k → zA S 32 (i : Int) = (((wayA T k (i + 1)).1 : Nat) : Int)) {n : Nat} (hn : 1000 ≤ n) : ∃ S', fD_film_1 n S s f 0 = some S' ∧ filmed S S' 46 (s * 24 + f) (wv T k l) k := by
  have hq := pw_le w.1.1
  have e := loop_inv (F := fun n (a : ZS) p => fD_film_1 n a s f p) (fun i a => filmed S a 46 (s * 24 + f) (wv T k l) i) (fun b => filmed S b 46 (s * 24 + f) (wv T k l) k) k 100 ?_ ?_ n S (by omega) (filmed_0 _ _ _ _)
  · exact e
  · intro n i a hi hn h
    obtain ⟨d1, -, -⟩ := way_bd w k (i + 1)
    refine ⟨_, filmed_s h, ?_⟩
    show fD_film_1 (n + 1) a s f (i : Int) = fD_film_1 n (wA a 46 (s * 24 + f + (i : Int)) (wv T k l i)) s f ((i : Int) + 1)
    rw [fD_film_1, frR_F h.1, hw, gC_pos (by omega) (by omega) (by omega) (by omega), if_pos (by omega), gX_pos (by omega) (by omega) (by omega), frR_A h.1 (by omega), hr i hi, gC_pos (by omega) (by omega) (by omega) (by omega), sp_put n a h1 h2 ((frR_A h.1 (by omega) s).trans h47) h3 h4 (by omega) (by omega), Option.bind_some, show s * 24 + (f + (i : Int)) = s * 24 + f + (i : Int) by omega]
    rfl
  · intro n a _ h
    refine ⟨a, ?_, h⟩
    show fD_film_1 (n + 1) a s f (k : Int) = _
    rw [fD_film_1, frR_F h.1, hw, gC_pos (by omega) (by omega) (by omega) (by omega), if_neg (by omega)]
theorem sm_film (w : wfT T) {k : Nat} {s l f : Int} (h1 : 0 ≤ s) (h2 : s ≤ 3) (h3 : 0 ≤ l) (h4 : l ≤ 2) (h5 : 0 ≤ f) (h6 : f + (k : Int) ≤ 24) (hr : ∀ i : Nat, i < k → zA S 60 (i : Int) = (((wayA T k (i + 1)).1 : Nat) : Int)) {n : Nat} (hn : 1000 ≤ n) : ∃ S', fM_film_1 n S s l f (k : Int) 0 = some S' ∧ filmed S S' 72 (s * 24 + f) (wv T k l) k := by
  have hq := pw_le w.1.1
  have e := loop_inv (F := fun n (a : ZS) p => fM_film_1 n a s l f (k : Int) p) (fun i a => filmed S a 72 (s * 24 + f) (wv T k l) i) (fun b => filmed S b 72 (s * 24 + f) (wv T k l) k) k 100 ?_ ?_ n S (by omega) (filmed_0 _ _ _ _)
  · exact e
  · intro n i a hi hn h
    obtain ⟨d1, -, -⟩ := way_bd w k (i + 1)
    refine ⟨_, filmed_s h, ?_⟩
    show fM_film_1 (n + 1) a s l f (k : Int) (i : Int) = fM_film_1 n (wA a 72 (s * 24 + f + (i : Int)) (wv T k l i)) s l f (k : Int) ((i : Int) + 1)
    rw [fM_film_1, gC_pos (by omega) (by omega) (by omega) (by omega), if_pos (by omega), gX_pos (by omega) (by omega) (by omega), frR_A h.1 (by omega), hr i hi, gC_pos (by omega) (by omega) (by omega) (by omega), sm_asLane n a h3 h4 (by omega) (by omega), Option.bind_some, gX_pos (by omega) (by omega) (by omega), show 24 * s + f + (i : Int) = s * 24 + f + (i : Int) by omega]
    rfl
  · intro n a _ h
    refine ⟨a, ?_, h⟩
    show fM_film_1 (n + 1) a s l f (k : Int) (k : Int) = _
    rw [fM_film_1, gC_pos (by omega) (by omega) (by omega) (by omega), if_neg (by omega)]
theorem q_film (hG : Good S) {s l f : Int} (h1 : -2147483648 ≤ s) (h2 : s < 2147483648) (h3 : -2147483648 ≤ l) (h4 : l < 2147483648) (h5 : -2147483648 ≤ f) (h6 : f < 2147483648) : ∃ n v S1 S2, fD_film n S s l f = some (v, S1) ∧ fM_film n S1 s l f = some (v, S2) ∧ Good S2 := by
  obtain ⟨T, ⟨ht, hm, w⟩, -, -, -, hw, hroom⟩ := id hG
  have hq := pw_le w.1.1
  refine ⟨5000, ?_⟩
  by_cases r : 0 ≤ s ∧ s ≤ 3 ∧ 0 ≤ l ∧ l ≤ 2
  · obtain ⟨r1, r2, r3, r4⟩ := id r
    obtain ⟨S1, a1, a2, a3, a4, a5, a6⟩ := sp_wanted ht w hw hroom (n := 5000) (by omega)
    obtain ⟨G1, t1, m1⟩ := good_ways hG ht hm w a2 a4 a5 a6
    have g1 : gSh S1 := G1.choose_spec.2.2.2.1
    have EX : fD_film 5000 S s l f = gC (zF S1 24 8) 0 (if (zF S1 24 8) = 0 then some (-4, S1) else (fH_refusal 5000 S1 s l f (zF S1 24 9)).bind fun z3 => gC z3 0 (if z3 = 0 then (fD_film_1 5000 S1 s f 0).bind fun z4 => some (zF z4 24 9, z4) else some (z3, S1))) := by
      unfold fD_film
      rw [sp_isNamed 5000 S h1 h2 h3 h4, Option.bind_some, gC_b, decide_eq_true r, if_neg (show ¬ bZ true = 0 by decide), a1, Option.bind_some]
    have EM : ∀ (S3 : ZS), fM_film 5000 S3 s l f = (fM_findRow 5000 S3).bind fun z2 => gC z2.1 0 (if z2.1 < 0 then some (-4, z2.2) else (fM_lacksRow 5000 z2.2 s l f z2.1).bind fun z3 => gC z3 0 (if z3 < 0 then some (z3, z2.2) else (fM_film_1 5000 z2.2 s l f z2.1 0).bind fun z4 => some (z2.1, z4))) := by
      intro S3
      unfold fM_film
      rw [sm_isSheet 5000 S3 h1 h2 h3 h4, Option.bind_some, gC_b, decide_eq_true r, if_neg (show ¬ bZ true = 0 by decide)]
    unfold sought at a3
    rw [EX]
    cases hf : fnd T (allP T) with
    | none =>
      rw [hf] at a3
      obtain ⟨s1, -, -⟩ := a3
      obtain ⟨v, S2, b1, b2, b3⟩ := sm_row m1 w (n := 5000) (by omega)
      unfold rowed at b3
      rw [hf] at b3
      have b3 : v = -4 := b3
      refine ⟨-4, S1, S2, ?_, ?_, good_ms G1 b2⟩
      · rw [s1, gC_pos (x := 0) (y := 0) (by omega) (by omega) (by omega) (by omega), if_pos rfl]
      · rw [EM, b1, Option.bind_some, b3]
        show gC (-4) 0 (if (-4 : Int) < 0 then some (-4, S2) else _) = _
        rw [gC_pos (x := -4) (y := 0) (by omega) (by omega) (by omega) (by omega), if_pos (by omega)]
    | some k =>
      rw [hf] at a3
      obtain ⟨s1, s2, s3⟩ := a3
      have hk2 : k ≤ 255 := by
        have := (findFrom_some hf).2.1
        omega
      rw [s1, gC_pos (x := 1) (y := 0) (by omega) (by omega) (by omega) (by omega), if_neg (by omega), s2, sp_refusal g1 5000 h1 h2 h3 h4 h5 h6 (by omega) (by omega), if_pos r, Option.bind_some]
      have rr := rf_rng S1 s l f (k : Int)
      rw [gC_pos (x := rfV S1 s l f (k : Int)) (y := 0) (by omega) (by omega) (by omega) (by omega)]
      have lk := sm_lacksRow g1 5000 r1 r2 r3 r4 h5 h6 (m := (k : Int)) (by omega) (by omega)
      by_cases c : rfV S1 s l f (k : Int) = 0
      · obtain ⟨c1, c2, c3, c4, c5, c6⟩ := rf_0 g1 r1 r2 c
        obtain ⟨S3, d1, d2⟩ := sp_film (S := S1) w r1 r2 r3 r4 c5 (by omega) c4 s2 s3 (n := 5000) (by omega)
        have m3 : mAt S3 T := fr_mAt (frR_fr d2.1 1000) m1 (by omega) (by omega)
        obtain ⟨v, S4, b1, b2, b3⟩ := sm_row m3 w (n := 5000) (by omega)
        unfold rowed at b3
        rw [hf] at b3
        obtain ⟨z1, -, z3⟩ := b3
        obtain ⟨S5, x1, x2⟩ := sm_film (S := S4) (T := T) (k := k) w r1 r2 r3 r4 c5 (by omega) z3 (n := 5000) (by omega)
        refine ⟨(k : Int), S3, S5, ?_, ?_, ?_⟩
        · rw [if_pos c, d1, Option.bind_some, frR_F d2.1, s2]
        · rw [EM, b1, Option.bind_some, z1]
          show gC (k : Int) 0 (if (k : Int) < 0 then some (-4, S4) else (fM_lacksRow 5000 S4 s l f (k : Int)).bind fun z3 => gC z3 0 (if z3 < 0 then some (z3, S4) else (fM_film_1 5000 S4 s l f (k : Int) 0).bind fun z4 => some ((k : Int), z4))) = _
          rw [gC_pos (x := (k : Int)) (y := 0) (by omega) (by omega) (by omega) (by omega), if_neg (by omega), lacks_cg (S := S1) 5000 l f (k : Int) ((frR_A b2 (by omega) s).trans (frR_A d2.1 (by omega) s)) ((frR_A b2 (by omega) s).trans (frR_A d2.1 (by omega) s)), lk, c, Option.bind_some, gC_pos (x := 0) (y := 0) (by omega) (by omega) (by omega) (by omega), if_neg (by omega), x1, Option.bind_some]
        · refine gn_back (gn_fr (gn_fr (gn_fr (gn_of G1) d2.1 (by omega)) b2 (by omega)) x2.1 (by omega)) ?_
          have rest : ∀ a : Nat, (a < 54 ∨ 60 < a) → a ≠ 46 → a ≠ 72 → ∀ x, zA S5 a x = zA S1 a x := fun a ha hb hc x => (frR_A x2.1 (by omega) x).trans ((frR_A b2 (by omega) x).trans (frR_A d2.1 (by omega) x))
          have r46 : ∀ x, zA S5 46 x = zA S3 46 x := fun x => (frR_A x2.1 (by omega) x).trans (frR_A b2 (by omega) x)
          have r72 : ∀ x, zA S4 72 x = zA S1 72 x := fun x => (frR_A b2 (by omega) x).trans (frR_A d2.1 (by omega) x)
          refine ⟨fun x ha hb => ?_, fun t ha hb => ?_⟩
          · rw [r46]
            by_cases y : s * 24 + f ≤ x ∧ x < s * 24 + f + (k : Int)
            · obtain ⟨j, hj⟩ : ∃ j : Nat, x = s * 24 + f + (j : Int) := ⟨(x - (s * 24 + f)).toNat, by omega⟩
              subst hj
              rw [d2.2.2 j (by omega), x2.2.2 j (by omega)]
              obtain ⟨q1, -, -⟩ := way_bd w k (j + 1)
              exact ⟨rfl, laneV_rng (by omega) (by omega)⟩
            · rw [d2.2.1 x (by omega), x2.2.1 x (by omega), r72]
              exact g1.1 x ha hb
          · rw [rest 48 (by omega) (by omega) (by omega), rest 70 (by omega) (by omega) (by omega), rest 71 (by omega) (by omega) (by omega), rest 47 (by omega) (by omega) (by omega)]
            exact g1.2 t ha hb
      · obtain ⟨v, S2, b1, b2, b3⟩ := sm_row m1 w (n := 5000) (by omega)
        unfold rowed at b3
        rw [hf] at b3
        obtain ⟨z1, -, z3⟩ := b3
        refine ⟨rfV S1 s l f (k : Int), S1, S2, ?_, ?_, good_ms G1 b2⟩
        · rw [if_neg c]
        · rw [EM, b1, Option.bind_some, z1]
          show gC (k : Int) 0 (if (k : Int) < 0 then some (-4, S2) else (fM_lacksRow 5000 S2 s l f (k : Int)).bind fun z3 => gC z3 0 (if z3 < 0 then some (z3, S2) else (fM_film_1 5000 S2 s l f (k : Int) 0).bind fun z4 => some ((k : Int), z4))) = _
          rw [gC_pos (x := (k : Int)) (y := 0) (by omega) (by omega) (by omega) (by omega), if_neg (by omega), lacks_cg (S := S1) 5000 l f (k : Int) (frR_A b2 (by omega) s) (frR_A b2 (by omega) s), lk, Option.bind_some, gC_pos (x := rfV S1 s l f (k : Int)) (y := 0) (by omega) (by omega) (by omega) (by omega), if_pos (by omega)]
  · refine ⟨-1, S, S, ?_, ?_, hG⟩
    · unfold fD_film
      rw [sp_isNamed 5000 S h1 h2 h3 h4, Option.bind_some, gC_b, decide_eq_false r, if_pos (show bZ false = 0 from rfl)]
    · unfold fM_film
      rw [sm_isSheet 5000 S h1 h2 h3 h4, Option.bind_some, gC_b, decide_eq_false r, if_pos (show bZ false = 0 from rfl)]
theorem p_film : P_film Inv := by
  intro x0 x1 x2
  have e0 : (Value.int x0) = .int (zI x0.toInt) := by rw [zI_of]
  have e1 : (Value.int x1) = .int (zI x1.toInt) := by rw [zI_of]
  have e2 : (Value.int x2) = .int (zI x2.toInt) := by rw [zI_of]
  rw [e0, e1, e2]
  exact mkPair (fun n S => fD_film n S x0.toInt x1.toInt x2.toInt) (fun n S => fM_film n S x0.toInt x1.toInt x2.toInt) (fun o n S w h => sD_film o n S _ _ _ h) (fun o n S w h => sM_film o n S _ _ _ h) (fun S hG => q_film hG (rngI x0).1 (rngI x0).2 (rngI x1).1 (rngI x1).2 (rngI x2).1 (rngI x2).2)
end FI
