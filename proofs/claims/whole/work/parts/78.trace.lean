/-! ===== the class's way ===== -/
section TR
variable {S : ZS} {T : TW}
theorem wayTo_ok (a : Nat) (f : Int) (r : Nat) : wayTo T a f r = a ∨ (wayTo T a f r < 2 ^ T.2 6 ∧ firmB T (wayTo T a f r) = true ∧ dryB T (a &&& wayTo T a f r) = true ∧ Yd T (a ^^^ wayTo T a f r) ≤ (T.2 11 : Int) ∧ Lr T (allP T) r (wayTo T a f r) ≤ min 999 (f + gv T a (wayTo T a f r))) := by
  unfold wayTo
  cases hf : firstTo (fun to => firmB T to && dryB T (a &&& to) && decide (Yd T (a ^^^ to) ≤ (T.2 11 : Int)) && decide (Lr T (allP T) r to ≤ min 999 (f + gv T a to))) (2 ^ T.2 6) with
  | none => exact Or.inl rfl
  | some k =>
    obtain ⟨-, h1, h2, -⟩ := findFrom_some hf
    rw [Bool.and_eq_true, Bool.and_eq_true, Bool.and_eq_true] at h2
    exact Or.inr ⟨(by show k < _; omega), h2.1.1.1, h2.1.1.2, of_decide_eq_true h2.1.2, of_decide_eq_true h2.2⟩
theorem way_bd (w : wfT T) (wk : Nat) : ∀ i : Nat, (wayA T wk i).1 < 2 ^ T.2 6 ∧ 0 ≤ (wayA T wk i).2 ∧ (wayA T wk i).2 ≤ 999 := by
  intro i
  induction i with
  | zero =>
    have := w.2.1.2.2.1
    refine ⟨w.2.1.1, ?_, ?_⟩
    · show (0 : Int) ≤ (T.2 10 : Int)
      omega
    · show (T.2 10 : Int) ≤ 999
      omega
  | succ i ih =>
    have h := wayTo_ok (T := T) (wayA T wk i).1 (wayA T wk i).2 (wk - 1 - i)
    show wayTo T (wayA T wk i).1 (wayA T wk i).2 (wk - 1 - i) < _ ∧ 0 ≤ min 999 ((wayA T wk i).2 + gv T (wayA T wk i).1 (wayTo T (wayA T wk i).1 (wayA T wk i).2 (wk - 1 - i))) ∧ min 999 ((wayA T wk i).2 + gv T (wayA T wk i).1 (wayTo T (wayA T wk i).1 (wayA T wk i).2 (wk - 1 - i))) ≤ 999
    rcases h with h | ⟨h1, h2, h3, h4, h5⟩
    · rw [h, gv_self]
      omega
    · have := (Lr_bd (T := T) (mv := allP T) (wk - 1 - i) (wayTo T (wayA T wk i).1 (wayA T wk i).2 (wk - 1 - i))).1
      omega
theorem sp_least (ht : tAt S 1 T) (w : wfT T) (htb : tabl S T) {R r a : Nat} {f : Int} (hrow : nRow S T (allP T) R) (hr : r ≤ R) (hnn : 256 * (R + 1) ≤ nn S) (hn2 : nn S ≤ 65536) (ha : a < 2 ^ T.2 6) (hf : 0 ≤ f ∧ f ≤ 999) {n : Nat} (hn : 400 ≤ n) : fW_leastStep n S (a : Int) f ((r : Int) * 256) = some ((wayTo T a f r : Nat) : Int) := by
  have hq := pw_le w.1.1
  have hp := pw_pos (T.2 6)
  have h11 := w.2.1.2.2.2.2
  have step : ∀ (n to : Nat), to < 2 ^ T.2 6 → fW_leastStep_1 (n + 1) S (a : Int) f ((r : Int) * 256) (to : Int) = if (firmB T to && dryB T (a &&& to) && decide (Yd T (a ^^^ to) ≤ (T.2 11 : Int)) && decide (Lr T (allP T) r to ≤ min 999 (f + gv T a to))) = true then some (.inl (to : Int)) else fW_leastStep_1 n S (a : Int) f ((r : Int) * 256) ((to : Int) + 1) := by
    intro n to hto
    have h1 : a &&& to < 2 ^ T.2 6 := Nat.and_lt_two_pow _ hto
    have h2 : a ^^^ to < 2 ^ T.2 6 := Nat.xor_lt_two_pow ha hto
    have yb := Yd_bd w.1 (a ^^^ to)
    have gb := gv_bd w.1 a to
    have lb := Lr_bd (T := T) (mv := allP T) r to
    have cur : zA S 31 ((r : Int) * 256 + (to : Int)) = Lr T (allP T) r to := by
      rw [show (r : Int) * 256 + (to : Int) = 256 * (r : Int) + (to : Int) by omega]
      exact hrow r hr to hto
    rw [fW_leastStep_1, sp_all ht w.1, Option.bind_some, gC_pos (x := (to : Int)) (by omega) (by omega) (by omega) (by omega), if_neg (by omega), gX_pos (by omega) (by omega) (by omega), (htb to hto).2.2.2.1, gC_b]
    cases k1 : firmB T to with
    | false => rfl
    | true =>
      rw [if_neg (show ¬ bZ true = 0 by decide), zand_n (by omega) (by omega), gX_pos (by omega) (by omega) (by omega), (htb _ h1).2.2.2.2, gC_b]
      cases k2 : dryB T (a &&& to) with
      | false => rfl
      | true =>
        rw [if_neg (show ¬ bZ true = 0 by decide), zxor_n (by omega) (by omega), gX_pos (by omega) (by omega) (by omega), (htb _ h2).1, ht.1 11 (by omega) (by omega), gC_pos (x := Yd T (a ^^^ to)) (by omega) (by omega) (by omega) (by omega)]
        by_cases k3 : (T.2 11 : Int) < Yd T (a ^^^ to)
        · rw [if_pos k3, decide_eq_false (by omega)]
          rfl
        · rw [if_neg k3, decide_eq_true (show Yd T (a ^^^ to) ≤ (T.2 11 : Int) by omega), sp_given htb w.1 ha hto, Option.bind_some, gC_pos (x := 999) (by omega) (by omega) (by omega) (by omega), gX_pos (by omega) (by omega) (by omega), cur, gC_pos (by omega) (by omega) (by omega) (by omega)]
          by_cases k4 : min 999 (f + gv T a to) < Lr T (allP T) r to
          · rw [if_pos k4, decide_eq_false (by omega)]
            rfl
          · rw [if_neg k4, decide_eq_true (show Lr T (allP T) r to ≤ min 999 (f + gv T a to) by omega)]
            rfl
  have e := loop_ex (F := fun n (_ : Unit) p => fW_leastStep_1 n S (a : Int) f ((r : Int) * 256) p) (fun _ => ()) (2 ^ T.2 6) 0 (fun to => firmB T to && dryB T (a &&& to) && decide (Yd T (a ^^^ to) ≤ (T.2 11 : Int)) && decide (Lr T (allP T) r to ≤ min 999 (f + gv T a to))) (fun to => some (.inl (to : Int))) (res := some (.inr ())) ?_ ?_ ?_ n (by omega)
  · unfold fW_leastStep wayTo
    rw [show fW_leastStep_1 n S (a : Int) f ((r : Int) * 256) 0 = _ from e]
    cases firstTo (fun to => firmB T to && dryB T (a &&& to) && decide (Yd T (a ^^^ to) ≤ (T.2 11 : Int)) && decide (Lr T (allP T) r to ≤ min 999 (f + gv T a to))) (2 ^ T.2 6) with
    | none => rfl
    | some k => rfl
  · intro n to hto _ hc
    refine (step n to hto).trans ?_
    rw [if_neg (by rw [hc]; decide)]
  · intro n to hto _ hc _
    refine (step n to hto).trans ?_
    rw [if_pos hc]
  · intro n _ _
    show fW_leastStep_1 (n + 1) S (a : Int) f ((r : Int) * 256) ((2 ^ T.2 6 : Nat) : Int) = _
    rw [fW_leastStep_1, sp_all ht w.1, Option.bind_some, gC_pos (by omega) (by omega) (by omega) (by omega), if_pos (by omega)]
theorem frR_nRow {S' : ZS} {mv R : Nat} (h : frR 32 32 S S') (g : nRow S T mv R) : nRow S' T mv R := fun i hi s hs => (frR_A h (by omega) _).trans (g i hi s hs)
theorem sp_trace (ht : tAt S 1 T) (w : wfT T) (htb : tabl S T) {R : Nat} (hR : R ≤ 255) (h9 : zF S 24 9 = (R : Int)) (hrow : nRow S T (allP T) R) (hnn : 256 * (R + 1) ≤ nn S) (hn2 : nn S ≤ 65536) {n : Nat} (hn : 1000 ≤ n) : ∃ S', fW_traceFirst n S = some S' ∧ frR 32 32 S S' ∧ ∀ i : Nat, i < R → zA S' 32 (i : Int) = (((wayA T R (i + 1)).1 : Nat) : Int) := by
  have e := loop_inv (F := fun n (a : ZS × Int × Int) p => fW_traceFirst_1 n a.1 a.2.1 a.2.2 p) (fun i a => a.2.1 = (((wayA T R i).1 : Nat) : Int) ∧ a.2.2 = (wayA T R i).2 ∧ frR 32 32 S a.1 ∧ ∀ i' : Nat, i' < i → zA a.1 32 (i' : Int) = (((wayA T R (i' + 1)).1 : Nat) : Int)) (fun a => frR 32 32 S a ∧ ∀ i' : Nat, i' < R → zA a 32 (i' : Int) = (((wayA T R (i' + 1)).1 : Nat) : Int)) R 500 ?_ ?_ n (S, (T.2 8 : Int), (T.2 10 : Int)) (by omega) ⟨rfl, rfl, frR_rfl, fun i hi => absurd hi (by omega)⟩
  · obtain ⟨S', e1, e2, e3⟩ := e
    refine ⟨S', ?_, e2, e3⟩
    unfold fW_traceFirst
    rw [ht.1 8 (by omega) (by omega), ht.1 10 (by omega) (by omega)]
    have e1 : fW_traceFirst_1 n S (T.2 8 : Int) (T.2 10 : Int) 0 = some S' := e1
    rw [e1]
    rfl
  · rintro n i ⟨a, l2, l3⟩ hi hn ⟨h1, h2, h3, h4⟩
    have h1 : l2 = (((wayA T R i).1 : Nat) : Int) := h1
    have h2 : l3 = (wayA T R i).2 := h2
    have h3 : frR 32 32 S a := h3
    have h4 : ∀ i' : Nat, i' < i → zA a 32 (i' : Int) = (((wayA T R (i' + 1)).1 : Nat) : Int) := h4
    subst h1 h2
    obtain ⟨b1, b2, b3⟩ := way_bd w R i
    obtain ⟨c1, -, -⟩ := way_bd w R (i + 1)
    have ta := frR_tAt h3 ht (by omega)
    have tba : tabl a T := fr_tabl (frR_fr h3 1000) htb (by omega)
    have gb := gv_bd w.1 (wayA T R i).1 (wayTo T (wayA T R i).1 (wayA T R i).2 (R - 1 - i))
    have e9 : zF a 24 9 = (R : Int) := (frR_F h3 24 9).trans h9
    have en : nn a = nn S := frR_n h3
    have el := sp_least (S := a) ta w tba (R := R) (r := R - 1 - i) (frR_nRow h3 hrow) (by omega) (by omega) (by omega) b1 ⟨b2, b3⟩ (n := n) (by omega)
    rw [show ((R - 1 - i : Nat) : Int) = (R : Int) - 1 - (i : Int) by omega] at el
    have c1 : wayTo T (wayA T R i).1 (wayA T R i).2 (R - 1 - i) < 2 ^ T.2 6 := c1
    refine ⟨(wA a 32 (i : Int) ((wayTo T (wayA T R i).1 (wayA T R i).2 (R - 1 - i) : Nat) : Int), ((wayTo T (wayA T R i).1 (wayA T R i).2 (R - 1 - i) : Nat) : Int), min 999 ((wayA T R i).2 + gv T (wayA T R i).1 (wayTo T (wayA T R i).1 (wayA T R i).2 (R - 1 - i)))), ⟨rfl, rfl, frR_trans h3 (frR_wA _ _ _ (by omega) (by omega)), fun i' hi' => ?_⟩, ?_⟩
    · show zA (wA a 32 _ _) 32 _ = _
      rw [zA_wA, if_pos rfl]
      by_cases c : i' = i
      · subst c
        rw [if_pos rfl]
        rfl
      · rw [if_neg (by omega)]
        exact h4 i' (by omega)
    · show fW_traceFirst_1 (n + 1) a (((wayA T R i).1 : Nat) : Int) (wayA T R i).2 (i : Int) = fW_traceFirst_1 n (wA a 32 (i : Int) ((wayTo T (wayA T R i).1 (wayA T R i).2 (R - 1 - i) : Nat) : Int)) ((wayTo T (wayA T R i).1 (wayA T R i).2 (R - 1 - i) : Nat) : Int) (min 999 ((wayA T R i).2 + gv T (wayA T R i).1 (wayTo T (wayA T R i).1 (wayA T R i).2 (R - 1 - i)))) ((i : Int) + 1)
      rw [fW_traceFirst_1, e9, gC_pos (by omega) (by omega) (by omega) (by omega), if_pos (by omega), el, Option.bind_some, sp_given tba w.1 b1 c1, Option.bind_some, gC_pos (by omega) (by omega) (by omega) (by omega), gX_pos (by omega) (by omega) (by omega)]
  · rintro n ⟨a, l2, l3⟩ _ ⟨h1, h2, h3, h4⟩
    have h3 : frR 32 32 S a := h3
    have e9 : zF a 24 9 = (R : Int) := (frR_F h3 24 9).trans h9
    refine ⟨a, ?_, h3, h4⟩
    show fW_traceFirst_1 (n + 1) a l2 l3 (R : Int) = _
    rw [fW_traceFirst_1, e9, gC_pos (by omega) (by omega) (by omega) (by omega), if_neg (by omega)]
theorem sp_wanted (ht : tAt S 1 T) (w : wfT T) (hw : gWay S T) (hroom : gRoom S) {n : Nat} (hn : 4000 ≤ n) : ∃ S', fW_seekWanted n S = some S' ∧ gWay S' T ∧ sought S' T ∧ gRoom S' ∧ (∀ h : Nat, (h < 25 ∨ 32 < h) → S'.1 h = S.1 h) ∧ ∀ h j : Nat, h ≠ 24 → S'.2.1 h j = S.2.1 h j := by
  have hq := pw_le w.1.1
  have hp := pw_pos (T.2 6)
  have h8 := w.2.1.1
  obtain ⟨w14, w15, w16⟩ := hw
  unfold fW_seekWanted
  rcases w15 with h | ⟨h, hs⟩
  rotate_left
  · refine ⟨S, ?_, ⟨w14, Or.inr ⟨h, hs⟩, w16⟩, hs, hroom, fun _ _ => rfl, fun _ _ _ => rfl⟩
    rw [h, gC_pos (by omega) (by omega) (by omega) (by omega), if_neg (by omega)]
  rw [h, gC_pos (by omega) (by omega) (by omega) (by omega), if_pos rfl, sp_all ht w.1, Option.bind_some]
  obtain ⟨R, b, S1, a1, a2, a3, a4, a5, a6, a7, a8, a9, a10, a11⟩ := sp_seek (mv := allP T) ht w w14 (by unfold allP; omega) hroom (n := n) (by omega)
  have a1 : fW_seek n S ((2 ^ T.2 6 - 1 : Nat) : Int) = some (bZ b, S1) := a1
  have t1 := frW_tAt a9 ht
  have rn := room_nn a5
  have cur : zA S1 31 ((R : Int) * 256 + (T.2 8 : Int)) = Lr T (allP T) R (T.2 8) := by
    rw [show (R : Int) * 256 + (T.2 8 : Int) = 256 * (R : Int) + (T.2 8 : Int) by omega]
    exact a4 R (Nat.le_refl _) (T.2 8) h8
  have f13 : zF S1 24 13 = zF S 24 13 := frW_F a9 (by omega)
  have f16 : zF S1 24 16 = zF S 24 16 := frW_F a9 (by omega)
  rw [a1, Option.bind_some]
  show ∃ S', gB (bZ b) _ = some S' ∧ _
  simp only [gB_b, gC_b]
  rw [a3, t1.1 8 (by omega) (by omega), gX_pos (by omega) (by omega) (by omega), cur]
  cases b with
  | false =>
    obtain ⟨z1, z2⟩ := a11 rfl
    refine ⟨wF (wF (wF (wF S1 24 8 0) 24 10 (Lr T (allP T) R (T.2 8))) 24 9 0) 24 15 1, ?_, ?_, ?_, ?_, fun x hx => a9.1 x (by omega), fun x j hx => ?_⟩
    · rw [if_pos (show bZ false = 0 from rfl), Option.bind_some, if_pos (show bZ false = 0 from rfl), gB_1]
      rfl
    · refine ⟨Or.inr ⟨a8, a7⟩, Or.inr ⟨rfl, ?_⟩, ?_⟩
      · unfold sought
        rw [z1]
        exact ⟨rfl, rfl, z2.symm⟩
      · show zF S1 24 16 = 0 ∨ (zF S1 24 16 = 1 ∧ zF S1 24 13 = _)
        rw [f16, f13]
        exact w16
    · unfold sought
      rw [z1]
      exact ⟨rfl, rfl, z2.symm⟩
    · exact ex_gRoom rfl a5
    · show (if j = 15 then (if x = 24 then 1 else if j = 9 then (if x = 24 then 0 else if j = 10 then (if x = 24 then Lr T (allP T) R (T.2 8) else if j = 8 then (if x = 24 then 0 else S1.2.1 x j) else S1.2.1 x j) else if j = 8 then (if x = 24 then 0 else S1.2.1 x j) else S1.2.1 x j) else if j = 10 then (if x = 24 then Lr T (allP T) R (T.2 8) else if j = 8 then (if x = 24 then 0 else S1.2.1 x j) else S1.2.1 x j) else if j = 8 then (if x = 24 then 0 else S1.2.1 x j) else S1.2.1 x j) else if j = 9 then (if x = 24 then 0 else if j = 10 then (if x = 24 then Lr T (allP T) R (T.2 8) else if j = 8 then (if x = 24 then 0 else S1.2.1 x j) else S1.2.1 x j) else if j = 8 then (if x = 24 then 0 else S1.2.1 x j) else S1.2.1 x j) else if j = 10 then (if x = 24 then Lr T (allP T) R (T.2 8) else if j = 8 then (if x = 24 then 0 else S1.2.1 x j) else S1.2.1 x j) else if j = 8 then (if x = 24 then 0 else S1.2.1 x j) else S1.2.1 x j) = S.2.1 x j
      simp only [if_neg hx, ite_self]
      exact a9.2 x j (Or.inl hx)
  | true =>
    have z1 := a10 rfl
    have f3 : fr 1000 0 24 S1 (wF (wF (wF S1 24 8 1) 24 10 (Lr T (allP T) R (T.2 8))) 24 9 (R : Int)) := fr_trans (fr_trans (fr_wF _ 8 _) (fr_wF _ 10 _)) (fr_wF _ 9 _)
    have g9 : zF (wF (wF (wF S1 24 8 1) 24 10 (Lr T (allP T) R (T.2 8))) 24 9 (R : Int)) 24 9 = (R : Int) := rfl
    have g8 : zF (wF (wF (wF S1 24 8 1) 24 10 (Lr T (allP T) R (T.2 8))) 24 9 (R : Int)) 24 8 = 1 := rfl
    have g14 : zF (wF (wF (wF S1 24 8 1) 24 10 (Lr T (allP T) R (T.2 8))) 24 9 (R : Int)) 24 14 = 1 := a8
    have g16 : zF (wF (wF (wF S1 24 8 1) 24 10 (Lr T (allP T) R (T.2 8))) 24 9 (R : Int)) 24 16 = zF S 24 16 := f16
    have g13 : zF (wF (wF (wF S1 24 8 1) 24 10 (Lr T (allP T) R (T.2 8))) 24 9 (R : Int)) 24 13 = zF S 24 13 := f13
    have r3 : nRow (wF (wF (wF S1 24 8 1) 24 10 (Lr T (allP T) R (T.2 8))) 24 9 (R : Int)) T (allP T) R := a4
    have n3 : nn (wF (wF (wF S1 24 8 1) 24 10 (Lr T (allP T) R (T.2 8))) 24 9 (R : Int)) = nn S1 := rfl
    have tb3 : tabl (wF (wF (wF S1 24 8 1) 24 10 (Lr T (allP T) R (T.2 8))) 24 9 (R : Int)) T := a7
    have x3 : (wF (wF (wF S1 24 8 1) 24 10 (Lr T (allP T) R (T.2 8))) 24 9 (R : Int)).2.2 = S1.2.2 := rfl
    rw [if_neg (show ¬ bZ true = 0 by decide), Option.bind_some, if_neg (show ¬ bZ true = 0 by decide)]
    show ∃ S', (fW_traceFirst n (wF (wF (wF S1 24 8 1) 24 10 (Lr T (allP T) R (T.2 8))) 24 9 (R : Int))).bind _ = some S' ∧ _
    generalize wF (wF (wF S1 24 8 1) 24 10 (Lr T (allP T) R (T.2 8))) 24 9 (R : Int) = Q at *
    have tq := fr_tAt f3 t1 (by omega) (by omega)
    obtain ⟨S2, k1, k2, k3⟩ := sp_trace tq w tb3 a2 g9 r3 (by omega) (by omega) (n := n) (by omega)
    have F2 : ∀ j, j ≠ 15 → zF (wF S2 24 15 1) 24 j = zF Q 24 j := fun j hj => by rw [zF_wF, if_neg hj]; exact frR_F k2 24 j
    have so : sought (wF S2 24 15 1) T := by
      unfold sought
      rw [z1]
      exact ⟨(F2 8 (by omega)).trans g8, (F2 9 (by omega)).trans g9, k3⟩
    refine ⟨wF S2 24 15 1, ?_, ?_, so, ?_, fun x hx => ?_, fun x j hx => ?_⟩
    · rw [k1, Option.bind_some, gB_1]
    · refine ⟨Or.inr ⟨(F2 14 (by omega)).trans g14, ?_⟩, Or.inr ⟨rfl, so⟩, ?_⟩
      · exact fun s hs => fr_tabl (frR_fr k2 1000) tb3 (by omega) s hs
      · unfold shared
        rw [F2 16 (by omega), F2 13 (by omega), g16, g13]
        exact w16
    · refine ex_gRoom (S := S1) ?_ a5
      show S2.2.2 = S1.2.2
      rw [k2.2, x3]
    · show S2.1 x = S.1 x
      rw [k2.1 x (by omega), f3.1 x (by omega)]
      exact a9.1 x (by omega)
    · show (if j = 15 then (if x = 24 then 1 else S2.2.1 x j) else S2.2.1 x j) = S.2.1 x j
      rw [if_neg hx, ite_self, k2.2, f3.2.1 x j hx]
      exact a9.2 x j (Or.inl hx)
end TR
