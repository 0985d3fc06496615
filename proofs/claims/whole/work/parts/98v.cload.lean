/-! ===== the class loads ===== -/
section CLD
variable {T : TW} {go come : Nat} {S : ZS}
theorem sc_fill : ∀ (j p n : Nat) (S : ZS), p + j = 72 → j < n → (∀ i : Nat, i < p → zA S 42 (i : Int) = 0) → ∃ S', fA_fill_42_1 n S 0 (p : Int) 72 = some S' ∧ frO 42 S S' ∧ ∀ i : Nat, i < 72 → zA S' 42 (i : Int) = 0 := by
  intro j
  induction j with
  | zero =>
    intro p n S h1 h2 h
    obtain ⟨k, rfl⟩ : ∃ k, n = k + 1 := ⟨n - 1, by omega⟩
    refine ⟨S, ?_, frO_rfl, fun i hi => h i (by omega)⟩
    rw [fA_fill_42_1, gC_pos (by omega) (by omega) (by omega) (by omega), if_neg (by omega)]
  | succ j ih =>
    intro p n S h1 h2 h
    obtain ⟨k, rfl⟩ : ∃ k, n = k + 1 := ⟨n - 1, by omega⟩
    rw [fA_fill_42_1, gC_pos (by omega) (by omega) (by omega) (by omega), if_pos (by omega), gX_pos (by omega) (by omega) (by omega)]
    obtain ⟨S', g1, g2, g3⟩ := ih (p + 1) k (wA S 42 (p : Int) 0) (by omega) (by omega) (fun i hi => by
      rw [zA_wA, if_pos rfl]
      by_cases c : i = p
      · rw [if_pos (by omega)]
      · rw [if_neg (by omega)]
        exact h i (by omega))
    exact ⟨S', g1, frO_trans (frO_wA _ _ _ _) g2, g3⟩
def ldI (T : TW) (go come p : Nat) (S : ZS) : Prop := zF S 33 9 = ((1 + ctn (isHb T go) p : Nat) : Int) ∧ zF S 33 10 = ((ctn (isHb T come) p : Nat) : Int) ∧ zF S 33 12 = (T.2 10 : Int) + sumTo (LpM T go) p ∧ zF S 33 11 = sumTo (WpM T come) p ∧ (∀ k : Nat, k < 1 + ctn (isHb T go) p → zA S 34 (k : Int) = plc T (tab (isHb T go) 1 (fun _ => 8) p k) ∧ zA S 35 (k : Int) = LpM T go (tab (isHb T go) 1 (fun _ => 8) p k)) ∧ (∀ l : Nat, l < ctn (isHb T come) p → zA S 38 (l : Int) = (T.1 3 (tab (isHb T come) 0 (fun _ => 0) p l) : Int) ∧ zA S 39 (l : Int) = WpM T come (tab (isHb T come) 0 (fun _ => 0) p l)) ∧ ∀ i : Nat, i < 72 → zA S 42 (i : Int) = 0
theorem ctn_t {P : Nat → Bool} {p : Nat} (h : P p = true) : ctn P (p + 1) = ctn P p + 1 := by
  show ctn P p + (if P p = true then 1 else 0) = _
  rw [if_pos h]
theorem ctn_f {P : Nat → Bool} {p : Nat} (h : P p = false) : ctn P (p + 1) = ctn P p := by
  show ctn P p + (if P p = true then 1 else 0) = _
  rw [if_neg (by rw [h]; decide)]
  rfl
theorem ld_same {p : Nat} (hp : p < 8) (h1 : isHb T go p = false) (h2 : isHb T come p = false) (h : ldI T go come p S) : ldI T go come (p + 1) S := by
  obtain ⟨a1, a2, a3, a4, a5, a6, a7⟩ := h
  unfold ldI
  rw [ctn_f h1, ctn_f h2]
  refine ⟨a1, a2, ?_, ?_, fun k hk => ?_, fun l hl => ?_, a7⟩
  · rw [a3]
    show _ = _ + (sumTo (LpM T go) p + LpM T go p)
    rw [LpM_z hp h1]
    omega
  · rw [a4]
    show _ = sumTo (WpM T come) p + WpM T come p
    rw [WpM_z h2]
    omega
  · rw [tab_old hk]
    exact a5 k hk
  · rw [tab_old (by omega)]
    exact a6 l hl
theorem ld_heap {p : Nat} (hp : p < 8) (h1 : isHb T go p = true) (h2 : isHb T come p = false) (h : ldI T go come p S) (h9 : ctn (isHb T go) p < 8) (n : Nat) : ∃ S', fC_addHeap n S (T.1 3 p : Int) (gg T p) = some S' ∧ fr 34 42 33 S S' ∧ ldI T go come (p + 1) S' := by
  obtain ⟨a1, a2, a3, a4, a5, a6, a7⟩ := h
  refine ⟨wF (wF (wA (wA S 34 ((1 + ctn (isHb T go) p : Nat) : Int) (T.1 3 p : Int)) 35 ((1 + ctn (isHb T go) p : Nat) : Int) (gg T p)) 33 9 (((1 + ctn (isHb T go) p : Nat) : Int) + 1)) 33 12 ((T.2 10 : Int) + sumTo (LpM T go) p + gg T p), ?_, ?_, ?_⟩
  · unfold fC_addHeap
    rw [a1, a3, gX_pos (by omega) (by omega) (by omega), gX_pos (by omega) (by omega) (by omega)]
  · exact fr_trans (fr_trans (fr_trans (fr_wA _ _ _ (by omega) (by omega)) (fr_wA _ _ _ (by omega) (by omega))) (fr_wF _ 9 _)) (fr_wF _ 12 _)
  · unfold ldI
    rw [ctn_t h1, ctn_f h2]
    have lp : LpM T go p = gg T p := by
      unfold LpM
      rw [if_neg (by omega), if_pos h1]
    have pc : plc T p = (T.1 3 p : Int) := if_neg (by omega)
    refine ⟨?_, ?_, ?_, ?_, fun k hk => ?_, fun l hl => ?_, fun i hi => ?_⟩
    · rw [zF_o _ _ (by omega), zF_s]
      omega
    · rw [zF_o _ _ (by omega), zF_o _ _ (by omega)]
      exact a2
    · rw [zF_s]
      show _ = _ + (sumTo (LpM T go) p + LpM T go p)
      rw [lp]
      omega
    · rw [zF_o _ _ (by omega), zF_o _ _ (by omega)]
      show zF S 33 11 = sumTo (WpM T come) p + WpM T come p
      rw [a4, WpM_z h2]
      omega
    · rw [zA_wF, zA_wF, zA_wF, zA_wF, zA_2a _ (by omega), zA_2b _ (by omega)]
      by_cases c : k = 1 + ctn (isHb T go) p
      · rw [if_pos (by omega), if_pos (by omega), c, tab_new h1, lp, pc]
        exact ⟨rfl, rfl⟩
      · rw [if_neg (by omega), if_neg (by omega), tab_old (by omega)]
        exact a5 k (by omega)
    · rw [zA_wF, zA_wF, zA_wF, zA_wF, zA_wA, if_neg (by omega), zA_wA, if_neg (by omega), zA_wA, if_neg (by omega), zA_wA, if_neg (by omega), tab_old (by omega)]
      exact a6 l hl
    · rw [zA_wF, zA_wF, zA_wA, if_neg (by omega), zA_wA, if_neg (by omega)]
      exact a7 i hi
theorem ld_site {p : Nat} (hp : p < 8) (h1 : isHb T go p = false) (h2 : isHb T come p = true) (h : ldI T go come p S) (h9 : ctn (isHb T come) p < 8) (n : Nat) : ∃ S', fC_addSite n S (T.1 3 p : Int) (T.1 2 p : Int) = some S' ∧ fr 34 42 33 S S' ∧ ldI T go come (p + 1) S' := by
  obtain ⟨a1, a2, a3, a4, a5, a6, a7⟩ := h
  refine ⟨wF (wF (wA (wA S 38 ((ctn (isHb T come) p : Nat) : Int) (T.1 3 p : Int)) 39 ((ctn (isHb T come) p : Nat) : Int) (T.1 2 p : Int)) 33 10 (((ctn (isHb T come) p : Nat) : Int) + 1)) 33 11 (sumTo (WpM T come) p + (T.1 2 p : Int)), ?_, ?_, ?_⟩
  · unfold fC_addSite
    rw [a2, a4, gX_pos (by omega) (by omega) (by omega), gX_pos (by omega) (by omega) (by omega)]
  · exact fr_trans (fr_trans (fr_trans (fr_wA _ _ _ (by omega) (by omega)) (fr_wA _ _ _ (by omega) (by omega))) (fr_wF _ 10 _)) (fr_wF _ 11 _)
  · unfold ldI
    rw [ctn_f h1, ctn_t h2]
    have wp : WpM T come p = (T.1 2 p : Int) := if_pos h2
    refine ⟨?_, ?_, ?_, ?_, fun k hk => ?_, fun l hl => ?_, fun i hi => ?_⟩
    · rw [zF_o _ _ (by omega), zF_o _ _ (by omega)]
      exact a1
    · rw [zF_o _ _ (by omega), zF_s]
      omega
    · rw [zF_o _ _ (by omega), zF_o _ _ (by omega)]
      show zF S 33 12 = _ + (sumTo (LpM T go) p + LpM T go p)
      rw [a3, LpM_z hp h1]
      omega
    · rw [zF_s]
      show _ = sumTo (WpM T come) p + WpM T come p
      rw [wp]
    · rw [zA_wF, zA_wF, zA_wF, zA_wF, zA_wA, if_neg (by omega), zA_wA, if_neg (by omega), zA_wA, if_neg (by omega), zA_wA, if_neg (by omega), tab_old (by omega)]
      exact a5 k hk
    · rw [zA_wF, zA_wF, zA_wF, zA_wF, zA_2a _ (by omega), zA_2b _ (by omega)]
      by_cases c : l = ctn (isHb T come) p
      · have tn := tab_new (P := isHb T come) (c0 := 0) (t0 := fun _ => 0) h2
        rw [Nat.zero_add] at tn
        rw [if_pos (by omega), if_pos (by omega), c, tn, wp]
        exact ⟨rfl, rfl⟩
      · rw [if_neg (by omega), if_neg (by omega), tab_old (by omega)]
        exact a6 l (by omega)
    · rw [zA_wF, zA_wF, zA_wA, if_neg (by omega), zA_wA, if_neg (by omega)]
      exact a7 i hi
theorem isHb_v {p : Nat} (hp : p < T.2 6) : isHb T go p = (go.testBit p && !(T.1 1 p == 2)) := by
  unfold isHb
  rw [decide_eq_true hp, Bool.true_and]
theorem sc_load1 (w : wfR T) (hg : go < 256) (hc : come < 256) (ap : apart go come) : ∀ (j p n : Nat) (S : ZS), p + j = T.2 6 → j < n → tAt S 1 T → ldI T go come p S → ∃ S', fC_load_1 n S (go : Int) (come : Int) (p : Int) = some S' ∧ fr 34 42 33 S S' ∧ ldI T go come (T.2 6) S' := by
  have w6 := w.1
  intro j
  induction j with
  | zero =>
    intro p n S h1 h2 ht h
    obtain ⟨k, rfl⟩ : ∃ k, n = k + 1 := ⟨n - 1, by omega⟩
    obtain rfl : p = T.2 6 := by omega
    refine ⟨S, ?_, fr_rfl, h⟩
    rw [fC_load_1, ht.1 6 (by omega) (by omega), gC_pos (by omega) (by omega) (by omega) (by omega), if_neg (by omega)]
  | succ j ih =>
    intro p n S h1 h2 ht h
    obtain ⟨k, rfl⟩ : ∃ k, n = k + 1 := ⟨n - 1, by omega⟩
    have hp : p < T.2 6 := (by omega)
    have wp := w.2.2.1 p hp
    have vg := isHb_v (go := go) hp
    have vc := isHb_v (go := come) hp
    have cg := ctn_le (isHb T go) p
    have cc := ctn_le (isHb T come) p
    have r2 : zA S 2 (p : Int) = (T.1 1 p : Int) := ht.2.1 1 p (by omega) (by omega) hp
    have r3 : zA S 3 (p : Int) = (T.1 2 p : Int) := ht.2.1 2 p (by omega) (by omega) hp
    have r4 : zA S 4 (p : Int) = (T.1 3 p : Int) := ht.2.1 3 p (by omega) (by omega) hp
    rw [fC_load_1, ht.1 6 (by omega) (by omega), gC_pos (x := (p : Int)) (y := (T.2 6 : Int)) (by omega) (by omega) (by omega) (by omega), if_pos (by omega), gX_pos (by omega) (by omega) (by omega), r2, gC_pos (x := (T.1 1 p : Int)) (y := 2) (by omega) (by omega) (by omega) (by omega)]
    by_cases c2 : T.1 1 p = 2
    · rw [if_pos (by omega)]
      have e2 : (T.1 1 p == 2) = true := by rw [c2]; rfl
      rw [e2, Bool.not_true, Bool.and_false] at vg vc
      exact ih (p + 1) k S (by omega) (by omega) ht (ld_same (by omega) vg vc h)
    · have e2 : (T.1 1 p == 2) = false := beq_false_of_ne c2
      rw [e2, Bool.not_false, Bool.and_true] at vg vc
      rw [if_neg (by omega), zbit_n (by omega) (by omega), zbit_n (by omega) (by omega)]
      cases bg : go.testBit p with
      | true =>
        have bc : come.testBit p = false := by
          cases b : come.testBit p with
          | false => rfl
          | true => exact absurd ⟨bg, b⟩ (apart_bit ap p)
        rw [bg] at vg
        rw [bc] at vc
        obtain ⟨S1, e1, e2', e3⟩ := ld_heap (by omega) vg vc h (by omega) k
        rw [if_pos (show true = true from rfl), gC_pos (x := 1) (y := 1) (by omega) (by omega) (by omega) (by omega), if_pos (show (1 : Int) = 1 from rfl), gX_pos (by omega) (by omega) (by omega), sp_gg ht w hp, Option.bind_some, r4, e1, Option.bind_some]
        obtain ⟨S', g1, g2, g3⟩ := ih (p + 1) k S1 (by omega) (by omega) (fr_tAt e2' ht (by omega) (by omega)) e3
        exact ⟨S', g1, fr_trans e2' g2, g3⟩
      | false =>
        rw [bg] at vg
        rw [if_neg Bool.false_ne_true, gC_pos (x := 0) (y := 1) (by omega) (by omega) (by omega) (by omega), if_neg (show ¬ (0 : Int) = 1 by decide)]
        cases bc : come.testBit p with
        | true =>
          rw [bc] at vc
          obtain ⟨S1, e1, e2', e3⟩ := ld_site (by omega) vg vc h (by omega) k
          rw [if_pos (show true = true from rfl), gC_pos (x := 1) (y := 1) (by omega) (by omega) (by omega) (by omega), if_pos (show (1 : Int) = 1 from rfl), gX_pos (by omega) (by omega) (by omega), gX_pos (by omega) (by omega) (by omega), r3, r4, e1, Option.bind_some]
          obtain ⟨S', g1, g2, g3⟩ := ih (p + 1) k S1 (by omega) (by omega) (fr_tAt e2' ht (by omega) (by omega)) e3
          exact ⟨S', g1, fr_trans e2' g2, g3⟩
        | false =>
          rw [bc] at vc
          rw [if_neg Bool.false_ne_true, gC_pos (x := 0) (y := 1) (by omega) (by omega) (by omega) (by omega), if_neg (show ¬ (0 : Int) = 1 by decide)]
          exact ih (p + 1) k S (by omega) (by omega) ht (ld_same (by omega) vg vc h)
theorem sc_load (w : wfR T) (wn : wfN T) (ht : tAt S 1 T) (hg : go < 256) (hc : come < 256) (ap : apart go come) {n : Nat} (hn : 100 ≤ n) : ∃ S', fC_load n S (go : Int) (come : Int) = some S' ∧ fr 34 42 33 S S' ∧ ldI T go come (T.2 6) S' := by
  have w6 := w.1
  generalize hS0 : wF (wF (wF (wF S 33 9 0) 33 10 0) 33 11 0) 33 12 0 = S0
  have f0 : fr 34 42 33 S S0 := by rw [← hS0]; exact fr_trans (fr_trans (fr_trans (fr_wF _ 9 _) (fr_wF _ 10 _)) (fr_wF _ 11 _)) (fr_wF _ 12 _)
  have z9 : zF S0 33 9 = 0 := by rw [← hS0, zF_o _ _ (by omega), zF_o _ _ (by omega), zF_o _ _ (by omega), zF_s]
  have z10 : zF S0 33 10 = 0 := by rw [← hS0, zF_o _ _ (by omega), zF_o _ _ (by omega), zF_s]
  have z11 : zF S0 33 11 = 0 := by rw [← hS0, zF_o _ _ (by omega), zF_s]
  have z12 : zF S0 33 12 = 0 := by rw [← hS0, zF_s]
  obtain ⟨S1, a1, a2, a3⟩ := sc_fill 72 0 n S0 (by omega) (by omega) (fun i hi => absurd hi (by omega))
  rw [show ((0 : Nat) : Int) = 0 from rfl] at a1
  have t1 : tAt S1 1 T := fr_tAt (frO_fr a2 (lo := 34) (hi := 42) (ob := 33) (by omega) (by omega)) (fr_tAt f0 ht (by omega) (by omega)) (by omega) (by omega)
  have y9 : zF S1 33 9 = 0 := (frO_F a2 _ _).trans z9
  have y10 : zF S1 33 10 = 0 := (frO_F a2 _ _).trans z10
  have y11 : zF S1 33 11 = 0 := (frO_F a2 _ _).trans z11
  have y12 : zF S1 33 12 = 0 := (frO_F a2 _ _).trans z12
  generalize hS2 : wF (wF (wA (wA S1 34 0 0) 35 0 (T.2 10 : Int)) 33 9 (0 + 1)) 33 12 (0 + (T.2 10 : Int)) = S2
  have e2 : fC_addHeap n S1 0 (T.2 10 : Int) = some S2 := by
    unfold fC_addHeap
    rw [y9, y12, gX_pos (by omega) (by omega) (by omega), gX_pos (by omega) (by omega) (by omega), hS2]
  have f2 : fr 34 42 33 S1 S2 := by rw [← hS2]; exact fr_trans (fr_trans (fr_trans (fr_wA _ _ _ (by omega) (by omega)) (fr_wA _ _ _ (by omega) (by omega))) (fr_wF _ 9 _)) (fr_wF _ 12 _)
  have i0 : ldI T go come 0 S2 := by
    rw [← hS2]
    refine ⟨?_, ?_, ?_, ?_, fun k hk => ?_, fun l hl => absurd hl (by show ¬ l < 0; omega), fun i hi => ?_⟩
    · rw [zF_o _ _ (by omega), zF_s]
      rfl
    · rw [zF_o _ _ (by omega), zF_o _ _ (by omega)]
      exact y10
    · rw [zF_s]
      show _ = (T.2 10 : Int) + 0
      omega
    · rw [zF_o _ _ (by omega), zF_o _ _ (by omega)]
      exact y11
    · have hk : k < 1 + 0 := hk
      obtain rfl : k = 0 := by omega
      rw [zA_wF, zA_wF, zA_wF, zA_wF, zA_2a _ (by omega), zA_2b _ (by omega), if_pos (show ((0 : Nat) : Int) = 0 from rfl), if_pos (show ((0 : Nat) : Int) = 0 from rfl)]
      exact ⟨rfl, rfl⟩
    · rw [zA_wF, zA_wF, zA_wA, if_neg (by omega), zA_wA, if_neg (by omega)]
      exact a3 i hi
  obtain ⟨S3, b1, b2, b3⟩ := sc_load1 w hg hc ap (T.2 6) 0 n S2 (by omega) (by omega) (fr_tAt f2 t1 (by omega) (by omega)) i0
  rw [show ((0 : Nat) : Int) = 0 from rfl] at b1
  refine ⟨S3, ?_, fr_trans f0 (fr_trans (frO_fr a2 (by omega) (by omega)) (fr_trans f2 b2)), b3⟩
  unfold fC_load fA_fill_42
  rw [hS0, a1, Option.bind_some, Option.bind_some, t1.1 10 (by omega) (by omega), e2, Option.bind_some, b1, Option.bind_some]
end CLD
