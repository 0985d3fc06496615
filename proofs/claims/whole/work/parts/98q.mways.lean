/-! ===== the reference finds ways ===== -/
def frN (lo hi : Nat) (S S' : ZS) : Prop := (∀ h : Nat, (h < lo ∨ hi < h) → S'.1 h = S.1 h) ∧ S'.2 = S.2
theorem frN_rfl {lo hi : Nat} {S : ZS} : frN lo hi S S := ⟨fun _ _ => rfl, rfl⟩
theorem frN_trans {lo hi : Nat} {S S1 S2 : ZS} (f : frN lo hi S S1) (g : frN lo hi S1 S2) : frN lo hi S S2 := ⟨fun h a => (g.1 h a).trans (f.1 h a), g.2.trans f.2⟩
theorem frN_wA {lo hi : Nat} (S : ZS) {h : Nat} (x v : Int) (h1 : lo ≤ h) (h2 : h ≤ hi) : frN lo hi S (wA S h x v) := ⟨fun h' hh => by show (if h' = h then _ else _) = _; rw [if_neg (by omega)], rfl⟩
theorem frN_A {lo hi : Nat} {S S' : ZS} (f : frN lo hi S S') {h : Nat} (a : h < lo ∨ hi < h) (i : Int) : zA S' h i = zA S h i := congrFun (f.1 h a) i
theorem frN_F {lo hi : Nat} {S S' : ZS} (f : frN lo hi S S') (h j : Nat) : zF S' h j = zF S h j := by
  show S'.2.1 h j = S.2.1 h j
  rw [f.2]
theorem frN_up {lo hi lo' hi' : Nat} {S S' : ZS} (f : frN lo hi S S') (h1 : lo' ≤ lo) (h2 : hi ≤ hi') : frN lo' hi' S S' := ⟨fun h a => f.1 h (by omega), f.2⟩
theorem frN_m {lo hi : Nat} {S S' : ZS} {T : TW} (f : frN lo hi S S') (h1 : 51 < lo) (h : mAt S T) : mAt S' T := by
  obtain ⟨⟨a1, a2, a3, a4, a5, a6⟩, b, c⟩ := h
  exact ⟨⟨(frN_F f _ _).trans a1, (frN_F f _ _).trans a2, (frN_F f _ _).trans a3, (frN_F f _ _).trans a4, (frN_F f _ _).trans a5, (frN_F f _ _).trans a6⟩, fun i p x y => (frN_A f (by omega) _).trans (b i p x y), fun p x => (frN_A f (by omega) _).trans (c p x)⟩
def mLab (S : ZS) (X : Lb) : Prop := ∀ v : Nat, v < 17 → zA S 64 (v : Int) = X.1 v ∧ zA S 65 (v : Int) = X.2 v
def mRep (B : Nat) (S : ZS) (m : Nat → Nat → Int) : Prop := ∀ a b : Nat, a < 9 → b < B → zA S 63 (8 * (a : Int) + (b : Int)) = m a b
def plc (T : TW) (a : Nat) : Int := if a = 8 then 0 else (T.1 3 a : Int)
def okM (T : TW) (a : Nat) : Bool := decide (a < T.2 6 ∨ a = 8)
def dM (T : TW) (a b : Nat) : Int := if okM T a = true then zabs (plc T a - (T.1 3 b : Int)) else 0
section MWA
variable {S : ZS} {X : Lb} {T : TW} {m : Nat → Nat → Int}
theorem sm_apart (h : mAt S T) (w : wfR T) {a b : Nat} (ha : okM T a = true) (hb : b < T.2 6) (n : Nat) : fM_apart n S (a : Int) (b : Int) = some (dM T a b) := by
  have ha0 := ha
  have ha := of_decide_eq_true ha
  have w6 := w.1
  have wb := w.2.2.1 b hb
  have e1 : fM_placeOf n S (a : Int) = some (plc T a) := by
    unfold fM_placeOf plc
    rw [gC_pos (x := (a : Int)) (y := 8) (by omega) (by omega) (by omega) (by omega)]
    by_cases c : a = 8
    · rw [if_pos (by omega), if_pos c]
    · have := h.2.1 2 a (by omega) (by omega)
      have this : zA S 50 (5 * (a : Int) + 2) = _ := this
      rw [if_neg (by omega), if_neg c, gX_pos (by omega) (by omega) (by omega), this]
  have e2 : zA S 50 (5 * (b : Int) + 2) = (T.1 3 b : Int) := h.2.1 2 b (by omega) hb
  have pb : 0 ≤ plc T a ∧ plc T a ≤ 99 := by
    unfold plc
    by_cases c : a = 8
    · rw [if_pos c]; omega
    · rw [if_neg c]
      have := w.2.2.1 a (by omega)
      omega
  unfold fM_apart dM zabs
  rw [if_pos ha0, e1, Option.bind_some, gX_pos (by omega) (by omega) (by omega), e2, gC_pos (by omega) (by omega) (by omega) (by omega)]
  by_cases c : plc T a - (T.1 3 b : Int) < 0
  · rw [if_pos c, if_neg (by omega)]
  · rw [if_neg c, if_pos (by omega)]
theorem dM_bd (w : wfR T) {a b : Nat} (ha : okM T a = true) (hb : b < T.2 6) : 0 ≤ dM T a b ∧ dM T a b ≤ 99 := by
  have ha0 := ha
  have ha := of_decide_eq_true ha
  have wb := w.2.2.1 b hb
  have pb : 0 ≤ plc T a ∧ plc T a ≤ 99 := by
    unfold plc
    by_cases c : a = 8
    · rw [if_pos c]; omega
    · rw [if_neg c]
      have := w.2.2.1 a (by omega)
      omega
  unfold dM zabs
  rw [if_pos ha0]
  split <;> omega
theorem sm_tryN (lb : mLab S X) {u v : Nat} {c : Int} (hv : v < 17) (hx : X.1 u < 1000000) (h1 : -2147483648 ≤ X.1 u + c) (h2 : X.1 u + c < 2147483648) (h3 : 0 ≤ X.1 v) (h4 : X.1 v ≤ 1000000) (n : Nat) : ∃ S1, fM_tryNode n S (v : Int) (X.1 u + c) (u : Int) = some (bZ (cnd X (u, v, c)), S1) ∧ frN 64 65 S S1 ∧ mLab S1 (rlx X (u, v, c)) := by
  unfold fM_tryNode
  rw [gX_pos (by omega) (by omega) (by omega), (lb v hv).1, gC_pos (x := X.1 u + c) (y := X.1 v) (by omega) (by omega) (by omega) (by omega)]
  by_cases k : X.1 u + c < X.1 v
  · have ct : cnd X (u, v, c) = true := decide_eq_true ⟨hx, k⟩
    rw [if_pos k, gX_pos (by omega) (by omega) (by omega), gX_pos (by omega) (by omega) (by omega), gB_1, ct]
    refine ⟨_, rfl, frN_trans (frN_wA _ _ _ (by omega) (by omega)) (frN_wA _ _ _ (by omega) (by omega)), ?_⟩
    rw [show rlx X (u, v, c) = (gUp X.1 v (X.1 u + c), gUp X.2 v (u : Int)) from if_pos ct]
    intro i hi
    rw [zA_2a _ (by omega), zA_2b _ (by omega)]
    show _ = gUp _ _ _ _ ∧ _ = gUp _ _ _ _
    by_cases e : i = v
    · subst e
      rw [if_pos rfl, if_pos rfl, gUp_s, gUp_s]
      exact ⟨rfl, rfl⟩
    · rw [if_neg (by omega), if_neg (by omega), gUp_o _ _ e, gUp_o _ _ e]
      exact lb i hi
  · have cf : cnd X (u, v, c) = false := decide_eq_false (fun z => k z.2)
    rw [if_neg k, gB_0, cf, rlx_f cf]
    exact ⟨S, rfl, frN_rfl, lb⟩
def disT (n : Nat) (S : ZS) (l2 l3 : Int) : Option Int := gC l2 (zF S 49 1) (if l2 < (zF S 49 1) then (fM_apart n S l2 l3).bind fun z6 => some z6 else gC l2 8 (if l2 = 8 then (fM_apart n S l2 l3).bind fun z7 => some z7 else some 1000000))
def tryA (n : Nat) (S : ZS) (l1 l2 l3 z1 : Int) : Option (Int × ZS) := gC z1 1000000 (if z1 < 1000000 then gX l2 17 (gC (zA S 64 l2) 1000000 (if (zA S 64 l2) < 1000000 then gX l2 17 ((fM_tryNode n S (9 + l3) ((zA S 64 l2) + z1) l2).bind fun z5 => gC z5.1 0 (if z5.1 = 0 then gC l1 0 (if l1 = 0 then some (0, z5.2) else some (1, z5.2)) else some (1, z5.2))) else some (l1, S))) else some (l1, S))
def tryB (n : Nat) (z2 : Int × ZS) (l2 l3 z1 : Int) : Option (Int × ZS) := gC z1 1000000 (if z1 < 1000000 then gX (9 + l3) 17 (gC (zA z2.2 64 (9 + l3)) 1000000 (if (zA z2.2 64 (9 + l3)) < 1000000 then gX ((8 * l2) + l3) 72 (gC (zA z2.2 63 ((8 * l2) + l3)) 0 (if 0 < (zA z2.2 63 ((8 * l2) + l3)) then gX (9 + l3) 17 ((fM_tryNode n z2.2 l2 ((zA z2.2 64 (9 + l3)) - z1) (9 + l3)).bind fun z4 => gC z4.1 0 (if z4.1 = 0 then gC z2.1 0 (if z2.1 = 0 then some (0, z4.2) else some (1, z4.2)) else some (1, z4.2))) else some (z2.1, z2.2))) else some (z2.1, z2.2))) else some (z2.1, z2.2))
theorem f4_eq (n : Nat) (S : ZS) (l1 l2 l3 : Int) : fM_findWay_4 (n + 1) S l1 l2 l3 = gC l3 (zF S 49 1) (if l3 < (zF S 49 1) then (disT n S l2 l3).bind fun z1 => (tryA n S l1 l2 l3 z1).bind fun z2 => (tryB n z2 l2 l3 z1).bind fun z3 => fM_findWay_4 n z3.2 z3.1 l2 (l3 + 1) else some (l1, S)) := by
  rw [fM_findWay_4]
  rfl
theorem flag_eq (f c : Bool) (S1 : ZS) : gC (bZ c) 0 (if bZ c = 0 then gC (bZ f) 0 (if bZ f = 0 then some ((0 : Int), S1) else some (1, S1)) else some (1, S1)) = some (bZ (f || c), S1) := by
  rw [gC_b, gC_b]
  cases c <;> cases f <;> rfl
theorem sm_tryA (lb : mLab S X) {a b : Nat} {c : Int} (ha : a < 9) (hb : b < 8) (c0 : 0 ≤ c) (c1 : c ≤ 99) (xb : ∀ v, 0 ≤ X.1 v ∧ X.1 v ≤ 1000000) (f : Bool) (n : Nat) : ∃ S1, tryA n S (bZ f) (a : Int) (b : Int) c = some (bZ (f || cnd X (a, 9 + b, c)), S1) ∧ frN 64 65 S S1 ∧ mLab S1 (rlx X (a, 9 + b, c)) := by
  have xa := xb a
  have x9 := xb (9 + b)
  unfold tryA
  rw [gC_pos (by omega) (by omega) (by omega) (by omega), if_pos (by omega), gX_pos (by omega) (by omega) (by omega), (lb a (by omega)).1, gC_pos (x := X.1 a) (y := 1000000) (by omega) (by omega) (by omega) (by omega)]
  by_cases k : X.1 a < 1000000
  · obtain ⟨S1, e1, e2, e3⟩ := sm_tryN lb (u := a) (v := 9 + b) (c := c) (by omega) k (by omega) (by omega) x9.1 x9.2 n
    rw [if_pos k, gX_pos (by omega) (by omega) (by omega), show (9 : Int) + (b : Int) = ((9 + b : Nat) : Int) by omega, e1, Option.bind_some]
    dsimp only
    rw [flag_eq]
    exact ⟨S1, rfl, e2, e3⟩
  · have cf : cnd X (a, 9 + b, c) = false := decide_eq_false (fun z => k z.1)
    rw [if_neg k, cf, rlx_f cf, Bool.or_false]
    exact ⟨S, rfl, frN_rfl, lb⟩
theorem sm_tryB {B : Nat} (hB : B ≤ 8) (lb : mLab S X) (mr : mRep B S m) {a b : Nat} {c : Int} (ha : a < 9) (hb : b < B) (c0 : 0 ≤ c) (c1 : c ≤ 99) (xb : ∀ v, 0 ≤ X.1 v ∧ X.1 v ≤ 1000000) (mb : 0 ≤ m a b ∧ m a b ≤ 100000) (f : Bool) (n : Nat) : ∃ S1, tryB n (bZ f, S) (a : Int) (b : Int) c = some (bZ (f || (gRun (if 0 < m a b then [(9 + b, a, -c)] else []) X).1), S1) ∧ frN 64 65 S S1 ∧ mLab S1 (gRun (if 0 < m a b then [(9 + b, a, -c)] else []) X).2 := by
  have xa := xb a
  have x9 := xb (9 + b)
  unfold tryB
  dsimp only
  rw [show (9 : Int) + (b : Int) = ((9 + b : Nat) : Int) by omega, gC_pos (x := c) (y := 1000000) (by omega) (by omega) (by omega) (by omega), if_pos (by omega), gX_pos (by omega) (by omega) (by omega), (lb (9 + b) (by omega)).1, gC_pos (x := X.1 (9 + b)) (y := 1000000) (by omega) (by omega) (by omega) (by omega)]
  by_cases k : X.1 (9 + b) < 1000000
  · rw [if_pos k, gX_pos (by omega) (by omega) (by omega), mr a b ha hb, gC_pos (x := m a b) (y := 0) (by omega) (by omega) (by omega) (by omega)]
    by_cases k2 : 0 < m a b
    · obtain ⟨S1, e1, e2, e3⟩ := sm_tryN lb (u := 9 + b) (v := a) (c := -c) (by omega) k (by omega) (by omega) xa.1 xa.2 n
      rw [if_pos k2, if_pos k2, gX_pos (by omega) (by omega) (by omega), Int.sub_eq_add_neg, e1, Option.bind_some]
      dsimp only
      rw [flag_eq]
      refine ⟨S1, ?_, e2, e3⟩
      show _ = some (bZ (f || (cnd X (9 + b, a, -c) || false)), S1)
      rw [Bool.or_false]
    · rw [if_neg k2, if_neg k2]
      refine ⟨S, ?_, frN_rfl, lb⟩
      show _ = some (bZ (f || false), S)
      rw [Bool.or_false]
  · rw [if_neg k]
    by_cases k2 : 0 < m a b
    · have cf : cnd X (9 + b, a, -c) = false := decide_eq_false (fun z => k z.1)
      rw [if_pos k2]
      have er := run_f [(9 + b, a, -c)] X (fun e he => by rw [List.mem_singleton.mp he]; exact cf)
      rw [er]
      refine ⟨S, ?_, frN_rfl, lb⟩
      show _ = some (bZ (f || false), S)
      rw [Bool.or_false]
    · rw [if_neg k2]
      refine ⟨S, ?_, frN_rfl, lb⟩
      show _ = some (bZ (f || false), S)
      rw [Bool.or_false]
end MWA
