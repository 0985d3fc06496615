/-! ===== what the search is about, what holds between calls ===== -/
def minTo (g : Nat → Int) : Nat → Int
  | 0 => 1000
  | k + 1 => min (minTo g k) (g k)
def gv (T : TW) (s to : Nat) : Int := Ov T (nDf s to) (nDf to s)
def okB (T : TW) (mv s to : Nat) : Bool := firmB T s && firmB T to && dryB T (s &&& to) && decide (Yd T (s ^^^ to) ≤ (T.2 11 : Int)) && (nDf (s ^^^ to) mv == 0)
def stp (T : TW) (mv : Nat) (f : Nat → Int) (s to : Nat) : Int := if okB T mv s to = true ∧ f to ≤ 999 then max 0 (f to - gv T s to) else 1000
/-- how many free yards it needs at s to have the wanted town in r weeks at most (1000: it can't) -/
def Lr (T : TW) (mv : Nat) : Nat → Nat → Int
  | 0, s => if s = T.2 9 then 0 else 1000
  | r + 1, s => min (Lr T mv r s) (minTo (fun to => stp T mv (Lr T mv r) s to) (2 ^ T.2 6))
def fnd (T : TW) (mv : Nat) : Option Nat := firstTo (fun r => decide (Lr T mv r (T.2 8) ≤ (T.2 10 : Int))) 256
def allP (T : TW) : Nat := 2 ^ T.2 6 - 1
def wayTo (T : TW) (a : Nat) (f : Int) (r : Nat) : Nat := (firstTo (fun to => firmB T to && dryB T (a &&& to) && decide (Yd T (a ^^^ to) ≤ (T.2 11 : Int)) && decide (Lr T (allP T) r to ≤ min 999 (f + gv T a to))) (2 ^ T.2 6)).getD a
def wayA (T : TW) (wk : Nat) : Nat → Nat × Int
  | 0 => (T.2 8, (T.2 10 : Int))
  | i + 1 => (wayTo T (wayA T wk i).1 (wayA T wk i).2 (wk - 1 - i), min 999 ((wayA T wk i).2 + gv T (wayA T wk i).1 (wayTo T (wayA T wk i).1 (wayA T wk i).2 (wk - 1 - i))))
def pOf (T : TW) (c : Nat) : Nat := maskTo (fun p => c.testBit (T.1 4 p)) (T.2 6)
def tabl (S : ZS) (T : TW) : Prop := ∀ s : Nat, s < 2 ^ T.2 6 → zA S 25 (s : Int) = Yd T s ∧ zA S 26 (s : Int) = Ov T s 0 ∧ zA S 27 (s : Int) = Ov T 0 s ∧ zA S 28 (s : Int) = bZ (firmB T s) ∧ zA S 29 (s : Int) = bZ (dryB T s)
def sought (S : ZS) (T : TW) : Prop := match fnd T (allP T) with
  | some k => zF S 24 8 = 1 ∧ zF S 24 9 = (k : Int) ∧ ∀ i : Nat, i < k → zA S 32 (i : Int) = (((wayA T k (i + 1)).1 : Nat) : Int)
  | none => zF S 24 8 = 0 ∧ zF S 24 9 = 0 ∧ zF S 24 10 = Lr T (allP T) 255 (T.2 8)
def shared (S : ZS) (T : TW) : Prop := zF S 24 13 = ((maskTo (fun c => (fnd T (pOf T c)).isSome) 16 : Nat) : Int)
def gWay (S : ZS) (T : TW) : Prop := (zF S 24 14 = 0 ∨ (zF S 24 14 = 1 ∧ tabl S T)) ∧ (zF S 24 15 = 0 ∨ (zF S 24 15 = 1 ∧ sought S T)) ∧ (zF S 24 16 = 0 ∨ (zF S 24 16 = 1 ∧ shared S T))
def wfT (T : TW) : Prop := wfR T ∧ wfN T ∧ firmB T (T.2 8) = true
def gTape (S : ZS) : Prop := ∃ n : Nat, n ≤ 160 ∧ zF S 22 1 = (n : Int) ∧ zF S 49 9 = (n : Int) ∧ ∀ i : Nat, i < n → zA S 23 (i : Int) = zA S 52 (i : Int) ∧ 32 ≤ zA S 52 (i : Int) ∧ zA S 52 (i : Int) ≤ 126
def keptAt (S : ZS) (K : TW) : Prop := (zA S 69 0 = (K.2 6 : Int) ∧ zA S 69 1 = (K.2 8 : Int) ∧ zA S 69 2 = (K.2 9 : Int) ∧ zA S 69 3 = (K.2 10 : Int) ∧ zA S 69 4 = (K.2 11 : Int) ∧ zA S 69 5 = (K.2 7 : Int)) ∧ (∀ i p : Nat, i < 5 → p < K.2 6 → zA S 68 (5 * (p : Int) + (i : Int)) = (K.1 (i + 1) p : Int)) ∧ ∀ p : Nat, p < K.2 7 → zA S 68 (40 + (p : Int)) = (K.1 6 p : Int)
def gImg (S : ZS) : Prop := (zF S 0 8 = 0 ∧ zF S 49 28 = 0) ∨ (zF S 0 8 = 1 ∧ zF S 49 28 = 1 ∧ ∃ K, tAt S 8 K ∧ keptAt S K ∧ wfT K)
def gSh (S : ZS) : Prop := (∀ i : Int, 0 ≤ i → i < 96 → zA S 46 i = zA S 72 i ∧ -9223372036854775808 ≤ zA S 72 i ∧ zA S 72 i < 9223372036854775808) ∧ ∀ s : Int, 0 ≤ s → s < 4 → (zA S 48 s = -1 ∧ zA S 70 s = -1) ∨ (0 ≤ zA S 48 s ∧ zA S 48 s ≤ 24 ∧ zA S 71 s = zA S 48 s ∧ zA S 47 s = zA S 70 s ∧ 0 ≤ zA S 70 s ∧ zA S 70 s ≤ 2)
def gRoom (S : ZS) : Prop := (∃ j : Nat, j ≤ 5 ∧ nn S = 2048 * 2 ^ j) ∧ match S.2.2.2 with
  | none => nn S = 2048
  | some (g, gs) => eSz g + (gs.map eSz).sum + 2048 = nn S ∧ gs.length ≤ nn S
def gTown (S : ZS) (T : TW) : Prop := tAt S 1 T ∧ mAt S T ∧ wfT T
def Good (S : ZS) : Prop := ∃ T, gTown S T ∧ gTape S ∧ gImg S ∧ gSh S ∧ gWay S T ∧ gRoom S
def Inv (H : eH) : Prop := ∃ S, H = rd S ∧ Good S
theorem inv_O : ∀ H, Inv H → ∃ fs, H[0]? = some (.inr (6, fs)) := by
  rintro H ⟨S, rfl, -⟩
  exact ⟨_, rd_o0 S⟩
theorem cI_sz (t n : Nat) (f : Int → Int) : eSz (cI t n f) = n := rfl
theorem cL_sz (n : Nat) (f : Int → Int) : eSz (cL n f) = n := rfl
def rdA (S : ZS) : eH := [
    .inr (6, [.ref 1, .ref 8, .ref 15, .ref 22, .ref 24, .ref 33, .ref 43, .ref 45, .int (zI (S.2.1 0 8))]),
    .inr (4, [.ref 2, .ref 3, .ref 4, .ref 5, .ref 6, .ref 7, .int (zI (S.2.1 1 6)), .int (zI (S.2.1 1 7)), .int (zI (S.2.1 1 8)), .int (zI (S.2.1 1 9)), .int (zI (S.2.1 1 10)), .int (zI (S.2.1 1 11))]),
    cI 0 8 (S.1 2),
    cI 0 8 (S.1 3),
    cI 0 8 (S.1 4),
    cI 0 8 (S.1 5),
    cI 0 8 (S.1 6),
    cI 0 4 (S.1 7),
    .inr (4, [.ref 9, .ref 10, .ref 11, .ref 12, .ref 13, .ref 14, .int (zI (S.2.1 8 6)), .int (zI (S.2.1 8 7)), .int (zI (S.2.1 8 8)), .int (zI (S.2.1 8 9)), .int (zI (S.2.1 8 10)), .int (zI (S.2.1 8 11))]),
    cI 0 8 (S.1 9),
    cI 0 8 (S.1 10),
    cI 0 8 (S.1 11),
    cI 0 8 (S.1 12),
    cI 0 8 (S.1 13),
    cI 0 4 (S.1 14),
    .inr (4, [.ref 16, .ref 17, .ref 18, .ref 19, .ref 20, .ref 21, .int (zI (S.2.1 15 6)), .int (zI (S.2.1 15 7)), .int (zI (S.2.1 15 8)), .int (zI (S.2.1 15 9)), .int (zI (S.2.1 15 10)), .int (zI (S.2.1 15 11))]),
    cI 0 8 (S.1 16),
    cI 0 8 (S.1 17),
    cI 0 8 (S.1 18),
    cI 0 8 (S.1 19),
    cI 0 8 (S.1 20),
    cI 0 4 (S.1 21),
    .inr (3, [.ref 23, .int (zI (S.2.1 22 1)), .int (zI (S.2.1 22 2))]),
    cI 3 160 (S.1 23),
    .inr (5, [.ref 25, .ref 26, .ref 27, .ref 28, .ref 29, .ref 30, .ref (nd S), .ref 32, .int (zI (S.2.1 24 8)), .int (zI (S.2.1 24 9)), .int (zI (S.2.1 24 10)), .int (zI (S.2.1 24 11)), .int (zI (S.2.1 24 12)), .int (zI (S.2.1 24 13)), .int (zI (S.2.1 24 14)), .int (zI (S.2.1 24 15)), .int (zI (S.2.1 24 16))]),
    cI 0 256 (S.1 25),
    cI 0 256 (S.1 26),
    cI 0 256 (S.1 27),
    cI 2 256 (S.1 28),
    cI 2 256 (S.1 29),
    cI 0 256 (S.1 30)]
def rdB (S : ZS) : eH := [
    cI 0 256 (S.1 32),
    .inr (1, [.ref 34, .ref 35, .ref 36, .ref 37, .ref 38, .ref 39, .ref 40, .ref 41, .ref 42, .int (zI (S.2.1 33 9)), .int (zI (S.2.1 33 10)), .int (zI (S.2.1 33 11)), .int (zI (S.2.1 33 12))]),
    cI 0 9 (S.1 34),
    cI 0 9 (S.1 35),
    cI 0 9 (S.1 36),
    cI 0 9 (S.1 37),
    cI 0 8 (S.1 38),
    cI 0 8 (S.1 39),
    cI 0 8 (S.1 40),
    cI 0 8 (S.1 41),
    cI 0 72 (S.1 42),
    .inr (0, [.ref 44]),
    cI 0 8 (S.1 44),
    .inr (2, [.ref 46, .ref 47, .ref 48]),
    cL 96 (S.1 46),
    cI 0 4 (S.1 47),
    cI 0 4 (S.1 48),
    .inr (7, [.ref 50, .int (zI (S.2.1 49 1)), .int (zI (S.2.1 49 2)), .int (zI (S.2.1 49 3)), .int (zI (S.2.1 49 4)), .int (zI (S.2.1 49 5)), .ref 51, .int (zI (S.2.1 49 7)), .ref 52, .int (zI (S.2.1 49 9)), .int (zI (S.2.1 49 10)), .int (zI (S.2.1 49 11)), .int (zI (S.2.1 49 12)), .ref 53, .ref 54, .ref 55, .ref 56, .ref 57, .ref 58, .ref 59, .ref 60, .ref 61, .ref 62, .ref 63, .ref 64, .ref 65, .ref 66, .ref 67, .int (zI (S.2.1 49 28)), .ref 68, .ref 69, .ref 70, .ref 71, .ref 72, .int (zI (S.2.1 49 34)), .ref 73]),
    cI 0 40 (S.1 50),
    cI 0 4 (S.1 51),
    cI 0 160 (S.1 52),
    cI 0 40 (S.1 53),
    cI 0 256 (S.1 54),
    cI 2 256 (S.1 55),
    cI 0 256 (S.1 56),
    cI 0 256 (S.1 57),
    cI 0 65536 (S.1 58),
    cI 0 256 (S.1 59),
    cI 0 256 (S.1 60),
    cI 0 9 (S.1 61),
    cI 0 8 (S.1 62),
    cI 0 72 (S.1 63),
    cI 0 17 (S.1 64),
    cI 0 17 (S.1 65),
    cI 0 8 (S.1 66),
    cI 2 16 (S.1 67),
    cI 0 44 (S.1 68),
    cI 0 6 (S.1 69),
    cI 0 4 (S.1 70),
    cI 0 4 (S.1 71),
    cL 96 (S.1 72),
    cL 24 (S.1 73)]
theorem rd_AB (S : ZS) : rd S = rdA S ++ cN31 S :: (rdB S ++ cTl S) := rfl
theorem rdA_sm (S : ZS) : (rdA S).map eSz = [9, 12, 8, 8, 8, 8, 8, 4, 12, 8, 8, 8, 8, 8, 4, 12, 8, 8, 8, 8, 8, 4, 3, 160, 17, 256, 256, 256, 256, 256, 256] := rfl
theorem rdB_sm (S : ZS) : (rdB S).map eSz = [256, 13, 9, 9, 9, 9, 8, 8, 8, 8, 72, 1, 8, 3, 96, 4, 4, 36, 40, 4, 160, 40, 256, 256, 256, 256, 65536, 256, 256, 9, 8, 72, 17, 17, 8, 16, 44, 6, 4, 4, 96, 24] := rfl
theorem rdA_sz (S : ZS) : eTot (rdA S) = 1893 := by
  unfold eTot
  rw [rdA_sm]
  decide
theorem rdB_sz (S : ZS) : eTot (rdB S) = 68202 := by
  unfold eTot
  rw [rdB_sm]
  decide
theorem inv_B : ∀ H, Inv H → H.length ≤ 600000 ∧ eTot H ≤ 7302250 := by
  rintro H ⟨S, rfl, T, -, -, -, -, -, ⟨j, hj, hn⟩, hx⟩
  have h2 : 2 ^ j ≤ 32 := Nat.pow_le_pow_right (n := 2) (by omega) (show j ≤ 5 from hj)
  have hnn : nn S ≤ 65536 := by omega
  have hnn' : S.2.2.1 ≤ 65536 := hnn
  have et : eTot (rd S) ≤ 100000 + eSz (cN31 S) + ((cTl S).map eSz).sum := by
    have e1 := rdA_sz S
    have e2 := rdB_sz S
    rw [rd_AB]
    unfold eTot at *
    rw [List.map_append, List.sum_append, List.map_cons, List.sum_cons, List.map_append, List.sum_append, e1, e2]
    omega
  rw [rd_len]
  refine ⟨?_, Nat.le_trans et ?_⟩
  all_goals clear et
  all_goals revert hx
  all_goals unfold cTl
  · intro hx
    split at hx
    · next e =>
      rw [e]
      simp only [List.length_nil]
      omega
    · next g gs e =>
      rw [e]
      simp only [List.length_append, List.length_cons, List.length_nil]
      omega
  · intro hx
    unfold cN31
    split at hx
    · next e =>
      rw [e]
      simp only [List.map_nil, List.sum_nil, cNd, cI_sz]
      omega
    · next g gs e =>
      rw [e]
      simp only [List.map_append, List.sum_append, List.map_cons, List.map_nil, List.sum_cons, List.sum_nil, cNd, cI_sz]
      omega
theorem mkPair {kx km : Nat} {as : List Value} (fx fm : Nat → ZS → Option (Int × ZS)) (sx : ∀ (o : eO) (n : Nat) (S : ZS) (w : Int × ZS), fx n S = some w → eG o kx 0 (eEnt kx (.ref 0 :: as)) [] (rd S) (rv (some (.int (zI w.1))) (rd w.2))) (sm : ∀ (o : eO) (n : Nat) (S : ZS) (w : Int × ZS), fm n S = some w → eG o km 0 (eEnt km (.ref 49 :: as)) [] (rd S) (rv (some (.int (zI w.1))) (rd w.2))) (hp : ∀ S, Good S → ∃ n v S1 S2, fx n S = some (v, S1) ∧ fm n S1 = some (v, S2) ∧ Good S2) : Pair Inv kx km as := by
  rintro o H ⟨S, rfl, hG⟩
  obtain ⟨n, v, S1, S2, h1, h2, h3⟩ := hp S hG
  refine eG_mono (sx o n S _ h1) ?_
  rintro z rfl
  refine ⟨zI v, rfl, ⟨_, rd_o49 S1⟩, eG_mono (sm o n S1 _ h2) ?_⟩
  rintro y rfl
  exact ⟨rfl, S2, rfl, h3⟩
/-- a method that changes nothing -/
def pur (q : Option Int) (S : ZS) : Option (Int × ZS) := q.bind fun v => some (v, S)
theorem pur_inv {q : Option Int} {S : ZS} {w : Int × ZS} (h : pur q S = some w) : q = some w.1 ∧ S = w.2 := by
  obtain ⟨z, h1, h2⟩ := zB_inv h
  cases h2
  exact ⟨h1, rfl⟩
theorem rngI (x : Int32) : -2147483648 ≤ x.toInt ∧ x.toInt < 2147483648 := ⟨x.le_toInt, x.toInt_lt⟩
theorem rngL (x : Int64) : -9223372036854775808 ≤ x.toInt ∧ x.toInt < 9223372036854775808 := ⟨x.le_toInt, x.toInt_lt⟩
/-- reads behind writes -/
theorem zA_wF (S : ZS) (h j : Nat) (x : Int) (h' : Nat) (i : Int) : zA (wF S h j x) h' i = zA S h' i := rfl
theorem zF_wA (S : ZS) (h : Nat) (x v : Int) (h' j : Nat) : zF (wA S h x v) h' j = zF S h' j := rfl
theorem zF_wR (S : ZS) (h : Nat) (f : Int → Int) (h' j : Nat) : zF (wR S h f) h' j = zF S h' j := rfl
theorem zF_wF (S : ZS) (h j : Nat) (x : Int) (h' j' : Nat) : zF (wF S h j x) h' j' = if j' = j then (if h' = h then x else zF S h' j') else zF S h' j' := rfl
theorem zA_wR (S : ZS) (h : Nat) (f : Int → Int) (h' : Nat) (i : Int) : zA (wR S h f) h' i = if h' = h then f i else zA S h' i := by
  show (if h' = h then f else S.1 h') i = _
  split <;> rfl
theorem zA_wA (S : ZS) (h : Nat) (x v : Int) (h' : Nat) (i : Int) : zA (wA S h x v) h' i = if h' = h then (if i = x then v else zA S h i) else zA S h' i := by
  unfold wA
  rw [zA_wR]
  rfl
theorem nn_wF (S : ZS) (h j : Nat) (x : Int) : nn (wF S h j x) = nn S := rfl
theorem nn_wR (S : ZS) (h : Nat) (f : Int → Int) : nn (wR S h f) = nn S := rfl
theorem nn_wA (S : ZS) (h : Nat) (x v : Int) : nn (wA S h x v) = nn S := rfl
theorem ex_wF (S : ZS) (h j : Nat) (x : Int) : (wF S h j x).2.2 = S.2.2 := rfl
theorem ex_wR (S : ZS) (h : Nat) (f : Int → Int) : (wR S h f).2.2 = S.2.2 := rfl
theorem ex_wA (S : ZS) (h : Nat) (x v : Int) : (wA S h x v).2.2 = S.2.2 := rfl
/-- rows from lo to hi and fields of ob alone differ -/
def fr (lo hi ob : Nat) (S S' : ZS) : Prop := (∀ h : Nat, (h < lo ∨ hi < h) → S'.1 h = S.1 h) ∧ (∀ h j : Nat, h ≠ ob → S'.2.1 h j = S.2.1 h j) ∧ S'.2.2 = S.2.2
theorem fr_rfl {lo hi ob : Nat} {S : ZS} : fr lo hi ob S S := ⟨fun _ _ => rfl, fun _ _ _ => rfl, rfl⟩
theorem fr_trans {lo hi ob : Nat} {S S1 S2 : ZS} (h1 : fr lo hi ob S S1) (h2 : fr lo hi ob S1 S2) : fr lo hi ob S S2 := ⟨fun h hh => (h2.1 h hh).trans (h1.1 h hh), fun h j hh => (h2.2.1 h j hh).trans (h1.2.1 h j hh), h2.2.2.trans h1.2.2⟩
theorem fr_wA {lo hi ob h : Nat} (S : ZS) (x v : Int) (h1 : lo ≤ h) (h2 : h ≤ hi) : fr lo hi ob S (wA S h x v) := ⟨fun h' hh => by show (if h' = h then _ else _) = _; rw [if_neg (by omega)], fun _ _ _ => rfl, rfl⟩
theorem fr_wR {lo hi ob h : Nat} (S : ZS) (f : Int → Int) (h1 : lo ≤ h) (h2 : h ≤ hi) : fr lo hi ob S (wR S h f) := ⟨fun h' hh => by show (if h' = h then _ else _) = _; rw [if_neg (by omega)], fun _ _ _ => rfl, rfl⟩
theorem fr_wF {lo hi ob : Nat} (S : ZS) (j : Nat) (x : Int) : fr lo hi ob S (wF S ob j x) := ⟨fun _ _ => rfl, fun h j' hh => by show (if j' = j then (if h = ob then _ else _) else _) = _; rw [if_neg hh, ite_self], rfl⟩
theorem fr_A {lo hi ob : Nat} {S S' : ZS} (h : fr lo hi ob S S') {a : Nat} (ha : a < lo ∨ hi < a) (i : Int) : zA S' a i = zA S a i := congrFun (h.1 a ha) i
theorem fr_F {lo hi ob : Nat} {S S' : ZS} (h : fr lo hi ob S S') {a : Nat} (ha : a ≠ ob) (j : Nat) : zF S' a j = zF S a j := h.2.1 a j ha
theorem fr_n {lo hi ob : Nat} {S S' : ZS} (h : fr lo hi ob S S') : nn S' = nn S := congrArg (·.1) h.2.2
theorem fr_tAt {lo hi ob : Nat} {S S' : ZS} (h : fr lo hi ob S S') {t : Nat} {T : TW} (ht : tAt S t T) (h1 : t + 6 < lo ∨ hi < t + 1) (h2 : t ≠ ob) : tAt S' t T :=
  ⟨fun j a b => (fr_F h h2 j).trans (ht.1 j a b), fun i p a b c => (fr_A h (by omega) _).trans (ht.2.1 i p a b c), fun p a => (fr_A h (by omega) _).trans (ht.2.2 p a)⟩
theorem fr_mAt {lo hi ob : Nat} {S S' : ZS} (h : fr lo hi ob S S') {T : TW} (ht : mAt S T) (h1 : 51 < lo ∨ hi < 50) (h2 : 49 ≠ ob) : mAt S' T := by
  obtain ⟨⟨a1, a2, a3, a4, a5, a6⟩, b, c⟩ := ht
  exact ⟨⟨(fr_F h h2 _).trans a1, (fr_F h h2 _).trans a2, (fr_F h h2 _).trans a3, (fr_F h h2 _).trans a4, (fr_F h h2 _).trans a5, (fr_F h h2 _).trans a6⟩, fun i p x y => (fr_A h (by omega) _).trans (b i p x y), fun p x => (fr_A h (by omega) _).trans (c p x)⟩
theorem fr_gTape {lo hi ob : Nat} {S S' : ZS} (h : fr lo hi ob S S') (g : gTape S) (h1 : 52 < lo ∨ hi < 23 ∨ (23 < lo ∧ hi < 52)) (h2 : 22 ≠ ob) (h3 : 49 ≠ ob) : gTape S' := by
  obtain ⟨n, a, b, c, d⟩ := g
  refine ⟨n, a, (fr_F h h2 _).trans b, (fr_F h h3 _).trans c, fun i hi' => ?_⟩
  rw [fr_A h (by omega), fr_A h (by omega)]
  exact d i hi'
theorem fr_gImg {lo hi ob : Nat} {S S' : ZS} (h : fr lo hi ob S S') (g : gImg S) (h1 : 69 < lo ∨ hi < 9 ∨ (14 < lo ∧ hi < 68)) (h2 : 0 ≠ ob) (h3 : 49 ≠ ob) (h4 : 8 ≠ ob) : gImg S' := by
  rcases g with ⟨a, b⟩ | ⟨a, b, K, c, ⟨⟨d1, d2, d3, d4, d5, d6⟩, e, f⟩, w⟩
  · exact Or.inl ⟨(fr_F h h2 _).trans a, (fr_F h h3 _).trans b⟩
  · refine Or.inr ⟨(fr_F h h2 _).trans a, (fr_F h h3 _).trans b, K, fr_tAt h c (by omega) h4, ⟨⟨(fr_A h (by omega) _).trans d1, (fr_A h (by omega) _).trans d2, (fr_A h (by omega) _).trans d3, (fr_A h (by omega) _).trans d4, (fr_A h (by omega) _).trans d5, (fr_A h (by omega) _).trans d6⟩, fun i p x y => (fr_A h (by omega) _).trans (e i p x y), fun p x => (fr_A h (by omega) _).trans (f p x)⟩, w⟩
theorem fr_gSh {lo hi ob : Nat} {S S' : ZS} (h : fr lo hi ob S S') (g : gSh S) (h1 : 72 < lo ∨ hi < 46 ∨ (48 < lo ∧ hi < 70)) : gSh S' := by
  refine ⟨fun i a b => ?_, fun s a b => ?_⟩
  · rw [fr_A h (by omega), fr_A h (by omega)]
    exact g.1 i a b
  · rw [fr_A h (by omega), fr_A h (by omega), fr_A h (by omega), fr_A h (by omega)]
    exact g.2 s a b
theorem fr_tabl {lo hi ob : Nat} {S S' : ZS} (h : fr lo hi ob S S') {T : TW} (g : tabl S T) (h1 : 29 < lo ∨ hi < 25) : tabl S' T := by
  intro s hs
  rw [fr_A h (by omega), fr_A h (by omega), fr_A h (by omega), fr_A h (by omega), fr_A h (by omega)]
  exact g s hs
theorem fr_sought {lo hi ob : Nat} {S S' : ZS} (h : fr lo hi ob S S') {T : TW} (g : sought S T) (h1 : 32 < lo ∨ hi < 32) (h2 : 24 ≠ ob) : sought S' T := by
  unfold sought at g ⊢
  split at g
  · rw [fr_F h h2, fr_F h h2]
    exact ⟨g.1, g.2.1, fun i hi' => (fr_A h (by omega) _).trans (g.2.2 i hi')⟩
  · rw [fr_F h h2, fr_F h h2, fr_F h h2]
    exact g
theorem fr_gWay {lo hi ob : Nat} {S S' : ZS} (h : fr lo hi ob S S') {T : TW} (g : gWay S T) (h1 : 32 < lo ∨ hi < 25) (h2 : 24 ≠ ob) : gWay S' T := by
  obtain ⟨a, b, c⟩ := g
  unfold gWay shared
  rw [fr_F h h2, fr_F h h2, fr_F h h2, fr_F h h2]
  exact ⟨a.imp id (fun q => ⟨q.1, fr_tabl h q.2 (by omega)⟩), b.imp id (fun q => ⟨q.1, fr_sought h q.2 (by omega) h2⟩), c⟩
theorem ex_gRoom {S S' : ZS} (h : S'.2.2 = S.2.2) (g : gRoom S) : gRoom S' := by
  unfold gRoom nn at g ⊢
  rw [h]
  exact g
theorem fr_gRoom {lo hi ob : Nat} {S S' : ZS} (h : fr lo hi ob S S') (g : gRoom S) : gRoom S' := ex_gRoom h.2.2 g
