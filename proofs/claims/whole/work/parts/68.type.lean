/-! ===== type ===== -/
def bt (w : Int) (i : Nat) : Int := zlan (zlshr w (8 * (i : Int))) 255
theorem sh_63 {i : Nat} (h : i < 8) : ((zI (8 * (i : Int))).toInt64 &&& 63).toBitVec.smod 64 = BitVec.ofNat 64 (8 * i) := by
  have : ∀ q : Fin 8, ((zI (8 * (((q : Nat) : Int)))).toInt64 &&& 63).toBitVec.smod 64 = BitVec.ofNat 64 (8 * (q : Nat)) := by decide
  exact this ⟨i, h⟩
theorem sh_63u {i : Nat} (h : i < 8) : ((zI (8 * (i : Int))).toInt64.toUInt64 &&& Int64.toUInt64 63) = UInt64.ofNat (8 * i) := by
  have : ∀ q : Fin 8, ((zI (8 * (((q : Nat) : Int)))).toInt64.toUInt64 &&& Int64.toUInt64 63) = UInt64.ofNat (8 * (q : Nat)) := by decide
  exact this ⟨i, h⟩
theorem bt_u {w : Int} {i : Nat} (h : i < 8) : zlan (zlushr w (8 * (i : Int))) 255 = bt w i := by
  unfold bt zlan zlushr zlshr
  rw [zL_of, zL_of, sh_63u h]
  congr 1
  apply Int64.toBitVec_inj.mp
  show ((zL w).toBitVec >>> ((BitVec.ofNat 64 (8 * i)) % 64)) &&& (zL 255).toBitVec = (BitVec.sshiftRight' (zL w).toBitVec (((zI (8 * (i : Int))).toInt64 &&& 63).toBitVec.smod 64)) &&& (zL 255).toBitVec
  rw [sh_63 h]
  have e1 : (BitVec.ofNat 64 (8 * i)) % 64 = BitVec.ofNat 64 (8 * i) := by
    have : ∀ q : Fin 8, (BitVec.ofNat 64 (8 * (q : Nat))) % 64 = BitVec.ofNat 64 (8 * (q : Nat)) := by decide
    exact this ⟨i, h⟩
  rw [e1]
  unfold BitVec.sshiftRight'
  rw [BitVec.ushiftRight_eq', BitVec.toNat_ofNat, Nat.mod_eq_of_lt (by omega)]
  apply BitVec.eq_of_getLsbD_eq
  intro j hj
  rw [BitVec.getLsbD_and, BitVec.getLsbD_and]
  by_cases hb : j < 8
  · rw [BitVec.getLsbD_ushiftRight, BitVec.getLsbD_sshiftRight, if_pos (by omega), decide_eq_false (by omega)]
    simp
  · have : (zL 255).toBitVec.getLsbD j = false := by
      have : ∀ q : Fin 64, 8 ≤ (q : Nat) → (zL 255).toBitVec.getLsbD (q : Nat) = false := by decide
      exact this ⟨j, hj⟩ (show 8 ≤ j by omega)
    rw [this, Bool.and_false, Bool.and_false]
theorem bt_rng (w : Int) (i : Nat) : 0 ≤ bt w i ∧ bt w i ≤ 255 := by
  unfold bt zlan
  have h : (zL (zlshr w (8 * (i : Int))) &&& zL 255).toBitVec.toNat ≤ 255 := by
    show ((zL (zlshr w (8 * (i : Int)))).toBitVec &&& (zL 255).toBitVec).toNat ≤ 255
    rw [BitVec.toNat_and]
    exact Nat.and_le_right
  show 0 ≤ (zL (zlshr w (8 * (i : Int))) &&& zL 255).toBitVec.toInt ∧ (zL (zlshr w (8 * (i : Int))) &&& zL 255).toBitVec.toInt ≤ 255
  rw [BitVec.toInt_eq_toNat_of_lt (by omega)]
  omega
theorem zc16_n {v : Int} (h : 0 ≤ v ∧ v ≤ 65535) : zc16 v = v := by
  have := vp_char h
  show (vp_nar .char (zI v)).toInt = v
  rw [this, zI_to (by omega) (by omega)]
theorem zl2i_b {v : Int} (h : 0 ≤ v ∧ v ≤ 255) : zl2i v = v := by
  obtain ⟨a, rfl⟩ : ∃ a : Nat, v = (a : Int) := ⟨v.toNat, by omega⟩
  exact zl2i_n (by omega)
theorem wA_wF (S : ZS) (h j h' : Nat) (a x v : Int) : wA (wF S h j a) h' x v = wF (wA S h' x v) h j a := rfl
/-- the reference's tape and what it reads alone differ -/
def frP (S S' : ZS) : Prop := (∀ h : Nat, h ≠ 52 → h ≠ 53 → S'.1 h = S.1 h) ∧ (∀ h j : Nat, (h ≠ 49 ∨ j < 9 ∨ 12 < j) → S'.2.1 h j = S.2.1 h j) ∧ S'.2.2 = S.2.2
theorem frP_rfl {S : ZS} : frP S S := ⟨fun _ _ _ => rfl, fun _ _ _ => rfl, rfl⟩
theorem frP_trans {S S1 S2 : ZS} (h1 : frP S S1) (h2 : frP S1 S2) : frP S S2 := ⟨fun h a b => (h2.1 h a b).trans (h1.1 h a b), fun h j a => (h2.2.1 h j a).trans (h1.2.1 h j a), h2.2.2.trans h1.2.2⟩
theorem frP_wF (S : ZS) {j : Nat} (x : Int) (hj : 9 ≤ j) (hj2 : j ≤ 12) : frP S (wF S 49 j x) := ⟨fun _ _ _ => rfl, fun h j' hh => by
    show (if j' = j then (if h = 49 then _ else _) else _) = _
    by_cases c : j' = j
    · rw [if_pos c, if_neg (by omega)]
    · rw [if_neg c], rfl⟩
theorem frP_wR (S : ZS) {h : Nat} (f : Int → Int) (hh : h = 52 ∨ h = 53) : frP S (wR S h f) := ⟨fun h' a b => by show (if h' = h then _ else _) = _; rw [if_neg (by omega)], fun _ _ _ => rfl, rfl⟩
theorem frP_wA (S : ZS) {h : Nat} (x v : Int) (hh : h = 52 ∨ h = 53) : frP S (wA S h x v) := frP_wR S _ hh
theorem frP_A {S S' : ZS} (h : frP S S') {a : Nat} (h1 : a ≠ 52) (h2 : a ≠ 53) (i : Int) : zA S' a i = zA S a i := congrFun (h.1 a h1 h2) i
theorem frP_F {S S' : ZS} (h : frP S S') {a j : Nat} (ha : a ≠ 49 ∨ j < 9 ∨ 12 < j) : zF S' a j = zF S a j := h.2.1 a j ha
theorem frP_tAt {S S' : ZS} (h : frP S S') {t : Nat} {T : TW} (ht : tAt S t T) (h1 : t + 6 < 49) : tAt S' t T :=
  ⟨fun j a b => (frP_F h (by omega)).trans (ht.1 j a b), fun i p a b c => (frP_A h (by omega) (by omega) _).trans (ht.2.1 i p a b c), fun p a => (frP_A h (by omega) (by omega) _).trans (ht.2.2 p a)⟩
theorem frP_mAt {S S' : ZS} (h : frP S S') {T : TW} (ht : mAt S T) : mAt S' T := by
  obtain ⟨⟨a1, a2, a3, a4, a5, a6⟩, b, c⟩ := ht
  exact ⟨⟨(frP_F h (by omega)).trans a1, (frP_F h (by omega)).trans a2, (frP_F h (by omega)).trans a3, (frP_F h (by omega)).trans a4, (frP_F h (by omega)).trans a5, (frP_F h (by omega)).trans a6⟩, fun i p x y => (frP_A h (by omega) (by omega) _).trans (b i p x y), fun p x => (frP_A h (by omega) (by omega) _).trans (c p x)⟩
theorem frP_gImg {S S' : ZS} (h : frP S S') (g : gImg S) : gImg S' := by
  rcases g with ⟨a, b⟩ | ⟨a, b, K, c, ⟨⟨d1, d2, d3, d4, d5, d6⟩, e, f⟩, w⟩
  · exact Or.inl ⟨(frP_F h (by omega)).trans a, (frP_F h (by omega)).trans b⟩
  · have A := fun i : Int => frP_A h (a := 69) (by omega) (by omega) i
    have B := fun i : Int => frP_A h (a := 68) (by omega) (by omega) i
    exact Or.inr ⟨(frP_F h (by omega)).trans a, (frP_F h (by omega)).trans b, K, frP_tAt h c (by omega), ⟨⟨(A _).trans d1, (A _).trans d2, (A _).trans d3, (A _).trans d4, (A _).trans d5, (A _).trans d6⟩, fun i p x y => (B _).trans (e i p x y), fun p x => (B _).trans (f p x)⟩, w⟩
theorem frP_gSh {S S' : ZS} (h : frP S S') (g : gSh S) : gSh S' := by
  refine ⟨fun i a b => ?_, fun s a b => ?_⟩
  · rw [frP_A h (by omega) (by omega), frP_A h (by omega) (by omega)]
    exact g.1 i a b
  · rw [frP_A h (by omega) (by omega), frP_A h (by omega) (by omega), frP_A h (by omega) (by omega), frP_A h (by omega) (by omega)]
    exact g.2 s a b
theorem frP_gWay {S S' : ZS} (h : frP S S') {T : TW} (g : gWay S T) : gWay S' T := by
  obtain ⟨a, b, c⟩ := g
  have F := fun j : Nat => frP_F h (a := 24) (j := j) (by omega)
  unfold gWay shared
  rw [F, F, F, F]
  refine ⟨a.imp id (fun q => ⟨q.1, fun s hs => ?_⟩), b.imp id (fun q => ⟨q.1, ?_⟩), c⟩
  · rw [frP_A h (by omega) (by omega), frP_A h (by omega) (by omega), frP_A h (by omega) (by omega), frP_A h (by omega) (by omega), frP_A h (by omega) (by omega)]
    exact q.2 s hs
  · have q := q.2
    unfold sought at q ⊢
    split at q
    · rw [F, F]
      exact ⟨q.1, q.2.1, fun i hi' => (frP_A h (by omega) (by omega) _).trans (q.2.2 i hi')⟩
    · rw [F, F, F]
      exact q
theorem good_tape {S S1 S2 : ZS} (hG : Good S) (f1 : fr 23 23 22 S S1) (f2 : frP S1 S2) (h : gTape S2) : Good S2 := by
  obtain ⟨T, ⟨h1, h2, h3⟩, -, h5, h6, h7, h8⟩ := hG
  exact ⟨T, ⟨frP_tAt f2 (fr_tAt f1 h1 (by omega) (by omega)) (by omega), frP_mAt f2 (fr_mAt f1 h2 (by omega) (by omega)), h3⟩, h, frP_gImg f2 (fr_gImg f1 h5 (by omega) (by omega) (by omega) (by omega)), frP_gSh f2 (fr_gSh f1 h6 (by omega)), frP_gWay f2 (fr_gWay f1 h7 (by omega) (by omega)), ex_gRoom f2.2.2 (fr_gRoom f1 h8)⟩
section TY
variable {S : ZS}
/-- bytes put behind a row -/
def apd (f : Int → Int) (w : Int) (z m p : Nat) : Int → Int := fun y => if (z : Int) ≤ y ∧ y < (z : Int) + (p : Int) then bt w (m - 1 - (y - (z : Int)).toNat) else f y
theorem apd_0 (f : Int → Int) (w : Int) (z m : Nat) : apd f w z m 0 = f := by
  funext y
  unfold apd
  rw [if_neg (by omega)]
theorem apd_s (f : Int → Int) (w : Int) (z m p : Nat) : zu (apd f w z m p) ((z : Int) + (p : Int)) (bt w (m - 1 - p)) = apd f w z m (p + 1) := by
  funext y
  unfold zu apd
  by_cases c : y = (z : Int) + (p : Int)
  · rw [if_pos c, if_pos (by omega), show (y - (z : Int)).toNat = p by omega]
  · rw [if_neg c]
    by_cases d : (z : Int) ≤ y ∧ y < (z : Int) + (p : Int)
    · rw [if_pos d, if_pos (by omega)]
    · rw [if_neg d, if_neg (by omega)]
def plB (w : Int) (i : Nat) : Bool := decide (32 ≤ bt w i ∧ bt w i ≤ 126)
theorem sp_plain (S : ZS) (w : Int) {m : Nat} (hm : m ≤ 8) {n : Nat} (hn : 20 ≤ n) : fP_isPlain n S w (m : Int) = some (bZ (allTo (plB w) m)) := by
  have e := loop_ex (F := fun n (_ : Unit) p => fP_isPlain_1 n S w (m : Int) p) (fun _ => ()) m 0 (fun i => !plB w i) (fun _ => some (.inl 0)) (res := some (.inr ())) ?_ ?_ ?_ n (by omega)
  · unfold fP_isPlain
    rw [show fP_isPlain_1 n S w (m : Int) 0 = _ from e]
    cases hf : firstTo (fun i => !plB w i) m with
    | none =>
      have := firstTo_all.mp hf
      simp only [Bool.not_not] at this
      rw [show allTo (plB w) m = true from this]
      exact gB_1
    | some k =>
      have : allTo (plB w) m = false := by
        cases ha : allTo (plB w) m with
        | false => rfl
        | true =>
          rw [firstTo_all.mpr (by simp only [Bool.not_not]; exact ha)] at hf
          cases hf
      rw [this]
      rfl
  · intro n p hp _ hc
    show fP_isPlain_1 (n + 1) S w (m : Int) (p : Int) = fP_isPlain_1 n S w (m : Int) ((p : Int) + 1)
    have r := bt_rng w p
    have hc : 32 ≤ bt w p ∧ bt w p ≤ 126 := by
      have : plB w p = true := by simpa using hc
      exact of_decide_eq_true this
    rw [fP_isPlain_1, gC_pos (by omega) (by omega) (by omega) (by omega), if_pos (by omega), bt_u (by omega), gL_pos (by omega) (by omega) (by omega) (by omega), gC_cmp, if_neg (fun q => by have := zcmp_lt.mp q; omega), gL_pos (by omega) (by omega) (by omega) (by omega), gC_cmp, if_neg (fun q => by have := zcmp_gt.mp q; omega)]
  · intro n p hp _ hc _
    show fP_isPlain_1 (n + 1) S w (m : Int) (p : Int) = _
    have r := bt_rng w p
    have hc : ¬ (32 ≤ bt w p ∧ bt w p ≤ 126) := by
      have : plB w p = false := by simpa using hc
      exact of_decide_eq_false this
    rw [fP_isPlain_1, gC_pos (by omega) (by omega) (by omega) (by omega), if_pos (by omega), bt_u (by omega), gL_pos (by omega) (by omega) (by omega) (by omega), gC_cmp]
    by_cases d : bt w p < 32
    · rw [if_pos (zcmp_lt.mpr d), gB_0]
    · rw [if_neg (fun q => d (zcmp_lt.mp q)), gL_pos (by omega) (by omega) (by omega) (by omega), gC_cmp, if_pos (zcmp_gt.mpr (by omega)), gB_0]
  · intro n _ _
    show fP_isPlain_1 (n + 1) S w (m : Int) (m : Int) = _
    rw [fP_isPlain_1, gC_pos (by omega) (by omega) (by omega) (by omega), if_neg (by omega)]
theorem sp_append (S : ZS) (w : Int) {z m : Nat} (hz : zF S 22 1 = (z : Int)) (hm : m ≤ 8) (hzm : z + m ≤ 160) {n : Nat} (hn : 20 ≤ n) : fP_append n S w (m : Int) = some (wF (wR S 23 (apd (S.1 23) w z m m)) 22 1 (((z + m : Nat)) : Int)) := by
  have S0 : wF (wR S 23 (apd (S.1 23) w z m 0)) 22 1 (((z + 0 : Nat)) : Int) = S := by
    rw [apd_0, wR_self]
    exact wF_id S 22 1 hz
  have e := loop_for (F := fun n a p => fP_append_1 n a w ((m : Int) - 1 - p)) (fun p => wF (wR S 23 (apd (S.1 23) w z m p)) 22 1 (((z + p : Nat)) : Int)) m 0 (res := some (wF (wR S 23 (apd (S.1 23) w z m m)) 22 1 (((z + m : Nat)) : Int))) ?_ ?_ n (by omega)
  · have e : fP_append_1 n (wF (wR S 23 (apd (S.1 23) w z m 0)) 22 1 (((z + 0 : Nat)) : Int)) w ((m : Int) - 1 - 0) = _ := e
    rw [S0, Int.sub_zero] at e
    unfold fP_append
    rw [e]
    rfl
  · intro n p hp _
    show fP_append_1 (n + 1) (wF (wR S 23 (apd (S.1 23) w z m p)) 22 1 (((z + p : Nat)) : Int)) w ((m : Int) - 1 - (p : Int)) = fP_append_1 n (wF (wR S 23 (apd (S.1 23) w z m (p + 1))) 22 1 (((z + (p + 1) : Nat)) : Int)) w ((m : Int) - 1 - ((p : Int) + 1))
    have ei : (m : Int) - 1 - (p : Int) = ((m - 1 - p : Nat) : Int) := by omega
    have r := bt_rng w (m - 1 - p)
    have ef : zF (wF (wR S 23 (apd (S.1 23) w z m p)) 22 1 (((z + p : Nat)) : Int)) 22 1 = ((z + p : Nat) : Int) := rfl
    rw [fP_append_1, gC_pos (by omega) (by omega) (by omega) (by omega), if_neg (by omega), ei, bt_u (by omega), zl2i_b r, zc16_n ⟨r.1, by omega⟩, gH_pos (by omega) (by omega), ef, gX_pos (by omega) (by omega) (by omega), wA_wF, wF_wF, wA_wR, show ((z + p : Nat) : Int) = (z : Int) + (p : Int) by omega, apd_s, show (z : Int) + (p : Int) + 1 = ((z + (p + 1) : Nat) : Int) by omega, show ((m - 1 - p : Nat) : Int) + -1 = (m : Int) - 1 - ((p : Int) + 1) by omega]
  · intro n _
    show fP_append_1 (n + 1) (wF (wR S 23 (apd (S.1 23) w z m m)) 22 1 (((z + m : Nat)) : Int)) w ((m : Int) - 1 - (m : Int)) = _
    rw [fP_append_1, gC_pos (by omega) (by omega) (by omega) (by omega), if_pos (by omega)]
theorem sm_type1 (S : ZS) (w : Int) {m : Nat} (hm : m ≤ 8) (l : Int) {n : Nat} (hn : 20 ≤ n) : fM_type_1 n S w l ((m : Int) - 1) = if allTo (plB w) m = true then some (.inr ()) else some (.inl (-1, S)) := by
  have key : ∀ (m n : Nat), m ≤ 8 → m < n → fM_type_1 n S w l ((m : Int) - 1) = if allTo (plB w) m = true then some (.inr ()) else some (.inl (-1, S)) := by
    intro m
    induction m with
    | zero =>
      intro n h1 h2
      obtain ⟨k, rfl⟩ : ∃ k, n = k + 1 := ⟨n - 1, by omega⟩
      rw [fM_type_1, gC_pos (by omega) (by omega) (by omega) (by omega), if_pos (by omega)]
      rfl
    | succ m ih =>
      intro n h1 h2
      obtain ⟨k, rfl⟩ : ∃ k, n = k + 1 := ⟨n - 1, by omega⟩
      have r := bt_rng w m
      have e : zlan (zlshr w (8 * ((((m + 1 : Nat)) : Int) - 1))) 255 = bt w m := by
        unfold bt
        rw [show (((m + 1 : Nat)) : Int) - 1 = (m : Int) by omega]
      rw [fM_type_1, gC_pos (by omega) (by omega) (by omega) (by omega), if_neg (by omega), e, sp_in S k (by omega) (by omega) (by omega) (by omega) (by omega) (by omega), Option.bind_some, gC_b]
      have ep : plB w m = decide (32 ≤ bt w m ∧ bt w m ≤ 126) := rfl
      rw [← ep]
      unfold allTo
      cases plB w m with
      | true =>
        rw [if_neg (show ¬ bZ true = 0 by decide), show (((m + 1 : Nat)) : Int) - 1 + -1 = (m : Int) - 1 by omega, ih k (by omega) (by omega), Bool.and_true]
      | false =>
        rw [if_pos (show bZ false = 0 from rfl), Bool.and_false]
        rfl
  exact key m n hm (by omega)
theorem sm_type2 (S : ZS) (w : Int) {z m : Nat} (hz : zF S 49 9 = (z : Int)) (hm : m ≤ 8) (hzm : z + m ≤ 160) {n : Nat} (hn : 20 ≤ n) : fM_type_2 n S w ((m : Int) - 1) = some (wF (wR S 52 (apd (S.1 52) w z m m)) 49 9 (((z + m : Nat)) : Int)) := by
  have S0 : wF (wR S 52 (apd (S.1 52) w z m 0)) 49 9 (((z + 0 : Nat)) : Int) = S := by
    rw [apd_0, wR_self]
    exact wF_id S 49 9 hz
  have e := loop_for (F := fun n a p => fM_type_2 n a w ((m : Int) - 1 - p)) (fun p => wF (wR S 52 (apd (S.1 52) w z m p)) 49 9 (((z + p : Nat)) : Int)) m 0 (res := some (wF (wR S 52 (apd (S.1 52) w z m m)) 49 9 (((z + m : Nat)) : Int))) ?_ ?_ n (by omega)
  · have e : fM_type_2 n (wF (wR S 52 (apd (S.1 52) w z m 0)) 49 9 (((z + 0 : Nat)) : Int)) w ((m : Int) - 1 - 0) = _ := e
    rw [S0, Int.sub_zero] at e
    exact e
  · intro n p hp _
    show fM_type_2 (n + 1) (wF (wR S 52 (apd (S.1 52) w z m p)) 49 9 (((z + p : Nat)) : Int)) w ((m : Int) - 1 - (p : Int)) = fM_type_2 n (wF (wR S 52 (apd (S.1 52) w z m (p + 1))) 49 9 (((z + (p + 1) : Nat)) : Int)) w ((m : Int) - 1 - ((p : Int) + 1))
    have ei : (m : Int) - 1 - (p : Int) = ((m - 1 - p : Nat) : Int) := by omega
    have r := bt_rng w (m - 1 - p)
    have ef : zF (wF (wR S 52 (apd (S.1 52) w z m p)) 49 9 (((z + p : Nat)) : Int)) 49 9 = ((z + p : Nat) : Int) := rfl
    rw [fM_type_2, gC_pos (by omega) (by omega) (by omega) (by omega), if_neg (by omega), ei, show zlan (zlshr w (8 * ((m - 1 - p : Nat) : Int))) 255 = bt w (m - 1 - p) from rfl, zl2i_b r, ef, gX_pos (by omega) (by omega) (by omega), wA_wF, wF_wF, wA_wR, show ((z + p : Nat) : Int) = (z : Int) + (p : Int) by omega, apd_s, show (z : Int) + (p : Int) + 1 = ((z + (p + 1) : Nat) : Int) by omega, show ((m - 1 - p : Nat) : Int) + -1 = (m : Int) - 1 - ((p : Int) + 1) by omega]
  · intro n _
    show fM_type_2 (n + 1) (wF (wR S 52 (apd (S.1 52) w z m m)) 49 9 (((z + m : Nat)) : Int)) w ((m : Int) - 1 - (m : Int)) = _
    rw [fM_type_2, gC_pos (by omega) (by omega) (by omega) (by omega), if_pos (by omega)]
theorem q_type (hG : Good S) {w m : Int} (h3 : -2147483648 ≤ m) (h4 : m < 2147483648) : ∃ n v S1 S2, fD_type n S w m = some (v, S1) ∧ fM_type n S1 w m = some (v, S2) ∧ Good S2 := by
  obtain ⟨T, -, ⟨z, z1, z2, z3, z4⟩, -⟩ := id hG
  have no : ∀ b : Bool, b = false → bZ b = 0 := fun b h => by rw [h]; rfl
  have yes : ∀ b : Bool, b = true → ¬ bZ b = 0 := fun b h => by rw [h]; decide
  refine ⟨60, ?_⟩
  unfold fD_type fM_type
  by_cases c : 1 ≤ m ∧ m ≤ 8
  rotate_left
  · refine ⟨-1, S, S, ?_, ?_, hG⟩
    · rw [gC_pos (by omega) (by omega) (by omega) (by omega)]
      by_cases d : m < 1
      · rw [if_pos d]
      · rw [if_neg d, gC_pos (by omega) (by omega) (by omega) (by omega), if_pos (by omega)]
    · rw [gC_pos (by omega) (by omega) (by omega) (by omega), sp_in S 60 (by omega) (by omega) (by omega) (by omega) (by omega) (by omega), decide_eq_false c, Option.bind_some, gC_b, if_pos (no _ rfl)]
  obtain ⟨m, rfl⟩ : ∃ k : Nat, m = (k : Int) := ⟨m.toNat, by omega⟩
  rw [gC_pos (x := (m : Int)) (y := 1) (by omega) (by omega) (by omega) (by omega), if_neg (by omega), gC_pos (x := (m : Int)) (y := 8) (by omega) (by omega) (by omega) (by omega), if_neg (by omega), sp_plain S w (by omega) (by omega), Option.bind_some, gC_b]
  by_cases d : allTo (plB w) m = true
  rotate_left
  · refine ⟨-1, S, S, ?_, ?_, hG⟩
    · rw [ne_b d, if_pos (no _ rfl)]
    · rw [gC_pos (by omega) (by omega) (by omega) (by omega), sp_in S 60 (by omega) (by omega) (by omega) (by omega) (by omega) (by omega), decide_eq_true c, Option.bind_some, gC_b, if_neg (yes _ rfl), sm_type1 S w (by omega) _ (by omega), if_neg d]
      rfl
  rw [d, if_neg (yes _ rfl)]
  unfold fP_hasRoom
  rw [z2, gC_pos (by omega) (by omega) (by omega) (by omega), gB_0, gB_1]
  by_cases e : z + m ≤ 160
  rotate_left
  · refine ⟨-3, S, S, ?_, ?_, hG⟩
    · rw [if_pos (by omega), Option.bind_some, gC_pos (by omega) (by omega) (by omega) (by omega), if_pos rfl]
    · rw [gC_pos (by omega) (by omega) (by omega) (by omega), sp_in S 60 (by omega) (by omega) (by omega) (by omega) (by omega) (by omega), decide_eq_true c, Option.bind_some, gC_b, if_neg (yes _ rfl), sm_type1 S w (by omega) _ (by omega), if_pos d]
      show gC (zF S 49 9 + (m : Int)) 160 _ = _
      rw [z3, gC_pos (by omega) (by omega) (by omega) (by omega), if_pos (by omega)]
  have f1 : fr 23 23 22 S (wF (wR S 23 (apd (S.1 23) w z m m)) 22 1 (((z + m : Nat)) : Int)) := fr_trans (fr_wR _ _ (by omega) (by omega)) (fr_wF _ 1 _)
  have a1 : zF (wF (wR S 23 (apd (S.1 23) w z m m)) 22 1 (((z + m : Nat)) : Int)) 22 1 = ((z + m : Nat) : Int) := rfl
  have a2 : ∀ y, zA (wF (wR S 23 (apd (S.1 23) w z m m)) 22 1 (((z + m : Nat)) : Int)) 23 y = apd (S.1 23) w z m m y := fun y => rfl
  have e1 := sp_append S w z2 (m := m) (by omega) e (n := 60) (by omega)
  generalize wF (wR S 23 (apd (S.1 23) w z m m)) 22 1 (((z + m : Nat)) : Int) = S1 at *
  have z31 : zF S1 49 9 = (z : Int) := (fr_F f1 (by omega) 9).trans z3
  have e2 := sm_type2 S1 w z31 (m := m) (by omega) e (n := 60) (by omega)
  have f2 : frP S1 (wF (wR S1 52 (apd (S1.1 52) w z m m)) 49 9 (((z + m : Nat)) : Int)) := frP_trans (frP_wR _ _ (by omega)) (frP_wF _ _ (by omega) (by omega))
  have b1 : zF (wF (wR S1 52 (apd (S1.1 52) w z m m)) 49 9 (((z + m : Nat)) : Int)) 49 9 = ((z + m : Nat) : Int) := rfl
  have b2 : ∀ y, zA (wF (wR S1 52 (apd (S1.1 52) w z m m)) 49 9 (((z + m : Nat)) : Int)) 52 y = apd (S1.1 52) w z m m y := fun y => rfl
  generalize wF (wR S1 52 (apd (S1.1 52) w z m m)) 49 9 (((z + m : Nat)) : Int) = S2 at *
  refine ⟨((z + m : Nat) : Int), S1, S2, ?_, ?_, ?_⟩
  · rw [if_neg (by omega), Option.bind_some, gC_pos (by omega) (by omega) (by omega) (by omega), if_neg (by omega), e1, Option.bind_some, a1]
  · rw [gC_pos (by omega) (by omega) (by omega) (by omega), sp_in S1 60 (by omega) (by omega) (by omega) (by omega) (by omega) (by omega), decide_eq_true c, Option.bind_some, gC_b, if_neg (yes _ rfl), sm_type1 S1 w (by omega) _ (by omega), if_pos d]
    show gC (zF S1 49 9 + (m : Int)) 160 _ = _
    rw [z31, gC_pos (by omega) (by omega) (by omega) (by omega), if_neg (by omega), e2, Option.bind_some, b1]
  · refine good_tape hG f1 f2 ⟨z + m, e, (frP_F f2 (by omega)).trans a1, b1, fun i hi => ?_⟩
    rw [b2, frP_A f2 (by omega) (by omega), a2]
    unfold apd
    by_cases k : (z : Int) ≤ (i : Int) ∧ (i : Int) < (z : Int) + (m : Int)
    · rw [if_pos k, if_pos k]
      have hp := allTo_iff.mp d (m - 1 - ((i : Int) - (z : Int)).toNat) (by omega)
      have hp := of_decide_eq_true hp
      exact ⟨rfl, hp⟩
    · rw [if_neg k, if_neg k]
      have := z4 i (by omega)
      have e52 : S1.1 52 (i : Int) = zA S 52 (i : Int) := fr_A f1 (by omega) _
      rw [e52]
      exact this
theorem p_type : P_type Inv := by
  intro x0 x1
  have e0 : (Value.long x0) = .long (zL x0.toInt) := by rw [zL_of]
  have e1 : (Value.int x1) = .int (zI x1.toInt) := by rw [zI_of]
  rw [e0, e1]
  exact mkPair (fun n S => fD_type n S x0.toInt x1.toInt) (fun n S => fM_type n S x0.toInt x1.toInt) (fun o n S w h => sD_type o n S _ _ h) (fun o n S w h => sM_type o n S _ _ h) (fun S hG => q_type hG (rngI x1).1 (rngI x1).2)
end TY
