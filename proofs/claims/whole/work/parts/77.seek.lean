/-! ===== the class's search ===== -/
/-- Ways alone differs -/
def frW (S S' : ZS) : Prop := (∀ h : Nat, (h < 25 ∨ 31 < h) → S'.1 h = S.1 h) ∧ (∀ h j : Nat, (h ≠ 24 ∨ (j ≠ 11 ∧ j ≠ 12 ∧ j ≠ 14)) → S'.2.1 h j = S.2.1 h j)
theorem frW_trans {S S1 S2 : ZS} (h1 : frW S S1) (h2 : frW S1 S2) : frW S S2 := ⟨fun h a => (h2.1 h a).trans (h1.1 h a), fun h j a => (h2.2 h j a).trans (h1.2 h j a)⟩
theorem frW_A {S S' : ZS} (h : frW S S') {a : Nat} (ha : a < 25 ∨ 31 < a) (i : Int) : zA S' a i = zA S a i := congrFun (h.1 a ha) i
theorem frW_F {S S' : ZS} (h : frW S S') {a j : Nat} (ha : a ≠ 24 ∨ (j ≠ 11 ∧ j ≠ 12 ∧ j ≠ 14)) : zF S' a j = zF S a j := h.2 a j ha
theorem frW_tAt {S S' : ZS} (h : frW S S') {T : TW} (ht : tAt S 1 T) : tAt S' 1 T := ⟨fun j a b => (frW_F h (by omega)).trans (ht.1 j a b), fun i p a b c => (frW_A h (by omega) _).trans (ht.2.1 i p a b c), fun p a => (frW_A h (by omega) _).trans (ht.2.2 p a)⟩
theorem frG_W {S S' : ZS} (h : frG S S') : frW S S' := ⟨fun a ha => h.1 a (by omega), fun a j ha => h.2 a j (by omega)⟩
section SK
variable {S : ZS} {T : TW} {mv : Nat}
theorem sp_fillnd (S : ZS) (hn1 : 256 ≤ nn S) (hn2 : nn S ≤ 100000) {n : Nat} (hn : 400 ≤ n) : fA_fill_nd n S 0 256 1000 = some (wR S 31 (fil (S.1 31) 0 256 1000)) := by
  unfold fA_fill_nd fA_rangeCheck
  rw [gC_pos (by omega) (by omega) (by omega) (by omega), if_neg (by omega), gC_pos (by omega) (by omega) (by omega) (by omega), if_neg (by omega), gC_pos (by omega) (by omega) (by omega) (by omega), if_neg (by omega), Option.bind_some]
  have e := loop_row (F := fun n a p => fA_fill_nd_1 n a 256 1000 (0 + p)) S 31 256 (fun p => fil (S.1 31) 0 p 1000) (fun p => 0 + (p : Int)) (fun _ => 1000) (fil_0 _ _ _) (fun p _ => fil_s _ _ _ p) ?_ ?_ (n := n) (by omega)
  · have e : fA_fill_nd_1 n S 256 1000 (0 + 0) = _ := e
    rw [Int.add_zero] at e
    rw [e]
    rfl
  · intro n p hp
    show fA_fill_nd_1 (n + 1) (wR S 31 (fil (S.1 31) 0 p 1000)) 256 1000 (0 + (p : Int)) = fA_fill_nd_1 n (wA (wR S 31 (fil (S.1 31) 0 p 1000)) 31 (0 + (p : Int)) 1000) 256 1000 (0 + ((p : Int) + 1))
    have en : nn (wR S 31 (fil (S.1 31) 0 p 1000)) = nn S := rfl
    rw [fA_fill_nd_1, gC_pos (by omega) (by omega) (by omega) (by omega), if_pos (by omega), en, gX_pos (by omega) (by omega) (by omega), Int.add_assoc]
  · intro n
    show fA_fill_nd_1 (n + 1) (wR S 31 (fil (S.1 31) 0 256 1000)) 256 1000 (0 + ((256 : Nat) : Int)) = _
    rw [fA_fill_nd_1, gC_pos (by omega) (by omega) (by omega) (by omega), if_neg (by omega)]
theorem sp_seek1 (w : wfT T) (hmv : mv < 256) : ∀ (d i n : Nat) (S : ZS) (g : Bool), i + d = 255 → d + 1500 < n → tAt S 1 T → tabl S T → mvs S T mv → (g = true → firmB T (T.2 9) = true) → zF S 24 12 = (i : Int) → nRow S T mv i → gRoom S → 256 * (i + 1) ≤ nn S → (g = false → ∀ r, Lr T mv (i + r) (T.2 8) = Lr T mv i (T.2 8)) → (∀ r, r < i → (T.2 10 : Int) < Lr T mv r (T.2 8)) → ∃ (R : Nat) (S' : ZS), fW_seek_1 n S (bZ g) (i : Int) = some S' ∧ R ≤ 255 ∧ zF S' 24 12 = (R : Int) ∧ nRow S' T mv R ∧ frG S S' ∧ gRoom S' ∧ 256 * (R + 1) ≤ nn S' ∧ (∀ r, r < R → (T.2 10 : Int) < Lr T mv r (T.2 8)) ∧ (Lr T mv R (T.2 8) ≤ (T.2 10 : Int) ∨ Lr T mv 255 (T.2 8) = Lr T mv R (T.2 8)) := by
  have hq := pw_le w.1.1
  have h8 := w.2.1.1
  have h10 := w.2.1.2.2.1
  intro d
  induction d with
  | zero =>
    intro i n S g hi hn ht htb hm hf hr hrow hroom hnn hst hlo
    obtain ⟨k, rfl⟩ : ∃ k, n = k + 1 := ⟨n - 1, by omega⟩
    have : i = 255 := by omega
    subst this
    refine ⟨255, S, ?_, Nat.le_refl _, hr, hrow, frG_rfl, hroom, hnn, hlo, Or.inr rfl⟩
    rw [fW_seek_1, gC_pos (by omega) (by omega) (by omega) (by omega), if_neg (by omega)]
  | succ d ih =>
    intro i n S g hi hn ht htb hm hf hr hrow hroom hnn hst hlo
    obtain ⟨k, rfl⟩ : ∃ k, n = k + 1 := ⟨n - 1, by omega⟩
    have rn := room_nn hroom
    rw [fW_seek_1, gC_pos (by omega) (by omega) (by omega) (by omega), if_pos (by omega), gC_b]
    cases g with
    | false =>
      refine ⟨i, S, ?_, (by omega), hr, hrow, frG_rfl, hroom, hnn, hlo, Or.inr ?_⟩
      · rw [if_pos (show bZ false = 0 from rfl)]
      · have := hst rfl (255 - i)
        rw [show i + (255 - i) = 255 by omega] at this
        exact this
    | true =>
      have cur : zA S 31 ((i : Int) * 256 + (T.2 8 : Int)) = Lr T mv i (T.2 8) := by
        rw [← hrow i (Nat.le_refl _) (T.2 8) h8]
        congr 1
        omega
      have cb := Lr_bd (T := T) (mv := mv) i (T.2 8)
      rw [if_neg (show ¬ bZ true = 0 by decide), ht.1 8 (by omega) (by omega), gX_pos (by omega) (by omega) (by omega), cur, ht.1 10 (by omega) (by omega), gC_pos (by omega) (by omega) (by omega) (by omega)]
      by_cases c : (T.2 10 : Int) < Lr T mv i (T.2 8)
      · obtain ⟨g', S1, e1, e2, e3, e4, e5, e6, e7⟩ := sp_growRow ht w.1 w.2.1.2.2.2.2 htb hm (hf rfl) hr (by omega) hrow hroom hnn (n := k) (by omega)
        obtain ⟨R, S', k1, k2, k3, k4, k5, k6⟩ := ih (i + 1) k S1 g' (by omega) (by omega) (frG_tAt e5 ht) (frG_tabl e5 htb) (frG_mvs e5 hm) (fun _ => hf rfl) e2 e3 e6 e7 (fun hg r => by
          have hs : ∀ s, s < 2 ^ T.2 6 → Lr T mv (i + 1) s = Lr T mv i s := by
            intro s hs
            apply Decidable.byContradiction
            intro hne
            have := e4.mpr ⟨s, hs, hne⟩
            rw [hg] at this
            cases this
          have a := Lr_stable hs (1 + r) (T.2 8) h8
          have b := hs (T.2 8) h8
          rw [show i + (1 + r) = i + 1 + r by omega] at a
          omega) (fun r hr => by
          by_cases y : r = i
          · subst y; exact c
          · exact hlo r (by omega))
        refine ⟨R, S', ?_, k2, k3, k4, frG_trans e5 k5, k6⟩
        rw [if_pos c, sp_all ht w.1, Option.bind_some, e1, Option.bind_some]
        exact k1
      · refine ⟨i, S, ?_, (by omega), hr, hrow, frG_rfl, hroom, hnn, hlo, Or.inl (by omega)⟩
        rw [if_neg c]
theorem fnd_some {R : Nat} (hR : R ≤ 255) (h1 : Lr T mv R (T.2 8) ≤ (T.2 10 : Int)) (h2 : ∀ r, r < R → (T.2 10 : Int) < Lr T mv r (T.2 8)) : fnd T mv = some R := by
  unfold fnd
  cases hf : firstTo (fun r => decide (Lr T mv r (T.2 8) ≤ (T.2 10 : Int))) 256 with
  | none =>
    have := findFrom_none hf R (by omega) (by omega)
    have := of_decide_eq_false this
    exact absurd h1 this
  | some k =>
    obtain ⟨a1, a2, a3, a4⟩ := findFrom_some hf
    have a3 := of_decide_eq_true a3
    by_cases c : k < R
    · have := h2 k c
      omega
    · by_cases e : R < k
      · have := of_decide_eq_false (a4 R (by omega) e)
        exact absurd h1 this
      · have : k = R := by omega
        rw [this]
theorem fnd_none (h : (T.2 10 : Int) < Lr T mv 255 (T.2 8)) : fnd T mv = none := by
  unfold fnd
  cases hf : firstTo (fun r => decide (Lr T mv r (T.2 8) ≤ (T.2 10 : Int))) 256 with
  | none => rfl
  | some k =>
    obtain ⟨a1, a2, a3, a4⟩ := findFrom_some hf
    have a3 := of_decide_eq_true a3
    have := Lr_le (T := T) (mv := mv) (r := k) (r' := 255) (by omega) (T.2 8)
    omega
theorem sp_seek (ht : tAt S 1 T) (w : wfT T) (h14 : zF S 24 14 = 0 ∨ (zF S 24 14 = 1 ∧ tabl S T)) (hmv : mv < 256) (hroom : gRoom S) {n : Nat} (hn : 3000 ≤ n) : ∃ (R : Nat) (b : Bool) (S' : ZS), fW_seek n S (mv : Int) = some (bZ b, S') ∧ R ≤ 255 ∧ zF S' 24 12 = (R : Int) ∧ nRow S' T mv R ∧ gRoom S' ∧ 256 * (R + 1) ≤ nn S' ∧ tabl S' T ∧ zF S' 24 14 = 1 ∧ frW S S' ∧ (b = true → fnd T mv = some R) ∧ (b = false → fnd T mv = none ∧ Lr T mv 255 (T.2 8) = Lr T mv R (T.2 8)) := by
  have hq := pw_le w.1.1
  have hp := pw_pos (T.2 6)
  have h8 := w.2.1.1
  have h9 := w.2.1.2.1
  have h10 := w.2.1.2.2.1
  obtain ⟨S1, a1, a2, a3, a4, a5, a6⟩ := sp_table ht w.1 h14 (n := n) (by omega)
  have t1 : tAt S1 1 T := ⟨fun j x y => (show zF S1 1 j = zF S 1 j from a5 1 j (by omega)).trans (ht.1 j x y), fun i p x y z => (show zA S1 (1 + i) _ = _ from congrFun (a4 (1 + i) (by omega)) _).trans (ht.2.1 i p x y z), fun p x => (show zA S1 (1 + 6) _ = _ from congrFun (a4 (1 + 6) (by omega)) _).trans (ht.2.2 p x)⟩
  obtain ⟨S2, b1, b2, b3, b4, b5⟩ := sp_moves t1 w.1 w.2.1.2.2.2.2 a2 hmv (n := n) (by omega)
  have t2 : tAt S2 1 T := ⟨fun j x y => (show zF S2 1 j = zF S1 1 j from b4 1 j (by omega)).trans (t1.1 j x y), fun i p x y z => (show zA S2 (1 + i) _ = _ from congrFun (b3 (1 + i) (by omega)) _).trans (t1.2.1 i p x y z), fun p x => (show zA S2 (1 + 6) _ = _ from congrFun (b3 (1 + 6) (by omega)) _).trans (t1.2.2 p x)⟩
  have rm2 : gRoom S2 := ex_gRoom (b5.trans a6) hroom
  have tb2 : tabl S2 T := by
    intro s hs
    have A : ∀ (h : Nat) (i : Int), h ≠ 30 → zA S2 h i = zA S1 h i := fun h i hh => congrFun (b3 h hh) i
    rw [A 25 _ (by omega), A 26 _ (by omega), A 27 _ (by omega), A 28 _ (by omega), A 29 _ (by omega)]
    exact a2 s hs
  have rn := room_nn rm2
  -- the first row
  have f4 : frG S2 (wA (wR (wF S2 24 12 0) 31 (fil ((wF S2 24 12 0).1 31) 0 256 1000)) 31 (T.2 9 : Int) 0) := by
    refine ⟨fun h hh => ?_, fun h j hh => ?_⟩
    · show (if h = 31 then _ else (if h = 31 then _ else S2.1 h)) = S2.1 h
      rw [if_neg hh, if_neg hh]
    · show (if j = 12 then (if h = 24 then 0 else S2.2.1 h j) else S2.2.1 h j) = S2.2.1 h j
      by_cases c : j = 12
      · rw [if_pos c, if_neg (by omega)]
      · rw [if_neg c]
  have r4 : nRow (wA (wR (wF S2 24 12 0) 31 (fil ((wF S2 24 12 0).1 31) 0 256 1000)) 31 (T.2 9 : Int) 0) T mv 0 := by
    intro i hi s hs
    have : i = 0 := by omega
    subst this
    rw [zA_wA, if_pos rfl, zA_wR, if_pos rfl]
    show _ = (if s = T.2 9 then (0 : Int) else 1000)
    by_cases c : s = T.2 9
    · rw [if_pos c, if_pos (by omega)]
    · rw [if_neg c, if_neg (by omega)]
      unfold fil
      rw [if_pos (by omega)]
  have rm4 : gRoom (wA (wR (wF S2 24 12 0) 31 (fil ((wF S2 24 12 0).1 31) 0 256 1000)) 31 (T.2 9 : Int) 0) := ex_gRoom rfl rm2
  have n4 : nn (wA (wR (wF S2 24 12 0) 31 (fil ((wF S2 24 12 0).1 31) 0 256 1000)) 31 (T.2 9 : Int) 0) = nn S2 := rfl
  have z4 : zF (wA (wR (wF S2 24 12 0) 31 (fil ((wF S2 24 12 0).1 31) 0 256 1000)) 31 (T.2 9 : Int) 0) 24 12 = ((0 : Nat) : Int) := rfl
  have e3 := sp_fillnd (wF S2 24 12 0) (show 256 ≤ nn S2 by omega) (show nn S2 ≤ 100000 by omega) (n := n) (by omega)
  have e9 : zF (wR (wF S2 24 12 0) 31 (fil ((wF S2 24 12 0).1 31) 0 256 1000)) 1 9 = (T.2 9 : Int) := t2.1 9 (by omega) (by omega)
  have e8 : zF (wR (wF S2 24 12 0) 31 (fil ((wF S2 24 12 0).1 31) 0 256 1000)) 1 8 = (T.2 8 : Int) := t2.1 8 (by omega) (by omega)
  have e28 : zA (wR (wF S2 24 12 0) 31 (fil ((wF S2 24 12 0).1 31) 0 256 1000)) 28 (T.2 9 : Int) = bZ (firmB T (T.2 9)) := (tb2 _ h9).2.2.2.1
  have nz : nn (wR (wF S2 24 12 0) 31 (fil ((wF S2 24 12 0).1 31) 0 256 1000)) = nn S2 := rfl
  generalize hZ : wR (wF S2 24 12 0) 31 (fil ((wF S2 24 12 0).1 31) 0 256 1000) = Z at *
  generalize hQ : wA Z 31 (T.2 9 : Int) 0 = Q at *
  have hx : T.2 8 ^^^ T.2 9 < 2 ^ T.2 6 := Nat.xor_lt_two_pow h8 h9
  have hdl := nDf_le (T.2 8 ^^^ T.2 9) mv
  have eg : (gC (zA Z 28 (T.2 9 : Int)) 0 (if (zA Z 28 (T.2 9 : Int)) = 0 then some 0 else gC (zand (zxor (zF Z 1 8) (T.2 9 : Int)) (zxor (mv : Int) (-1))) 0 (if (zand (zxor (zF Z 1 8) (T.2 9 : Int)) (zxor (mv : Int) (-1))) = 0 then some 1 else some 0))) = some (bZ (firmB T (T.2 9) && (nDf (T.2 8 ^^^ T.2 9) mv == 0))) := by
    rw [e28, gC_b, e8, zxor_n (by omega) (by omega), zdf_n (by omega) (by omega), gC_pos (by omega) (by omega) (by omega) (by omega)]
    cases firmB T (T.2 9) with
    | false => rfl
    | true =>
      rw [if_neg (show ¬ bZ true = 0 by decide)]
      by_cases c : nDf (T.2 8 ^^^ T.2 9) mv = 0
      · rw [c]; rfl
      · rw [if_neg (by omega), show (nDf (T.2 8 ^^^ T.2 9) mv == 0) = false by simp [c]]
        rfl
  obtain ⟨R, S', k1, k2, k3, k4, k5, k6, k7, k8, k9⟩ := sp_seek1 w hmv 255 0 n Q (firmB T (T.2 9) && (nDf (T.2 8 ^^^ T.2 9) mv == 0)) (by omega) (by omega) (frG_tAt f4 t2) (frG_tabl f4 tb2) (frG_mvs f4 b2) (fun h => by rw [Bool.and_eq_true] at h; exact h.1) z4 r4 rm4 (by omega) (fun h r => by
    rw [Nat.zero_add]
    cases hf : firmB T (T.2 9) with
    | false => exact Lr_unfirm hf r _
    | true =>
      have hne : ¬ nDf (T.2 8 ^^^ T.2 9) mv = 0 := by
        intro z
        rw [hf, z] at h
        cases h
      have x1 := Lr_bd (T := T) (mv := mv) r (T.2 8)
      have x2 := Lr_bd (T := T) (mv := mv) 0 (T.2 8)
      have y1 : ¬ Lr T mv r (T.2 8) ≤ 999 := fun z => hne (Lr_mov r _ z)
      have y2 : ¬ Lr T mv 0 (T.2 8) ≤ 999 := fun z => hne (Lr_mov 0 _ z)
      omega) (fun r hr => absurd hr (by omega))
  have rn' := room_nn k6
  have t' := frG_tAt k5 (frG_tAt f4 t2)
  have cur : zA S' 31 ((R : Int) * 256 + (T.2 8 : Int)) = Lr T mv R (T.2 8) := by
    rw [show (R : Int) * 256 + (T.2 8 : Int) = 256 * (R : Int) + (T.2 8 : Int) by omega]
    exact k4 R (Nat.le_refl _) (T.2 8) h8
  have cb := Lr_bd (T := T) (mv := mv) R (T.2 8)
  have f14 : zF S' 24 14 = 1 := by
    rw [frG_F k5 (by omega), frG_F f4 (by omega)]
    exact (show zF S2 24 14 = zF S1 24 14 from b4 24 14 (by omega)).trans a3
  have fW : frW S S' := frW_trans (S1 := S2) ⟨fun h hh => (b3 h (by omega)).trans (a4 h (by omega)), fun h j hh => (b4 h j (by omega)).trans (a5 h j (by omega))⟩ (frW_trans (frG_W f4) (frG_W k5))
  have pre : ∀ b : Bool, (if (T.2 10 : Int) < Lr T mv R (T.2 8) then gB 0 (some ((0 : Int), S')) else gB 1 (some (1, S'))) = some (bZ b, S') → fW_seek n S (mv : Int) = some (bZ b, S') := by
    intro b hb
    unfold fW_seek
    rw [a1, Option.bind_some, b1, Option.bind_some, e3, Option.bind_some, e9, nz, gX_pos (by omega) (by omega) (by omega), gX_pos (by omega) (by omega) (by omega), eg, Option.bind_some, hQ]
    have k1 : fW_seek_1 n Q (bZ (firmB T (T.2 9) && (nDf (T.2 8 ^^^ T.2 9) mv == 0))) 0 = some S' := k1
    rw [k1, Option.bind_some, k3, t'.1 8 (by omega) (by omega), gX_pos (by omega) (by omega) (by omega), cur, t'.1 10 (by omega) (by omega), gC_pos (by omega) (by omega) (by omega) (by omega)]
    exact hb
  by_cases c : (T.2 10 : Int) < Lr T mv R (T.2 8)
  · have h255 : Lr T mv 255 (T.2 8) = Lr T mv R (T.2 8) := by
      rcases k9 with z | z
      · omega
      · exact z
    exact ⟨R, false, S', pre false (by rw [if_pos c]; exact gB_0), k2, k3, k4, k6, k7, frG_tabl k5 (frG_tabl f4 tb2), f14, fW, (fun h => (by cases h)), fun _ => ⟨fnd_none (by omega), h255⟩⟩
  · exact ⟨R, true, S', pre true (by rw [if_neg c]; exact gB_1), k2, k3, k4, k6, k7, frG_tabl k5 (frG_tabl f4 tb2), f14, fW, fun _ => fnd_some k2 (by omega) k8, fun h => (by cases h)⟩
end SK
