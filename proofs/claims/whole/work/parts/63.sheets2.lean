/-! ===== pairs: sheet, copy, image, restore, person ===== -/
theorem wR_wR (S : ZS) (h : Nat) (f g : Int → Int) : wR (wR S h f) h g = wR S h g := by
  unfold wR
  refine Prod.ext ?_ rfl
  funext h'
  show (if h' = h then g else if h' = h then f else S.1 h') = (if h' = h then g else S.1 h')
  by_cases c : h' = h
  · rw [if_pos c, if_pos c]
  · rw [if_neg c, if_neg c, if_neg c]
/-- a stretch of a row filled -/
def fil (f : Int → Int) (lo : Int) (p : Nat) (v : Int) : Int → Int := fun y => if lo ≤ y ∧ y < lo + (p : Int) then v else f y
theorem fil_0 (f : Int → Int) (lo v : Int) : fil f lo 0 v = f := by
  funext y
  unfold fil
  rw [if_neg (by omega)]
theorem fil_s (f : Int → Int) (lo v : Int) (p : Nat) : zu (fil f lo p v) (lo + (p : Int)) v = fil f lo (p + 1) v := by
  funext y
  unfold zu fil
  by_cases c : y = lo + (p : Int)
  · rw [if_pos c, if_pos (by omega)]
  · rw [if_neg c]
    by_cases d : lo ≤ y ∧ y < lo + (p : Int)
    · rw [if_pos d, if_pos (by omega)]
    · rw [if_neg d, if_neg (by omega)]
/-- a stretch of a row copied -/
def cpy (f g : Int → Int) (sp dp : Int) (p : Nat) : Int → Int := fun y => if dp ≤ y ∧ y < dp + (p : Int) then f (sp + (y - dp)) else g y
theorem cpy_0 (f g : Int → Int) (sp dp : Int) : cpy f g sp dp 0 = g := by
  funext y
  unfold cpy
  rw [if_neg (by omega)]
theorem cpy_s (f g : Int → Int) (sp dp : Int) (p : Nat) : zu (cpy f g sp dp p) (dp + (p : Int)) (f (sp + (p : Int))) = cpy f g sp dp (p + 1) := by
  funext y
  unfold zu cpy
  by_cases c : y = dp + (p : Int)
  · rw [if_pos c, if_pos (by omega)]
    congr 1
    omega
  · rw [if_neg c]
    by_cases d : dp ≤ y ∧ y < dp + (p : Int)
    · rw [if_pos d, if_pos (by omega)]
    · rw [if_neg d, if_neg (by omega)]
theorem zc_cp (f g : Int → Int) (sp dp : Int) (p : Nat) : zc f g sp dp (p : Int) = cpy f g sp dp p := rfl
section SH
variable {S : ZS}
theorem sp_fill46 (S : ZS) {lo hi : Int} {k : Nat} (h0 : 0 ≤ lo) (hk : hi = lo + (k : Int)) (h9 : hi ≤ 96) (v : Int) {n : Nat} (hn : 200 ≤ n) : fA_fill_46 n S lo hi v = some (wR S 46 (fil (S.1 46) lo k v)) := by
  unfold fA_fill_46 fA_rangeCheck
  rw [gC_pos (by omega) (by omega) (by omega) (by omega), if_neg (by omega), gC_pos (by omega) (by omega) (by omega) (by omega), if_neg (by omega), gC_pos (by omega) (by omega) (by omega) (by omega), if_neg (by omega), Option.bind_some]
  have e := loop_row (F := fun n a p => fA_fill_46_1 n a hi v (lo + p)) S 46 k (fun p => fil (S.1 46) lo p v) (fun p => lo + (p : Int)) (fun _ => v) (fil_0 _ _ _) (fun p _ => fil_s _ _ _ p) ?_ ?_ (n := n) (by omega)
  · have e : fA_fill_46_1 n S hi v (lo + 0) = _ := e
    rw [Int.add_zero] at e
    rw [e]
    rfl
  · intro n p hp
    show fA_fill_46_1 (n + 1) (wR S 46 (fil (S.1 46) lo p v)) hi v (lo + (p : Int)) = fA_fill_46_1 n (wA (wR S 46 (fil (S.1 46) lo p v)) 46 (lo + (p : Int)) v) hi v (lo + ((p : Int) + 1))
    rw [fA_fill_46_1, gC_pos (by omega) (by omega) (by omega) (by omega), if_pos (by omega), gX_pos (by omega) (by omega) (by omega), Int.add_assoc]
  · intro n
    show fA_fill_46_1 (n + 1) (wR S 46 (fil (S.1 46) lo k v)) hi v (lo + (k : Int)) = _
    rw [fA_fill_46_1, gC_pos (by omega) (by omega) (by omega) (by omega), if_neg (by omega)]
theorem sm_fill72 (S : ZS) {s m : Int} (h1 : 0 ≤ s) (h2 : s ≤ 3) {n : Nat} (hn : 200 ≤ n) : fM_sheet_1 n S s m 0 = some (wR S 72 (fil (S.1 72) (24 * s) 24 0)) := by
  refine loop_row (F := fun n a p => fM_sheet_1 n a s m p) S 72 24 (fun p => fil (S.1 72) (24 * s) p 0) (fun p => 24 * s + (p : Int)) (fun _ => 0) (fil_0 _ _ _) (fun p _ => fil_s _ _ _ p) ?_ ?_ (by omega)
  · intro n p hp
    show fM_sheet_1 (n + 1) (wR S 72 (fil (S.1 72) (24 * s) p 0)) s m (p : Int) = fM_sheet_1 n (wA (wR S 72 (fil (S.1 72) (24 * s) p 0)) 72 (24 * s + (p : Int)) 0) s m ((p : Int) + 1)
    rw [fM_sheet_1, gC_pos (by omega) (by omega) (by omega) (by omega), if_pos (by omega), gX_pos (by omega) (by omega) (by omega)]
  · intro n
    show fM_sheet_1 (n + 1) (wR S 72 (fil (S.1 72) (24 * s) 24 0)) s m ((24 : Nat) : Int) = _
    rw [fM_sheet_1, gC_pos (by omega) (by omega) (by omega) (by omega), if_neg (by omega)]
theorem q_sheet (hG : Good S) {s l m : Int} (h1 : -2147483648 ≤ s) (h2 : s < 2147483648) (h3 : -2147483648 ≤ l) (h4 : l < 2147483648) (h5 : -2147483648 ≤ m) (h6 : m < 2147483648) : ∃ n w S1 S2, fD_sheet n S s l m = some (w, S1) ∧ fM_sheet n S1 s l m = some (w, S2) ∧ Good S2 := by
  obtain ⟨T, -, -, -, g, -⟩ := id hG
  refine ⟨300, ?_⟩
  unfold fD_sheet fM_sheet
  rw [sp_isNamed 300 S h1 h2 h3 h4, Option.bind_some, gC_b]
  by_cases c : 0 ≤ s ∧ s ≤ 3 ∧ 0 ≤ l ∧ l ≤ 2
  rotate_left
  · refine ⟨-1, S, S, ?_, ?_, hG⟩
    · rw [decide_eq_false c, if_pos (show bZ false = 0 from rfl)]
    · rw [sm_isSheet 300 S h1 h2 h3 h4, Option.bind_some, gC_b, decide_eq_false c, if_pos (show bZ false = 0 from rfl)]
  rw [decide_eq_true c, if_neg (show ¬ bZ true = 0 by decide), gC_pos (by omega) (by omega) (by omega) (by omega)]
  have E : ∀ S' : ZS, fM_sheet 300 S' s l m = gC m 24 (if 24 < m then some (-1, S') else gC m 0 (if m < 0 then some (-14, S') else gX s 4 (gX s 4 ((fM_sheet_1 300 (wA (wA S' 70 s l) 71 s m) s m 0).bind fun z2 => some (m, z2))))) := by
    intro S'
    unfold fM_sheet
    rw [sm_isSheet 300 S' h1 h2 h3 h4, Option.bind_some, gC_b, decide_eq_true c, if_neg (show ¬ bZ true = 0 by decide)]
  by_cases d : 24 < m
  · refine ⟨-1, S, S, ?_, ?_, hG⟩
    · rw [if_pos d]
    · refine (E S).trans ?_
      rw [gC_pos (by omega) (by omega) (by omega) (by omega), if_pos d]
  rw [if_neg d, gC_pos (by omega) (by omega) (by omega) (by omega)]
  by_cases e : m < 0
  · refine ⟨-14, S, S, ?_, ?_, hG⟩
    · rw [if_pos e]
    · refine (E S).trans ?_
      rw [gC_pos (by omega) (by omega) (by omega) (by omega), if_neg d, gC_pos (by omega) (by omega) (by omega) (by omega), if_pos e]
  rw [if_neg e]
  have f1 : fr 46 48 45 S (wR (wA (wA S 47 s l) 48 s m) 46 (fil (S.1 46) (s * 24) 24 0)) := fr_trans (fr_trans (fr_wA _ _ _ (by omega) (by omega)) (fr_wA _ _ _ (by omega) (by omega))) (fr_wR _ _ (by omega) (by omega))
  generalize hS1 : wR (wA (wA S 47 s l) 48 s m) 46 (fil (S.1 46) (s * 24) 24 0) = S1 at *
  refine ⟨m, S1, wR (wA (wA S1 70 s l) 71 s m) 72 (fil (S1.1 72) (24 * s) 24 0), ?_, ?_, ?_⟩
  · unfold fH_renew
    rw [gX_pos (by omega) (by omega) (by omega), gX_pos (by omega) (by omega) (by omega), sp_fill46 _ (k := 24) (by omega) (by omega) (by omega) 0 (by omega), Option.bind_some, Option.bind_some]
    rw [← hS1]
    rfl
  · refine (E S1).trans ?_
    rw [gC_pos (by omega) (by omega) (by omega) (by omega), if_neg d, gC_pos (by omega) (by omega) (by omega) (by omega), if_neg e, gX_pos (by omega) (by omega) (by omega), gX_pos (by omega) (by omega) (by omega), sm_fill72 _ (by omega) (by omega) (by omega), Option.bind_some]
    rfl
  · refine good_sh hG f1 (fr_trans (fr_trans (fr_wA _ _ _ (by omega) (by omega)) (fr_wA _ _ _ (by omega) (by omega))) (fr_wR _ _ (by omega) (by omega))) ?_
    have A : ∀ h i, zA S1 h i = if h = 46 then fil (S.1 46) (s * 24) 24 0 i else if h = 48 then (if i = s then m else zA S 48 i) else if h = 47 then (if i = s then l else zA S 47 i) else zA S h i := by
      intro h i
      rw [← hS1]
      simp only [zA_wR, zA_wA]
      by_cases k1 : h = 46
      · simp [k1]
      · by_cases k2 : h = 48
        · simp [k2]
        · by_cases k3 : h = 47
          · simp [k3]
          · simp [k1, k2, k3]
    refine ⟨fun i a b => ?_, fun s' a b => ?_⟩
    · have := g.1 i a b
      have e72 : fil (S1.1 72) (24 * s) 24 0 i = fil (S.1 72) (s * 24) 24 0 i := by
        unfold fil
        rw [show S1.1 72 i = zA S1 72 i from rfl, A, Int.mul_comm 24 s]
        rfl
      simp only [zA_wR, zA_wA]
      simp only [show ¬ (46 : Nat) = 72 by decide, show ¬ (46 : Nat) = 71 by decide, show ¬ (46 : Nat) = 70 by decide, if_false, if_true]
      rw [A, if_pos rfl, e72]
      unfold fil
      by_cases k : s * 24 ≤ i ∧ i < s * 24 + ((24 : Nat) : Int)
      · rw [if_pos k, if_pos k]
        omega
      · rw [if_neg k, if_neg k]
        exact this
    · have := g.2 s' a b
      simp only [zA_wR, zA_wA]
      simp only [A]
      by_cases k : s' = s
      · right
        simp [k]
        omega
      · simpa [k] using this
theorem p_sheet : P_sheet Inv := by
  intro x0 x1 x2
  have e0 : (Value.int x0) = .int (zI x0.toInt) := by rw [zI_of]
  have e1 : (Value.int x1) = .int (zI x1.toInt) := by rw [zI_of]
  have e2 : (Value.int x2) = .int (zI x2.toInt) := by rw [zI_of]
  rw [e0, e1, e2]
  exact mkPair (fun n S => fD_sheet n S x0.toInt x1.toInt x2.toInt) (fun n S => fM_sheet n S x0.toInt x1.toInt x2.toInt) (fun o n S w h => sD_sheet o n S _ _ _ h) (fun o n S w h => sM_sheet o n S _ _ _ h) (fun S hG => q_sheet hG (rngI x0).1 (rngI x0).2 (rngI x1).1 (rngI x1).2 (rngI x2).1 (rngI x2).2)
theorem sm_cp1 (S : ZS) {f i to j : Int} {k : Nat} (h1 : 0 ≤ f) (h2 : f ≤ 3) (h3 : 0 ≤ i) (h4 : i + (k : Int) ≤ 24) {n : Nat} (hn : 100 ≤ n) : fM_copy_1 n S f i to j (k : Int) 0 = some (wR S 73 (cpy (S.1 72) (S.1 73) (24 * f + i) 0 k)) := by
  refine loop_row (F := fun n a p => fM_copy_1 n a f i to j (k : Int) p) S 73 k (fun p => cpy (S.1 72) (S.1 73) (24 * f + i) 0 p) (fun p => 0 + (p : Int)) (fun p => S.1 72 (24 * f + i + (p : Int))) (cpy_0 _ _ _ _) (fun p _ => cpy_s _ _ _ _ p) ?_ ?_ (by omega)
  · intro n p hp
    show fM_copy_1 (n + 1) (wR S 73 (cpy (S.1 72) (S.1 73) (24 * f + i) 0 p)) f i to j (k : Int) (p : Int) = fM_copy_1 n (wA (wR S 73 (cpy (S.1 72) (S.1 73) (24 * f + i) 0 p)) 73 (0 + (p : Int)) (S.1 72 (24 * f + i + (p : Int)))) f i to j (k : Int) ((p : Int) + 1)
    rw [fM_copy_1, gC_pos (by omega) (by omega) (by omega) (by omega), if_pos (by omega), gX_pos (by omega) (by omega) (by omega), gX_pos (by omega) (by omega) (by omega), Int.zero_add]
    rfl
  · intro n
    show fM_copy_1 (n + 1) (wR S 73 (cpy (S.1 72) (S.1 73) (24 * f + i) 0 k)) f i to j (k : Int) (k : Int) = _
    rw [fM_copy_1, gC_pos (by omega) (by omega) (by omega) (by omega), if_neg (by omega)]
theorem sm_cp2 (S : ZS) {to j : Int} {k : Nat} (h1 : 0 ≤ to) (h2 : to ≤ 3) (h3 : 0 ≤ j) (h4 : j + (k : Int) ≤ 24) {n : Nat} (hn : 100 ≤ n) : fM_copy_2 n S to j (k : Int) 0 = some (wR S 72 (cpy (S.1 73) (S.1 72) 0 (24 * to + j) k)) := by
  refine loop_row (F := fun n a p => fM_copy_2 n a to j (k : Int) p) S 72 k (fun p => cpy (S.1 73) (S.1 72) 0 (24 * to + j) p) (fun p => 24 * to + j + (p : Int)) (fun p => S.1 73 (0 + (p : Int))) (cpy_0 _ _ _ _) (fun p _ => cpy_s _ _ _ _ p) ?_ ?_ (by omega)
  · intro n p hp
    show fM_copy_2 (n + 1) (wR S 72 (cpy (S.1 73) (S.1 72) 0 (24 * to + j) p)) to j (k : Int) (p : Int) = fM_copy_2 n (wA (wR S 72 (cpy (S.1 73) (S.1 72) 0 (24 * to + j) p)) 72 (24 * to + j + (p : Int)) (S.1 73 (0 + (p : Int)))) to j (k : Int) ((p : Int) + 1)
    rw [fM_copy_2, gC_pos (by omega) (by omega) (by omega) (by omega), if_pos (by omega), gX_pos (by omega) (by omega) (by omega), gX_pos (by omega) (by omega) (by omega), Int.zero_add]
    rfl
  · intro n
    show fM_copy_2 (n + 1) (wR S 72 (cpy (S.1 73) (S.1 72) 0 (24 * to + j) k)) to j (k : Int) (k : Int) = _
    rw [fM_copy_2, gC_pos (by omega) (by omega) (by omega) (by omega), if_neg (by omega)]
end SH
