/-! ===== sheets ===== -/
theorem sh64 {x : Int64} {k : Nat} {y : Int64} (hy : y.toBitVec.smod 64 = BitVec.ofNat 64 k) (hk : k < 64) : ((x <<< y) >>> y).toInt = ((x.toBitVec.toNat : Int) * 2 ^ k).bmod (2 ^ 64) / 2 ^ k := by
  show (BitVec.sshiftRight' (x.toBitVec <<< (y.toBitVec.smod 64)) (y.toBitVec.smod 64)).toInt = _
  rw [hy]
  unfold BitVec.sshiftRight'
  rw [BitVec.toInt_sshiftRight, BitVec.toNat_ofNat, Nat.mod_eq_of_lt (by omega)]
  have : (x.toBitVec <<< BitVec.ofNat 64 k) = x.toBitVec <<< k := by
    rw [BitVec.shiftLeft_eq', BitVec.toNat_ofNat, Nat.mod_eq_of_lt (by omega)]
  rw [this, BitVec.toInt_shiftLeft, Int.shiftRight_eq_div_pow, Nat.shiftLeft_eq, Int.natCast_mul, Int.natCast_pow]
  rfl
theorem zL_bvn (v : Int) : (((zL v).toBitVec.toNat : Nat) : Int) = v % 18446744073709551616 := by
  show (((BitVec.ofInt 64 v).toNat : Nat) : Int) = _
  rw [BitVec.toNat_ofInt]
  omega
theorem lane16 {v : Int} (h1 : -9223372036854775808 ≤ v) (h2 : v < 9223372036854775808) : zlshr (zlshl v 48) 48 = zs16 (zl2i v) := by
  have e1 : zs16 (zl2i v) = (v.bmod (2 ^ 32)).bmod (2 ^ 16) := by
    unfold zs16 zl2i
    rw [zI_of, Int16.toInt_toInt32, Int32.toInt_toInt16, Int64.toInt_toInt32, zL_to h1 h2]
  have e2 : zlshr (zlshl v 48) 48 = ((zL v <<< ((zI 48).toInt64 &&& 63)) >>> ((zI 48).toInt64 &&& 63)).toInt := by
    unfold zlshr zlshl
    rw [zL_of]
  rw [e1, e2, sh64 (k := 48) (by decide) (by omega), zL_bvn, Int.bmod_def, Int.bmod_def, Int.bmod_def]
  simp only [show ((2 : Int) ^ 48) = 281474976710656 from rfl, show ((2 ^ 64 : Nat) : Int) = 18446744073709551616 from rfl, show ((2 ^ 32 : Nat) : Int) = 4294967296 from rfl, show ((2 ^ 16 : Nat) : Int) = 65536 from rfl]
  split <;> split <;> split <;> omega
theorem lane32 {v : Int} (h1 : -9223372036854775808 ≤ v) (h2 : v < 9223372036854775808) : zlshr (zlshl v 32) 32 = zl2i v := by
  have e1 : zl2i v = v.bmod (2 ^ 32) := by
    unfold zl2i
    rw [Int64.toInt_toInt32, zL_to h1 h2]
  have e2 : zlshr (zlshl v 32) 32 = ((zL v <<< ((zI 32).toInt64 &&& 63)) >>> ((zI 32).toInt64 &&& 63)).toInt := by
    unfold zlshr zlshl
    rw [zL_of]
  rw [e1, e2, sh64 (k := 32) (by decide) (by omega), zL_bvn, Int.bmod_def, Int.bmod_def]
  simp only [show ((2 : Int) ^ 32) = 4294967296 from rfl, show ((2 ^ 64 : Nat) : Int) = 18446744073709551616 from rfl, show ((2 ^ 32 : Nat) : Int) = 4294967296 from rfl]
  split <;> split <;> omega
def laneV (l v : Int) : Int := if l = 0 then zs16 (zl2i v) else if l = 1 then zl2i v else v
theorem zl2i_rng (v : Int) : -2147483648 ≤ zl2i v ∧ zl2i v < 2147483648 := rngI _
theorem zs16_rng (v : Int) : -2147483648 ≤ zs16 v ∧ zs16 v < 2147483648 := rngI _
theorem laneV_rng {l v : Int} (h1 : -9223372036854775808 ≤ v) (h2 : v < 9223372036854775808) : -9223372036854775808 ≤ laneV l v ∧ laneV l v < 9223372036854775808 := by
  have a := zl2i_rng v
  have b := zs16_rng (zl2i v)
  unfold laneV
  split
  · omega
  · split <;> omega
theorem wR_self (S : ZS) (h : Nat) : wR S h (S.1 h) = S := by
  unfold wR
  have : (fun h' => if h' = h then S.1 h else S.1 h') = S.1 := by
    funext h'
    by_cases c : h' = h
    · rw [if_pos c, c]
    · rw [if_neg c]
  rw [this]
theorem wA_wR (S : ZS) (h : Nat) (f : Int → Int) (x v : Int) : wA (wR S h f) h x v = wR S h (zu f x v) := by
  unfold wA wR
  have : (fun h' => if h' = h then zu ((fun h' => if h' = h then f else S.1 h') h) x v else (fun h' => if h' = h then f else S.1 h') h') = fun h' => if h' = h then zu f x v else S.1 h' := by
    funext h'
    by_cases c : h' = h
    · rw [if_pos c, if_pos c]
      simp only [if_true]
    · rw [if_neg c, if_neg c]
      simp only [if_neg c]
  exact Prod.ext this rfl
/-- a loop that writes a row, one item a turn -/
theorem loop_row {F : Nat → ZS → Int → Option ZS} (S : ZS) (h K : Nat) (f : Nat → Int → Int) (x v : Nat → Int) (h0 : f 0 = S.1 h) (hf : ∀ p, p < K → zu (f p) (x p) (v p) = f (p + 1)) (hs : ∀ n p : Nat, p < K → F (n + 1) (wR S h (f p)) (p : Int) = F n (wA (wR S h (f p)) h (x p) (v p)) ((p : Int) + 1)) (he : ∀ n : Nat, F (n + 1) (wR S h (f K)) (K : Int) = some (wR S h (f K))) {n : Nat} (hn : K < n) : F n S 0 = some (wR S h (f K)) := by
  have e := loop_for (F := F) (fun p => wR S h (f p)) K 0 (res := some (wR S h (f K))) (fun n p hp _ => by rw [hs n p hp, wA_wR, hf p hp]) (fun n _ => he n) n (by omega)
  rw [h0, wR_self] at e
  exact e
section SH
variable {S : ZS}
theorem sp_isSheet (n : Nat) (S : ZS) {x : Int} (h1 : -2147483648 ≤ x) (h2 : x < 2147483648) : fH_isSheet n S x = some (bZ (decide (0 ≤ x ∧ x ≤ 3))) := by
  unfold fH_isSheet
  rw [gC_pos (by omega) (by omega) (by omega) (by omega), gC_pos (by omega) (by omega) (by omega) (by omega), gB_0, gB_1]
  by_cases c : x < 0
  · rw [if_pos c, decide_eq_false (by omega)]; rfl
  · rw [if_neg c]
    by_cases d : x < 4
    · rw [if_pos d, decide_eq_true (by omega)]; rfl
    · rw [if_neg d, decide_eq_false (by omega)]; rfl
theorem sp_isNamed (n : Nat) (S : ZS) {x y : Int} (h1 : -2147483648 ≤ x) (h2 : x < 2147483648) (h3 : -2147483648 ≤ y) (h4 : y < 2147483648) : fH_isNamed n S x y = some (bZ (decide (0 ≤ x ∧ x ≤ 3 ∧ 0 ≤ y ∧ y ≤ 2))) := by
  unfold fH_isNamed
  rw [sp_isSheet n S h1 h2, Option.bind_some, gC_b, gC_pos (by omega) (by omega) (by omega) (by omega), gC_pos (by omega) (by omega) (by omega) (by omega), gB_0, gB_1]
  by_cases c : 0 ≤ x ∧ x ≤ 3
  · rw [decide_eq_true c, if_neg (show ¬ bZ true = 0 by decide)]
    by_cases d : y < 0
    · rw [if_pos d, decide_eq_false (by omega)]; rfl
    · rw [if_neg d]
      by_cases e : 2 < y
      · rw [if_pos e, decide_eq_false (by omega)]; rfl
      · rw [if_neg e, decide_eq_true (by omega)]; rfl
  · rw [decide_eq_false c, if_pos (show bZ false = 0 from rfl), decide_eq_false (by omega)]; rfl
theorem sm_isSheet (n : Nat) (S : ZS) {x y : Int} (h1 : -2147483648 ≤ x) (h2 : x < 2147483648) (h3 : -2147483648 ≤ y) (h4 : y < 2147483648) : fM_isSheet n S x y = some (bZ (decide (0 ≤ x ∧ x ≤ 3 ∧ 0 ≤ y ∧ y ≤ 2))) := by
  unfold fM_isSheet
  rw [gC_pos (by omega) (by omega) (by omega) (by omega), sp_in S n (by omega) (by omega) (by omega) (by omega) (by omega) (by omega), Option.bind_some, gC_b, gC_pos (by omega) (by omega) (by omega) (by omega), sp_in S n (by omega) (by omega) (by omega) (by omega) (by omega) (by omega), Option.bind_some, gC_b, gB_0, gB_1]
  by_cases c : 0 ≤ x ∧ x ≤ 3
  · rw [decide_eq_true c, if_neg (show ¬ bZ true = 0 by decide)]
    by_cases d : 0 ≤ y ∧ y ≤ 2
    · rw [decide_eq_true d, if_neg (show ¬ bZ true = 0 by decide), decide_eq_true (by omega)]; rfl
    · rw [decide_eq_false d, if_pos (show bZ false = 0 from rfl), decide_eq_false (by omega)]; rfl
  · rw [decide_eq_false c, if_pos (show bZ false = 0 from rfl), decide_eq_false (by omega)]; rfl
/-- a sheet's refusal, once it is named -/
def rfV (S : ZS) (s l f m : Int) : Int := if zA S 48 s < 0 then -11 else if zA S 70 s = l then (if 0 ≤ f ∧ f ≤ zA S 48 s - m then 0 else -13) else -12
theorem sp_isNothing (g : gSh S) (n : Nat) {s : Int} (h1 : 0 ≤ s) (h2 : s ≤ 3) : fH_isNothing n S s = some (bZ (decide (zA S 48 s < 0))) := by
  have := g.2 s h1 (by omega)
  unfold fH_isNothing
  rw [gX_pos (by omega) (by omega) (by omega), gC_pos (by omega) (by omega) (by omega) (by omega), gB_0, gB_1]
  by_cases c : zA S 48 s < 0
  · rw [if_pos c, decide_eq_true c]; rfl
  · rw [if_neg c, decide_eq_false c]; rfl
theorem sp_holds (g : gSh S) (n : Nat) {s f m : Int} (h1 : 0 ≤ s) (h2 : s ≤ 3) (h3 : -2147483648 ≤ f) (h4 : f < 2147483648) (h5 : -2147483648 ≤ m) (h6 : m < 2147483648) : fH_holds n S s f m = some (bZ (decide (0 ≤ m ∧ 0 ≤ f ∧ f ≤ zA S 48 s - m))) := by
  have := g.2 s h1 (by omega)
  unfold fH_holds
  rw [gC_pos (x := f) (y := 0) (by omega) (by omega) (by omega) (by omega)]
  by_cases c : f < 0
  · rw [if_pos c, decide_eq_false (by omega)]; rfl
  · rw [if_neg c, gC_pos (x := m) (y := 0) (by omega) (by omega) (by omega) (by omega)]
    by_cases d : m < 0
    · rw [if_pos d, decide_eq_false (by omega)]; rfl
    · rw [if_neg d, gX_pos (by omega) (by omega) (by omega), gC_pos (by omega) (by omega) (by omega) (by omega)]
      by_cases e : zA S 48 s < m
      · rw [if_pos e, decide_eq_false (by omega)]; rfl
      · rw [if_neg e, gX_pos (by omega) (by omega) (by omega), gC_pos (by omega) (by omega) (by omega) (by omega)]
        by_cases k : zA S 48 s - m < f
        · rw [if_pos k, decide_eq_false (by omega)]; rfl
        · rw [if_neg k, decide_eq_true (by omega)]; rfl
theorem sp_refusal (g : gSh S) (n : Nat) {s l f m : Int} (h1 : -2147483648 ≤ s) (h2 : s < 2147483648) (h3 : -2147483648 ≤ l) (h4 : l < 2147483648) (h5 : -2147483648 ≤ f) (h6 : f < 2147483648) (h7 : 0 ≤ m) (h8 : m ≤ 1000) : fH_refusal n S s l f m = some (if 0 ≤ s ∧ s ≤ 3 ∧ 0 ≤ l ∧ l ≤ 2 then rfV S s l f m else -1) := by
  unfold fH_refusal
  rw [sp_isNamed n S h1 h2 h3 h4, Option.bind_some, gC_b]
  by_cases c : 0 ≤ s ∧ s ≤ 3 ∧ 0 ≤ l ∧ l ≤ 2
  · have gs := g.2 s (by omega) (by omega)
    rw [decide_eq_true c, if_neg (show ¬ bZ true = 0 by decide), if_pos c, sp_isNothing g n (by omega) (by omega), Option.bind_some, gC_b]
    unfold rfV
    by_cases d : zA S 48 s < 0
    · rw [decide_eq_true d, if_neg (show ¬ bZ true = 0 by decide), if_pos d]
    · rw [decide_eq_false d, if_pos (show bZ false = 0 from rfl), if_neg d, gX_pos (by omega) (by omega) (by omega), gC_pos (by omega) (by omega) (by omega) (by omega)]
      have e47 : zA S 47 s = zA S 70 s := by omega
      rw [e47]
      by_cases e : zA S 70 s = l
      · rw [if_pos e, if_pos e, sp_holds g n (by omega) (by omega) (by omega) (by omega) (by omega) (by omega), Option.bind_some, gC_b]
        by_cases k : 0 ≤ f ∧ f ≤ zA S 48 s - m
        · rw [decide_eq_true (by omega), if_neg (show ¬ bZ true = 0 by decide), if_pos k]
        · rw [decide_eq_false (by omega), if_pos (show bZ false = 0 from rfl), if_neg k]
      · rw [if_neg e, if_neg e]
  · rw [decide_eq_false c, if_pos (show bZ false = 0 from rfl), if_neg c]
theorem sm_lacksRow (g : gSh S) (n : Nat) {s l f m : Int} (h1 : 0 ≤ s) (h2 : s ≤ 3) (h3 : 0 ≤ l) (h4 : l ≤ 2) (h5 : -2147483648 ≤ f) (h6 : f < 2147483648) (h7 : 0 ≤ m) (h8 : m ≤ 1000) : fM_lacksRow n S s l f m = some (rfV S s l f m) := by
  have gs := g.2 s (by omega) (by omega)
  unfold fM_lacksRow rfV
  rw [gX_pos (by omega) (by omega) (by omega), gC_pos (by omega) (by omega) (by omega) (by omega)]
  by_cases d : zA S 48 s < 0
  · rw [if_neg (by omega), gX_pos (by omega) (by omega) (by omega), gC_pos (by omega) (by omega) (by omega) (by omega), if_pos (by omega), if_pos d]
  · rw [if_neg d]
    have e71 : zA S 71 s = zA S 48 s := by omega
    by_cases e : zA S 70 s = l
    · rw [if_pos e, if_pos e, gC_pos (by omega) (by omega) (by omega) (by omega), gX_pos (by omega) (by omega) (by omega), e71, gC_pos (by omega) (by omega) (by omega) (by omega), sp_in S n (by omega) (by omega) (by omega) (by omega) (by omega) (by omega), Option.bind_some, gC_b]
      by_cases k : 0 ≤ f ∧ f ≤ zA S 48 s - m
      · rw [decide_eq_true k, if_neg (show ¬ bZ true = 0 by decide), if_pos k]
      · rw [decide_eq_false k, if_pos (show bZ false = 0 from rfl), if_neg k]
    · rw [if_neg e, if_neg e, gX_pos (by omega) (by omega) (by omega), gC_pos (by omega) (by omega) (by omega) (by omega), if_neg (by omega)]
theorem rf_rng (S : ZS) (s l f m : Int) : -100 ≤ rfV S s l f m ∧ rfV S s l f m ≤ 0 := by
  unfold rfV
  split
  · omega
  · split
    · split <;> omega
    · omega
theorem rf_0 (g : gSh S) {s l f m : Int} (h1 : 0 ≤ s) (h2 : s ≤ 3) (h : rfV S s l f m = 0) : 0 ≤ zA S 48 s ∧ zA S 48 s ≤ 24 ∧ zA S 70 s = l ∧ zA S 47 s = l ∧ 0 ≤ f ∧ f ≤ zA S 48 s - m := by
  have gs := g.2 s (by omega) (by omega)
  unfold rfV at h
  split at h
  · omega
  · split at h
    · split at h
      · omega
      · omega
    · omega
theorem good_sh {S S1 S2 : ZS} (hG : Good S) (f1 : fr 46 48 45 S S1) (f2 : fr 70 73 1000 S1 S2) (h : gSh S2) : Good S2 := by
  obtain ⟨T, ⟨h1, h2, h3⟩, h4, h5, -, h7, h8⟩ := hG
  exact ⟨T, ⟨fr_tAt f2 (fr_tAt f1 h1 (by omega) (by omega)) (by omega) (by omega), fr_mAt f2 (fr_mAt f1 h2 (by omega) (by omega)) (by omega) (by omega), h3⟩, fr_gTape f2 (fr_gTape f1 h4 (by omega) (by omega) (by omega)) (by omega) (by omega) (by omega), fr_gImg f2 (fr_gImg f1 h5 (by omega) (by omega) (by omega) (by omega)) (by omega) (by omega) (by omega) (by omega), h, fr_gWay f2 (fr_gWay f1 h7 (by omega) (by omega)) (by omega) (by omega), fr_gRoom f2 (fr_gRoom f1 h8)⟩
theorem sm_asLane (n : Nat) (S : ZS) {l v : Int} (h1 : 0 ≤ l) (h2 : l ≤ 2) (h3 : -9223372036854775808 ≤ v) (h4 : v < 9223372036854775808) : fM_asLane n S l v = some (laneV l v) := by
  unfold fM_asLane laneV
  rw [gC_pos (by omega) (by omega) (by omega) (by omega), gC_pos (by omega) (by omega) (by omega) (by omega), lane16 h3 h4, lane32 h3 h4]
  by_cases c : l = 0
  · rw [if_pos c, if_pos c]
  · rw [if_neg c, if_neg c]
    by_cases d : l = 1
    · rw [if_pos d, if_pos d]
    · rw [if_neg d, if_neg d]
theorem sp_put (n : Nat) (S : ZS) {s l i v : Int} (h1 : 0 ≤ s) (h2 : s ≤ 3) (h0 : zA S 47 s = l) (h3 : 0 ≤ l) (h4 : l ≤ 2) (h5 : 0 ≤ i) (h6 : i < 24) : fH_put n S s i v = some (wA S 46 (s * 24 + i) (laneV l v)) := by
  have a := zl2i_rng v
  have b := zs16_rng (zl2i v)
  unfold fH_put laneV
  rw [h0, gX_pos (by omega) (by omega) (by omega), gX_pos (by omega) (by omega) (by omega), gC_pos (x := l) (y := 0) (by omega) (by omega) (by omega) (by omega), gC_pos (x := l) (y := 1) (by omega) (by omega) (by omega) (by omega), gC_pos b.1 b.2 (by omega) (by omega), gC_pos a.1 a.2 (by omega) (by omega)]
  by_cases c : l = 0
  · rw [if_pos c, if_pos c, Option.bind_some, gX_pos (by omega) (by omega) (by omega)]
  · rw [if_neg c, if_neg c]
    by_cases d : l = 1
    · rw [if_pos d, if_pos d, Option.bind_some, gX_pos (by omega) (by omega) (by omega)]
    · rw [if_neg d, if_neg d, Option.bind_some, gX_pos (by omega) (by omega) (by omega)]
/-- the same item put on both sides -/
theorem gSh_put (g : gSh S) {x v : Int} (h1 : -9223372036854775808 ≤ v) (h2 : v < 9223372036854775808) : gSh (wA (wA S 46 x v) 72 x v) := by
  refine ⟨fun i a b => ?_, fun s a b => ?_⟩
  · have := g.1 i a b
    simp only [zA_wA]
    by_cases c : i = x
    · simp [c, h1, h2]
    · simpa [c] using this
  · have := g.2 s a b
    simp only [zA_wA]
    simpa using this
theorem q_item (hG : Good S) {s l i v : Int} (h1 : -2147483648 ≤ s) (h2 : s < 2147483648) (h3 : -2147483648 ≤ l) (h4 : l < 2147483648) (h5 : -2147483648 ≤ i) (h6 : i < 2147483648) (h7 : -9223372036854775808 ≤ v) (h8 : v < 9223372036854775808) : ∃ n w S1 S2, fD_item n S s l i v = some (w, S1) ∧ fM_item n S1 s l i v = some (w, S2) ∧ Good S2 := by
  obtain ⟨T, -, -, -, g, -⟩ := id hG
  refine ⟨30, ?_⟩
  unfold fD_item fM_item
  rw [sp_refusal g 30 h1 h2 h3 h4 h5 h6 (by omega) (by omega), Option.bind_some]
  by_cases c : 0 ≤ s ∧ s ≤ 3 ∧ 0 ≤ l ∧ l ≤ 2
  · rw [if_pos c]
    have r1 := rf_rng S s l i 1
    rw [gC_pos (by omega) (by omega) (by omega) (by omega)]
    by_cases d : rfV S s l i 1 = 0
    · obtain ⟨k1, k2, k3, k4, k5, k6⟩ := rf_0 g (by omega) (by omega) d
      have g' : gSh S → rfV (wA S 46 (s * 24 + i) (laneV l v)) s l i 1 = rfV S s l i 1 := fun _ => rfl
      refine ⟨1, wA S 46 (s * 24 + i) (laneV l v), wA (wA S 46 (s * 24 + i) (laneV l v)) 72 (s * 24 + i) (laneV l v), ?_, ?_, ?_⟩
      · rw [if_pos d, sp_put 30 S (by omega) (by omega) k4 (by omega) (by omega) (by omega) (by omega), Option.bind_some]
      · have e : fM_lacksRow 30 (wA S 46 (s * 24 + i) (laneV l v)) s l i 1 = fM_lacksRow 30 S s l i 1 := rfl
        rw [sm_isSheet 30 _ h1 h2 h3 h4, Option.bind_some, gC_b, decide_eq_true c, if_neg (show ¬ bZ true = 0 by decide), e, sm_lacksRow g 30 (by omega) (by omega) (by omega) (by omega) (by omega) (by omega) (by omega) (by omega), d, Option.bind_some, gC_pos (by omega) (by omega) (by omega) (by omega), if_neg (by omega), sm_asLane 30 _ (by omega) (by omega) h7 h8, Option.bind_some, gX_pos (by omega) (by omega) (by omega), Int.mul_comm 24 s]
      · obtain ⟨l1, l2⟩ := laneV_rng (l := l) h7 h8
        exact good_sh hG (fr_wA _ _ _ (by omega) (by omega)) (fr_wA _ _ _ (by omega) (by omega)) (gSh_put g l1 l2)
    · refine ⟨rfV S s l i 1, S, S, ?_, ?_, hG⟩
      · rw [if_neg d]
      · rw [sm_isSheet 30 _ h1 h2 h3 h4, Option.bind_some, gC_b, decide_eq_true c, if_neg (show ¬ bZ true = 0 by decide), sm_lacksRow g 30 (by omega) (by omega) (by omega) (by omega) (by omega) (by omega) (by omega) (by omega), Option.bind_some, gC_pos (by omega) (by omega) (by omega) (by omega), if_pos (by omega)]
  · refine ⟨-1, S, S, ?_, ?_, hG⟩
    · rw [if_neg c, gC_pos (by omega) (by omega) (by omega) (by omega), if_neg (by omega)]
    · rw [sm_isSheet 30 _ h1 h2 h3 h4, Option.bind_some, gC_b, decide_eq_false c, if_pos (show bZ false = 0 from rfl)]
theorem p_item : P_item Inv := by
  intro x0 x1 x2 x3
  have e0 : (Value.int x0) = .int (zI x0.toInt) := by rw [zI_of]
  have e1 : (Value.int x1) = .int (zI x1.toInt) := by rw [zI_of]
  have e2 : (Value.int x2) = .int (zI x2.toInt) := by rw [zI_of]
  have e3 : (Value.long x3) = .long (zL x3.toInt) := by rw [zL_of]
  rw [e0, e1, e2, e3]
  exact mkPair (fun n S => fD_item n S x0.toInt x1.toInt x2.toInt x3.toInt) (fun n S => fM_item n S x0.toInt x1.toInt x2.toInt x3.toInt) (fun o n S w h => sD_item o n S _ _ _ _ h) (fun o n S w h => sM_item o n S _ _ _ _ h) (fun S hG => q_item hG (rngI x0).1 (rngI x0).2 (rngI x1).1 (rngI x1).2 (rngI x2).1 (rngI x2).2 (rngL x3).1 (rngL x3).2)
theorem q_drop (hG : Good S) {s : Int} (h1 : -2147483648 ≤ s) (h2 : s < 2147483648) : ∃ n w S1 S2, fD_drop n S s = some (w, S1) ∧ fM_drop n S1 s = some (w, S2) ∧ Good S2 := by
  obtain ⟨T, -, -, -, g, -⟩ := id hG
  refine ⟨30, ?_⟩
  unfold fD_drop fM_drop
  rw [sp_isSheet 30 S h1 h2, Option.bind_some, gC_b]
  by_cases c : 0 ≤ s ∧ s ≤ 3
  · have gs := g.2 s (by omega) (by omega)
    rw [decide_eq_true c, if_neg (show ¬ bZ true = 0 by decide), sp_isNothing g 30 (by omega) (by omega), Option.bind_some, gC_b]
    by_cases d : zA S 48 s < 0
    · refine ⟨-11, S, S, ?_, ?_, hG⟩
      · rw [decide_eq_true d, if_neg (show ¬ bZ true = 0 by decide)]
      · rw [gC_pos (by omega) (by omega) (by omega) (by omega), sp_in S 30 (by omega) (by omega) (by omega) (by omega) (by omega) (by omega), decide_eq_true c, Option.bind_some, gC_b, if_neg (show ¬ bZ true = 0 by decide), gX_pos (by omega) (by omega) (by omega), gC_pos (by omega) (by omega) (by omega) (by omega), if_pos (by omega)]
    · refine ⟨zA S 48 s, wA S 48 s (-1), wA (wA S 48 s (-1)) 70 s (-1), ?_, ?_, ?_⟩
      · rw [decide_eq_false d, if_pos (show bZ false = 0 from rfl)]
        unfold fH_clear
        rw [gX_pos (by omega) (by omega) (by omega), gX_pos (by omega) (by omega) (by omega)]
        rfl
      · have e70 : zA (wA S 48 s (-1)) 70 s = zA S 70 s := rfl
        have e71 : zA (wA S 48 s (-1)) 71 s = zA S 71 s := rfl
        rw [gC_pos (by omega) (by omega) (by omega) (by omega), sp_in _ 30 (by omega) (by omega) (by omega) (by omega) (by omega) (by omega), decide_eq_true c, Option.bind_some, gC_b, if_neg (show ¬ bZ true = 0 by decide), e70, e71, gX_pos (by omega) (by omega) (by omega), gC_pos (by omega) (by omega) (by omega) (by omega), if_neg (by omega), gX_pos (by omega) (by omega) (by omega), show zA S 71 s = zA S 48 s by omega, gX_pos (by omega) (by omega) (by omega)]
      · refine good_sh hG (fr_wA _ _ _ (by omega) (by omega)) (fr_wA _ _ _ (by omega) (by omega)) ⟨fun i a b => ?_, fun s' a b => ?_⟩
        · have := g.1 i a b
          simp only [zA_wA]
          simpa using this
        · have := g.2 s' a b
          simp only [zA_wA]
          by_cases e : s' = s
          · left
            simp [e]
          · simpa [e] using this
  · refine ⟨-1, S, S, ?_, ?_, hG⟩
    · rw [decide_eq_false c, if_pos (show bZ false = 0 from rfl)]
    · rw [gC_pos (by omega) (by omega) (by omega) (by omega), sp_in S 30 (by omega) (by omega) (by omega) (by omega) (by omega) (by omega), decide_eq_false c, Option.bind_some, gC_b, if_pos (show bZ false = 0 from rfl)]
theorem p_drop : P_drop Inv := by
  intro x0
  have e0 : (Value.int x0) = .int (zI x0.toInt) := by rw [zI_of]
  rw [e0]
  exact mkPair (fun n S => fD_drop n S x0.toInt) (fun n S => fM_drop n S x0.toInt) (fun o n S w h => sD_drop o n S _ h) (fun o n S w h => sM_drop o n S _ h) (fun S hG => q_drop hG (rngI x0).1 (rngI x0).2)
end SH
