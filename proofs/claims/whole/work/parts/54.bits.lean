/-! ===== bits: sets as numbers ===== -/
theorem zI_bv {a : Nat} (h : a < 2147483648) : (zI (a : Int)).toBitVec.toNat = a := by
  show (BitVec.ofInt 32 (a : Int)).toNat = a
  rw [BitVec.ofInt_natCast, BitVec.toNat_ofNat]
  omega
theorem toInt_bv {x : Int32} {m : Nat} (h : x.toBitVec.toNat = m) (hm : m < 2147483648) : x.toInt = (m : Int) := by
  show x.toBitVec.toInt = _
  rw [BitVec.toInt_eq_toNat_of_lt (by omega), h]
theorem zand_n {a b : Nat} (ha : a < 2147483648) (hb : b < 2147483648) : zand (a : Int) (b : Int) = ((a &&& b : Nat) : Int) := by
  refine toInt_bv ?_ (Nat.lt_of_le_of_lt Nat.and_le_left ha)
  show ((zI (a : Int)).toBitVec &&& (zI (b : Int)).toBitVec).toNat = _
  rw [BitVec.toNat_and, zI_bv ha, zI_bv hb]
theorem zxor_n {a b : Nat} (ha : a < 2147483648) (hb : b < 2147483648) : zxor (a : Int) (b : Int) = ((a ^^^ b : Nat) : Int) := by
  refine toInt_bv ?_ (Nat.xor_lt_two_pow (n := 31) ha hb)
  show ((zI (a : Int)).toBitVec ^^^ (zI (b : Int)).toBitVec).toNat = _
  rw [BitVec.toNat_xor, zI_bv ha, zI_bv hb]
theorem zor_n {a b : Nat} (ha : a < 2147483648) (hb : b < 2147483648) : zor (a : Int) (b : Int) = ((a ||| b : Nat) : Int) := by
  refine toInt_bv ?_ (Nat.or_lt_two_pow (n := 31) ha hb)
  show ((zI (a : Int)).toBitVec ||| (zI (b : Int)).toBitVec).toNat = _
  rw [BitVec.toNat_or, zI_bv ha, zI_bv hb]
/-- what of a isn't of b -/
def nDf (a b : Nat) : Nat := a ^^^ (a &&& b)
theorem nDf_bit (a b i : Nat) : (nDf a b).testBit i = (a.testBit i && !b.testBit i) := by
  unfold nDf
  rw [Nat.testBit_xor, Nat.testBit_and]
  cases a.testBit i <;> cases b.testBit i <;> rfl
theorem nDf_le (a b : Nat) : nDf a b ≤ a := by
  apply Nat.le_of_testBit
  intro i
  rw [nDf_bit]
  cases a.testBit i <;> simp
theorem nDf_lt {a b k : Nat} (h : a < 2 ^ k) : nDf a b < 2 ^ k := Nat.lt_of_le_of_lt (nDf_le a b) h
theorem zdf_n {a b : Nat} (ha : a < 2147483648) (hb : b < 2147483648) : zand (a : Int) (zxor (b : Int) (-1)) = ((nDf a b : Nat) : Int) := by
  have e : zand (a : Int) (zxor (b : Int) (-1)) = (zI (a : Int) &&& (zI (b : Int) ^^^ zI (-1))).toInt := by
    unfold zand zxor
    rw [zI_of]
  rw [e]
  refine toInt_bv ?_ (Nat.lt_of_le_of_lt (nDf_le a b) ha)
  show ((zI (a : Int)).toBitVec &&& ((zI (b : Int)).toBitVec ^^^ (zI (-1)).toBitVec)).toNat = _
  have e1 : (zI (-1)).toBitVec = BitVec.allOnes 32 := by decide
  rw [e1, BitVec.xor_allOnes]
  apply Nat.eq_of_testBit_eq
  intro i
  rw [nDf_bit, BitVec.toNat_and, Nat.testBit_and, zI_bv ha]
  by_cases hi : i < 32
  · rw [BitVec.testBit_toNat, BitVec.getLsbD_not, ← BitVec.testBit_toNat, zI_bv hb]
    simp [hi]
  · have : a.testBit i = false := Nat.testBit_lt_two_pow (Nat.lt_of_lt_of_le ha (Nat.le_trans (by decide : 2147483648 ≤ 2 ^ 32) (Nat.pow_le_pow_right (by omega) (by omega))))
    rw [this]
    rfl
theorem zshl_1 {p : Nat} (h : p < 31) : zshl 1 (p : Int) = ((2 ^ p : Nat) : Int) := by
  have : ∀ q : Fin 31, zshl 1 ((q : Nat) : Int) = ((2 ^ (q : Nat) : Nat) : Int) := by decide
  exact this ⟨p, h⟩
theorem sh_31 {p : Nat} (h : p < 31) : (zI (p : Int) &&& 31).toBitVec.smod 32 = BitVec.ofNat 32 p := by
  have : ∀ q : Fin 31, (zI ((q : Nat) : Int) &&& 31).toBitVec.smod 32 = BitVec.ofNat 32 (q : Nat) := by decide
  exact this ⟨p, h⟩
theorem zshr_n {s p : Nat} (hs : s < 2147483648) (h : p < 31) : zshr (s : Int) (p : Int) = ((s >>> p : Nat) : Int) := by
  have hl : s >>> p ≤ s := by rw [Nat.shiftRight_eq_div_pow]; exact Nat.div_le_self _ _
  refine toInt_bv ?_ (by omega)
  show (BitVec.sshiftRight' (zI (s : Int)).toBitVec ((zI (p : Int) &&& 31).toBitVec.smod 32)).toNat = _
  rw [sh_31 h]
  unfold BitVec.sshiftRight'
  rw [BitVec.sshiftRight_eq_of_msb_false, BitVec.toNat_ushiftRight, zI_bv hs, BitVec.toNat_ofNat, Nat.mod_eq_of_lt (by omega)]
  rw [BitVec.msb_eq_decide, decide_eq_false_iff_not, zI_bv hs]
  omega
theorem zbit_n {s p : Nat} (hs : s < 2147483648) (h : p < 31) : zand (zshr (s : Int) (p : Int)) 1 = if s.testBit p then 1 else 0 := by
  have hl : s >>> p ≤ s := by rw [Nat.shiftRight_eq_div_pow]; exact Nat.div_le_self _ _
  rw [zshr_n hs h, show (1 : Int) = ((1 : Nat) : Int) from rfl, zand_n (by omega) (by omega)]
  rw [Nat.testBit_eq_decide_div_mod_eq, Nat.and_one_is_mod, Nat.shiftRight_eq_div_pow]
  have := Nat.mod_two_eq_zero_or_one (s / 2 ^ p)
  rcases this with e | e <;> rw [e] <;> simp
/-- Booleans as numbers -/
def bZ (b : Bool) : Int := match b with
  | true => 1
  | false => 0
theorem bZ_01 (b : Bool) : bZ b = 0 ∨ bZ b = 1 := by cases b <;> simp [bZ]
theorem gB_b {α : Type} (b : Bool) (T : Option α) : gB (bZ b) T = T := gB_pos (bZ_01 b)
theorem gC_b {α : Type} (b : Bool) (T : Option α) : gC (bZ b) 0 T = T := by cases b <;> exact gC_pos (by decide) (by decide) (by decide) (by decide)
theorem bZ_0 (b : Bool) : (bZ b = 0) = (b = false) := by cases b <;> simp [bZ]
theorem bZ_eq1 (b : Bool) : (bZ b = 1) = (b = true) := by cases b <;> simp [bZ]
/-- numbers summed up, a set of those who do -/
def sumTo (f : Nat → Int) : Nat → Int
  | 0 => 0
  | k + 1 => sumTo f k + f k
def maskTo (f : Nat → Bool) : Nat → Nat
  | 0 => 0
  | k + 1 => maskTo f k + (if f k then 2 ^ k else 0)
def allTo (f : Nat → Bool) : Nat → Bool
  | 0 => true
  | k + 1 => allTo f k && f k
theorem allTo_iff {f : Nat → Bool} {k : Nat} : allTo f k = true ↔ ∀ i, i < k → f i = true := by
  induction k with
  | zero => exact ⟨fun _ i hi => absurd hi (by omega), fun _ => rfl⟩
  | succ k ih =>
    unfold allTo
    rw [Bool.and_eq_true, ih]
    constructor
    · rintro ⟨h1, h2⟩ i hi
      by_cases e : i = k
      · subst e; exact h2
      · exact h1 i (by omega)
    · intro h
      exact ⟨fun i hi => h i (by omega), h k (by omega)⟩
theorem maskTo_lt (f : Nat → Bool) (k : Nat) : maskTo f k < 2 ^ k := by
  induction k with
  | zero => exact Nat.zero_lt_one
  | succ k ih =>
    unfold maskTo
    rw [Nat.pow_succ]
    split <;> omega
theorem maskTo_bit (f : Nat → Bool) (k i : Nat) : (maskTo f k).testBit i = (decide (i < k) && f i) := by
  induction k with
  | zero => unfold maskTo; simp
  | succ k ih =>
    unfold maskTo
    by_cases hf : f k = true
    · rw [if_pos hf]
      by_cases e : i = k
      · subst e
        rw [Nat.add_comm, Nat.testBit_two_pow_add_eq, Nat.testBit_lt_two_pow (maskTo_lt f i)]
        simp [hf]
      · by_cases hlt : i < k
        · rw [Nat.add_comm, Nat.testBit_two_pow_add_gt hlt, ih]
          simp [hlt, show i < k + 1 by omega]
        · have h1 : maskTo f k + 2 ^ k < 2 ^ i := by
            have h2 := maskTo_lt f k
            have h3 : 2 ^ (k + 1) ≤ 2 ^ i := Nat.pow_le_pow_right (by omega) (by omega)
            rw [Nat.pow_succ] at h3
            omega
          rw [Nat.testBit_lt_two_pow h1]
          simp [show ¬ i < k + 1 by omega]
    · rw [if_neg hf, Nat.add_zero, ih]
      by_cases e : i = k
      · subst e
        simp [hf]
      · by_cases hlt : i < k
        · simp [hlt, show i < k + 1 by omega]
        · simp [hlt, show ¬ i < k + 1 by omega]
theorem maskTo_full (f : Nat → Bool) (k : Nat) : maskTo f k = 2 ^ k - 1 ↔ allTo f k = true := by
  induction k with
  | zero => exact ⟨fun _ => rfl, fun _ => rfl⟩
  | succ k ih =>
    have h1 := maskTo_lt f k
    unfold maskTo allTo
    rw [Bool.and_eq_true, ← ih, Nat.pow_succ]
    by_cases hf : f k = true
    · rw [if_pos hf]
      constructor
      · intro h; exact ⟨by omega, hf⟩
      · rintro ⟨h, -⟩; omega
    · rw [if_neg hf]
      constructor
      · intro h; omega
      · rintro ⟨-, h⟩; exact absurd h hf
theorem mask_or {f : Nat → Bool} {k : Nat} (hk : k < 31) : zor ((maskTo f k : Nat) : Int) (zshl 1 (k : Int)) = ((maskTo f k + 2 ^ k : Nat) : Int) := by
  have h1 := maskTo_lt f k
  have h2 : 2 ^ k < 2147483648 := Nat.pow_lt_pow_of_lt (by omega) (show k < 31 from hk)
  rw [zshl_1 hk, zor_n (by omega) h2]
  congr 1
  apply Nat.eq_of_testBit_eq
  intro i
  rw [Nat.testBit_or, Nat.testBit_two_pow]
  by_cases e : k = i
  · subst e
    rw [Nat.add_comm, Nat.testBit_two_pow_add_eq, Nat.testBit_lt_two_pow h1]
    simp
  · by_cases hlt : i < k
    · rw [Nat.add_comm, Nat.testBit_two_pow_add_gt hlt]
      simp [e]
    · have h3 : maskTo f k + 2 ^ k < 2 ^ i := by
        have h3 : 2 ^ (k + 1) ≤ 2 ^ i := Nat.pow_le_pow_right (by omega) (by omega)
        rw [Nat.pow_succ] at h3
        omega
      rw [Nat.testBit_lt_two_pow h3, maskTo_bit]
      simp [e, hlt]
