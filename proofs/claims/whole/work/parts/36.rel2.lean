theorem isSet_eq {T : Tn} {M : Cm} (hR : relT T M) (x : Int64) : b_isSet T x = b_m_isSet M x := by
  unfold b_isSet b_m_isSet b_in_ f_all
  rw [hR.1]
theorem isWeek_eq {T : Tn} {M : Cm} (hR : relT T M) (g c : Int64) : b_isWeek T g c = b_m_isWeek M (M.2.2.1 2) g c := by
  unfold b_isWeek b_m_isWeek
  rw [isSet_eq hR, isSet_eq hR, hR.2.2.2.2.1]
/-- the bit of a set at a place below 32, as a Bool -/
theorem bit_or {a b : Int32} {p : Nat} : bit (a ||| b) p ↔ bit a p ∨ bit b p := by
  have key : ∀ x y : Int32, ((x ||| y) &&& 1 = 1) ↔ (x &&& 1 = 1 ∨ y &&& 1 = 1) := by
    intro x y
    have h1 : ∀ z : Int32, z &&& 1 = 0 ∨ z &&& 1 = 1 := by
      intro z
      have h2 : z.toBitVec &&& 1#32 = 0#32 ∨ z.toBitVec &&& 1#32 = 1#32 := by
        rw [BitVec.and_one_eq_setWidth_ofBool_getLsbD]
        cases z.toBitVec.getLsbD 0
        · exact Or.inl (by decide)
        · exact Or.inr (by decide)
      rcases h2 with h | h
      · exact Or.inl (Int32.toBitVec_inj.mp h)
      · exact Or.inr (Int32.toBitVec_inj.mp h)
    have h3 : (x ||| y) &&& 1 = (x &&& 1) ||| (y &&& 1) := by
      apply Int32.toBitVec_inj.mp
      show (x.toBitVec ||| y.toBitVec) &&& 1#32 = (x.toBitVec &&& 1#32) ||| (y.toBitVec &&& 1#32)
      exact BitVec.and_or_distrib_right
    rw [h3]
    rcases h1 x with hx | hx <;> rcases h1 y with hy | hy <;> rw [hx, hy] <;> decide
  show ((a ||| b) >>> (nI p &&& 31)) &&& 1 = 1 ↔ _
  rw [show (a ||| b) >>> (nI p &&& 31) = (a >>> (nI p &&& 31)) ||| (b >>> (nI p &&& 31)) from Int32.shiftRight_or]
  exact key _ _
