/-! ===== pair: worth ===== -/
section WO
variable {S : ZS} {T : TW}
theorem or_bit {c o : Nat} : c ||| 2 ^ o = c ↔ c.testBit o = true := by
  constructor
  · intro h
    have e : (c ||| 2 ^ o).testBit o = c.testBit o := by rw [h]
    rw [Nat.testBit_or, Nat.testBit_two_pow_self, Bool.or_true] at e
    exact e.symm
  · intro h
    apply Nat.eq_of_testBit_eq
    intro i
    rw [Nat.testBit_or, Nat.testBit_two_pow]
    by_cases c1 : o = i
    · subst c1
      rw [h]
      rfl
    · rw [decide_eq_false c1, Bool.or_false]
def sw (T : TW) (o c : Nat) : Int := if c.testBit o = false ∧ able T c = false ∧ able T (c ||| 2 ^ o) = true then zob ((pcN c : Nat) : Int) else 0
def swB (o c : Nat) : Int := if c.testBit o = false then zob ((pcN c : Nat) : Int) else 0
theorem zob_pos (x : Int) : 0 ≤ zob x := by
  unfold zob
  split
  · omega
  · split
    · omega
    · split <;> omega
theorem sw_bd (T : TW) (o c : Nat) : 0 ≤ sw T o c ∧ sw T o c ≤ swB o c := by
  have z := zob_pos ((pcN c : Nat) : Int)
  unfold sw swB
  split
  · rename_i h
    rw [if_pos h.1]
    omega
  · split <;> omega
theorem tot_bd (T : TW) {o : Nat} (ho : o < 4) : 0 ≤ sumTo (sw T o) 16 ∧ sumTo (sw T o) 16 ≤ 24 := by
  have k : ∀ m, 0 ≤ sumTo (sw T o) m ∧ sumTo (sw T o) m ≤ sumTo (swB o) m := by
    intro m
    induction m with
    | zero => exact ⟨Int.le_refl _, Int.le_refl _⟩
    | succ m ih =>
      have := sw_bd T o m
      show 0 ≤ sumTo (sw T o) m + sw T o m ∧ sumTo (sw T o) m + sw T o m ≤ sumTo (swB o) m + swB o m
      omega
  have e : ∀ o : Fin 4, sumTo (swB (o : Nat)) 16 = 24 := by decide
  have := k 16
  have e2 : sumTo (swB o) 16 = 24 := e ⟨o, ho⟩
  omega
theorem sp_turn1 (h13 : zF S 24 13 = ((maskTo (able T) 16 : Nat) : Int)) {o : Nat} (ho : o < 4) {n : Nat} (hn : 50 ≤ n) : fW_turningOrders_1 n S (o : Int) 0 0 = some (sumTo (sw T o) 16) := by
  have e := loop_for (F := fun n a p => fW_turningOrders_1 n S (o : Int) a p) (sumTo (sw T o)) 16 20 (res := some (sumTo (sw T o) 16)) ?_ ?_ n (by omega)
  · exact e
  · intro n c hc hn
    have h2 : 2 ^ o < 2 ^ 4 := Nat.pow_lt_pow_right (by omega) ho
    have hl : c ||| 2 ^ o < 2 ^ 4 := Nat.or_lt_two_pow (n := 4) hc h2
    have hz : zor (c : Int) (zshl 1 (o : Int)) = ((c ||| 2 ^ o : Nat) : Int) := by rw [zshl_1 (by omega), zor_n (by omega) (by omega)]
    show fW_turningOrders_1 (n + 1) S (o : Int) (sumTo (sw T o) c) (c : Int) = fW_turningOrders_1 n S (o : Int) (sumTo (sw T o) c + sw T o c) ((c : Int) + 1)
    rw [fW_turningOrders_1, gC_pos (by omega) (by omega) (by omega) (by omega), if_pos (by omega), hz, gC_pos (by omega) (by omega) (by omega) (by omega), h13, sp_isAble S n (by omega) (by omega), sp_isAble S n (by omega) (by omega), Option.bind_some, Option.bind_some, gC_b, gC_b, decide_eq_true (show c ||| 2 ^ o < 16 from hl), decide_eq_true hc, Bool.true_and, Bool.true_and, sp_bitCount n S hc, Option.bind_some]
    unfold sw
    by_cases k : c.testBit o = true
    · rw [if_pos (show ((c ||| 2 ^ o : Nat) : Int) = (c : Int) by rw [or_bit.mpr k]), if_neg (fun h => by rw [k] at h; cases h.1), Int.add_zero]
    · have k' : c.testBit o = false := by simpa using k
      have ne : ¬ ((c ||| 2 ^ o : Nat) : Int) = (c : Int) := fun h => k (or_bit.mp (by omega))
      have p3 := pcN_3 hc ho k'
      rw [if_neg ne]
      cases a1 : able T (c ||| 2 ^ o) with
      | false => rw [if_pos (show bZ false = 0 from rfl), if_neg (fun h => by cases h.2.2), Int.add_zero]
      | true =>
        rw [if_neg (show ¬ bZ true = 0 by decide)]
        cases a2 : able T c with
        | true => rw [if_neg (show ¬ bZ true = 0 by decide), if_neg (fun h => by cases h.2.1), Int.add_zero]
        | false => rw [if_pos (show bZ false = 0 from rfl), gX_pos (by omega) (by omega) (by omega), if_pos ⟨k', rfl, rfl⟩]
  · intro n _
    show fW_turningOrders_1 (n + 1) S (o : Int) _ 16 = _
    rw [fW_turningOrders_1, gC_pos (by omega) (by omega) (by omega) (by omega), if_neg (by omega)]
theorem sm_worth2 (h67 : ∀ c : Nat, c < 16 → zA S 67 (c : Int) = bZ (able T c)) {o : Nat} (ho : o < 4) (l2 : Int) {n : Nat} (hn : 50 ≤ n) : fM_worth_2 n S (o : Int) l2 0 0 = some (sumTo (sw T o) 16) := by
  have e := loop_for (F := fun n a p => fM_worth_2 n S (o : Int) l2 a p) (sumTo (sw T o)) 16 20 (res := some (sumTo (sw T o) 16)) ?_ ?_ n (by omega)
  · exact e
  · intro n c hc hn
    have h2 : 2 ^ o < 2 ^ 4 := Nat.pow_lt_pow_right (by omega) ho
    have hl : c ||| 2 ^ o < 2 ^ 4 := Nat.or_lt_two_pow (n := 4) hc h2
    have hz : zor (c : Int) (zshl 1 (o : Int)) = ((c ||| 2 ^ o : Nat) : Int) := by rw [zshl_1 (by omega), zor_n (by omega) (by omega)]
    show fM_worth_2 (n + 1) S (o : Int) l2 (sumTo (sw T o) c) (c : Int) = fM_worth_2 n S (o : Int) l2 (sumTo (sw T o) c + sw T o c) ((c : Int) + 1)
    rw [fM_worth_2, gC_pos (by omega) (by omega) (by omega) (by omega), if_pos (by omega), sm_has S (by omega) (by omega), Option.bind_some, gC_b, hz, h67 c hc, h67 _ hl, gC_b, gC_b, sm_ones S hc (by omega), Option.bind_some, gX_pos (x := (c : Int)) (by omega) (by omega) (by omega), gX_pos (x := ((c ||| 2 ^ o : Nat) : Int)) (by omega) (by omega) (by omega)]
    unfold sw
    by_cases k : c.testBit o = true
    · rw [k, if_neg (show ¬ bZ true = 0 by decide), if_neg (fun h => by cases h.1), Int.add_zero]
      rfl
    · have k' : c.testBit o = false := by simpa using k
      have p3 := pcN_3 hc ho k'
      rw [k', if_pos (show bZ false = 0 from rfl)]
      cases a2 : able T c with
      | true =>
        rw [if_neg (show ¬ bZ true = 0 by decide), if_neg (fun h => by cases h.2.1), Int.add_zero]
        rfl
      | false =>
        rw [if_pos (show bZ false = 0 from rfl)]
        cases a1 : able T (c ||| 2 ^ o) with
        | false =>
          rw [if_pos (show bZ false = 0 from rfl), if_neg (fun h => by cases h.2.2), Int.add_zero]
          rfl
        | true =>
          rw [if_neg (show ¬ bZ true = 0 by decide), if_pos (show (false : Bool) = false ∧ (false : Bool) = false ∧ (true : Bool) = true from ⟨rfl, rfl, rfl⟩), gC_pos (x := ((pcN c : Nat) : Int)) (y := 0) (by omega) (by omega) (by omega) (by omega), gC_pos (x := ((pcN c : Nat) : Int)) (y := 3) (by omega) (by omega) (by omega) (by omega)]
          unfold zob
          by_cases q0 : ((pcN c : Nat) : Int) = 0
          · rw [if_pos q0, if_pos q0]
            rfl
          · rw [if_neg q0, if_neg q0]
            by_cases q3 : ((pcN c : Nat) : Int) = 3
            · rw [if_pos q3, if_neg (by omega), if_neg (by omega)]
              rfl
            · rw [if_neg q3]
              by_cases q1 : ((pcN c : Nat) : Int) = 1
              · rw [if_pos q1]
                rfl
              · rw [if_neg q1, if_pos (by omega)]
                rfl
  · intro n _
    show fM_worth_2 (n + 1) S (o : Int) l2 _ 16 = _
    rw [fM_worth_2, gC_pos (by omega) (by omega) (by omega) (by omega), if_neg (by omega)]
end WO
