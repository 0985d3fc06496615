theorem ysum_or {f : Nat → Int32} {g c : Int32} : ∀ {n : Nat}, (∀ p, p < n → ¬ (bit g p ∧ bit c p)) → ysum f (g ||| c) n = ysum f g n + ysum f c n
  | 0, _ => by
    show (0 : Int32) = 0 + 0
    decide
  | n + 1, h => by
    have ih := ysum_or (f := f) (n := n) (fun p hp => h p (by omega))
    show (if bit (g ||| c) n then ysum f (g ||| c) n + f n else ysum f (g ||| c) n) = (if bit g n then ysum f g n + f n else ysum f g n) + (if bit c n then ysum f c n + f n else ysum f c n)
    rw [ih]
    by_cases h1 : bit g n
    · have h2 : ¬ bit c n := fun q => h n (by omega) ⟨h1, q⟩
      rw [if_pos (bit_or.mpr (Or.inl h1)), if_pos h1, if_neg h2]
      grind
    · by_cases h2 : bit c n
      · rw [if_pos (bit_or.mpr (Or.inr h2)), if_neg h1, if_pos h2]
        grind
      · rw [if_neg (fun q => (bit_or.mp q).elim h1 h2), if_neg h1, if_neg h2]
/-- everybody has a shelter in a set -/
def dryS (f : Nat → Int32) (s : Int32) : Nat → Bool
  | 0 => true
  | p + 1 => dryS f s p && !decide (f p &&& s = 0)
theorem dryB_S (f : Nat → Int32) (a d : Int32) : ∀ n, dryB f a d n = dryS f (a &&& d) n
  | 0 => rfl
  | n + 1 => by
    show (dryB f a d n && !decide ((f n &&& a) &&& d = 0)) = (dryS f (a &&& d) n && !decide (f n &&& (a &&& d) = 0))
    rw [dryB_S f a d n, Int32.and_assoc]
theorem shel_full (f : Nat → Int32) (s : Int32) (n : Nat) (hn : n ≤ 4) : (if shel f s n = (1 <<< (nI n &&& 31)) - 1 then true else false) = dryS f s n := by
  match n, hn with
  | 0, _ => exact if_pos (by show (0 : Int32) = _; decide)
  | 1, _ => by_cases h0 : f 0 &&& s = 0 <;> simp only [shel, dryS, h0, if_true, if_false, decide_true, decide_false, Bool.not_true, Bool.not_false, Bool.and_true, Bool.and_false] <;> decide
  | 2, _ => by_cases h0 : f 0 &&& s = 0 <;> by_cases h1 : f 1 &&& s = 0 <;> simp only [shel, dryS, h0, h1, if_true, if_false, decide_true, decide_false, Bool.not_true, Bool.not_false, Bool.and_true, Bool.and_false] <;> decide
  | 3, _ => by_cases h0 : f 0 &&& s = 0 <;> by_cases h1 : f 1 &&& s = 0 <;> by_cases h2 : f 2 &&& s = 0 <;> simp only [shel, dryS, h0, h1, h2, if_true, if_false, decide_true, decide_false, Bool.not_true, Bool.not_false, Bool.and_true, Bool.and_false] <;> decide
  | 4, _ => by_cases h0 : f 0 &&& s = 0 <;> by_cases h1 : f 1 &&& s = 0 <;> by_cases h2 : f 2 &&& s = 0 <;> by_cases h3 : f 3 &&& s = 0 <;> simp only [shel, dryS, h0, h1, h2, h3, if_true, if_false, decide_true, decide_false, Bool.not_true, Bool.not_false, Bool.and_true, Bool.and_false] <;> decide
theorem dryS_cg {f g : Nat → Int32} {s : Int32} : ∀ {n : Nat}, (∀ p, p < n → f p = g p) → dryS f s n = dryS g s n
  | 0, _ => rfl
  | n + 1, h => by
    show (dryS f s n && !decide (f n &&& s = 0)) = (dryS g s n && !decide (g n &&& s = 0))
    rw [dryS_cg (n := n) (fun p hp => h p (by omega)), h n (by omega)]
theorem dry_eq (T : Tn) (s : Int32) (hm : T.2.2.2 ≤ 4) : b_isEveryoneDry T s = dryS (T.1 5) s T.2.2.2 := shel_full (T.1 5) s T.2.2.2 hm
