theorem and_to (a x c : Int32) (h : c &&& a = 0) : a &&& ((a &&& x) ||| c) = a &&& x := by
  have h1 : a &&& ((a &&& x) ||| c) = (a &&& (a &&& x)) ||| (a &&& c) := Int32.toBitVec_inj.mp BitVec.and_or_distrib_left
  rw [h1, ← Int32.and_assoc, Int32.and_self, Int32.and_comm a c, h, Int32.or_zero]
/-- a week is lawful for the class just when it is for the reference -/
theorem lawful_eq {T : Tn} {M : Cm} (hR : relT T M) (hm : T.2.2.2 ≤ 4) {g c : Int32} (hd : ∀ p, p < T.2.2.1 → ¬ (bit g p ∧ bit c p)) (hc : c &&& T.2.1 0 = 0) : b_isLawful T g c = b_m_isLawful M (M.2.2.1 2) (M.2.2.1 4) g c := by
  have e1 := over_eq hR hd T.2.2.1 (Nat.le_refl _)
  have e2 : ysum (T.1 1) (g ||| c) T.2.2.1 = ysum (fun p => M.1 1 ((5 * p) + 1)) g (M.2.2.2 1) + ysum (fun p => M.1 1 ((5 * p) + 1)) c (M.2.2.2 1) := by
    rw [ysum_or hd, ← hR.1, ysum_cg (g := fun p => M.1 1 ((5 * p) + 1)) (s := g) (fun p hp => (hR.2.2.1 p hp).2.1), ysum_cg (g := fun p => M.1 1 ((5 * p) + 1)) (s := c) (fun p hp => (hR.2.2.1 p hp).2.1)]
  have e3 : ∀ s, firmB (T.1 4) s T.2.2.1 = firmB (fun p => M.1 1 ((5 * p) + 4)) s (M.2.2.2 1) := fun s => by
    rw [← hR.1]
    exact firmB_cg (fun p hp => (hR.2.2.1 p hp).2.2.2.2)
  have e4 : b_isEveryoneDry T (T.2.1 0 &&& (g ^^^ (-1))) = dryB (M.1 2) (M.2.2.1 2) ((M.2.2.1 2 &&& (g ^^^ (-1))) ||| c) (M.2.2.2 7) := by
    rw [dry_eq T _ hm, dryB_S, ← hR.2.2.2.2.1, and_to _ _ _ hc, ← hR.2.1]
    exact dryS_cg hR.2.2.2.1
  unfold b_isLawful b_m_isLawful mayE
  rw [e1, e2, e3, e4, hR.2.2.2.2.1, hR.2.2.2.2.2.2.2, hR.1]
  generalize dryB (M.1 2) (M.2.2.1 2) ((M.2.2.1 2 &&& (g ^^^ (-1))) ||| c) (M.2.2.2 7) = b1
  generalize firmB (fun p => M.1 1 ((5 * p) + 4)) ((M.2.2.1 2 &&& (g ^^^ (-1))) ||| c) (M.2.2.2 1) = b2
  by_cases h1 : M.2.2.1 4 + moreF M g c (M.2.2.2 1) < 0
  · rw [if_pos h1, if_pos h1]
    exact (ite_self _).symm
  · rw [if_neg h1, if_neg h1]
    by_cases h2 : M.2.2.1 5 < ysum (fun p => M.1 1 ((5 * p) + 1)) g (M.2.2.2 1) + ysum (fun p => M.1 1 ((5 * p) + 1)) c (M.2.2.2 1)
    · rw [if_pos h2, if_pos h2]
      rfl
    · rw [if_neg h2, if_neg h2]
      cases b1 <;> cases b2 <;> rfl
