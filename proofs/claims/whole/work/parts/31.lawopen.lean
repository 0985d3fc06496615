theorem law_start (o : eO) {r : eP} (g : eG o 202 18 [some (.retAddr 0), some (.ref 0), some (.ref 49), some (.int (nI 0))] [] hpM r) : eG o 202 0 (eEnt 202 [.retAddr 0]) [] [] r := by
  refine g_run 2 4 [some (.retAddr 0), none, none, none] [.ref 0, .ref 0] [.inr (6, [.null, .null, .null, .null, .null, .null, .null, .null, .int 0])] rfl ?_
  refine g_call (show eAt 202 4 = some (.invokespecial 9, 3) from rfl) rfl rfl ⟨120, _, ct_X o, rfl⟩ ?_
  refine g_run 3 12 [some (.retAddr 0), some (.ref 0), none, none] [.ref 49, .ref 49] (hpX ++ [.inr (7, [.null, .int 0, .int 0, .int 0, .int 0, .int 0, .null, .int 0, .null, .int 0, .int 0, .int 0, .int 0, .null, .null, .null, .null, .null, .null, .null, .null, .null, .null, .null, .null, .null, .null, .null, .int 0, .null, .null, .null, .null, .null, .int 0, .null])]) rfl ?_
  refine g_call (show eAt 202 12 = some (.invokespecial 12, 3) from rfl) rfl rfl ⟨300, _, ct_M o, rfl⟩ ?_
  refine g_run 3 18 [some (.retAddr 0), some (.ref 0), some (.ref 49), some (.int (nI 0))] [] hpM rfl ?_
  exact g
section G5
variable {o : eO} {k pc l : Nat} {L : eL} {st : List Value} {H : eH} {r : eP}
/-- the script is read -/
theorem g_slen (h : eAt k pc = some (.arraylength, 1)) (g : eG o k (pc + 1) L (.int (nI o.1) :: st) H r) : eG o k pc L (.retAddr 0 :: st) H r := by
  refine g_step h ?_ g
  show eHp o (eOwn k) (eIni k) .arraylength pc L (.retAddr 0 :: st) H = _
  rfl
theorem g_sld {p : Nat} (h : eAt k pc = some (.iaload, 1)) (hp : p < o.1) (hn : o.1 ≤ 1000000) (g : eG o k (pc + 1) L (.int (o.2 p) :: st) H r) : eG o k pc L (.int (nI p) :: .retAddr 0 :: st) H r := by
  refine g_step h ?_ g
  show eHp o (eOwn k) (eIni k) .iaload pc L (.int (nI p) :: .retAddr 0 :: st) H = _
  simp only [eHp, eRoA, eOut_nI hp hn, ePush, nI_clamp (show p < 2 ^ 31 by omega)]
end G5
/-- the claim out of the law's loop -/
theorem whole_open (hloop : ∀ (L : Nat) (xs : Nat → Int32), L ≤ 3072 → eG (L, xs) 202 18 [some (.retAddr 0), some (.ref 0), some (.ref 49), some (.int (nI 0))] [] hpM (fun z => z.1 = some (.int 1) ∧ z.2.length ≤ 600000 ∧ eTot z.2 ≤ 7302250)) {p : Program} {e : Env} {s : State} {m : MethodId} {below : List Frame} {meth : Method} {c : Code} (l : Launch) {b L : Nat} {xs : Nat → Int32} (hL : L ≤ 3072) (C0 : lw_At p s m meth c b L xs) : W p l e room_1 s m #[Value.ref b] below meth c s.heap [] 0 0 (lw_Z below #[Value.ref b] s) (entryFrame m ([Value.ref b] : List Value).toArray 4) := by
  obtain ⟨n, ⟨v, AH1⟩, h1, h2, h3, h4⟩ := law_start (L, xs) (hloop L xs hL)
  dsimp only at h2 h3 h4
  subst h2
  exact eStart l C0 ⟨n, AH1, h1, h3, h4⟩
