theorem eArrOf {args : Array Value} {s : State} {ty : FieldType} (h : (Cond.arrayClass ty).before args s = true) (hRA : ∀ z, va_RA s z ty = (s.vm.findClass ("[" ++ ty.toString) = some z)) : ∃ z : ClassId, ArrOfT s z ty ∧ va_RA s z ty := by
  obtain ⟨z, kA, comp, h1, h2, h3⟩ := Cond.arrayClass_spec h
  exact ⟨z, fun n f => ⟨fun k q => (by cases q), kA, h2, comp, h3⟩, by rw [hRA]; exact h1⟩
theorem eNest_w : (eLmp 6).map (fun p => lw_tbl[p.1]?) = (eLm 6).map (fun q => some (Cond.methodLinkNest "DownAsUp" q.1 (eM q.2) "DownAsUp")) := by decide +kernel
theorem eStat_w : lw_tbl[459]? = some (Cond.stringRef "DownAsUp$Tape" 51 "hbcr") := by decide +kernel
theorem eLaySt : Cond.laysStatic "DownAsUp$Ways" "ORDERS_BEHIND" "[I" ∈ lw_tbl ∧ Cond.laysStatic "java/lang/String" "COMPACT_STRINGS" "Z" ∈ lw_tbl ∧ Cond.initialized "DownAsUp$Ways" ∈ lw_tbl ∧ Cond.initialized "java/lang/String" ∈ lw_tbl := by decide +kernel
set_option maxHeartbeats 4000000 in
theorem eRo_start {s : State} {b L : Nat} {xs : Nat → Int32} (hts : ∀ w ∈ lw_tbl, w.before #[Value.ref b] s = true) (hX : va_X b L xs s s.heap) (hbl : b < s.heap.size) (hgv : (Jvm.Cond.and given_1 narrow_1).before #[Value.ref b] s = true) : ∃ ro : Nat → Nat, ro 0 = b ∧ eRo (L, xs) s.heap.size ro s s.heap := by
  have hs := flat_of_before _ hgv
  have hA : ∀ a : Nat, a < s.heap.size → ¬ eA s.heap.size a := fun a h z => Nat.not_le.mpr h z
  obtain ⟨t1, ht1, hT1⟩ := va_Tof (args := #[Value.ref b]) (s := s) (tm := .static "DownAsUp$Ways" "ORDERS_BEHIND" "[I") (ty := .int) (N := 4) (f := fun j => .int (([6, 2, 2, 6] : List Int32).getD j 0)) (A := eA s.heap.size) (by decide) (hs _ (by decide +kernel)) (va_eqt (hs _ (by decide +kernel))) (fun j hj => by
    match j, hj with
    | 0, _ => exact va_eqt (hs (Cond.eq (.elem (.static "DownAsUp$Ways" "ORDERS_BEHIND" "[I") (.int 0)) (.int 6)) (by decide +kernel))
    | 1, _ => exact va_eqt (hs (Cond.eq (.elem (.static "DownAsUp$Ways" "ORDERS_BEHIND" "[I") (.int 1)) (.int 2)) (by decide +kernel))
    | 2, _ => exact va_eqt (hs (Cond.eq (.elem (.static "DownAsUp$Ways" "ORDERS_BEHIND" "[I") (.int 2)) (.int 2)) (by decide +kernel))
    | 3, _ => exact va_eqt (hs (Cond.eq (.elem (.static "DownAsUp$Ways" "ORDERS_BEHIND" "[I") (.int 3)) (.int 6)) (by decide +kernel))) hA
  obtain ⟨adK, adV, hS, hE⟩ := vk_Sof (args := #[Value.ref b]) (s := s) (N := 1) (tm := fun _ => .string "DownAsUp$Tape" 51) (len := [4]) (byt := [[104, 98, 99, 114]]) (A := eA s.heap.size) (fun i hi => by rw [show i = 0 by omega]; decide) (fun i _ => hs _ (by decide +kernel)) (fun i _ => hs _ (by decide +kernel)) (fun i _ => hs _ (by decide +kernel)) (fun i hi => by rw [show i = 0 by omega]; exact hs _ (by decide +kernel)) (fun i hi j hj => by
    rw [show i = 0 by omega] at hj ⊢
    match j, hj with
    | 0, _ => exact hs (Cond.eq (.elem (.field (.string "DownAsUp$Tape" 51) "java/lang/String" "value" "[B") (.int 0)) (.int 104)) (by decide +kernel)
    | 1, _ => exact hs (Cond.eq (.elem (.field (.string "DownAsUp$Tape" 51) "java/lang/String" "value" "[B") (.int 1)) (.int 98)) (by decide +kernel)
    | 2, _ => exact hs (Cond.eq (.elem (.field (.string "DownAsUp$Tape" 51) "java/lang/String" "value" "[B") (.int 2)) (.int 99)) (by decide +kernel)
    | 3, _ => exact hs (Cond.eq (.elem (.field (.string "DownAsUp$Tape" 51) "java/lang/String" "value" "[B") (.int 3)) (.int 114)) (by decide +kernel)) (fun i j hi hj hij => absurd (by omega : i = j) hij) hA
  obtain ⟨g1, g2, g3, g4⟩ := hS.1 0 (by decide)
  refine ⟨fun k => match k with | 0 => b | 1 => t1 | 2 => adK 0 | _ => adV 0, rfl, ?_, hT1, g4, va_Zref (hts _ eLaySt.1) (hts _ eLaySt.2.2.1) ht1 hA, va_Zof (hts _ eLaySt.2.1) (hts _ eLaySt.2.2.2) (va_eqi (hs _ (by decide +kernel))) hA, ?_, g1, g3, g2, ?_⟩
  · obtain ⟨scr, h1, h2, h3, h4, h5⟩ := hX
    exact ⟨scr, h1, h2, h3, Nat.le_of_eq h4.symm, by rw [h4], h5, hA b hbl⟩
  · exact vk_R.of (hts _ (List.mem_of_getElem? eStat_w)) (hE 0 (by decide))
  · intro q hq
    have h1 : some (Cond.methodLinkNest "DownAsUp" q.1 (eM q.2) "DownAsUp") ∈ (eLm 6).map (fun q => some (Cond.methodLinkNest "DownAsUp" q.1 (eM q.2) "DownAsUp")) := List.mem_map.mpr ⟨q, hq, rfl⟩
    rw [← eNest_w] at h1
    obtain ⟨pp, -, hp⟩ := List.mem_map.mp h1
    exact va_Nw.of rfl (hts _ (List.mem_of_getElem? hp))
set_option maxHeartbeats 4000000 in
theorem eK_start {s : State} {args : Array Value} (hts : ∀ w ∈ eWs, w.before args s = true) : ∃ (D : va_G) (cA : Nat → ClassId), va_K D eCl (eTys cA) s := by
  have hk : ∀ ci : Nat, ∃ q : ClassId × (Nat → Nat), ci < 8 → ∀ N, eCl[ci]? = some (eN ci, eU ci, N) → u_Kn s (eN ci) (eU ci) N q.1 q.2 := by
    intro ci
    by_cases hci : ci < 8
    · obtain ⟨N, hcl, -, -, hin, -, -, hins, -⟩ := eCl_ok ci hci
      obtain ⟨c0, iS, hK⟩ := u_known (C := eN ci) (T := eU ci) (N := N) (n := N) hts hin (hts _ hins)
      refine ⟨(c0, iS), fun _ N' hN' => ?_⟩
      cases hcl.symm.trans hN'
      exact hK
    · exact ⟨(0, fun _ => 0), fun h => absurd h hci⟩
  obtain ⟨d, hd⟩ := Classical.axiomOfChoice hk
  obtain ⟨z0, h0⟩ := eArrOf (hts _ (eWs_in eAr_int rfl)) (fun _ => rfl)
  obtain ⟨z1, h1⟩ := eArrOf (hts _ (eWs_in eAr_long rfl)) (fun _ => rfl)
  obtain ⟨z2, h2⟩ := eArrOf (hts _ (eWs_in eAr_boolean rfl)) (fun _ => rfl)
  obtain ⟨z3, h3⟩ := eArrOf (hts _ (eWs_in eAr_char rfl)) (fun _ => rfl)
  obtain ⟨z4, h4⟩ := eArrOf (hts _ (eWs_in eAr_byte rfl)) (fun _ => rfl)
  refine ⟨(fun k => (d k).1, fun k => (d k).2), fun t => match t with | 0 => z0 | 1 => z1 | 2 => z2 | 3 => z3 | _ => z4, fun ci q hq => ?_, fun t q hq => ?_⟩
  · have hci : ci < 8 := (List.getElem?_eq_some_iff.mp hq).1
    obtain ⟨N, hcl, -⟩ := eCl_ok ci hci
    cases hcl.symm.trans hq
    exact hd ci hci N hcl
  · have ht : t < 5 := (List.getElem?_eq_some_iff.mp hq).1
    match t, ht, hq with
    | 0, _, hq => cases hq; exact h0
    | 1, _, hq => cases hq; exact h1
    | 2, _, hq => cases hq; exact h2
    | 3, _, hq => cases hq; exact h3
    | 4, _, hq => cases hq; exact h4
set_option maxHeartbeats 4000000 in
/-- the law's walk out of a run of the engine -/
theorem eStart {p : Program} {e : Env} {s : State} {m : MethodId} {below : List Frame} {meth : Method} {c : Code} (l : Launch) {b L : Nat} {xs : Nat → Int32} (C0 : lw_At p s m meth c b L xs)
    (hrun : ∃ n AH1, eX (L, xs) n 202 0 (eEnt 202 [.retAddr 0]) [] [] = some (some (.int 1), AH1) ∧ AH1.length ≤ 600000 ∧ eTot AH1 ≤ 7302250) :
    W p l e room_1 s m #[Value.ref b] below meth c s.heap [] 0 0 (lw_Z below #[Value.ref b] s) (entryFrame m ([Value.ref b] : List Value).toArray 4) := by
  obtain ⟨hx, hb, hr, hml, hown, hts, hX, hbl, hlocks, hgv⟩ := C0
  obtain ⟨n, AH1, hrun, hlen, htot⟩ := hrun
  have htg : ∀ w ∈ eWs, w.before #[Value.ref b] s = true := fun w hw => hts w (List.mem_filter.mp hw).1
  obtain ⟨ro, hro, hRo⟩ := eRo_start hts hX hbl hgv
  obtain ⟨D, cA, hK⟩ := eK_start htg
  have hsim := (eX_ok l (L, xs) s.heap.size ro cA D n 202 0 _ _ _ _ _ hrun).2
  have hen := eEnt_ok (B := s.heap.size) (ro := ro) (q := 202) (as := [.retAddr 0]) (by decide +kernel)
  rw [lg_entry_eq]
  have hre : ([.retAddr 0] : List Value).map (eRe s.heap.size ro) = [Value.ref b] := by simp [eRe, hro]
  rw [hre] at hen
  refine hsim p e room_1 s m #[Value.ref b] below meth c s.heap [] 0 0 _ _ 0 0 ⟨hx, hb, hml, hr, hlocks, fun h => (by cases h), hown, htg, hK, hRo⟩ ⟨fun k q h => by simp [eWd] at h, va_S.rf⟩ hen rfl rfl rfl hlen htot (by decide +kernel) (by decide +kernel) ?_
  intro i pc' ls' H' locs' cells' slots' hd hret hI hc1 hc2
  cases i with
  | ireturn =>
    refine va_forget hI.2.2.2 ?_
    refine W.widen (k := 600000) (n := 7302250) (by omega) (by omega) ?_
    exact lw_ret hx hb hr hlocks hd
  | lreturn => obtain ⟨x, h, -⟩ := hret; cases h
  | areturn => obtain ⟨x, t, h, -⟩ := hret; cases h
  | return_ => exact absurd hret.1 (by simp)
  | _ => exact hret.elim
