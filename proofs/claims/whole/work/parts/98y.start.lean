/-! ===== the start ===== -/
def m4 : Int → Int := fun y => if 0 ≤ y ∧ y < 4 then -1 else 0
def S0 : ZS := (fun h => if h = 48 then m4 else if h = 70 then m4 else fun _ => 0, fun h j => if j = 11 then (if h = 1 then 200 else if h = 8 then 200 else if h = 15 then 200 else 0) else if j = 5 then (if h = 49 then 200 else 0) else 0, 2048, none)
def hpF (gq : Nat → Int32) : eH := [.inr (6, [.ref 1, .ref 8, .ref 15, .ref 22, .ref 24, .ref 33, .ref 43, .ref 45, .int 0]),
  .inr (4, [.ref 2, .ref 3, .ref 4, .ref 5, .ref 6, .ref 7, .int 0, .int 0, .int 0, .int 0, .int 0, .int 200]),
  .inl (0, 8, .inl (fun _ => 0)),
  .inl (0, 8, .inl (fun _ => 0)),
  .inl (0, 8, .inl (fun _ => 0)),
  .inl (0, 8, .inl (fun _ => 0)),
  .inl (0, 8, .inl (fun _ => 0)),
  .inl (0, 4, .inl (fun _ => 0)),
  .inr (4, [.ref 9, .ref 10, .ref 11, .ref 12, .ref 13, .ref 14, .int 0, .int 0, .int 0, .int 0, .int 0, .int 200]),
  .inl (0, 8, .inl (fun _ => 0)),
  .inl (0, 8, .inl (fun _ => 0)),
  .inl (0, 8, .inl (fun _ => 0)),
  .inl (0, 8, .inl (fun _ => 0)),
  .inl (0, 8, .inl (fun _ => 0)),
  .inl (0, 4, .inl (fun _ => 0)),
  .inr (4, [.ref 16, .ref 17, .ref 18, .ref 19, .ref 20, .ref 21, .int 0, .int 0, .int 0, .int 0, .int 0, .int 200]),
  .inl (0, 8, .inl (fun _ => 0)),
  .inl (0, 8, .inl (fun _ => 0)),
  .inl (0, 8, .inl (fun _ => 0)),
  .inl (0, 8, .inl (fun _ => 0)),
  .inl (0, 8, .inl (fun _ => 0)),
  .inl (0, 4, .inl (fun _ => 0)),
  .inr (3, [.ref 23, .int 0, .int 0]),
  .inl (3, 160, .inl (fun _ => 0)),
  .inr (5, [.ref 25, .ref 26, .ref 27, .ref 28, .ref 29, .ref 30, .ref 31, .ref 32, .int 0, .int 0, .int 0, .int 0, .int 0, .int 0, .int 0, .int 0, .int 0]),
  .inl (0, 256, .inl (fun _ => 0)),
  .inl (0, 256, .inl (fun _ => 0)),
  .inl (0, 256, .inl (fun _ => 0)),
  .inl (2, 256, .inl (fun _ => 0)),
  .inl (2, 256, .inl (fun _ => 0)),
  .inl (0, 256, .inl (fun _ => 0)),
  .inl (0, 2048, .inl (fun _ => 0)),
  .inl (0, 256, .inl (fun _ => 0)),
  .inr (1, [.ref 34, .ref 35, .ref 36, .ref 37, .ref 38, .ref 39, .ref 40, .ref 41, .ref 42, .int 0, .int 0, .int 0, .int 0]),
  .inl (0, 9, .inl (fun _ => 0)),
  .inl (0, 9, .inl (fun _ => 0)),
  .inl (0, 9, .inl (fun _ => 0)),
  .inl (0, 9, .inl (fun _ => 0)),
  .inl (0, 8, .inl (fun _ => 0)),
  .inl (0, 8, .inl (fun _ => 0)),
  .inl (0, 8, .inl (fun _ => 0)),
  .inl (0, 8, .inl (fun _ => 0)),
  .inl (0, 72, .inl (fun _ => 0)),
  .inr (0, [.ref 44]),
  .inl (0, 8, .inl (fun _ => 0)),
  .inr (2, [.ref 46, .ref 47, .ref 48]),
  .inl (1, 96, .inr (fun _ => 0)),
  .inl (0, 4, .inl (fun _ => 0)),
  .inl (0, 4, .inl gq),
  .inr (7, [.ref 50, .int 0, .int 0, .int 0, .int 0, .int 200, .ref 51, .int 0, .ref 52, .int 0, .int 0, .int 0, .int 0, .ref 53, .ref 54, .ref 55, .ref 56, .ref 57, .ref 58, .ref 59, .ref 60, .ref 61, .ref 62, .ref 63, .ref 64, .ref 65, .ref 66, .ref 67, .int 0, .ref 68, .ref 69, .ref 70, .ref 71, .ref 72, .int 0, .ref 73]),
  .inl (0, 40, .inl (fun _ => 0)),
  .inl (0, 4, .inl (fun _ => 0)),
  .inl (0, 160, .inl (fun _ => 0)),
  .inl (0, 40, .inl (fun _ => 0)),
  .inl (0, 256, .inl (fun _ => 0)),
  .inl (2, 256, .inl (fun _ => 0)),
  .inl (0, 256, .inl (fun _ => 0)),
  .inl (0, 256, .inl (fun _ => 0)),
  .inl (0, 65536, .inl (fun _ => 0)),
  .inl (0, 256, .inl (fun _ => 0)),
  .inl (0, 256, .inl (fun _ => 0)),
  .inl (0, 9, .inl (fun _ => 0)),
  .inl (0, 8, .inl (fun _ => 0)),
  .inl (0, 72, .inl (fun _ => 0)),
  .inl (0, 17, .inl (fun _ => 0)),
  .inl (0, 17, .inl (fun _ => 0)),
  .inl (0, 8, .inl (fun _ => 0)),
  .inl (2, 16, .inl (fun _ => 0)),
  .inl (0, 44, .inl (fun _ => 0)),
  .inl (0, 6, .inl (fun _ => 0)),
  .inl (0, 4, .inl gq),
  .inl (0, 4, .inl (fun _ => 0)),
  .inl (1, 96, .inr (fun _ => 0)),
  .inl (1, 24, .inr (fun _ => 0))]
theorem m4_eq : (fun i : Nat => zI (m4 (i : Int))) = (upd (upd (upd (upd (fun _ => 0) 0 (-1)) 1 (-1)) 2 (-1)) 3 (-1) : Nat → Int32) := by
  funext i
  by_cases c0 : i = 0
  · subst c0; rfl
  by_cases c1 : i = 1
  · subst c1; rfl
  by_cases c2 : i = 2
  · subst c2; rfl
  by_cases c3 : i = 3
  · subst c3; rfl
  show zI (if 0 ≤ (i : Int) ∧ (i : Int) < 4 then -1 else 0) = (if i = 3 then -1 else if i = 2 then -1 else if i = 1 then -1 else if i = 0 then -1 else 0)
  rw [if_neg (by omega), if_neg c3, if_neg c2, if_neg c1, if_neg c0]
  rfl
set_option maxRecDepth 100000 in
set_option maxHeartbeats 4000000 in
theorem rd_S0 : rd S0 = hpF (fun i : Nat => zI (m4 (i : Int))) := rfl
set_option maxRecDepth 100000 in
set_option maxHeartbeats 4000000 in
theorem hp_F : hpM = hpF (upd (upd (upd (upd (fun _ => 0) 0 (-1)) 1 (-1)) 2 (-1)) 3 (-1)) := rfl
theorem hp_0 : hpM = rd S0 := by rw [rd_S0, m4_eq, hp_F]
theorem good_0 : Good S0 := by
  refine ⟨(fun _ _ => 0, fun j => if j = 11 then 200 else 0), ⟨⟨fun j a b => ?_, fun i p a b c => absurd c (by show ¬ p < 0; omega), fun p a => absurd a (by show ¬ p < 0; omega)⟩, ⟨⟨rfl, rfl, rfl, rfl, rfl, rfl⟩, fun i p a b => absurd b (by show ¬ p < 0; omega), fun p a => absurd a (by show ¬ p < 0; omega)⟩, ⟨⟨by show (0 : Nat) ≤ 8; omega, by show (0 : Nat) ≤ 4; omega, fun p a => absurd a (by show ¬ p < 0; omega), fun p a => absurd a (by show ¬ p < 0; omega)⟩, ⟨by show (0 : Nat) < 2 ^ 0; decide, by show (0 : Nat) < 2 ^ 0; decide, by show (0 : Nat) ≤ 999; omega, by show 1 ≤ 200; omega, by show 200 ≤ 999; omega⟩, rfl⟩⟩, ⟨0, (by omega), rfl, rfl, fun i hi => absurd hi (by omega)⟩, Or.inl ⟨rfl, rfl⟩, ⟨fun i a b => ⟨rfl, by show (-9223372036854775808 : Int) ≤ 0; omega, by show (0 : Int) < 9223372036854775808; omega⟩, fun s a b => Or.inl ⟨if_pos ⟨a, b⟩, if_pos ⟨a, b⟩⟩⟩, ⟨Or.inl rfl, Or.inl rfl, Or.inl rfl⟩, ⟨⟨0, (by omega), rfl⟩, rfl⟩⟩
  have hj : j = 6 ∨ j = 7 ∨ j = 8 ∨ j = 9 ∨ j = 10 ∨ j = 11 := by omega
  rcases hj with rfl | rfl | rfl | rfl | rfl | rfl <;> rfl
theorem inv_0 : Inv hpM := ⟨S0, hp_0, good_0⟩
theorem all_pairs : Pairs Inv := ⟨p_part, p_told, p_stand, p_person, p_set, p_want, p_type, p_town, p_people, p_count, p_may, p_week, p_can, p_more, p_carry, p_build, p_worth, p_image, p_restore, p_judged, p_wrong, p_sheet, p_drop, p_item, p_film, p_copy⟩
theorem whole_start {p : Program} {e : Env} {s : State} {m : MethodId} {below : List Frame} {meth : Method} {c : Code} (l : Launch) {b L : Nat} {xs : Nat → Int32} (hL : L ≤ 3072) (C0 : lw_At p s m meth c b L xs) : W p l e room_1 s m #[Value.ref b] below meth c s.heap [] 0 0 (lw_Z below #[Value.ref b] s) (entryFrame m ([Value.ref b] : List Value).toArray 4) :=
  whole_pairs Inv inv_0 inv_O inv_B all_pairs l hL C0
