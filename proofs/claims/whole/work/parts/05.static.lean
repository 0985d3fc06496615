set_option maxRecDepth 100000 in
theorem eChk_w : ((List.range 203).all fun k => (eCd k).all (eChk k)) = true := by decide +kernel
theorem eCd_big (n : Nat) : eCd (n + 203) = [] := rfl
theorem eChk_ok (k : Nat) : ∀ q ∈ eCd k, eChk k q = true := by
  intro q hq
  by_cases hk : k < 203
  · exact List.all_eq_true.mp (List.all_eq_true.mp eChk_w k (List.mem_range.mpr hk)) q hq
  · rw [show k = (k - 203) + 203 by omega, eCd_big] at hq
    exact absurd hq List.not_mem_nil
set_option maxRecDepth 100000 in
theorem eMok_w1 : ((List.range 203).all fun k => decide (eN (eOwn k) = (eM k).cls)) = true := by decide +kernel
set_option maxRecDepth 100000 in
theorem eMok_w2 : ((List.range 203).all fun k => decide ((eM k).cls ≠ "java/lang/invoke/MethodHandle") && decide ((eM k).cls ≠ "java/lang/invoke/VarHandle")) = true := by decide +kernel
set_option maxRecDepth 100000 in
theorem eMok_w3 : ((List.range 203).all fun k => decide ((parseMethodDescriptor (eM k).desc).map (fun d => d.parameters.length) = some (eNa.getD k 0))) = true := by decide +kernel
set_option maxRecDepth 100000 in
theorem eMok_w4 : ((List.range 203).all fun k => plainName (eM k).cls || Nat.beq k 36 || Nat.beq k 37 || Nat.beq k 84) = true := by decide +kernel
set_option maxRecDepth 100000 in
theorem eMth_n : eM 36 = Lib.Math.max.name ∧ eM 37 = Lib.Math.min.name ∧ eM 84 = Lib.Math.abs.name ∧ eBy 36 = Lib.Math.max.code ∧ eBy 37 = Lib.Math.min.code ∧ eBy 84 = Lib.Math.abs.code := by decide +kernel
set_option maxRecDepth 100000 in
theorem eMok_w5 : ((List.range 203).all fun k => (!(eIni k) || decide ((eM k).name = "<init>"))) = true := by decide +kernel
set_option maxRecDepth 100000 in
theorem eLi_ini : ((List.range 14).all fun own => ((eLi own).all fun q => eIni q.2 && Nat.blt q.2 202) && ((eLm own).all fun q => eIni q.2 && Nat.blt q.2 202 && Nat.beq own 6) && ((eLs own).all fun q => Nat.blt q.2 202) && ((eLv own).all fun q => Nat.blt q.2 202) && ((eLf own).all fun q => Nat.blt q.2.1 8 && Nat.blt q.2.2 (eFt q.2.1).length) && ((eLn own).all fun q => Nat.blt q.2 8)) = true := by decide +kernel
theorem eOwn_lt : ((List.range 203).all fun k => Nat.blt (eOwn k) 14) = true := by decide +kernel
