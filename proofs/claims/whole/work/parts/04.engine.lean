/-! THE ENGINE: a machine of our own over the same instructions, whose cells are numbered from 0 and whose arrays are functions; part 04 says that what it does the real one does. -/
abbrev eC : Type := (Nat × Nat × ((Nat → Int32) ⊕ (Nat → Int64))) ⊕ (Nat × List Value)
abbrev eH : Type := List eC
abbrev eL : Type := List (Option Value)
abbrev eO : Type := Nat × (Nat → Int32)
abbrev eF : Type := Nat × eL × List Value × eH
abbrev eR : Type := eF ⊕ ((Option Value × eH) ⊕ (Nat × List Value × eF))
def eFind {α : Type} : List (Nat × α) → Nat → Option α
  | [], _ => none
  | (a, b) :: l, k => match Nat.beq a k with
    | true => some b
    | false => eFind l k
theorem eFind_mem {α : Type} : ∀ {l : List (Nat × α)} {k : Nat} {b : α}, eFind l k = some b → (k, b) ∈ l
  | [], _, _, h => by cases h
  | (a, c) :: l, k, b, h => by
    unfold eFind at h
    split at h
    · next hb =>
      have := Nat.eq_of_beq_eq_true hb
      subst this
      cases h
      exact List.mem_cons_self
    · exact List.mem_cons_of_mem _ (eFind_mem h)
/-- cells that nobody writes: 0 the script, 1 ORDERS_BEHIND, 2 the text, 3 its bytes -/
def eRoA (o : eO) (k : Nat) : Option (Nat × Nat × (Nat → Int32)) := match k with
  | 0 => some (0, o.1, o.2)
  | 1 => some (0, 4, fun j => ([6, 2, 2, 6] : List Int32).getD j 0)
  | 3 => some (4, 4, fun j => ([104, 98, 99, 114] : List Int32).getD j 0)
  | _ => none
def eOwn (k : Nat) : Nat := eOw.getD k 0
def eGs (own idx : Nat) : Option Value := match own, idx with
  | 5, 88 => some (.retAddr 1)
  | 11, 38 => some (.int 1)
  | _, _ => none
def eRf (own idx : Nat) : Option Value := match own, idx with
  | 11, 9 => some (.retAddr 3)
  | 11, 15 => some (.int 0)
  | _, _ => none
def eLs1 (own idx : Nat) : Bool := match own, idx with
  | 3, 51 => true
  | _, _ => false
def eHas : List (Nat × Nat) → Nat → Nat → Bool
  | [], _, _ => false
  | (a, b) :: l, x, y => match Nat.beq a x, Nat.beq b y with
    | true, true => true
    | _, _ => eHas l x y
def eLd (L : eL) (i : Nat) : Option Value := match L[i]? with
  | some (some v) => some v
  | _ => none
def eKill (L : eL) : Nat → eL
  | 0 => L
  | i + 1 => match L[i]? with
    | some (some (.long _)) => L.set i none
    | some (some (.double _)) => L.set i none
    | _ => L
def eSt1 (L : eL) (i : Nat) (v : Value) : eL := (eKill L i).set i (some v)
def eSt2 (L : eL) (i : Nat) (v : Value) : eL := ((eKill L i).set i (some v)).set (i + 1) none
def eFit : FieldType → Value → Bool
  | .int, .int _ => true
  | .boolean, .int x => x == 0 || x == 1
  | .char, .int x => 0 ≤ x && x ≤ 65535
  | .byte, .int x => -128 ≤ x && x ≤ 127
  | .long, .long _ => true
  | .array _, .ref _ => true
  | .object _, .ref _ => true
  | _, _ => false
def eCmp : ClassFile.Cond → Int32 → Int32 → Bool
  | .eq, x, y => decide (x = y)
  | .ne, x, y => !decide (x = y)
  | .lt, x, y => decide (x < y)
  | .ge, x, y => decide (y ≤ x)
  | .gt, x, y => decide (y < x)
  | .le, x, y => decide (x ≤ y)
def eTgt (pc : Nat) (off : Int) : Nat := ((pc : Int) + off).toNat
/-- the first locals of a method, out of its arguments -/
def eArgs : List Value → eL
  | [] => []
  | .long x :: vs => some (.long x) :: none :: eArgs vs
  | .double x :: vs => some (.double x) :: none :: eArgs vs
  | v :: vs => some v :: eArgs vs
def eEnt (k : Nat) (vs : List Value) : eL := eArgs vs ++ List.replicate (eMx.getD k 0 - (eArgs vs).length) none
def eOut (i : Int32) (n : Nat) : Bool := decide (i < 0) || Nat.ble n i.toNatClampNeg
def eTag : ArrayType → Option Nat
  | .int => some 0
  | .long => some 1
  | .boolean => some 2
  | .char => some 3
  | _ => none
def eNew (t n : Nat) : eC := match t with
  | 1 => .inl (1, n, .inr (fun _ => 0))
  | t => .inl (t, n, .inl (fun _ => 0))
def eDef : FieldType → Value
  | .int => .int 0
  | .boolean => .int 0
  | .char => .int 0
  | .byte => .int 0
  | .short => .int 0
  | .long => .long 0
  | .float => .float 0
  | .double => .double 0
  | _ => .null
/-- n arguments off the stack, the first one first -/
def ePop : Nat → List Value → List Value → Option (List Value × List Value)
  | 0, acc, st => some (acc, st)
  | n + 1, acc, v :: st => ePop n (v :: acc) st
  | _ + 1, _, [] => none
def eCat2 : Value → Bool
  | .long _ => true
  | .double _ => true
  | _ => false
def eWords : List Value → Nat
  | [] => 0
  | v :: l => (match eCat2 v with | true => 2 | false => 1) + eWords l
/-- pushes -/
def ePush (pc : Nat) (L : eL) (st : List Value) (H : eH) (v : Value) : Option eR := some (.inl (pc, L, v :: st, H))
/-- instructions on the operand stack and the locals alone -/
def eLoc (own : Nat) (i : Instr) (pc : Nat) (L : eL) (st : List Value) (H : eH) : Option eR := match i with
  | .iconst n => ePush (pc + 1) L st H (.int (Int32.ofInt n))
  | .bipush n => ePush (pc + 2) L st H (.int (Int8.ofInt n).toInt32)
  | .sipush n => ePush (pc + 3) L st H (.int (Int16.ofInt n).toInt32)
  | .lconst n => ePush (pc + 1) L st H (.long (Int64.ofNat (n : Nat)))
  | .ldc idx => match eLs1 own idx with
    | true => ePush (pc + 2) L st H (.retAddr 2)
    | false => match eFind (eLk own) idx with
      | some x => ePush (pc + 2) L st H (.int x)
      | none => none
  | .ldc_w idx => match eFind (eLk own) idx with
    | some x => ePush (pc + 3) L st H (.int x)
    | none => none
  | .ldc2_w idx => match eFind (eLl own) idx with
    | some x => ePush (pc + 3) L st H (.long x)
    | none => none
  | .iload j => match eLd L j with
    | some (.int x) => ePush (pc + 2) L st H (.int x)
    | _ => none
  | .iload_n j => match eLd L (j : Nat) with
    | some (.int x) => ePush (pc + 1) L st H (.int x)
    | _ => none
  | .lload j => match eLd L j with
    | some (.long x) => ePush (pc + 2) L st H (.long x)
    | _ => none
  | .lload_n j => match eLd L (j : Nat) with
    | some (.long x) => ePush (pc + 1) L st H (.long x)
    | _ => none
  | .aload j => match eLd L j with
    | some (.ref x) => ePush (pc + 2) L st H (.ref x)
    | some (.retAddr x) => ePush (pc + 2) L st H (.retAddr x)
    | _ => none
  | .aload_n j => match eLd L (j : Nat) with
    | some (.ref x) => ePush (pc + 1) L st H (.ref x)
    | some (.retAddr x) => ePush (pc + 1) L st H (.retAddr x)
    | _ => none
  | .istore j => match st with
    | .int x :: st => some (.inl (pc + 2, eSt1 L j (.int x), st, H))
    | _ => none
  | .istore_n j => match st with
    | .int x :: st => some (.inl (pc + 1, eSt1 L (j : Nat) (.int x), st, H))
    | _ => none
  | .lstore j => match st with
    | .long x :: st => some (.inl (pc + 2, eSt2 L j (.long x), st, H))
    | _ => none
  | .lstore_n j => match st with
    | .long x :: st => some (.inl (pc + 1, eSt2 L (j : Nat) (.long x), st, H))
    | _ => none
  | .astore_n j => match st with
    | .ref x :: st => some (.inl (pc + 1, eSt1 L (j : Nat) (.ref x), st, H))
    | _ => none
  | .iinc j n => match eLd L j with
    | some (.int x) => some (.inl (pc + 3, eSt1 L j (.int (x + Int32.ofInt n)), st, H))
    | _ => none
  | .pop => match st with
    | .int _ :: st => some (.inl (pc + 1, L, st, H))
    | _ => none
  | .dup => match st with
    | .int x :: st => some (.inl (pc + 1, L, .int x :: .int x :: st, H))
    | .ref x :: st => some (.inl (pc + 1, L, .ref x :: .ref x :: st, H))
    | _ => none
  | .dup2 => match st with
    | .int x :: .ref y :: st => some (.inl (pc + 1, L, .int x :: .ref y :: .int x :: .ref y :: st, H))
    | _ => none
  | .goto off => some (.inl (eTgt pc off, L, st, H))
  | .ifCond c off => match st with
    | .int x :: st => some (.inl (match eCmp c x 0 with | true => eTgt pc off | false => pc + 3, L, st, H))
    | _ => none
  | .if_icmp c off => match st with
    | .int y :: .int x :: st => some (.inl (match eCmp c x y with | true => eTgt pc off | false => pc + 3, L, st, H))
    | _ => none
  | .tableswitch d lo hi offs => match st with
    | .int x :: st => some (.inl (if x.toInt < lo ∨ hi < x.toInt then eTgt pc d else eTgt pc (offs.toList.getD (x.toInt - lo).toNat d), L, st, H))
    | _ => none
  | _ => none
/-- arithmetic -/
def eAri (i : Instr) (pc : Nat) (L : eL) (st : List Value) (H : eH) : Option eR := match i, st with
  | .iadd, .int y :: .int x :: st => ePush (pc + 1) L st H (.int (x + y))
  | .isub, .int y :: .int x :: st => ePush (pc + 1) L st H (.int (x - y))
  | .imul, .int y :: .int x :: st => ePush (pc + 1) L st H (.int (x * y))
  | .iand, .int y :: .int x :: st => ePush (pc + 1) L st H (.int (x &&& y))
  | .ior, .int y :: .int x :: st => ePush (pc + 1) L st H (.int (x ||| y))
  | .ixor, .int y :: .int x :: st => ePush (pc + 1) L st H (.int (x ^^^ y))
  | .ishl, .int y :: .int x :: st => ePush (pc + 1) L st H (.int (x <<< (y &&& 31)))
  | .ishr, .int y :: .int x :: st => ePush (pc + 1) L st H (.int (x >>> (y &&& 31)))
  | .iushr, .int y :: .int x :: st => ePush (pc + 1) L st H (.int (x.toUInt32 >>> (y.toUInt32 &&& Int32.toUInt32 31)).toInt32)
  | .idiv, .int y :: .int x :: st => if y = 0 then none else ePush (pc + 1) L st H (.int (x / y))
  | .irem, .int y :: .int x :: st => if y = 0 then none else ePush (pc + 1) L st H (.int (x - x / y * y))
  | .ineg, .int x :: st => ePush (pc + 1) L st H (.int (-x))
  | .i2l, .int x :: st => ePush (pc + 1) L st H (.long x.toInt64)
  | .i2b, .int x :: st => ePush (pc + 1) L st H (.int x.toInt8.toInt32)
  | .i2c, .int x :: st => ePush (pc + 1) L st H (.int (x.toUInt32 % 65536).toInt32)
  | .i2s, .int x :: st => ePush (pc + 1) L st H (.int x.toInt16.toInt32)
  | .l2i, .long x :: st => ePush (pc + 1) L st H (.int x.toInt32)
  | .lsub, .long y :: .long x :: st => ePush (pc + 1) L st H (.long (x - y))
  | .land, .long y :: .long x :: st => ePush (pc + 1) L st H (.long (x &&& y))
  | .lor, .long y :: .long x :: st => ePush (pc + 1) L st H (.long (x ||| y))
  | .lshl, .int y :: .long x :: st => ePush (pc + 1) L st H (.long (x <<< (y.toInt64 &&& 63)))
  | .lshr, .int y :: .long x :: st => ePush (pc + 1) L st H (.long (x >>> (y.toInt64 &&& 63)))
  | .lushr, .int y :: .long x :: st => ePush (pc + 1) L st H (.long (x.toUInt64 >>> (y.toInt64.toUInt64 &&& Int64.toUInt64 63)).toInt64)
  | .lcmp, .long y :: .long x :: st => ePush (pc + 1) L st H (.int (lg_cmp x y))
  | _, _ => none
/-- cells -/
def eHp (o : eO) (own : Nat) (ini : Bool) (i : Instr) (pc : Nat) (L : eL) (st : List Value) (H : eH) : Option eR := match i, st with
  | .getfield idx, .ref h :: st => match eFind (eLf own) idx, H[h]? with
    | some (ci, k), some (.inr (cj, fs)) => match Nat.beq ci cj, fs[k]? with
      | true, some v => ePush (pc + 3) L st H v
      | _, _ => none
    | _, _ => none
  | .getfield idx, .retAddr 2 :: st => match eRf own idx with
    | some v => ePush (pc + 3) L st H v
    | none => none
  | .putfield idx, v :: .ref h :: st => match eFind (eLf own) idx, H[h]? with
    | some (ci, k), some (.inr (cj, fs)) => match Nat.beq ci cj, Nat.blt k fs.length, (eFd ci)[k]?, (eFt ci)[k]? with
      | true, true, some (_, _, _, fin), some ty => match eFit ty v, fin, ini && Nat.beq own ci with
        | true, false, _ => some (.inl (pc + 3, L, st, H.set h (.inr (ci, fs.set k v))))
        | true, true, true => some (.inl (pc + 3, L, st, H.set h (.inr (ci, fs.set k v))))
        | _, _, _ => none
      | _, _, _, _ => none
    | _, _ => none
  | .getstatic idx, st => match eGs own idx with
    | some v => ePush (pc + 3) L st H v
    | none => none
  | .iaload, .int i :: .ref h :: st => match H[h]? with
    | some (.inl (0, n, .inl f)) => match eOut i n with
      | true => none
      | false => ePush (pc + 1) L st H (.int (f i.toNatClampNeg))
    | _ => none
  | .iaload, .int i :: .retAddr k :: st => match eRoA o k with
    | some (0, n, f) => match eOut i n with
      | true => none
      | false => ePush (pc + 1) L st H (.int (f i.toNatClampNeg))
    | _ => none
  | .baload, .int i :: .ref h :: st => match H[h]? with
    | some (.inl (2, n, .inl f)) => match eOut i n with
      | true => none
      | false => ePush (pc + 1) L st H (.int (f i.toNatClampNeg))
    | _ => none
  | .baload, .int i :: .retAddr k :: st => match eRoA o k with
    | some (4, n, f) => match eOut i n with
      | true => none
      | false => ePush (pc + 1) L st H (.int (f i.toNatClampNeg))
    | _ => none
  | .caload, .int i :: .ref h :: st => match H[h]? with
    | some (.inl (3, n, .inl f)) => match eOut i n with
      | true => none
      | false => ePush (pc + 1) L st H (.int (f i.toNatClampNeg))
    | _ => none
  | .laload, .int i :: .ref h :: st => match H[h]? with
    | some (.inl (1, n, .inr f)) => match eOut i n with
      | true => none
      | false => ePush (pc + 1) L st H (.long (f i.toNatClampNeg))
    | _ => none
  | .iastore, .int x :: .int i :: .ref h :: st => match H[h]? with
    | some (.inl (0, n, .inl f)) => match eOut i n with
      | true => none
      | false => some (.inl (pc + 1, L, st, H.set h (.inl (0, n, .inl (upd f i.toNatClampNeg x)))))
    | _ => none
  | .bastore, .int x :: .int i :: .ref h :: st => match H[h]? with
    | some (.inl (2, n, .inl f)) => match eOut i n with
      | true => none
      | false => some (.inl (pc + 1, L, st, H.set h (.inl (2, n, .inl (upd f i.toNatClampNeg (vp_nar .boolean x))))))
    | _ => none
  | .castore, .int x :: .int i :: .ref h :: st => match H[h]? with
    | some (.inl (3, n, .inl f)) => match eOut i n with
      | true => none
      | false => some (.inl (pc + 1, L, st, H.set h (.inl (3, n, .inl (upd f i.toNatClampNeg (vp_nar .char x))))))
    | _ => none
  | .lastore, .long x :: .int i :: .ref h :: st => match H[h]? with
    | some (.inl (1, n, .inr f)) => match eOut i n with
      | true => none
      | false => some (.inl (pc + 1, L, st, H.set h (.inl (1, n, .inr (vp_updL f i.toNatClampNeg x)))))
    | _ => none
  | .arraylength, .ref h :: st => match H[h]? with
    | some (.inl (t, n, _)) => match Nat.blt t 5 with
      | true => ePush (pc + 1) L st H (.int (Int32.ofNat n))
      | false => none
    | _ => none
  | .arraylength, .retAddr k :: st => match eRoA o k with
    | some (_, n, _) => ePush (pc + 1) L st H (.int (Int32.ofNat n))
    | none => none
  | .newarray ty, .int n :: st => match eTag ty with
    | some t => if n < 0 ∨ 67108864 < n.toNatClampNeg then none else some (.inl (pc + 2, L, .ref H.length :: st, H ++ [eNew t n.toNatClampNeg]))
    | none => none
  | .new idx, st => match eFind (eLn own) idx with
    | some ci => some (.inl (pc + 3, L, .ref H.length :: st, H ++ [.inr (ci, (eFt ci).map eDef)]))
    | none => none
  | _, _ => none
/-- arraycopy of one kind of array -/
def eCpy (st : List Value) (H : eH) : Option (List Value × eH) := match st with
  | .int n :: .int dp :: .ref b :: .int sp :: .ref a :: st => if sp < 0 ∨ dp < 0 ∨ n < 0 then none else match H[a]?, H[b]? with
    | some (.inl (0, n0, .inl f)), some (.inl (0, n1, .inl g)) => match Nat.ble (sp.toNatClampNeg + n.toNatClampNeg) n0, Nat.ble (dp.toNatClampNeg + n.toNatClampNeg) n1, Nat.ble (eWords st) 8 with
      | true, true, true => some (st, H.set b (.inl (0, n1, .inl (va_cpy f g sp.toNatClampNeg dp.toNatClampNeg n.toNatClampNeg))))
      | _, _, _ => none
    | some (.inl (1, n0, .inr f)), some (.inl (1, n1, .inr g)) => match Nat.ble (sp.toNatClampNeg + n.toNatClampNeg) n0, Nat.ble (dp.toNatClampNeg + n.toNatClampNeg) n1, Nat.ble (eWords st) 8 with
      | true, true, true => some (st, H.set b (.inl (1, n1, .inr (va_cpy f g sp.toNatClampNeg dp.toNatClampNeg n.toNatClampNeg))))
      | _, _, _ => none
    | _, _ => none
  | _ => none
/-- Math's own: the machine runs them by entries of its own -/
def eMth (q : Nat) (st : List Value) : Option (Option (Value × List Value)) := match q, st with
  | 36, .int y :: .int x :: st => some (some (.int (if x < y then y else x), st))
  | 37, .int y :: .int x :: st => some (some (.int (if y < x then y else x), st))
  | 84, .int x :: st => some (some (.int (if 0 ≤ x then x else 0 - x), st))
  | 36, _ => some none
  | 37, _ => some none
  | 84, _ => some none
  | _, _ => none
/-- calls and returns -/
def eCall (k own : Nat) (i : Instr) (pc : Nat) (L : eL) (st : List Value) (H : eH) : Option eR := match i with
  | .invokestatic idx => match eHas eAc own idx with
    | true => match eCpy st H with
      | some (st, H) => some (.inl (pc + 3, L, st, H))
      | none => none
    | false => match eFind (eLs own) idx with
      | some q => match eMth q st with
        | some (some (v, st)) => match Nat.ble (eWords st) 7 with
          | true => some (.inl (pc + 3, L, v :: st, H))
          | false => none
        | some none => none
        | none => match ePop (eNa.getD q 0) [] st with
          | some (as, st) => match Nat.ble (eWords st) 8 with
            | true => some (.inr (.inr (q, as, (pc + 3, L, st, H))))
            | false => none
          | none => none
      | none => none
  | .invokevirtual idx => match eFind (eLv own) idx with
    | some q => match ePop (eNa.getD q 0) [] st with
      | some (as, .ref h :: st) => match H[h]?, Nat.ble (eWords st) 8 with
        | some (.inr (cj, _)), true => match Nat.beq cj (eOwn q) with
          | true => some (.inr (.inr (q, .ref h :: as, (pc + 3, L, st, H))))
          | false => none
        | _, _ => none
      | some (as, .retAddr 2 :: st) => match Nat.beq 11 (eOwn q), Nat.ble (eWords st) 8 with
        | true, true => some (.inr (.inr (q, .retAddr 2 :: as, (pc + 3, L, st, H))))
        | _, _ => none
      | _ => none
    | none => none
  | .invokespecial idx => match eHas eOi own idx with
    | true => match st with
      | .ref _ :: st => match Nat.ble (eWords st) 8 with
        | true => some (.inl (pc + 3, L, st, H))
        | false => none
      | _ => none
    | false => match eFind (eLi own) idx, eFind (eLm own) idx, st with
      | some q, _, .ref h :: st => match Nat.ble (eWords st) 8, eNa.getD q 1 with
        | true, 0 => some (.inr (.inr (q, [.ref h], (pc + 3, L, st, H))))
        | _, _ => none
      | none, some q, .ref h :: st => match Nat.ble (eWords st) 8, eNa.getD q 1 with
        | true, 0 => some (.inr (.inr (q, [.ref h], (pc + 3, L, st, H))))
        | _, _ => none
      | _, _, _ => none
  | .ireturn => match st, eRt.getD k none with
    | [.int x], some ty => match eFit ty (.int x) with
      | true => some (.inr (.inl (some (.int x), H)))
      | false => none
    | _, _ => none
  | .lreturn => match st, eRt.getD k none with
    | [.long x], some .long => some (.inr (.inl (some (.long x), H)))
    | _, _ => none
  | .areturn => match st, eRt.getD k none with
    | [.ref h], some (.array _) => some (.inr (.inl (some (.ref h), H)))
    | _, _ => none
  | .return_ => match st, eRt.getD k (some .int) with
    | [], none => some (.inr (.inl (none, H)))
    | _, _ => none
  | _ => none
/-- 0 stack and locals, 1 arithmetic, 2 cells, 3 calls -/
def eKd : Instr → Nat
  | .iadd | .isub | .imul | .iand | .ior | .ixor | .ishl | .ishr | .iushr | .idiv | .irem | .ineg | .i2l | .i2b | .i2c | .i2s | .l2i | .lsub | .land | .lor | .lshl | .lshr | .lushr | .lcmp => 1
  | .getfield _ | .putfield _ | .getstatic _ | .iaload | .baload | .caload | .laload | .iastore | .bastore | .castore | .lastore | .arraylength | .newarray _ | .new _ => 2
  | .invokestatic _ | .invokevirtual _ | .invokespecial _ | .ireturn | .lreturn | .areturn | .return_ => 3
  | _ => 0
def eIni (k : Nat) : Bool := match k with
  | 0 | 1 | 2 | 3 | 4 | 5 | 6 | 128 => true
  | _ => false
def eStep (o : eO) (k : Nat) (i : Instr) (pc : Nat) (L : eL) (st : List Value) (H : eH) : Option eR := match eKd i with
  | 0 => eLoc (eOwn k) i pc L st H
  | 1 => eAri i pc L st H
  | 2 => eHp o (eOwn k) (eIni k) i pc L st H
  | _ => eCall k (eOwn k) i pc L st H
def eAt (k pc : Nat) : Option (Instr × Nat) := eFind (eCd k) pc
/-- a method from a place on, within n steps -/
def eX (o : eO) : Nat → Nat → Nat → eL → List Value → eH → Option (Option Value × eH)
  | 0, _, _, _, _, _ => none
  | n + 1, k, pc, L, st, H => match eAt k pc with
    | none => none
    | some (i, _) => match eStep o k i pc L st H with
      | none => none
      | some (.inl (pc', L', st', H')) => eX o n k pc' L' st' H'
      | some (.inr (.inl r)) => some r
      | some (.inr (.inr (q, as, (pc', L', st', H')))) => match Nat.ble (eArgs as).length (eMx.getD q 0), eX o n q 0 (eEnt q as) [] H' with
        | true, some (v, H1) => eX o n k pc' L' (v.toList ++ st') H1
        | _, _ => none
/-- how long an instruction is, which locals it touches, where it may go: looked at once for every row of the tables -/
def eLen (i : Instr) (d : Nat) : Nat := match i with
  | .bipush _ | .ldc _ | .iload _ | .lload _ | .aload _ | .istore _ | .lstore _ | .newarray _ => 2
  | .sipush _ | .ldc_w _ | .ldc2_w _ | .iinc _ _ | .goto _ | .ifCond _ _ | .if_icmp _ _ | .getfield _ | .putfield _ | .getstatic _ | .new _ | .invokestatic _ | .invokevirtual _ | .invokespecial _ => 3
  | .tableswitch _ _ _ _ => d
  | .checkcast _ => d
  | _ => 1
def eIx : Instr → Nat
  | .istore j => j
  | .istore_n j => (j : Nat)
  | .lstore j => j + 1
  | .lstore_n j => (j : Nat) + 1
  | .astore_n j => (j : Nat)
  | .iinc j _ => j
  | _ => 0
def eOff : Instr → List Int
  | .goto off => [off]
  | .ifCond _ off => [off]
  | .if_icmp _ off => [off]
  | .tableswitch d _ _ offs => d :: offs.toList
  | _ => []
def eSwi : Instr → Bool
  | .tableswitch _ lo hi offs => decide (lo ≤ hi) && decide (offs.toList.length = (hi - lo + 1).toNat)
  | _ => true
/-- the room of a call among the caller's -/
def eFits (k q : Nat) : Bool := Nat.ble (eFr.getD q 0 + 1) (eFr.getD k 0) && Nat.ble (8 + (eMx.getD q 0 + 11) + eLo.getD q 0) (eLo.getD k 0)
def eEdge (k : Nat) (i : Instr) : Bool := match i with
  | .invokestatic idx => match eHas eAc (eOwn k) idx with
    | true => Nat.ble 1 (eFr.getD k 0) && Nat.ble 26 (eLo.getD k 0)
    | false => match eFind (eLs (eOwn k)) idx with
      | some q => eFits k q
      | none => true
  | .invokevirtual idx => match eFind (eLv (eOwn k)) idx with
    | some q => eFits k q
    | none => true
  | .invokespecial idx => match eHas eOi (eOwn k) idx with
    | true => Nat.ble 1 (eFr.getD k 0) && Nat.ble 20 (eLo.getD k 0)
    | false => match eFind (eLi (eOwn k)) idx, eFind (eLm (eOwn k)) idx with
      | some q, _ => eFits k q
      | none, some q => eFits k q
      | none, none => true
  | _ => true
def eChk (k : Nat) (q : Nat × Instr × Nat) : Bool := Nat.beq q.2.2 (eLen q.2.1 q.2.2) && Nat.blt (eIx q.2.1) (eMx.getD k 0) && ((eOff q.2.1).all fun off => decide (0 ≤ (q.1 : Int) + off)) && eSwi q.2.1 && eEdge k q.2.1
