/-! ===== one instruction, as a condition ===== -/
def xI (st : List Value) (f : Int32 → List Value → Prop) : Prop := match st with
  | .int x :: r => f x r
  | _ => False
def xII (st : List Value) (f : Int32 → Int32 → List Value → Prop) : Prop := match st with
  | .int y :: .int x :: r => f x y r
  | _ => False
def xJ (st : List Value) (f : Int64 → List Value → Prop) : Prop := match st with
  | .long x :: r => f x r
  | _ => False
def xJJ (st : List Value) (f : Int64 → Int64 → List Value → Prop) : Prop := match st with
  | .long y :: .long x :: r => f x y r
  | _ => False
def xJI (st : List Value) (f : Int64 → Int32 → List Value → Prop) : Prop := match st with
  | .int y :: .long x :: r => f x y r
  | _ => False
def xjmp (pc : Nat) (off : Int) (f : Nat → Prop) : Prop := match (pc : Int) + off with
  | .ofNat t => f t
  | _ => False
def xldI (ls : XL) (i : Nat) (f : Int32 → Prop) : Prop := match xget ls i with
  | some (.int x) => f x
  | _ => False
def xldJ (ls : XL) (i : Nat) (f : Int64 → Prop) : Prop := match xget ls i with
  | some (.long x) => f x
  | _ => False
def xldA (ls : XL) (i : Nat) (f : Value → Prop) : Prop := match xget ls i with
  | some (.ref q) => f (.ref q)
  | some (.retAddr q) => f (.retAddr q)
  | _ => False
def xlt (i n : Nat) (P : Prop) : Prop := match Nat.ble (i + 1) n with
  | true => P
  | false => False
def xcond (c : ClassFile.Cond) (x y : Int32) : Prop := match c with
  | .eq => x = y
  | .ne => ¬ x = y
  | .lt => x < y
  | .ge => y ≤ x
  | .gt => y < x
  | .le => x ≤ y
def xtab (pc : Nat) (x : Int32) (f : Nat → Prop) : Int → List Int → Prop
  | _, [] => True
  | v, o :: r => (x.toInt = v → xjmp pc o f) ∧ xtab pc x f (v + 1) r
def xlook (pc : Nat) (x : Int32) (f : Nat → Prop) (d : Int) : List (Int × Int) → Prop
  | [] => xjmp pc d f
  | (a, o) :: r => (x.toInt = a → xjmp pc o f) ∧ (¬ x.toInt = a → xlook pc x f d r)
def xsum : List Value → Nat
  | [] => 0
  | v :: r => (bif xlong v then 2 else 1) + xsum r
def xpop : Nat → List Value → List Value → Option (List Value × List Value)
  | 0, acc, st => some (acc, st)
  | _ + 1, _, [] => none
  | n + 1, acc, v :: r => xpop n (v :: acc) r
/-- the field's type takes the value -/
def xfit (ty : FieldType) (v : Value) (P : Prop) : Prop := match ty, v with
  | .int, .int _ => P
  | .boolean, .int x => (x = 0 ∨ x = 1) ∧ P
  | .array _, .ref _ => P
  | .array _, .retAddr _ => P
  | .object _, .ref _ => P
  | .object _, .retAddr _ => P
  | _, _ => False
def xret (rt : Option FieldType) (x : Int32) (P : Prop) : Prop := match rt with
  | some .int => P
  | some .boolean => narrow .boolean (.int x) = .int x ∧ P
  | some .byte => narrow .byte (.int x) = .int x ∧ P
  | some .char => narrow .char (.int x) = .int x ∧ P
  | _ => False
/-- the tables of a class: its name, instructions, fields (class, place, type, final), constants, statics, calls (virtual, how many, what it does) -/
abbrev XT : Type := Nat → Option (Instr × Nat)
abbrev XF : Type := Nat → Option (Nat × Nat × FieldType × Bool)
abbrev XK : Type := Nat → Option Value
abbrev XH : Type := Nat → Nat → Option Value
abbrev XG : Type := Nat → Option (Bool × Nat × XS)
def xstep (nL : Nat) (rt : Option FieldType) (L : Nat) (xs : Nat → Int32) (tb : XT) (fl : XF) (kc : XK) (gs : XH) (cl : XG) (Qp : Option Value → XW → Prop) (k : Nat → XL → List Value → XW → Prop) (pc : Nat) (ls : XL) (st : List Value) (w : XW) : Prop :=
  match tb pc with
  | none => False
  | some (i, len) => match i with
    | .aload_n n => xldA ls n.val (fun v => k (pc + 1) ls (v :: st) w)
    | .aload n => xldA ls n (fun v => k (pc + 2) ls (v :: st) w)
    | .iload_n n => xldI ls n.val (fun x => k (pc + 1) ls (.int x :: st) w)
    | .iload n => xldI ls n (fun x => k (pc + 2) ls (.int x :: st) w)
    | .lload_n n => xldJ ls n.val (fun x => k (pc + 1) ls (.long x :: st) w)
    | .lload n => xldJ ls n (fun x => k (pc + 2) ls (.long x :: st) w)
    | .istore_n n => xI st (fun x r => xlt n.val nL (k (pc + 1) (xput n.val (.int x) (xdel n.val ls)) r w))
    | .istore n => xI st (fun x r => xlt n nL (k (pc + 2) (xput n (.int x) (xdel n ls)) r w))
    | .lstore n => xJ st (fun x r => xlt (n + 1) nL (k (pc + 2) (xput n (.long x) (xdel n (xdel (n + 1) ls))) r w))
    | .lstore_n n => xJ st (fun x r => xlt (n.val + 1) nL (k (pc + 1) (xput n.val (.long x) (xdel n.val (xdel (n.val + 1) ls))) r w))
    | .astore_n n => (match st with
      | .ref q :: r => xlt n.val nL (k (pc + 1) (xput n.val (.ref q) (xdel n.val ls)) r w)
      | .retAddr q :: r => xlt n.val nL (k (pc + 1) (xput n.val (.retAddr q) (xdel n.val ls)) r w)
      | _ => False)
    | .astore n => (match st with
      | .ref q :: r => xlt n nL (k (pc + 2) (xput n (.ref q) (xdel n ls)) r w)
      | .retAddr q :: r => xlt n nL (k (pc + 2) (xput n (.retAddr q) (xdel n ls)) r w)
      | _ => False)
    | .iinc n v => xldI ls n (fun x => xlt n nL (k (pc + 3) (xput n (.int (x + Int32.ofInt v)) (xdel n ls)) st w))
    | .iconst n => k (pc + 1) ls (.int (Int32.ofInt n) :: st) w
    | .bipush n => k (pc + 2) ls (.int (Int8.ofInt n).toInt32 :: st) w
    | .sipush n => k (pc + 3) ls (.int (Int16.ofInt n).toInt32 :: st) w
    | .lconst n => k (pc + 1) ls (.long (Int64.ofNat n.val) :: st) w
    | .ldc n => (match kc n with
      | some (.int x) => k (pc + 2) ls (.int x :: st) w
      | some (.retAddr x) => k (pc + 2) ls (.retAddr x :: st) w
      | _ => False)
    | .ldc_w n => (match kc n with
      | some (.int x) => k (pc + 3) ls (.int x :: st) w
      | _ => False)
    | .ldc2_w n => (match kc n with
      | some (.long x) => k (pc + 3) ls (.long x :: st) w
      | _ => False)
    | .getfield n => (match st, fl n with
      | .ref q :: r, some (ci, f, _, _) => (match w[q]? with
        | some (.inr (ci', fs)) => (match Nat.beq ci' ci, fs[f]? with
          | true, some v => k (pc + 3) ls (v :: r) w
          | _, _ => False)
        | _ => False)
      | .retAddr q :: r, _ => (match gs (q + 1) n with
        | some v => k (pc + 3) ls (v :: r) w
        | none => False)
      | _, _ => False)
    | .putfield n => (match st, fl n with
      | v :: .ref q :: r, some (ci, f, ty, false) => (match w[q]? with
        | some (.inr (ci', fs)) => (match Nat.beq ci' ci, Nat.ble (f + 1) fs.length with
          | true, true => xfit ty v (k (pc + 3) ls r (w.set q (.inr (ci', fs.set f v))))
          | _, _ => False)
        | _ => False)
      | _, _ => False)
    | .getstatic n => (match gs 0 n with
      | some v => k (pc + 3) ls (v :: st) w
      | none => False)
    | .iaload => (match st with
      | .int i :: .ref q :: r => (match w[q]? with
        | some (.inl (0, n, .inl f)) => vp_in i n ∧ k (pc + 1) ls (.int (f i.toNatClampNeg) :: r) w
        | _ => False)
      | .int i :: .retAddr q :: r => (match Nat.ble (q + 1) 3 with
        | true => vp_in i (xcn L q) ∧ k (pc + 1) ls (.int (xcf xs q i.toNatClampNeg) :: r) w
        | false => False)
      | _ => False)
    | .baload => (match st with
      | .int i :: .ref q :: r => (match w[q]? with
        | some (.inl (1, n, .inl f)) => vp_in i n ∧ k (pc + 1) ls (.int (f i.toNatClampNeg) :: r) w
        | _ => False)
      | .int i :: .retAddr q :: r => (match Nat.ble 5 q, Nat.ble (q + 1) 7 with
        | true, true => vp_in i (xcn L q) ∧ k (pc + 1) ls (.int (xcf xs q i.toNatClampNeg) :: r) w
        | _, _ => False)
      | _ => False)
    | .iastore => (match st with
      | .int x :: .int i :: .ref q :: r => (match w[q]? with
        | some (.inl (0, n, .inl f)) => vp_in i n ∧ k (pc + 1) ls r (w.set q (.inl (0, n, .inl (upd f i.toNatClampNeg x))))
        | _ => False)
      | _ => False)
    | .bastore => (match st with
      | .int x :: .int i :: .ref q :: r => (match w[q]? with
        | some (.inl (1, n, .inl f)) => vp_in i n ∧ k (pc + 1) ls r (w.set q (.inl (1, n, .inl (upd f i.toNatClampNeg (vp_nar .byte x)))))
        | _ => False)
      | _ => False)
    | .aaload => (match st with
      | .int i :: .ref q :: r => (match w[q]? with
        | some (.inl (2, n, .inr (.inr (.inr (.inr g))))) => vp_in i n ∧ (∃ a, g i.toNatClampNeg = some a ∧ k (pc + 1) ls (.ref a :: r) w)
        | _ => False)
      | _ => False)
    | .arraylength => (match st with
      | .ref q :: r => (match w[q]? with
        | some (.inl (0, n, .inl _)) => k (pc + 1) ls (.int (Int32.ofNat n) :: r) w
        | _ => False)
      | .retAddr q :: r => (match Nat.ble (q + 1) 3, Nat.ble 5 q && Nat.ble (q + 1) 7 with
        | true, _ => k (pc + 1) ls (.int (Int32.ofNat (xcn L q)) :: r) w
        | false, true => k (pc + 1) ls (.int (Int32.ofNat (xcn L q)) :: r) w
        | _, _ => False)
      | _ => False)
    | .iadd => xII st (fun x y r => k (pc + 1) ls (.int (x + y) :: r) w)
    | .isub => xII st (fun x y r => k (pc + 1) ls (.int (x - y) :: r) w)
    | .imul => xII st (fun x y r => k (pc + 1) ls (.int (x * y) :: r) w)
    | .iand => xII st (fun x y r => k (pc + 1) ls (.int (x &&& y) :: r) w)
    | .ior => xII st (fun x y r => k (pc + 1) ls (.int (x ||| y) :: r) w)
    | .ixor => xII st (fun x y r => k (pc + 1) ls (.int (x ^^^ y) :: r) w)
    | .idiv => xII st (fun x y r => ¬ y = 0 ∧ k (pc + 1) ls (.int (x / y) :: r) w)
    | .irem => xII st (fun x y r => ¬ y = 0 ∧ k (pc + 1) ls (.int (x - x / y * y) :: r) w)
    | .ishl => xII st (fun x y r => k (pc + 1) ls (.int (x <<< (y &&& 31)) :: r) w)
    | .ishr => xII st (fun x y r => k (pc + 1) ls (.int (x >>> (y &&& 31)) :: r) w)
    | .iushr => xII st (fun x y r => k (pc + 1) ls (.int (x.toUInt32 >>> (y.toUInt32 &&& Int32.toUInt32 31)).toInt32 :: r) w)
    | .ineg => xI st (fun x r => k (pc + 1) ls (.int (-x) :: r) w)
    | .ladd => xJJ st (fun x y r => k (pc + 1) ls (.long (x + y) :: r) w)
    | .land => xJJ st (fun x y r => k (pc + 1) ls (.long (x &&& y) :: r) w)
    | .lor => xJJ st (fun x y r => k (pc + 1) ls (.long (x ||| y) :: r) w)
    | .lrem => xJJ st (fun x y r => ¬ y = 0 ∧ k (pc + 1) ls (.long (x - x / y * y) :: r) w)
    | .lcmp => xJJ st (fun x y r => k (pc + 1) ls (.int (lg_cmp x y) :: r) w)
    | .lshl => xJI st (fun x y r => k (pc + 1) ls (.long (x <<< (y.toInt64 &&& 63)) :: r) w)
    | .lshr => xJI st (fun x y r => k (pc + 1) ls (.long (x >>> (y.toInt64 &&& 63)) :: r) w)
    | .lushr => xJI st (fun x y r => k (pc + 1) ls (.long (x.toUInt64 >>> (y.toInt64.toUInt64 &&& Int64.toUInt64 63)).toInt64 :: r) w)
    | .i2l => xI st (fun x r => k (pc + 1) ls (.long x.toInt64 :: r) w)
    | .l2i => xJ st (fun x r => k (pc + 1) ls (.int x.toInt32 :: r) w)
    | .i2b => xI st (fun x r => k (pc + 1) ls (.int x.toInt8.toInt32 :: r) w)
    | .i2s => xI st (fun x r => k (pc + 1) ls (.int x.toInt16.toInt32 :: r) w)
    | .i2c => xI st (fun x r => k (pc + 1) ls (.int (x.toUInt32 % 65536).toInt32 :: r) w)
    | .pop => (match st with
      | v :: r => (match xlong v with
        | false => k (pc + 1) ls r w
        | true => False)
      | _ => False)
    | .dup => (match st with
      | v :: r => (match xlong v with
        | false => k (pc + 1) ls (v :: v :: r) w
        | true => False)
      | _ => False)
    | .dup2 => (match st with
      | v :: u :: r => (match xlong v, xlong u with
        | false, false => k (pc + 1) ls (v :: u :: v :: u :: r) w
        | _, _ => False)
      | _ => False)
    | .goto o => xjmp pc o (fun t => k t ls st w)
    | .ifCond c o => xI st (fun x r => xjmp pc o (fun t => (xcond c x 0 → k t ls r w) ∧ (¬ xcond c x 0 → k (pc + 3) ls r w)))
    | .if_icmp c o => xII st (fun x y r => xjmp pc o (fun t => (xcond c x y → k t ls r w) ∧ (¬ xcond c x y → k (pc + 3) ls r w)))
    | .tableswitch d lo hi offs => xI st (fun x r => (match Nat.beq offs.toList.length (hi - lo + 1).toNat with
      | true => xtab pc x (fun t => k t ls r w) lo offs.toList ∧ ((x.toInt < lo ∨ hi < x.toInt) → xjmp pc d (fun t => k t ls r w))
      | false => False))
    | .lookupswitch d ps => xI st (fun x r => (match (ps.toList.zip (ps.toList.drop 1)).all (fun (a, next) => a.1 < next.1) with
      | true => xlook pc x (fun t => k t ls r w) d ps.toList
      | false => False))
    | .ireturn => (match st with
      | [.int x] => xret rt x (Qp (some (.int x)) w)
      | _ => False)
    | .lreturn => (match st, rt with
      | [.long x], some .long => Qp (some (.long x)) w
      | _, _ => False)
    | .return_ => (match st, rt with
      | [], none => Qp none w
      | _, _ => False)
    | .invokevirtual n => (match cl n with
      | some (true, c, S) => (match xpop c [] st with
        | some (as, rest) => (match Nat.ble (xsum rest) 8 with
          | true => S as w (fun r w' => k (pc + 3) ls (r.toList ++ rest) w')
          | false => False)
        | none => False)
      | _ => False)
    | .invokestatic n => (match cl n with
      | some (false, c, S) => (match xpop c [] st with
        | some (as, rest) => (match Nat.ble (xsum rest) 8 with
          | true => S as w (fun r w' => k (pc + 3) ls (r.toList ++ rest) w')
          | false => False)
        | none => False)
      | _ => False)
    | _ => False
/-- instructions one behind another, up to a cut -/
def xw (nL : Nat) (rt : Option FieldType) (L : Nat) (xs : Nat → Int32) (tb : XT) (fl : XF) (kc : XK) (gs : XH) (cl : XG) (Qp : Option Value → XW → Prop) (cut : Nat → Option Nat) (K : Nat → XL → List Value → XW → Prop) : Nat → Nat → XL → List Value → XW → Prop
  | 0 => fun _ _ _ _ => False
  | n + 1 => xstep nL rt L xs tb fl kc gs cl Qp (fun pc ls st w => match cut pc with
    | some m => K pc (xtrim m ls) st w
    | none => xw nL rt L xs tb fl kc gs cl Qp cut K n pc ls st w)
