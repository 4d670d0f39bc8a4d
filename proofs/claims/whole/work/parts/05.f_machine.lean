/-! the abstract machine: a cell is a number, a reference is the number of a cell; all that is above 999999 lies outside (the script, a static row, String constants) -/
abbrev am_H : Type := List (Nat × Nat) × (Nat → Nat → Option Nat) × (Nat → Nat → Int32) × (Nat → Nat → Int64)
abbrev am_R1 : Type := Value × am_H
abbrev am_C : Type := Nat × List Value × List Value × am_H
abbrev am_P : Type := Nat × List Value × List Value
def am_KA : Nat → Int32 := fun j => if j = 3 then 2 else if j = 5 then 4 else 0
/-- lengths of instructions -/
def am_len : Instr → Nat
  | .bipush _ => 2
  | .ldc _ => 2
  | .iload _ => 2
  | .lload _ => 2
  | .aload _ => 2
  | .istore _ => 2
  | .lstore _ => 2
  | .astore _ => 2
  | .newarray _ => 2
  | .sipush _ => 3
  | .ldc_w _ => 3
  | .ldc2_w _ => 3
  | .iinc _ _ => 3
  | .ifCond _ _ => 3
  | .if_icmp _ _ => 3
  | .goto _ => 3
  | .getfield _ => 3
  | .putfield _ => 3
  | .getstatic _ => 3
  | .invokevirtual _ => 3
  | .invokespecial _ => 3
  | .invokestatic _ => 3
  | .new _ => 3
  | .anewarray _ => 3
  | .multianewarray _ _ => 4
  | _ => 1
def am_lok (i : Instr) (len : Nat) : Bool := match i with
  | .tableswitch _ _ _ _ => true
  | .lookupswitch _ _ => true
  | i => len == am_len i
def am_tg (pc : Nat) (off : Int) : Nat := ((pc : Int) + off).toNat
/-- the locals: .null is what isn't known -/
def am_cl0 (L : List Value) (i : Nat) : List Value := match i with
  | 0 => L
  | j + 1 => match L[j]? with
    | some (.long _) => L.set j .null
    | _ => L
def am_st (L : List Value) (i : Nat) (v : Value) : Option (List Value) := if i < L.length then some ((am_cl0 L i).set i v) else none
def am_st2 (L : List Value) (i : Nat) (v : Value) : Option (List Value) := if i + 1 < L.length then some (((am_cl0 L i).set i v).set (i + 1) .null) else none
def am_sl : List Value → List Value
  | [] => []
  | v :: l => if v.category = 2 then v :: .null :: am_sl l else v :: am_sl l
def am_L0 (M : am_Me) (a : List Value) : List Value := am_sl a ++ List.replicate (M.2.2.2.1 - (am_sl a).length) .null
def am_ii (f : Int32 → Int32 → Int32) (pc : Nat) (L S : List Value) : Option am_P := match S with
  | .int y :: .int x :: S => some (pc + 1, L, .int (f x y) :: S)
  | _ => none
def am_i1 (f : Int32 → Value) (pc : Nat) (L S : List Value) : Option am_P := match S with
  | .int x :: S => some (pc + 1, L, f x :: S)
  | _ => none
def am_ll (f : Int64 → Int64 → Value) (pc : Nat) (L S : List Value) : Option am_P := match S with
  | .long y :: .long x :: S => some (pc + 1, L, f x y :: S)
  | _ => none
def am_li (f : Int64 → Int32 → Int64) (pc : Nat) (L S : List Value) : Option am_P := match S with
  | .int y :: .long x :: S => some (pc + 1, L, .long (f x y) :: S)
  | _ => none
def am_ild (n k pc : Nat) (L S : List Value) : Option am_P := match L[k]? with
  | some (.int x) => some (pc + n, L, .int x :: S)
  | _ => none
def am_lld (n k pc : Nat) (L S : List Value) : Option am_P := match L[k]? with
  | some (.long x) => some (pc + n, L, .long x :: S)
  | _ => none
def am_ald (n k pc : Nat) (L S : List Value) : Option am_P := match L[k]? with
  | some (.ref x) => some (pc + n, L, .ref x :: S)
  | _ => none
def am_ist (n k pc : Nat) (L S : List Value) : Option am_P := match S with
  | .int x :: S => (am_st L k (.int x)).map (fun L1 => (pc + n, L1, S))
  | _ => none
def am_ast (n k pc : Nat) (L S : List Value) : Option am_P := match S with
  | .ref x :: S => (am_st L k (.ref x)).map (fun L1 => (pc + n, L1, S))
  | _ => none
def am_lst (n k pc : Nat) (L S : List Value) : Option am_P := match S with
  | .long x :: S => (am_st2 L k (.long x)).map (fun L1 => (pc + n, L1, S))
  | _ => none
def am_br (c : Bool) (pc : Nat) (off : Int) (L S : List Value) : Option am_P := if 0 ≤ (pc : Int) + off then some (if c = true then am_tg pc off else pc + 3, L, S) else none
def am_cmp (c : Jvm.ClassFile.Cond) (x y : Int32) : Bool := match c with
  | .eq => decide (x = y)
  | .ne => decide (¬ x = y)
  | .lt => decide (x < y)
  | .ge => decide (y ≤ x)
  | .gt => decide (y < x)
  | .le => decide (x ≤ y)
def am_tsw (pc : Nat) (dflt lo hi : Int) (offs : Array Int) (x : Int32) : Option Nat :=
  if x.toInt < lo ∨ hi < x.toInt then (if 0 ≤ (pc : Int) + dflt then some (am_tg pc dflt) else none)
  else match offs[(x.toInt - lo).toNat]? with
    | some off => if 0 ≤ (pc : Int) + off then some (am_tg pc off) else none
    | none => none
def am_lsw (pc : Nat) (dflt : Int) (ps : Array (Int × Int)) (x : Int32) : Option Nat :=
  if (ps.toList.zip (ps.toList.drop 1)).all (fun (a, next) => a.1 < next.1) = true ∧ 0 ≤ (pc : Int) + Op.lookupswitch.offset ps.toList dflt x.toInt then some (am_tg pc (Op.lookupswitch.offset ps.toList dflt x.toInt)) else none
/-- instructions that touch locals and stack alone -/
def am_pu (o : Nat) (i : Instr) (pc : Nat) (L S : List Value) : Option am_P := match i with
  | .iconst n => some (pc + 1, L, .int (Int32.ofInt n) :: S)
  | .bipush n => some (pc + 2, L, .int (Int8.ofInt n).toInt32 :: S)
  | .sipush n => some (pc + 3, L, .int (Int16.ofInt n).toInt32 :: S)
  | .lconst n => some (pc + 1, L, .long (Int64.ofNat (n : Nat)) :: S)
  | .ldc x => match am_ci o x with
    | some v => some (pc + 2, L, .int v :: S)
    | none => (am_cs o x).map (fun k => (pc + 2, L, .ref (1000010 + k) :: S))
  | .ldc_w x => (am_ci o x).map (fun v => (pc + 3, L, .int v :: S))
  | .ldc2_w x => (am_cl o x).map (fun v => (pc + 3, L, .long v :: S))
  | .iload_n k => am_ild 1 k pc L S
  | .iload k => am_ild 2 k pc L S
  | .lload_n k => am_lld 1 k pc L S
  | .lload k => am_lld 2 k pc L S
  | .aload_n k => am_ald 1 k pc L S
  | .aload k => am_ald 2 k pc L S
  | .istore_n k => am_ist 1 k pc L S
  | .istore k => am_ist 2 k pc L S
  | .lstore_n k => am_lst 1 k pc L S
  | .lstore k => am_lst 2 k pc L S
  | .astore_n k => am_ast 1 k pc L S
  | .astore k => am_ast 2 k pc L S
  | .iinc k n => match L[k]? with
    | some (.int x) => (am_st L k (.int (x + Int32.ofInt n))).map (fun L1 => (pc + 3, L1, S))
    | _ => none
  | .iadd => am_ii (fun x y => x + y) pc L S
  | .isub => am_ii (fun x y => x - y) pc L S
  | .imul => am_ii (fun x y => x * y) pc L S
  | .iand => am_ii (fun x y => x &&& y) pc L S
  | .ior => am_ii (fun x y => x ||| y) pc L S
  | .ixor => am_ii (fun x y => x ^^^ y) pc L S
  | .ishl => am_ii (fun x y => x <<< (y &&& 31)) pc L S
  | .ishr => am_ii (fun x y => x >>> (y &&& 31)) pc L S
  | .iushr => am_ii (fun x y => (x.toUInt32 >>> (y.toUInt32 &&& Int32.toUInt32 31)).toInt32) pc L S
  | .idiv => match S with
    | .int y :: .int x :: S => if y = 0 then none else some (pc + 1, L, .int (x / y) :: S)
    | _ => none
  | .irem => match S with
    | .int y :: .int x :: S => if y = 0 then none else some (pc + 1, L, .int (x - x / y * y) :: S)
    | _ => none
  | .ineg => am_i1 (fun x => .int (-x)) pc L S
  | .i2l => am_i1 (fun x => .long x.toInt64) pc L S
  | .i2b => am_i1 (fun x => .int x.toInt8.toInt32) pc L S
  | .i2s => am_i1 (fun x => .int x.toInt16.toInt32) pc L S
  | .i2c => am_i1 (fun x => .int (x.toUInt32 % 65536).toInt32) pc L S
  | .l2i => match S with
    | .long x :: S => some (pc + 1, L, .int x.toInt32 :: S)
    | _ => none
  | .ladd => am_ll (fun x y => .long (x + y)) pc L S
  | .lmul => am_ll (fun x y => .long (x * y)) pc L S
  | .land => am_ll (fun x y => .long (x &&& y)) pc L S
  | .lor => am_ll (fun x y => .long (x ||| y)) pc L S
  | .lcmp => am_ll (fun x y => .int (lg_cmp x y)) pc L S
  | .lshl => am_li (fun x y => x <<< (y.toInt64 &&& 63)) pc L S
  | .lshr => am_li (fun x y => x >>> (y.toInt64 &&& 63)) pc L S
  | .lushr => am_li (fun x y => (x.toUInt64 >>> (y.toInt64.toUInt64 &&& Int64.toUInt64 63)).toInt64) pc L S
  | .dup => match S with
    | v :: S => if v.category = 1 then some (pc + 1, L, v :: v :: S) else none
    | _ => none
  | .dup2 => match S with
    | v :: w :: S => if v.category = 1 ∧ w.category = 1 then some (pc + 1, L, v :: w :: v :: w :: S) else none
    | _ => none
  | .pop => match S with
    | v :: S => if v.category = 1 then some (pc + 1, L, S) else none
    | _ => none
  | .ifCond c off => match S with
    | .int x :: S => am_br (am_cmp c x 0) pc off L S
    | _ => none
  | .if_icmp c off => match S with
    | .int y :: .int x :: S => am_br (am_cmp c x y) pc off L S
    | _ => none
  | .goto off => if 0 ≤ (pc : Int) + off then some (am_tg pc off, L, S) else none
  | .tableswitch dflt lo hi offs => match S with
    | .int x :: S => (am_tsw pc dflt lo hi offs x).map (fun t => (t, L, S))
    | _ => none
  | .lookupswitch dflt ps => match S with
    | .int x :: S => (am_lsw pc dflt ps x).map (fun t => (t, L, S))
    | _ => none
  | _ => none
/-- an int row: its length and contents -/
def am_irow (sc : Option (Nat × (Nat → Int32))) (h : am_H) (k : Nat) : Option (Nat × (Nat → Int32)) :=
  if k = 1000000 then sc else if k = 1000001 then some (6, am_KA) else match h.1[k]? with
    | some (t, n) => if t = 20 then some (n, h.2.2.1 k) else none
    | none => none
def am_alen (sc : Option (Nat × (Nat → Int32))) (h : am_H) (k : Nat) : Option Nat :=
  if k = 1000000 then sc.map Prod.fst else if k = 1000001 then some 6 else if 1000040 ≤ k then (am_sB[k - 1000040]?).map List.length else match h.1[k]? with
    | some (t, n) => if 20 ≤ t ∧ t < 25 then some n else none
    | none => none
def am_new (h : am_H) (t n : Nat) : am_H := (h.1 ++ [(t, n)], va_up h.2.1 h.1.length (fun _ => none), va_up h.2.2.1 h.1.length (fun _ => 0), va_up h.2.2.2 h.1.length (fun _ => 0))
/-- the outer row of a new two-dimensional one, then its inner rows -/
def am_mna (h : am_H) (t n t1 n1 : Nat) : am_H := (h.1 ++ (t, n) :: List.replicate n (t1, n1), fun k j => if k = h.1.length then (if j < n then some (h.1.length + 1 + j) else none) else if h.1.length < k then none else h.2.1 k j, fun k j => if h.1.length ≤ k then 0 else h.2.2.1 k j, fun k j => if h.1.length ≤ k then 0 else h.2.2.2 k j)
def am_isV (t : Nat) : Bool := t == 0 || t == 1 || t == 2 || t == 4 || t == 5 || t == 10
def am_gf (o x k : Nat) (h : am_H) : Option Value := match am_fld o x with
  | some (c, j) => if c = 13 then (if 1000010 ≤ k ∧ k < 1000028 then (if j = 0 then some (.ref (k + 30)) else some (.int 0)) else none)
    else match h.1[k]? with
      | some (t, _) => if t = c ∧ c < 13 then (if am_fk c j = 2 then (h.2.1 k j).map .ref else if am_fk c j < 2 then some (.int (h.2.2.1 k j)) else none) else none
      | none => none
  | none => none
def am_pf (M : am_Me) (x k : Nat) (v : Value) (h : am_H) : Option am_H := match am_fld M.1 x with
  | some (c, j) => match h.1[k]? with
    | some (t, _) => if t = c ∧ c < 13 then (match v with
      | .int y => if am_fk c j = 0 ∨ (am_fk c j = 1 ∧ (y = 0 ∨ y = 1)) then some (h.1, h.2.1, va_up h.2.2.1 k (upd (h.2.2.1 k) j y), h.2.2.2) else none
      | .ref q => if am_fk c j = 2 ∧ M.1 = c ∧ M.2.1.name = "<init>" then some (h.1, va_up h.2.1 k (va_up (h.2.1 k) j (some q)), h.2.2.1, h.2.2.2) else none
      | _ => none) else none
    | none => none
  | none => none
/-- Math.max, min, abs -/
def am_ma (kd pc : Nat) (L S : List Value) (h : am_H) : Option am_C := if kd = 2 then (match S with
    | .int x :: S => if (S.map Value.category).sum ≤ 8 then some (pc + 3, L, .int (if 0 ≤ x then x else 0 - x) :: S, h) else none
    | _ => none) else match S with
    | .int y :: .int x :: S => if (S.map Value.category).sum ≤ 8 then (if kd = 0 then some (pc + 3, L, .int (if x < y then y else x) :: S, h) else some (pc + 3, L, .int (if y < x then y else x) :: S, h)) else none
    | _ => none
/-- a String constant's bytes -/
def am_byt (k : Nat) : Option (List Int32) := if 1000040 ≤ k then am_sB[k - 1000040]? else none
/-- instructions of the heap -/
def am_he (sc : Option (Nat × (Nat → Int32))) (M : am_Me) (i : Instr) (pc : Nat) (L S : List Value) (h : am_H) : Option am_C := match i with
  | .getfield x => match S with
    | .ref k :: S => (am_gf M.1 x k h).map (fun v => (pc + 3, L, v :: S, h))
    | _ => none
  | .putfield x => match S with
    | v :: .ref k :: S => (am_pf M x k v h).map (fun h1 => (pc + 3, L, S, h1))
    | _ => none
  | .getstatic x => (am_gs M.1 x).map (fun v => (pc + 3, L, v :: S, h))
  | .arraylength => match S with
    | .ref k :: S => (am_alen sc h k).map (fun n => (pc + 1, L, .int (Int32.ofNat n) :: S, h))
    | _ => none
  | .iaload => match S with
    | .int i :: .ref k :: S => match am_irow sc h k with
      | some (n, f) => if i < 0 ∨ n ≤ i.toNatClampNeg then none else some (pc + 1, L, .int (f i.toNatClampNeg) :: S, h)
      | none => none
    | _ => none
  | .iastore => match S with
    | .int v :: .int i :: .ref k :: S => match h.1[k]? with
      | some (t, n) => if t = 20 ∧ ¬ (i < 0 ∨ n ≤ i.toNatClampNeg) then some (pc + 1, L, S, (h.1, h.2.1, va_up h.2.2.1 k (upd (h.2.2.1 k) i.toNatClampNeg v), h.2.2.2)) else none
      | none => none
    | _ => none
  | .laload => match S with
    | .int i :: .ref k :: S => match h.1[k]? with
      | some (t, n) => if t = 21 ∧ ¬ (i < 0 ∨ n ≤ i.toNatClampNeg) then some (pc + 1, L, .long (h.2.2.2 k i.toNatClampNeg) :: S, h) else none
      | none => none
    | _ => none
  | .lastore => match S with
    | .long v :: .int i :: .ref k :: S => match h.1[k]? with
      | some (t, n) => if t = 21 ∧ ¬ (i < 0 ∨ n ≤ i.toNatClampNeg) then some (pc + 1, L, S, (h.1, h.2.1, h.2.2.1, va_up h.2.2.2 k (vp_updL (h.2.2.2 k) i.toNatClampNeg v))) else none
      | none => none
    | _ => none
  | .aaload => match S with
    | .int i :: .ref k :: S => match h.1[k]? with
      | some (t, n) => if 22 ≤ t ∧ t < 25 ∧ ¬ (i < 0 ∨ n ≤ i.toNatClampNeg) then (h.2.1 k i.toNatClampNeg).map (fun q => (pc + 1, L, .ref q :: S, h)) else none
      | none => none
    | _ => none
  | .aastore => match S with
    | .ref q :: .int i :: .ref k :: S => match h.1[k]?, h.1[q]? with
      | some (t, n), some (tq, _) => if t = 22 ∧ am_isV tq = true ∧ ¬ (i < 0 ∨ n ≤ i.toNatClampNeg) then some (pc + 1, L, S, (h.1, va_up h.2.1 k (va_up (h.2.1 k) i.toNatClampNeg (some q)), h.2.2.1, h.2.2.2)) else none
      | _, _ => none
    | _ => none
  | .baload => match S with
    | .int i :: .ref k :: S => match am_byt k with
      | some bs => if i < 0 ∨ bs.length ≤ i.toNatClampNeg then none else some (pc + 1, L, .int (bs.getD i.toNatClampNeg 0) :: S, h)
      | none => none
    | _ => none
  | .new x => (am_nw M.1 x).map (fun c => (pc + 3, L, .ref h.1.length :: S, am_new h c (am_nf c)))
  | .newarray t => match S with
    | .int n :: S => if n < 0 ∨ 1000 < n.toNatClampNeg then none else (match t with
      | .int => some (pc + 2, L, .ref h.1.length :: S, am_new h 20 n.toNatClampNeg)
      | _ => none)
    | _ => none
  | .anewarray x => match S with
    | .int n :: S => if n < 0 ∨ 1000 < n.toNatClampNeg then none else (match am_na M.1 x with
      | some t => if t = 22 then some (pc + 3, L, .ref h.1.length :: S, am_new h 22 n.toNatClampNeg) else none
      | none => none)
    | _ => none
  | .multianewarray x d => match S with
    | .int k :: .int n :: S => if d = 2 ∧ ¬ (n < 0 ∨ 1000 < n.toNatClampNeg) ∧ ¬ (k < 0 ∨ 1000 < k.toNatClampNeg) then (match am_na M.1 x with
      | some t => if t = 23 ∨ t = 24 then some (pc + 4, L, .ref h.1.length :: S, am_mna h t n.toNatClampNeg (t - 3) k.toNatClampNeg) else none
      | none => none) else none
    | _ => none
  | .invokespecial x => match S with
    | .ref _ :: S => if am_oi M.1 x = true ∧ (S.map Value.category).sum ≤ 8 then some (pc + 3, L, S, h) else none
    | _ => none
  | .invokestatic x => match am_mk M.1 x with
   | some kd => am_ma kd pc L S h
   | none => match S with
    | .int n :: .int dp :: .ref b :: .int sp :: .ref a :: S => if am_ac M.1 x = true ∧ (S.map Value.category).sum ≤ 8 then (match h.1[a]?, h.1[b]? with
      | some (t0, n0), some (t1, n1) => if t0 = 20 ∧ t1 = 20 ∧ ¬ sp < 0 ∧ ¬ dp < 0 ∧ ¬ n < 0 ∧ sp.toNatClampNeg + n.toNatClampNeg ≤ n0 ∧ dp.toNatClampNeg + n.toNatClampNeg ≤ n1 then some (pc + 3, L, S, (h.1, h.2.1, va_up h.2.2.1 b (va_cpy (h.2.2.1 a) (h.2.2.1 b) sp.toNatClampNeg dp.toNatClampNeg n.toNatClampNeg), h.2.2.2)) else none
      | _, _ => none) else none
    | _ => none
  | _ => none
/-- the class of what a reference is -/
def am_cls (h : am_H) (k : Nat) : Option Nat := if 1000010 ≤ k ∧ k < 1000028 then some 13 else match h.1[k]? with
  | some (t, _) => if t < 13 then some t else none
  | none => none
def am_ret (M : am_Me) (v : Value) (S : List Value) : List Value := match M.2.2.2.2 with
  | none => S
  | some _ => v :: S
/-- calls -/
def am_ca (call : am_Me → List Value → am_H → Option am_R1) (M : am_Me) (i : Instr) (pc : Nat) (L S : List Value) (h : am_H) : Option am_C := match i with
  | .invokevirtual x => match am_nv M.1 x with
    | some n => match S.drop n with
      | .ref k :: S1 => match am_cls h k with
        | some c => match am_cv M.1 x c with
          | some N => if (S.take n).length = n ∧ (S1.map Value.category).sum ≤ 8 ∧ (am_sl (.ref k :: (S.take n).reverse)).length ≤ N.2.2.2.1 then (call N (.ref k :: (S.take n).reverse) h).map (fun r => (pc + 3, L, am_ret N r.1 S1, r.2)) else none
          | none => none
        | none => none
      | _ => none
    | none => none
  | .invokestatic x => match am_ct M.1 x with
    | some (n, N) => if (S.take n).length = n ∧ ((S.drop n).map Value.category).sum ≤ 8 ∧ (am_sl (S.take n).reverse).length ≤ N.2.2.2.1 then (call N (S.take n).reverse h).map (fun r => (pc + 3, L, am_ret N r.1 (S.drop n), r.2)) else none
    | none => none
  | .invokespecial x => match am_cp M.1 x with
    | some (n, N) => match S.drop n with
      | .ref k :: S1 => match h.1[k]? with
        | some (t, _) => if t < 13 ∧ (S.take n).length = n ∧ (S1.map Value.category).sum ≤ 8 ∧ (am_sl (.ref k :: (S.take n).reverse)).length ≤ N.2.2.2.1 then (call N (.ref k :: (S.take n).reverse) h).map (fun r => (pc + 3, L, am_ret N r.1 S1, r.2)) else none
        | none => none
      | _ => none
    | none => none
  | _ => none
/-- returns -/
def am_re (M : am_Me) (i : Instr) (S : List Value) (h : am_H) : Option am_R1 := match i with
  | .ireturn => match S, M.2.2.2.2 with
    | [.int v], some t => if narrow t (.int v) = .int v ∧ (t = .int ∨ t = .boolean ∨ t = .byte ∨ t = .char ∨ t = .short) then some (.int v, h) else none
    | _, _ => none
  | .lreturn => match S, M.2.2.2.2 with
    | [.long v], some .long => some (.long v, h)
    | _, _ => none
  | .areturn => match S, M.2.2.2.2 with
    | [.ref k], some (.object _) => some (.ref k, h)
    | _, _ => none
  | .return_ => match S, M.2.2.2.2 with
    | [], none => some (.null, h)
    | _, _ => none
  | _ => none
def am_step (sc : Option (Nat × (Nat → Int32))) (call : am_Me → List Value → am_H → Option am_R1) (M : am_Me) (c : am_C) : Option (am_R1 ⊕ am_C) := match decode M.2.2.1 c.1 with
  | .ok (i, len) => if am_lok i len = true then (match am_pu M.1 i c.1 c.2.1 c.2.2.1 with
    | some q => some (.inr (q.1, q.2.1, q.2.2, c.2.2.2))
    | none => match am_he sc M i c.1 c.2.1 c.2.2.1 c.2.2.2 with
      | some q => some (.inr q)
      | none => match am_ca call M i c.1 c.2.1 c.2.2.1 c.2.2.2 with
        | some q => some (.inr q)
        | none => (am_re M i c.2.2.1 c.2.2.2).map .inl) else none
  | .error _ => none
def am_dn (d : Nat) (f : Nat → am_Me → List Value → am_H → Option am_R1) : am_Me → List Value → am_H → Option am_R1 := match d with
  | 0 => fun _ _ _ => none
  | e + 1 => f e
def am_run (sc : Option (Nat × (Nat → Int32))) : Nat → Nat → am_Me → am_C → Option am_R1
  | 0, _, _, _ => none
  | n + 1, d, M, c => match am_step sc (am_dn d (fun e N a h => am_run sc n e N (0, am_L0 N a, [], h))) M c with
    | none => none
    | some (.inl r) => some r
    | some (.inr c1) => am_run sc n d M c1
def am_Q (sc : Option (Nat × (Nat → Int32))) (d : Nat) (M : am_Me) (c : am_C) (r : am_R1) : Prop := ∃ n, am_run sc n d M c = some r
