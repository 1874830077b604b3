/-! a small machine over numbered cells, whose only changing contents are ints: M a i is the int at place i of cell a -/
abbrev xM : Type := Nat → Nat → Int32
abbrev xSh : Type := List (Nat × Nat × List (Option Nat))
abbrev xR : Type := (Nat × List Value × List Value × xM) ⊕ ((Nat × List Value × List Value) ⊕ Option Value)
def xup (M : xM) (a i : Nat) (x : Int32) : xM := fun b => if b = a then upd (M a) i x else M b
def xset (M : xM) (a : Nat) (f : Nat → Int32) : xM := fun b => if b = a then f else M b
def xclr (L : List Value) : Nat → List Value
  | 0 => L
  | j + 1 => match L[j]? with
    | some v => bif Nat.beq v.category 2 then L.set j .null else L
    | none => L
def xst1 (L : List Value) (i : Nat) (v : Value) : List Value := (xclr L i).set i v
def xst2 (L : List Value) (i : Nat) (v : Value) : List Value := ((xclr L i).set i v).set (i + 1) .null
def xtg (pc : Nat) (off : Int) : Nat := ((pc : Int) + off).toNat
def xgo (pc : Nat) (L st : List Value) (M : xM) : Option xR := some (.inl (pc, L, st, M))
def xbr (c : Bool) (a b : Nat) (L st : List Value) (M : xM) : Option xR := bif c then xgo a L st M else xgo b L st M
def xld (L st : List Value) (pc i : Nat) (M : xM) : Option xR := match L[i]? with
  | some (.int x) => xgo pc L (.int x :: st) M
  | _ => none
def xldl (L st : List Value) (pc i : Nat) (M : xM) : Option xR := match L[i]? with
  | some (.long x) => xgo pc L (.long x :: st) M
  | _ => none
def xlda (L st : List Value) (pc i : Nat) (M : xM) : Option xR := match L[i]? with
  | some (.ref x) => xgo pc L (.ref x :: st) M
  | _ => none
def xsti (L st : List Value) (pc i : Nat) (M : xM) : Option xR := match st with
  | .int x :: r => bif Nat.blt i L.length then xgo pc (xst1 L i (.int x)) r M else none
  | _ => none
def xsta (L st : List Value) (pc i : Nat) (M : xM) : Option xR := match st with
  | .ref x :: r => bif Nat.blt i L.length then xgo pc (xst1 L i (.ref x)) r M else none
  | _ => none
def xstl (L st : List Value) (pc i : Nat) (M : xM) : Option xR := match st with
  | .long x :: r => bif Nat.blt (i + 1) L.length then xgo pc (xst2 L i (.long x)) r M else none
  | _ => none
def xb2 (f : Int32 → Int32 → Int32) (L st : List Value) (pc : Nat) (M : xM) : Option xR := match st with
  | .int y :: .int x :: r => xgo pc L (.int (f x y) :: r) M
  | _ => none
def xl2 (f : Int64 → Int64 → Int64) (L st : List Value) (pc : Nat) (M : xM) : Option xR := match st with
  | .long y :: .long x :: r => xgo pc L (.long (f x y) :: r) M
  | _ => none
def xd2 (f : Int32 → Int32 → Int32) (L st : List Value) (pc : Nat) (M : xM) : Option xR := match st with
  | .int y :: .int x :: r => if y = 0 then none else xgo pc L (.int (f x y) :: r) M
  | _ => none
def xdl2 (f : Int64 → Int64 → Int64) (L st : List Value) (pc : Nat) (M : xM) : Option xR := match st with
  | .long y :: .long x :: r => if y = 0 then none else xgo pc L (.long (f x y) :: r) M
  | _ => none
def xcond (c : Jvm.ClassFile.Cond) (x y : Int32) : Bool := match c with
  | .eq => decide (x = y)
  | .ne => decide (x ≠ y)
  | .lt => decide (x < y)
  | .ge => decide (y ≤ x)
  | .gt => decide (y < x)
  | .le => decide (x ≤ y)
def xif1 (c : Jvm.ClassFile.Cond) (L st : List Value) (pc t : Nat) (M : xM) : Option xR := match st with
  | .int x :: r => xbr (xcond c x 0) t (pc + 3) L r M
  | _ => none
def xif2 (c : Jvm.ClassFile.Cond) (L st : List Value) (pc t : Nat) (M : xM) : Option xR := match st with
  | .int y :: .int x :: r => xbr (xcond c x y) t (pc + 3) L r M
  | _ => none
def xfld (S : xSh) (M : xM) (a ci k : Nat) : Option Value := match S[a]? with
  | some (0, cj, fs) => bif Nat.beq ci cj then (match fs[k]? with
    | some none => some (.int (M a k))
    | some (some q) => some (.ref q)
    | none => none) else none
  | _ => none
def xgetf (S : xSh) (ci k : Nat) (L st : List Value) (pc : Nat) (M : xM) : Option xR := match st with
  | .ref a :: r => match xfld S M a ci k with
    | some v => xgo pc L (v :: r) M
    | none => none
  | _ => none
/-- an int that may stand in a field of this type -/
def xfits (ty : FieldType) (x : Int32) : Bool := match ty with
  | .int => true
  | .boolean => decide (x = 0) || decide (x = 1)
  | .char => decide (0 ≤ x) && decide (x < 65536)
  | _ => false
def xfin (ci k : Nat) : Bool := match xCl[ci]? with
  | some (_, T, _) => (T k).2.2.2
  | none => true
def xputf (S : xSh) (ci k : Nat) (L st : List Value) (pc : Nat) (M : xM) : Option xR := match st with
  | .int x :: .ref a :: r => match S[a]? with
    | some (0, cj, fs) => bif Nat.beq ci cj && !(xfin ci k) && xfits (xTy ci k) x then (match fs[k]? with
      | some none => xgo pc L r (xup M a k x)
      | _ => none) else none
    | _ => none
  | _ => none
def xin (i : Int32) (n : Nat) : Bool := decide (¬ (i < 0 ∨ n ≤ i.toNatClampNeg))
def xald (kd : Nat) (S : xSh) (L st : List Value) (pc : Nat) (M : xM) : Option xR := match st with
  | .int i :: .ref a :: r => match S[a]? with
    | some (k, n, _) => bif Nat.beq k kd && xin i n then xgo pc L (.int (M a i.toNatClampNeg) :: r) M else none
    | none => none
  | _ => none
def xast (kd : Nat) (f : Int32 → Int32) (S : xSh) (L st : List Value) (pc : Nat) (M : xM) : Option xR := match st with
  | .int x :: .int i :: .ref a :: r => match S[a]? with
    | some (k, n, _) => bif Nat.beq k kd && xin i n then xgo pc L r (xup M a i.toNatClampNeg (f x)) else none
    | none => none
  | _ => none
def xalen (S : xSh) (L st : List Value) (pc : Nat) (M : xM) : Option xR := match st with
  | .ref a :: r => match S[a]? with
    | some (1, n, _) => xgo pc L (.int (nI n) :: r) M
    | some (2, n, _) => xgo pc L (.int (nI n) :: r) M
    | _ => none
  | _ => none
def xcopy (S : xSh) (L st : List Value) (pc : Nat) (M : xM) : Option xR := match st with
  | .int n :: .int dp :: .ref a :: .int sp :: .ref a0 :: r => match S[a0]?, S[a]? with
    | some (1, n0, _), some (1, n1, _) => bif decide (¬ sp < 0) && decide (¬ dp < 0) && decide (¬ n < 0) && decide (sp.toNatClampNeg + n.toNatClampNeg ≤ n0) && decide (dp.toNatClampNeg + n.toNatClampNeg ≤ n1) && Nat.ble r.length 4 then
        xgo pc L r (xset M a (va_cpy (M a0) (M a) sp.toNatClampNeg dp.toNatClampNeg n.toNatClampNeg)) else none
    | _, _ => none
  | _ => none
def xmath (f : Int32 → Int32 → Int32) (L st : List Value) (pc : Nat) (M : xM) : Option xR := match st with
  | .int y :: .int x :: r => bif Nat.ble r.length 4 then xgo pc L (.int (f x y) :: r) M else none
  | _ => none
def xmin (x y : Int32) : Int32 := if y < x then y else x
def xmax (x y : Int32) : Int32 := if x < y then y else x
def xsz : List Value → Nat
  | [] => 0
  | v :: vs => v.category + xsz vs
def xcallS (mid : Nat) (st : List Value) : Option xR :=
  bif xSt mid && Nat.ble (xN mid) st.length && Nat.ble (st.drop (xN mid)).length 4 && Nat.ble (xsz (st.take (xN mid)).reverse) (xL mid) then some (.inr (.inl (mid, (st.take (xN mid)).reverse, st.drop (xN mid)))) else none
def xcallV (S : xSh) (mid : Nat) (st : List Value) : Option xR := match st.drop (xN mid) with
  | .ref b :: r => match S[b]? with
    | some (0, ci, _) => bif !(xSt mid) && Nat.beq ci (xI mid) && Nat.ble (xN mid) st.length && Nat.ble r.length 4 && Nat.ble (xsz (.ref b :: (st.take (xN mid)).reverse)) (xL mid) then some (.inr (.inl (mid, .ref b :: (st.take (xN mid)).reverse, r))) else none
    | _ => none
  | _ => none
def xret (mid : Nat) (st : List Value) : Option xR := match st with
  | [.int x] => match xRt mid with
    | some ty => bif xfits ty x then some (.inr (.inr (some (.int x)))) else none
    | none => none
  | _ => none
def xretv (mid : Nat) (st : List Value) : Option xR := match st with
  | [] => match xRt mid with
    | none => some (.inr (.inr none))
    | _ => none
  | _ => none
def xdo (S : xSh) (mid : Nat) (i : Instr) (a b : Nat) (k : Int) (pc : Nat) (L st : List Value) (M : xM) : Option xR := match i with
  | .iconst n => xgo (pc + 1) L (.int (Int32.ofInt n) :: st) M
  | .bipush n => xgo (pc + 2) L (.int (Int8.ofInt n).toInt32 :: st) M
  | .sipush n => xgo (pc + 3) L (.int (Int16.ofInt n).toInt32 :: st) M
  | .ldc _ => if k = 0 then none else xgo (pc + 2) L (.int (Int32.ofInt k) :: st) M
  | .ldc2_w _ => xgo (pc + 3) L (.long (Int64.ofInt k) :: st) M
  | .lconst n => xgo (pc + 1) L (.long (Int64.ofNat (n : Nat)) :: st) M
  | .iload_n n => xld L st (pc + 1) n M
  | .iload n => xld L st (pc + 2) n M
  | .lload_n n => xldl L st (pc + 1) n M
  | .lload n => xldl L st (pc + 2) n M
  | .aload_n n => xlda L st (pc + 1) n M
  | .aload n => xlda L st (pc + 2) n M
  | .istore_n n => xsti L st (pc + 1) n M
  | .istore n => xsti L st (pc + 2) n M
  | .lstore_n n => xstl L st (pc + 1) n M
  | .lstore n => xstl L st (pc + 2) n M
  | .astore_n n => xsta L st (pc + 1) n M
  | .astore n => xsta L st (pc + 2) n M
  | .iinc n d => match L[n]? with
    | some (.int x) => xgo (pc + 3) (xst1 L n (.int (x + Int32.ofInt d))) st M
    | _ => none
  | .iadd => xb2 (fun x y => x + y) L st (pc + 1) M
  | .isub => xb2 (fun x y => x - y) L st (pc + 1) M
  | .imul => xb2 (fun x y => x * y) L st (pc + 1) M
  | .iand => xb2 (fun x y => x &&& y) L st (pc + 1) M
  | .ior => xb2 (fun x y => x ||| y) L st (pc + 1) M
  | .ixor => xb2 (fun x y => x ^^^ y) L st (pc + 1) M
  | .ishl => xb2 (fun x y => x <<< (y &&& 31)) L st (pc + 1) M
  | .ishr => xb2 (fun x y => x >>> (y &&& 31)) L st (pc + 1) M
  | .idiv => xd2 (fun x y => x / y) L st (pc + 1) M
  | .irem => xd2 (fun x y => x - x / y * y) L st (pc + 1) M
  | .ineg => match st with
    | .int x :: r => xgo (pc + 1) L (.int (-x) :: r) M
    | _ => none
  | .ladd => xl2 (fun x y => x + y) L st (pc + 1) M
  | .lsub => xl2 (fun x y => x - y) L st (pc + 1) M
  | .lmul => xl2 (fun x y => x * y) L st (pc + 1) M
  | .ldiv => xdl2 (fun x y => x / y) L st (pc + 1) M
  | .lrem => xdl2 (fun x y => x - x / y * y) L st (pc + 1) M
  | .lcmp => match st with
    | .long y :: .long x :: r => xgo (pc + 1) L (.int (lg_cmp x y) :: r) M
    | _ => none
  | .i2l => match st with
    | .int x :: r => xgo (pc + 1) L (.long x.toInt64 :: r) M
    | _ => none
  | .l2i => match st with
    | .long x :: r => xgo (pc + 1) L (.int x.toInt32 :: r) M
    | _ => none
  | .i2c => match st with
    | .int x :: r => xgo (pc + 1) L (.int (x.toUInt32 % 65536).toInt32 :: r) M
    | _ => none
  | .dup => match st with
    | .int x :: r => xgo (pc + 1) L (.int x :: .int x :: r) M
    | .ref x :: r => xgo (pc + 1) L (.ref x :: .ref x :: r) M
    | _ => none
  | .dup2 => match st with
    | .int x :: .ref y :: r => xgo (pc + 1) L (.int x :: .ref y :: .int x :: .ref y :: r) M
    | _ => none
  | .pop => match st with
    | .int _ :: r => xgo (pc + 1) L r M
    | _ => none
  | .ifCond c off => xif1 c L st pc (xtg pc off) M
  | .if_icmp c off => xif2 c L st pc (xtg pc off) M
  | .goto off => xgo (xtg pc off) L st M
  | .tableswitch d lo hi offs => match st with
    | .int x :: r => if x.toInt < lo ∨ hi < x.toInt then xgo (xtg pc d) L r M else (match offs[(x.toInt - lo).toNat]? with
      | some off => xgo (xtg pc off) L r M
      | none => none)
    | _ => none
  | .lookupswitch d ps => match st with
    | .int x :: r => xgo (xtg pc (Op.lookupswitch.offset ps.toList d x.toInt)) L r M
    | _ => none
  | .getfield _ => xgetf S a b L st (pc + 3) M
  | .putfield _ => xputf S a b L st (pc + 3) M
  | .iaload => xald 1 S L st (pc + 1) M
  | .caload => xald 2 S L st (pc + 1) M
  | .iastore => xast 1 (fun x => x) S L st (pc + 1) M
  | .castore => xast 2 (vp_nar .char) S L st (pc + 1) M
  | .arraylength => xalen S L st (pc + 1) M
  | .invokestatic _ => bif Nat.beq a 1000 then xmath xmin L st (pc + 3) M else bif Nat.beq a 1001 then xmath xmax L st (pc + 3) M else bif Nat.beq a 1002 then xcopy S L st (pc + 3) M else xcallS a st
  | .invokevirtual _ => xcallV S a st
  | .ireturn => xret mid st
  | .return_ => xretv mid st
  | _ => none
def xstep (S : xSh) (mid pc : Nat) (L st : List Value) (M : xM) : Option xR := match xget (xCode mid) pc with
  | some (i, _, a, b, _, k) => xdo S mid i a b k pc L st M
  | none => none
def xent : Nat → List Value → List Value
  | n, [] => List.replicate n .null
  | n, v :: vs => bif Nat.beq v.category 2 then v :: .null :: xent (n - 2) vs else v :: xent (n - 1) vs
def xrun (S : xSh) : Nat → Nat → Nat → List Value → List Value → xM → Option (Option Value × xM)
  | 0, _, _, _, _, _ => none
  | n + 1, mid, pc, L, st, M => match xstep S mid pc L st M with
    | none => none
    | some (.inl (pc', L', st', M')) => xrun S n mid pc' L' st' M'
    | some (.inr (.inl (mid', as, r))) => match xrun S n mid' 0 (xent (xL mid') as) [] M with
      | none => none
      | some (v, M') => xrun S n mid (pc + 3) L (v.toList ++ r) M'
    | some (.inr (.inr v)) => some (v, M)
