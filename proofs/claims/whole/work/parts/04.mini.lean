/-! A SMALL MACHINE: the instructions that the claim's methods use, over a list of cells; a reference is a cell's place in the list (from 1000 on: what never changes: 1000 MOST_OF, 1001 UNDER, 1002 the JDK's formatter, 1010.. texts, 1020.. their bytes) -/
abbrev MC : Type := (Nat × List Value) ⊕ ((Nat × (Nat → Int32)) ⊕ (Nat × Nat × (Nat → Option Nat)))
abbrev MH : Type := List MC
abbrev MF : Type := Nat × List (Option Value) × List Value
abbrev MR : Type := Option ((MF × MH) ⊕ ((Option Value × MH) ⊕ (Nat × List Value × MF)))
def mgo (pc : Nat) (loc : List (Option Value)) (st : List Value) (h : MH) : MR := some (.inl ((pc, loc, st), h))
def mret (v : Option Value) (h : MH) : MR := some (.inr (.inl (v, h)))
def mCI : Nat → List Int32
  | 1000 => [999, 9, 9, 9, 23, 99]
  | 1001 => [-1, 0, 0, 1, 2, 0]
  | _ => []
def mi1 (st : List Value) (f : Int32 → List Value → MR) : MR := match st with
  | .int x :: r => f x r
  | _ => none
def mi2 (st : List Value) (f : Int32 → Int32 → List Value → MR) : MR := match st with
  | .int y :: .int x :: r => f x y r
  | _ => none
def ml1 (st : List Value) (f : Int64 → List Value → MR) : MR := match st with
  | .long x :: r => f x r
  | _ => none
def ml2 (st : List Value) (f : Int64 → Int64 → List Value → MR) : MR := match st with
  | .long y :: .long x :: r => f x y r
  | _ => none
def mr1 (st : List Value) (f : Nat → List Value → MR) : MR := match st with
  | .ref a :: r => f a r
  | _ => none
/-- on top one value, of one word -/
def mv1 (st : List Value) (f : Value → List Value → MR) : MR := match st with
  | v :: r => if v.category = 1 then f v r else none
  | _ => none
/-- a jump -/
def mj (pc : Nat) (off : Int) (f : Nat → MR) : MR := if 0 ≤ (pc : Int) + off then f ((pc : Int) + off).toNat else none
def mif (c : Prop) [Decidable c] (pc : Nat) (off : Int) (loc : List (Option Value)) (st : List Value) (h : MH) : MR := mj pc off (fun t => if c then mgo t loc st h else mgo (pc + 3) loc st h)
def mcond (c : Jvm.ClassFile.Cond) (x y : Int32) : Bool := match c with
  | .eq => decide (x = y)
  | .ne => decide (¬ x = y)
  | .lt => decide (x < y)
  | .ge => decide (y ≤ x)
  | .gt => decide (y < x)
  | .le => decide (x ≤ y)
def mnl : Option Value → Bool
  | some v => v.category != 2
  | none => true
def mprev (loc : List (Option Value)) : Nat → Bool
  | 0 => true
  | j + 1 => match loc[j]? with
    | some x => mnl x
    | none => false
def mld (loc : List (Option Value)) (i : Nat) (f : Value → MR) : MR := match loc[i]? with
  | some (some v) => f v
  | _ => none
def mst (loc : List (Option Value)) (i : Nat) (v : Value) (f : List (Option Value) → MR) : MR := if i < loc.length ∧ mprev loc i = true then f (loc.set i (some v)) else none
def mst2 (loc : List (Option Value)) (i : Nat) (v : Value) (f : List (Option Value) → MR) : MR := if i + 1 < loc.length ∧ mprev loc i = true then f ((loc.set i (some v)).set (i + 1) none) else none
def milo (loc : List (Option Value)) (i : Nat) (pc : Nat) (st : List Value) (h : MH) : MR := mld loc i (fun v => match v with
  | .int _ => mgo pc loc (v :: st) h
  | _ => none)
def mllo (loc : List (Option Value)) (i : Nat) (pc : Nat) (st : List Value) (h : MH) : MR := mld loc i (fun v => match v with
  | .long _ => mgo pc loc (v :: st) h
  | _ => none)
def malo (loc : List (Option Value)) (i : Nat) (pc : Nat) (st : List Value) (h : MH) : MR := mld loc i (fun v => match v with
  | .ref _ => mgo pc loc (v :: st) h
  | .null => mgo pc loc (v :: st) h
  | _ => none)
def mast (loc : List (Option Value)) (i : Nat) (pc : Nat) (st : List Value) (h : MH) : MR := match st with
  | .ref a :: r => mst loc i (.ref a) (fun l => mgo pc l r h)
  | .null :: r => mst loc i .null (fun l => mgo pc l r h)
  | _ => none
/-- an int in range, as a place -/
def mix (i : Int32) (n : Nat) (f : Nat → MR) : MR := if i < 0 ∨ n ≤ i.toNatClampNeg then none else f i.toNatClampNeg
def mlkf (cn idx : Nat) : Option (Nat × Nat × Nat × Nat) := (mlk.getD cn []).find? (fun q => q.1 == idx)
def mTab (ci : Nat) : u_T := (vwCl.getD ci (RX0, TX0, 0)).2.1
def mN (ci : Nat) : Nat := (vwCl.getD ci (RX0, TX0, 0)).2.2
def mTy (ci k : Nat) : FieldType := (mty.getD ci tyX0) k
/-- a field's value -/
def mget (h : MH) (a ci k : Nat) (f : Value → MR) : MR := match h[a]? with
  | some (.inl (c, fs)) => if c = ci then (match fs[k]? with
    | some v => f v
    | none => none) else none
  | _ => none
def mput (h : MH) (a ci k : Nat) (v : Value) (f : MH → MR) : MR := match h[a]? with
  | some (.inl (c, fs)) => if c = ci ∧ k < fs.length ∧ k < mN ci ∧ narrow (mTy ci k) v = v ∧ fits (mTy ci k) v = true then f (h.set a (.inl (c, fs.set k v))) else none
  | _ => none
def mial (h : MH) (a : Nat) (i : Int32) (f : Int32 → MR) : MR := if 1000 ≤ a then mix i (mCI a).length (fun j => f ((mCI a).getD j 0)) else match h[a]? with
  | some (.inr (.inl (n, g))) => mix i n (fun j => f (g j))
  | _ => none
def mias (h : MH) (a : Nat) (i x : Int32) (f : MH → MR) : MR := match h[a]? with
  | some (.inr (.inl (n, g))) => mix i n (fun j => f (h.set a (.inr (.inl (n, upd g j x)))))
  | _ => none
def mbal (a : Nat) (i : Int32) (f : Int32 → MR) : MR := if 1020 ≤ a ∧ a < 1023 then mix i (mS.getD (a - 1020) []).length (fun j => f ((mS.getD (a - 1020) []).getD j 0)) else none
def maal (h : MH) (a : Nat) (i : Int32) (f : Value → MR) : MR := match h[a]? with
  | some (.inr (.inr (_, n, g))) => mix i n (fun j => f (va_rf (g j)))
  | _ => none
def maas (h : MH) (a : Nat) (i : Int32) (v : Nat) (f : MH → MR) : MR := match h[a]?, h[v]? with
  | some (.inr (.inr (c, n, g))), some (.inl (c2, _)) => if c = c2 ∧ c < 10 then mix i n (fun j => f (h.set a (.inr (.inr (c, n, va_up g j (some v)))))) else none
  | _, _ => none
def malen (h : MH) (a : Nat) (f : Nat → MR) : MR := if 1020 ≤ a ∧ a < 1023 then f (mS.getD (a - 1020) []).length else if 1000 ≤ a then (if a = 1000 ∨ a = 1001 then f 6 else none) else match h[a]? with
  | some (.inr (.inl (n, _))) => f n
  | some (.inr (.inr (_, n, _))) => f n
  | _ => none
def mcat (st : List Value) : Nat := (st.map fun v => v.category).sum
/-- the receiver b is of the class cn -/
def mrcv (h : MH) (b cn : Nat) : Bool := if 1010 ≤ b ∧ b < 1013 then cn == 10 else match h[b]? with
  | some (.inl (c, _)) => c == cn && decide (cn < 10)
  | _ => false
def mnew (ci : Nat) : MC := .inl (ci, (List.range (mN ci)).map (fun k => defaultValue (mTy ci k)))
/-- a call: method id k, mode b -/
def minv (h : MH) (mode k pc : Nat) (loc : List (Option Value)) (st : List Value) : MR := match mtab[k]? with
  | none => none
  | some q => if st.length < q.2.2.2.2.2 then none else
    if mode = 2 ∨ mode = 3 then (if mcat (st.drop q.2.2.2.2.2) ≤ 8 then some (.inr (.inr (k, (st.take q.2.2.2.2.2).reverse, (pc + 3, loc, st.drop q.2.2.2.2.2)))) else none)
    else match st.drop q.2.2.2.2.2 with
      | .ref b :: rest => if mcat rest ≤ 8 ∧ mrcv h b q.2.2.2.2.1 = true then some (.inr (.inr (k, .ref b :: (st.take q.2.2.2.2.2).reverse, (pc + 3, loc, rest)))) else none
      | _ => none
/-- arraycopy -/
def mcopy (h : MH) (pc : Nat) (loc : List (Option Value)) (st : List Value) : MR := match st with
  | .int n :: .int dp :: .ref b :: .int sp :: .ref a :: rest => (match h[a]?, h[b]? with
    | some (.inr (.inl (n0, f))), some (.inr (.inl (n1, g))) =>
      if ¬ sp < 0 ∧ ¬ dp < 0 ∧ ¬ n < 0 ∧ sp.toNatClampNeg + n.toNatClampNeg ≤ n0 ∧ dp.toNatClampNeg + n.toNatClampNeg ≤ n1 ∧ mcat rest ≤ 8 then
        mgo (pc + 3) loc rest (h.set b (.inr (.inl (n1, va_cpy f g sp.toNatClampNeg dp.toNatClampNeg n.toNatClampNeg)))) else none
    | _, _ => none)
  | _ => none
def ilen : Instr → Nat
  | .aload _ => 2 | .astore _ => 2 | .bipush _ => 2 | .iload _ => 2 | .istore _ => 2 | .lload _ => 2 | .lstore _ => 2 | .ldc _ => 2 | .newarray _ => 2
  | .anewarray _ => 3 | .getfield _ => 3 | .getstatic _ => 3 | .goto _ => 3 | .if_acmp _ _ => 3 | .if_icmp _ _ => 3 | .ifCond _ _ => 3 | .ifnonnull _ => 3 | .ifnull _ => 3 | .iinc _ _ => 3
  | .invokespecial _ => 3 | .invokestatic _ => 3 | .invokevirtual _ => 3 | .ldc_w _ => 3 | .ldc2_w _ => 3 | .new _ => 3 | .putfield _ => 3 | .sipush _ => 3
  | _ => 1
def ilok (i : Instr) (n : Nat) : Bool := match i with
  | .tableswitch _ _ _ _ => true
  | .lookupswitch _ _ => true
  | i => n == ilen i
/-- one instruction of a method of class cn, of the given return type; ini: it is a constructor -/
def mstep (cn : Nat) (rt : Option FieldType) (ini : Bool) (i : Instr) (pc : Nat) (loc : List (Option Value)) (st : List Value) (h : MH) : MR := match i with
  | .iconst n => mgo (pc + 1) loc (.int (Int32.ofInt n) :: st) h
  | .bipush n => mgo (pc + 2) loc (.int ((Int8.ofInt n).toInt32) :: st) h
  | .sipush n => mgo (pc + 3) loc (.int ((Int16.ofInt n).toInt32) :: st) h
  | .lconst n => mgo (pc + 1) loc (.long (Int64.ofNat (n : Nat)) :: st) h
  | .aconst_null => mgo (pc + 1) loc (.null :: st) h
  | .iload_n k => milo loc k (pc + 1) st h
  | .iload k => milo loc k (pc + 2) st h
  | .lload_n k => mllo loc k (pc + 1) st h
  | .lload k => mllo loc k (pc + 2) st h
  | .aload_n k => malo loc k (pc + 1) st h
  | .aload k => malo loc k (pc + 2) st h
  | .istore_n k => mi1 st (fun x r => mst loc k (.int x) (fun l => mgo (pc + 1) l r h))
  | .istore k => mi1 st (fun x r => mst loc k (.int x) (fun l => mgo (pc + 2) l r h))
  | .lstore_n k => ml1 st (fun x r => mst2 loc k (.long x) (fun l => mgo (pc + 1) l r h))
  | .lstore k => ml1 st (fun x r => mst2 loc k (.long x) (fun l => mgo (pc + 2) l r h))
  | .astore_n k => mast loc k (pc + 1) st h
  | .astore k => mast loc k (pc + 2) st h
  | .iinc k n => mld loc k (fun v => match v with
    | .int x => mst loc k (.int (x + Int32.ofInt n)) (fun l => mgo (pc + 3) l st h)
    | _ => none)
  | .iadd => mi2 st (fun x y r => mgo (pc + 1) loc (.int (x + y) :: r) h)
  | .isub => mi2 st (fun x y r => mgo (pc + 1) loc (.int (x - y) :: r) h)
  | .imul => mi2 st (fun x y r => mgo (pc + 1) loc (.int (x * y) :: r) h)
  | .iand => mi2 st (fun x y r => mgo (pc + 1) loc (.int (x &&& y) :: r) h)
  | .ior => mi2 st (fun x y r => mgo (pc + 1) loc (.int (x ||| y) :: r) h)
  | .idiv => mi2 st (fun x y r => if y = 0 then none else mgo (pc + 1) loc (.int (x / y) :: r) h)
  | .irem => mi2 st (fun x y r => if y = 0 then none else mgo (pc + 1) loc (.int (x - x / y * y) :: r) h)
  | .ineg => mi1 st (fun x r => mgo (pc + 1) loc (.int (-x) :: r) h)
  | .ishl => mi2 st (fun x y r => mgo (pc + 1) loc (.int (x <<< (y &&& 31)) :: r) h)
  | .ishr => mi2 st (fun x y r => mgo (pc + 1) loc (.int (x >>> (y &&& 31)) :: r) h)
  | .iushr => mi2 st (fun x y r => mgo (pc + 1) loc (.int ((x.toUInt32 >>> (y.toUInt32 &&& Int32.toUInt32 31)).toInt32) :: r) h)
  | .ladd => ml2 st (fun x y r => mgo (pc + 1) loc (.long (x + y) :: r) h)
  | .lsub => ml2 st (fun x y r => mgo (pc + 1) loc (.long (x - y) :: r) h)
  | .lmul => ml2 st (fun x y r => mgo (pc + 1) loc (.long (x * y) :: r) h)
  | .lcmp => ml2 st (fun x y r => mgo (pc + 1) loc (.int (lg_cmp x y) :: r) h)
  | .i2l => mi1 st (fun x r => mgo (pc + 1) loc (.long x.toInt64 :: r) h)
  | .l2i => ml1 st (fun x r => mgo (pc + 1) loc (.int x.toInt32 :: r) h)
  | .i2b => mi1 st (fun x r => mgo (pc + 1) loc (.int x.toInt8.toInt32 :: r) h)
  | .i2s => mi1 st (fun x r => mgo (pc + 1) loc (.int x.toInt16.toInt32 :: r) h)
  | .i2c => mi1 st (fun x r => mgo (pc + 1) loc (.int (x.toUInt32 % 65536).toInt32 :: r) h)
  | .dup => mv1 st (fun v r => mgo (pc + 1) loc (v :: v :: r) h)
  | .pop => mv1 st (fun _ r => mgo (pc + 1) loc r h)
  | .dup_x1 => mv1 st (fun v r => mv1 r (fun w r => mgo (pc + 1) loc (v :: w :: v :: r) h))
  | .dup2 => mv1 st (fun v r => mv1 r (fun w r => mgo (pc + 1) loc (v :: w :: v :: w :: r) h))
  | .if_icmp c off => mi2 st (fun x y r => mif (mcond c x y = true) pc off loc r h)
  | .ifCond c off => mi1 st (fun x r => mif (mcond c x 0 = true) pc off loc r h)
  | .goto off => mj pc off (fun t => mgo t loc st h)
  | .ifnull off => (match st with
    | .ref a :: r => if a < 900 then mgo (pc + 3) loc r h else none
    | .null :: r => mj pc off (fun t => mgo t loc r h)
    | _ => none)
  | .ifnonnull off => (match st with
    | .ref a :: r => if a < 900 then mj pc off (fun t => mgo t loc r h) else none
    | .null :: r => mgo (pc + 3) loc r h
    | _ => none)
  | .tableswitch dflt lo hi offs => mi1 st (fun x r => if x.toInt < lo ∨ hi < x.toInt then mj pc dflt (fun t => mgo t loc r h) else match offs[(x.toInt - lo).toNat]? with
    | some off => mj pc off (fun t => mgo t loc r h)
    | none => none)
  | .lookupswitch dflt ps => mi1 st (fun x r => if (ps.toList.zip (ps.toList.drop 1)).all (fun (a, next) => a.1 < next.1) = true then mj pc (Op.lookupswitch.offset ps.toList dflt x.toInt) (fun t => mgo t loc r h) else none)
  | .ldc k => (match (mcI.getD cn []).find? (fun q => q.1 == k) with
    | some q => mgo (pc + 2) loc (.int q.2 :: st) h
    | none => match mlkf cn k with
      | some (_, 9, a, _) => if a < 3 then mgo (pc + 2) loc (.ref (1010 + a) :: st) h else none
      | _ => none)
  | .ldc_w k => (match (mcI.getD cn []).find? (fun q => q.1 == k) with
    | some q => mgo (pc + 3) loc (.int q.2 :: st) h
    | none => none)
  | .ldc2_w k => (match (mcL.getD cn []).find? (fun q => q.1 == k) with
    | some q => mgo (pc + 3) loc (.long q.2 :: st) h
    | none => none)
  | .getstatic k => (match mlkf cn k with
    | some (_, 3, a, _) => if a = 0 then mgo (pc + 3) loc (.ref 1000 :: st) h else if a = 1 then mgo (pc + 3) loc (.ref 1001 :: st) h else if a = 2 then mgo (pc + 3) loc (.int 1 :: st) h else if a = 3 then mgo (pc + 3) loc (.ref 1002 :: st) h else none
    | _ => none)
  | .getfield k => mr1 st (fun a r => match mlkf cn k with
    | some (_, 0, ci, f) => mget h a ci f (fun v => mgo (pc + 3) loc (v :: r) h)
    | some (_, 1, ci, f) => mget h a ci f (fun v => mgo (pc + 3) loc (v :: r) h)
    | some (_, 2, b, _) => if 1010 ≤ a ∧ a < 1013 then (if b = 0 then mgo (pc + 3) loc (.ref (a + 10) :: r) h else if b = 1 then mgo (pc + 3) loc (.int 0 :: r) h else none) else none
    | _ => none)
  | .putfield k => (match st with
    | v :: .ref a :: r => (match mlkf cn k with
      | some (_, 0, ci, f) => if (mTab ci f).2.2.2 = false ∨ (ini = true ∧ ci = cn) then mput h a ci f v (fun h => mgo (pc + 3) loc r h) else none
      | some (_, 1, ci, f) => if (mTab ci f).2.2.2 = false then mput h a ci f v (fun h => mgo (pc + 3) loc r h) else none
      | _ => none)
    | _ => none)
  | .iaload => (match st with
    | .int i :: .ref a :: r => mial h a i (fun x => mgo (pc + 1) loc (.int x :: r) h)
    | _ => none)
  | .baload => (match st with
    | .int i :: .ref a :: r => mbal a i (fun x => mgo (pc + 1) loc (.int x :: r) h)
    | _ => none)
  | .iastore => (match st with
    | .int x :: .int i :: .ref a :: r => mias h a i x (fun h => mgo (pc + 1) loc r h)
    | _ => none)
  | .aaload => (match st with
    | .int i :: .ref a :: r => maal h a i (fun v => mgo (pc + 1) loc (v :: r) h)
    | _ => none)
  | .aastore => (match st with
    | .ref v :: .int i :: .ref a :: r => maas h a i v (fun h => mgo (pc + 1) loc r h)
    | _ => none)
  | .arraylength => mr1 st (fun a r => malen h a (fun n => mgo (pc + 1) loc (.int (Int32.ofNat n) :: r) h))
  | .newarray t => (match t with
    | .int => mi1 st (fun n r => if ¬ n < 0 ∧ n.toNatClampNeg ≤ 3000 ∧ h.length < 900 then mgo (pc + 2) loc (.ref h.length :: r) (h ++ [.inr (.inl (n.toNatClampNeg, fun _ => 0))]) else none)
    | _ => none)
  | .anewarray k => mi1 st (fun n r => match mlkf cn k with
    | some (_, 4, ci, _) => if ¬ n < 0 ∧ n.toNatClampNeg ≤ 3000 ∧ h.length < 900 ∧ (ci = 1 ∨ ci = 3 ∨ ci = 5) then mgo (pc + 3) loc (.ref h.length :: r) (h ++ [.inr (.inr (ci, n.toNatClampNeg, fun _ => none))]) else none
    | _ => none)
  | .new k => (match mlkf cn k with
    | some (_, 4, ci, _) => if h.length < 900 ∧ ci < 10 then mgo (pc + 3) loc (.ref h.length :: st) (h ++ [mnew ci]) else none
    | _ => none)
  | .invokevirtual k => (match mlkf cn k with
    | some (_, 6, id, md) => if md = 0 ∨ md = 1 then minv h md id pc loc st else none
    | _ => none)
  | .invokestatic k => (match mlkf cn k with
    | some (_, 6, id, md) => if md = 2 ∨ md = 3 then minv h md id pc loc st else none
    | some (_, 8, _, _) => mcopy h pc loc st
    | some (_, 10, _, _) => mi2 st (fun x y r => if mcat r ≤ 8 then mgo (pc + 3) loc (.int (if x < y then y else x) :: r) h else none)
    | some (_, 11, _, _) => mi2 st (fun x y r => if mcat r ≤ 8 then mgo (pc + 3) loc (.int (if y < x then y else x) :: r) h else none)
    | _ => none)
  | .invokespecial k => (match mlkf cn k with
    | some (_, 6, id, md) => if md = 4 ∨ md = 5 then minv h md id pc loc st else none
    | some (_, 7, _, _) => mr1 st (fun a r => if mcat r ≤ 8 ∧ a < 900 then mgo (pc + 3) loc r h else none)
    | _ => none)
  | .ireturn => (match st, rt with
    | [.int x], some t => if narrow t (.int x) = .int x then mret (some (.int x)) h else none
    | _, _ => none)
  | .lreturn => (match st with
    | [.long x] => if rt = some .long then mret (some (.long x)) h else none
    | _ => none)
  | .areturn => (match st, rt with
    | [.ref a], some (.object _) => mret (some (.ref a)) h
    | [.null], some (.object _) => mret (some .null) h
    | _, _ => none)
  | .return_ => (match st with
    | [] => if rt = none then mret none h else none
    | _ => none)
  | _ => none
def mfetch (b : ByteArray) (pc : Nat) : Option Instr := match decode b pc with
  | .ok (i, n) => if ilok i n = true then some i else none
  | .error _ => none
def mentry (vs : List Value) (n : Nat) : List (Option Value) := (vs.flatMap fun v => if v.category = 2 then [some v, none] else [some v]) ++ List.replicate (n - (lg_sl vs).length) none
abbrev MCall : Type := Nat → List Value → MH → Option (Option Value × MH)
def mini1 (q : MI) : Bool := q.1.name == "<init>"
def mloop (call : MCall) (q : MI) : Nat → MF → MH → Option (Option Value × MH)
  | 0, _, _ => none
  | n + 1, fr, h => match mfetch q.2.1 fr.1 with
    | none => none
    | some i => match mstep q.2.2.2.2.1 q.2.2.2.1 (mini1 q) i fr.1 fr.2.1 fr.2.2 h with
      | none => none
      | some (.inl (fr', h')) => mloop call q n fr' h'
      | some (.inr (.inl r)) => some r
      | some (.inr (.inr (k, as, (pc, loc, rest)))) => match call k as h with
        | none => none
        | some (v, h') => mloop call q n (pc, loc, v.toList ++ rest) h'
def mcall : Nat → Nat → MCall
  | 0, _ => fun _ _ _ => none
  | d + 1, n => fun k as h => match mtab[k]? with
    | none => none
    | some q => if (lg_sl as).length ≤ q.2.2.1 then mloop (mcall d n) q n (0, mentry as q.2.2.1, []) h else none
theorem mmini_end : True := trivial
