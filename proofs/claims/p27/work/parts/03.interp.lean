/-! ===== an interpreter of the bytecode that occurs here, over a world of numbered objects ===== -/
abbrev zLS : Type := List (Option Value)
abbrev zSh : Type := List (Nat × Nat)
abbrev zI : Type := Nat → Nat → Int32
abbrev zJ : Type := Nat → Nat → Int64
abbrev zR : Type := Nat → Nat → Option Nat
abbrev zOut : Type := (Nat × zLS × List Value × zSh × zI × zJ × zR) ⊕ (Option Value) ⊕ (Nat × List Value × List Value)
abbrev zRes : Type := Option Value × zSh × zI × zJ × zR
def zget : zLS → Nat → Option Value
  | [], _ => none
  | x :: _, 0 => x
  | _ :: t, n + 1 => zget t n
def zis2 : Option Value → Bool
  | some v => v.category == 2
  | none => false
def zst1 (L : zLS) (i : Nat) (v : Value) : Option zLS := if i < L.length then some ((if decide (0 < i) && zis2 (zget L (i - 1)) then L.set (i - 1) none else L).set i (some v)) else none
def zst2 (L : zLS) (i : Nat) (v : Value) : Option zLS := if i + 1 < L.length then some (((if decide (0 < i) && zis2 (zget L (i - 1)) then L.set (i - 1) none else L).set i (some v)).set (i + 1) none) else none
def zup {α : Type} (f : Nat → Nat → α) (o j : Nat) (v : α) : Nat → Nat → α := fun o' j' => if o' = o ∧ j' = j then v else f o' j'
def zrw {α : Type} (f : Nat → Nat → α) (o : Nat) (g : Nat → α) : Nat → Nat → α := fun o' j' => if o' = o then g j' else f o' j'
def zlenOf : Instr → Nat
  | .aload _ | .astore _ | .iload _ | .istore _ | .lload _ | .lstore _ | .bipush _ | .ldc _ | .newarray _ => 2
  | .anewarray _ | .getfield _ | .goto _ | .ifCond _ _ | .if_icmp _ _ | .ifnull _ | .ifnonnull _ | .iinc _ _ | .invokespecial _ | .invokestatic _ | .invokevirtual _ | .ldc2_w _ | .ldc_w _ | .new _ | .putfield _ | .sipush _ => 3
  | _ => 1
def zlenOk (ins : Instr) (len : Nat) : Bool := match ins with
  | .tableswitch _ _ _ _ => true
  | .lookupswitch _ _ => true
  | _ => len == zlenOf ins
def zcat (S : List Value) : Nat := (S.map fun v => v.category).sum
def zpop : Nat → List Value → List Value → Option (List Value × List Value)
  | 0, S, acc => some (acc, S)
  | n + 1, v :: S, acc => zpop n S (v :: acc)
  | _ + 1, [], _ => none
def zentL : List Value → zLS
  | [] => []
  | v :: r => if v.category = 2 then some v :: none :: zentL r else some v :: zentL r
def zent (ml : Nat) (args : List Value) : zLS := zentL args ++ List.replicate (ml - (zentL args).length) none
def zkind (t : FieldType) : Nat := match t with
  | .int => 0
  | .long => 1
  | .boolean => 3
  | .object _ => 2
  | .array _ => 2
  | _ => 9
def zsw (x : Int32) (dflt lo hi : Int) (offs : Array Int) : Option Int := if x.toInt < lo ∨ hi < x.toInt then some dflt else offs[(x.toInt - lo).toNat]?
def zlsOk (ps : Array (Int × Int)) : Bool := (ps.toList.zip (ps.toList.drop 1)).all (fun (a, next) => a.1 < next.1)
/-- loads: of the kinds int (0), long (1), reference (2) -/
def zld (kd : Nat) (v : Option Value) : Option Value := match v with
  | some (.int x) => if kd = 0 then some (.int x) else none
  | some (.long x) => if kd = 1 then some (.long x) else none
  | some (.ref a) => if kd = 2 then some (.ref a) else none
  | some .null => if kd = 2 then some .null else none
  | _ => none
def zi2 (f : Int32 → Int32 → Int32) (S : List Value) : Option (List Value) := match S with
  | .int y :: .int x :: r => some (.int (f x y) :: r)
  | _ => none
def zj2 (f : Int64 → Int64 → Int64) (S : List Value) : Option (List Value) := match S with
  | .long y :: .long x :: r => some (.long (f x y) :: r)
  | _ => none
def zi2n (f : Int32 → Int32 → Int32) (S : List Value) : Option (List Value) := match S with
  | .int y :: .int x :: r => if y = 0 then none else some (.int (f x y) :: r)
  | _ => none
def zj2n (f : Int64 → Int64 → Int64) (S : List Value) : Option (List Value) := match S with
  | .long y :: .long x :: r => if y = 0 then none else some (.long (f x y) :: r)
  | _ => none
def zji (f : Int64 → Int32 → Int64) (S : List Value) : Option (List Value) := match S with
  | .int y :: .long x :: r => some (.long (f x y) :: r)
  | _ => none
/-- instructions that touch the stack alone -/
def zpure (ins : Instr) (S : List Value) : Option (List Value) := match ins with
  | .aconst_null => some (.null :: S)
  | .bipush n => some (.int (Int8.ofInt n).toInt32 :: S)
  | .sipush n => some (.int (Int16.ofInt n).toInt32 :: S)
  | .iconst n => some (.int (Int32.ofInt n) :: S)
  | .lconst n => some (.long (Int64.ofNat (n : Nat)) :: S)
  | .iadd => zi2 (fun x y => x + y) S
  | .isub => zi2 (fun x y => x - y) S
  | .imul => zi2 (fun x y => x * y) S
  | .iand => zi2 (fun x y => x &&& y) S
  | .ior => zi2 (fun x y => x ||| y) S
  | .idiv => zi2n (fun x y => x / y) S
  | .irem => zi2n (fun x y => x - (x / y) * y) S
  | .ishl => zi2 (fun x y => x <<< (y &&& 31)) S
  | .ishr => zi2 (fun x y => x >>> (y &&& 31)) S
  | .ladd => zj2 (fun x y => x + y) S
  | .lsub => zj2 (fun x y => x - y) S
  | .lmul => zj2 (fun x y => x * y) S
  | .land => zj2 (fun x y => x &&& y) S
  | .lxor => zj2 (fun x y => x ^^^ y) S
  | .ldiv => zj2n (fun x y => x / y) S
  | .lrem => zj2n (fun x y => x - (x / y) * y) S
  | .lshl => zji (fun x y => x <<< (y.toInt64 &&& 63)) S
  | .lshr => zji (fun x y => x >>> (y.toInt64 &&& 63)) S
  | .lcmp => (match S with
    | .long y :: .long x :: r => some (.int (lg_cmp x y) :: r)
    | _ => none)
  | .ineg => (match S with
    | .int x :: r => some (.int (-x) :: r)
    | _ => none)
  | .lneg => (match S with
    | .long x :: r => some (.long (-x) :: r)
    | _ => none)
  | .i2l => (match S with
    | .int x :: r => some (.long x.toInt64 :: r)
    | _ => none)
  | .i2c => (match S with
    | .int x :: r => some (.int (x.toUInt32 % 65536).toInt32 :: r)
    | _ => none)
  | .l2i => (match S with
    | .long x :: r => some (.int x.toInt32 :: r)
    | _ => none)
  | .dup => (match S with
    | v :: r => if v.category = 1 then some (v :: v :: r) else none
    | _ => none)
  | .dup2 => (match S with
    | v :: u :: r => if v.category = 1 ∧ u.category = 1 then some (v :: u :: v :: u :: r) else none
    | _ => none)
  | .pop => (match S with
    | v :: r => if v.category = 1 then some r else none
    | _ => none)
  | _ => none
/-- jumps: what is left on the stack, the offset, and whether it is taken -/
def zjump (ins : Instr) (S : List Value) : Option (List Value × Int × Bool) := match ins with
  | .goto off => some (S, off, true)
  | .ifCond c off => (match S with
    | .int x :: r => (match c with
      | .eq => some (r, off, decide (x = 0))
      | .ne => some (r, off, decide (¬ x = 0))
      | .lt => some (r, off, decide (x < 0))
      | .ge => some (r, off, decide (0 ≤ x))
      | .gt => some (r, off, decide (0 < x))
      | .le => some (r, off, decide (x ≤ 0)))
    | _ => none)
  | .if_icmp c off => (match S with
    | .int y :: .int x :: r => (match c with
      | .eq => some (r, off, decide (x = y))
      | .ne => some (r, off, decide (¬ x = y))
      | .lt => some (r, off, decide (x < y))
      | .ge => some (r, off, decide (y ≤ x))
      | .gt => some (r, off, decide (y < x))
      | .le => some (r, off, decide (x ≤ y)))
    | _ => none)
  | .ifnull off => (match S with
    | .ref _ :: r => some (r, off, false)
    | .null :: r => some (r, off, true)
    | _ => none)
  | .ifnonnull off => (match S with
    | .ref _ :: r => some (r, off, true)
    | .null :: r => some (r, off, false)
    | _ => none)
  | .tableswitch dflt lo hi offs => (match S with
    | .int x :: r => (match zsw x dflt lo hi offs with
      | some off => some (r, off, true)
      | none => none)
    | _ => none)
  | .lookupswitch dflt ps => (match S with
    | .int x :: r => if zlsOk ps then some (r, Op.lookupswitch.offset ps.toList dflt x.toInt, true) else none
    | _ => none)
  | _ => none
/-- locals -/
def zloc (ins : Instr) (L : zLS) (S : List Value) : Option (zLS × List Value) := match ins with
  | .iload i => (zld 0 (zget L i)).map fun v => (L, v :: S)
  | .iload_n i => (zld 0 (zget L i)).map fun v => (L, v :: S)
  | .lload i => (zld 1 (zget L i)).map fun v => (L, v :: S)
  | .lload_n i => (zld 1 (zget L i)).map fun v => (L, v :: S)
  | .aload i => (zld 2 (zget L i)).map fun v => (L, v :: S)
  | .aload_n i => (zld 2 (zget L i)).map fun v => (L, v :: S)
  | .istore i => (match S with
    | .int x :: r => (zst1 L i (.int x)).map fun L' => (L', r)
    | _ => none)
  | .istore_n i => (match S with
    | .int x :: r => (zst1 L i (.int x)).map fun L' => (L', r)
    | _ => none)
  | .astore i => (match S with
    | .ref x :: r => (zst1 L i (.ref x)).map fun L' => (L', r)
    | .null :: r => (zst1 L i .null).map fun L' => (L', r)
    | _ => none)
  | .astore_n i => (match S with
    | .ref x :: r => (zst1 L i (.ref x)).map fun L' => (L', r)
    | .null :: r => (zst1 L i .null).map fun L' => (L', r)
    | _ => none)
  | .lstore i => (match S with
    | .long x :: r => (zst2 L i (.long x)).map fun L' => (L', r)
    | _ => none)
  | .lstore_n i => (match S with
    | .long x :: r => (zst2 L i (.long x)).map fun L' => (L', r)
    | _ => none)
  | .iinc i n => (match zget L i with
    | some (.int x) => (zst1 L i (.int (x + Int32.ofInt n))).map fun L' => (L', S)
    | _ => none)
  | _ => none
def zin (i : Int32) (n : Nat) : Bool := !(decide (i < 0)) && decide (i.toNatClampNeg < n)
/-- what is read of the world -/
def zread (c : Nat) (ins : Instr) (S : List Value) (sh : zSh) (mi : zI) (mj : zJ) (mr : zR) : Option (List Value) := match ins with
  | .getfield idx => (match S, zfld c idx with
    | .ref o :: r, some (ci, j, _) => (match zC[ci]? with
      | some (_, _, _, ty) => if sh[o]? = some (0, ci) ∧ 1 ≤ o then (match zkind (ty j) with
        | 0 => some (.int (mi o j) :: r)
        | 1 => some (.long (mj o j) :: r)
        | 2 => some (va_rf (mr o j) :: r)
        | 3 => some (.int (mi o j) :: r)
        | _ => none) else none
      | none => none)
    | _, _ => none)
  | .iaload => (match S with
    | .int i :: .ref o :: r => (match sh[o]? with
      | some (t, n) => if zin i n ∧ ((t = 1 ∧ 1 ≤ o) ∨ (t = 99 ∧ o = 0)) then some (.int (mi o i.toNatClampNeg) :: r) else none
      | none => none)
    | _ => none)
  | .laload => (match S with
    | .int i :: .ref o :: r => (match sh[o]? with
      | some (t, n) => if zin i n ∧ t = 2 ∧ 1 ≤ o then some (.long (mj o i.toNatClampNeg) :: r) else none
      | none => none)
    | _ => none)
  | .caload => (match S with
    | .int i :: .ref o :: r => (match sh[o]? with
      | some (t, n) => if zin i n ∧ t = 3 ∧ 1 ≤ o then some (.int (mi o i.toNatClampNeg) :: r) else none
      | none => none)
    | _ => none)
  | .baload => (match S with
    | .int i :: .ref o :: r => (match sh[o]? with
      | some (t, n) => if zin i n ∧ t = 4 ∧ 1 ≤ o then some (.int (mi o i.toNatClampNeg) :: r) else none
      | none => none)
    | _ => none)
  | .aaload => (match S with
    | .int i :: .ref o :: r => (match sh[o]? with
      | some (t, n) => if zin i n ∧ (t = 7 ∨ t = 10 ∨ t = 11) ∧ 1 ≤ o then some (va_rf (mr o i.toNatClampNeg) :: r) else none
      | none => none)
    | _ => none)
  | .arraylength => (match S with
    | .ref o :: r => (match sh[o]? with
      | some (t, n) => if ((t = 1 ∨ t = 2 ∨ t = 3) ∧ 1 ≤ o) ∨ (t = 99 ∧ o = 0) then some (.int (Int32.ofNat n) :: r) else none
      | none => none)
    | _ => none)
  | .ldc idx => (match zk32 c idx with
    | some (v, _) => some (.int (Int32.ofInt v) :: S)
    | none => none)
  | .ldc_w idx => (match zk32 c idx with
    | some (v, _) => some (.int (Int32.ofInt v) :: S)
    | none => none)
  | .ldc2_w idx => (match zk64 c idx with
    | some (v, _) => some (.long (Int64.ofInt v) :: S)
    | none => none)
  | _ => none
/-- what is written -/
def zwrite (c : Nat) (init : Bool) (ins : Instr) (S : List Value) (sh : zSh) (mi : zI) (mj : zJ) (mr : zR) : Option (List Value × zSh × zI × zJ × zR) := match ins with
  | .putfield idx => (match S, zfld c idx with
    | v :: .ref o :: r, some (ci, j, _) => (match zC[ci]? with
      | some (_, T, _, ty) => if sh[o]? = some (0, ci) ∧ 1 ≤ o ∧ ((T j).2.2.2 = false ∨ (init = true ∧ ci = c)) then (match zkind (ty j), v with
        | 0, .int x => some (r, sh, zup mi o j x, mj, mr)
        | 1, .long x => some (r, sh, mi, zup mj o j x, mr)
        | 2, .ref x => some (r, sh, mi, mj, zup mr o j (some x))
        | 3, .int x => if x = 0 ∨ x = 1 then some (r, sh, zup mi o j x, mj, mr) else none
        | _, _ => none) else none
      | none => none)
    | _, _ => none)
  | .iastore => (match S with
    | .int x :: .int i :: .ref o :: r => (match sh[o]? with
      | some (t, n) => if zin i n ∧ t = 1 ∧ 1 ≤ o then some (r, sh, zup mi o i.toNatClampNeg x, mj, mr) else none
      | none => none)
    | _ => none)
  | .castore => (match S with
    | .int x :: .int i :: .ref o :: r => (match sh[o]? with
      | some (t, n) => if zin i n ∧ t = 3 ∧ 1 ≤ o then some (r, sh, zup mi o i.toNatClampNeg (vp_nar .char x), mj, mr) else none
      | none => none)
    | _ => none)
  | .bastore => (match S with
    | .int x :: .int i :: .ref o :: r => (match sh[o]? with
      | some (t, n) => if zin i n ∧ t = 4 ∧ 1 ≤ o then some (r, sh, zup mi o i.toNatClampNeg (vp_nar .boolean x), mj, mr) else none
      | none => none)
    | _ => none)
  | .lastore => (match S with
    | .long x :: .int i :: .ref o :: r => (match sh[o]? with
      | some (t, n) => if zin i n ∧ t = 2 ∧ 1 ≤ o then some (r, sh, mi, zup mj o i.toNatClampNeg x, mr) else none
      | none => none)
    | _ => none)
  | .aastore => (match S with
    | .ref x :: .int i :: .ref o :: r => (match sh[o]? with
      | some (t, n) => if zin i n ∧ (t = 7 ∨ t = 10 ∨ t = 11) ∧ 1 ≤ o ∧ 1 ≤ x ∧ sh[x]? = some (0, t - 5) then some (r, sh, mi, mj, zup mr o i.toNatClampNeg (some x)) else none
      | none => none)
    | _ => none)
  | .new idx => (match zclk c idx with
    | some (ci, _) => if ci < 8 then some (.ref sh.length :: S, sh ++ [(0, ci)], mi, mj, mr) else none
    | none => none)
  | .newarray ty => (match S with
    | .int n :: r => if 0 ≤ n ∧ n ≤ 100000 then (match ty with
      | .int => some (.ref sh.length :: r, sh ++ [(1, n.toNatClampNeg)], mi, mj, mr)
      | .long => some (.ref sh.length :: r, sh ++ [(2, n.toNatClampNeg)], mi, mj, mr)
      | .char => some (.ref sh.length :: r, sh ++ [(3, n.toNatClampNeg)], mi, mj, mr)
      | .boolean => some (.ref sh.length :: r, sh ++ [(4, n.toNatClampNeg)], mi, mj, mr)
      | _ => none) else none
    | _ => none)
  | .anewarray idx => (match S, zclk c idx with
    | .int n :: r, some (ci, _) => if 0 ≤ n ∧ n ≤ 100000 ∧ (ci = 2 ∨ ci = 5 ∨ ci = 6) then some (.ref sh.length :: r, sh ++ [(ci + 5, n.toNatClampNeg)], mi, mj, mr) else none
    | _, _ => none)
  | .invokespecial idx => (match zmth c idx, S with
    | some (4, _), .ref _ :: r => if zcat r ≤ 8 then some (r, sh, mi, mj, mr) else none
    | _, _ => none)
  | .invokestatic idx => (match zmth c idx, S with
    | some (5, _), .int n :: .int dp :: .ref a :: .int sp :: .ref a0 :: r => (match sh[a0]?, sh[a]? with
      | some (t0, n0), some (t1, n1) => if zcat r ≤ 8 ∧ 1 ≤ a0 ∧ 1 ≤ a ∧ 0 ≤ sp ∧ 0 ≤ dp ∧ 0 ≤ n ∧ sp.toNatClampNeg + n.toNatClampNeg ≤ n0 ∧ dp.toNatClampNeg + n.toNatClampNeg ≤ n1 ∧ t0 = t1 then
          (if t1 = 1 then some (r, sh, zrw mi a (va_cpy (mi a0) (mi a) sp.toNatClampNeg dp.toNatClampNeg n.toNatClampNeg), mj, mr)
          else if t1 = 2 then some (r, sh, mi, zrw mj a (va_cpy (mj a0) (mj a) sp.toNatClampNeg dp.toNatClampNeg n.toNatClampNeg), mr)
          else none) else none
      | _, _ => none)
    | _, _ => none)
  | _ => none
def zgoV (lv kd k2 : Nat) (S : List Value) (sh : zSh) : Option (Nat × List Value × List Value) := match zM[k2]? with
  | some (_, _, ml, _, c2, lv2, np, _, _) => (match zpop np S [] with
    | some (as, .ref o :: r) => if zcat r ≤ 8 ∧ lv2 < lv ∧ (zentL (.ref o :: as)).length ≤ ml ∧ 1 ≤ o ∧ (kd = 0 → sh[o]? = some (0, c2)) then some (k2, .ref o :: as, r) else none
    | _ => none)
  | none => none
def zgoS (lv k2 : Nat) (S : List Value) : Option (Nat × List Value × List Value) := match zM[k2]? with
  | some (_, _, ml, _, _, lv2, np, _, _) => (match zpop np S [] with
    | some (as, r) => if zcat r ≤ 8 ∧ lv2 < lv ∧ (zentL as).length ≤ ml then some (k2, as, r) else none
    | _ => none)
  | none => none
/-- a call of a method of the table: which, with what, and what stays on the stack -/
def zinv (c lv : Nat) (ins : Instr) (S : List Value) (sh : zSh) : Option (Nat × List Value × List Value) := match ins with
  | .invokevirtual idx => (match zmth c idx with
    | some (0, k2, _) => zgoV lv 0 k2 S sh
    | _ => none)
  | .invokespecial idx => (match zmth c idx with
    | some (1, k2, _) => zgoV lv 1 k2 S sh
    | some (3, k2, _) => zgoV lv 3 k2 S sh
    | _ => none)
  | .invokestatic idx => (match zmth c idx with
    | some (2, k2, _) => zgoS lv k2 S
    | _ => none)
  | _ => none
def zretv (rt : Option FieldType) (ins : Instr) (S : List Value) : Option (Option Value) := match ins, S, rt with
  | .return_, [], none => some none
  | .ireturn, [.int x], some ty => if narrow ty (.int x) = .int x then some (some (.int x)) else none
  | .lreturn, [.long x], some .long => some (some (.long x))
  | .areturn, [.ref x], some (.object _) => some (some (.ref x))
  | .areturn, [.null], some (.object _) => some (some .null)
  | _, _, _ => none
def zins (c lv : Nat) (init : Bool) (rt : Option FieldType) (pc len : Nat) (ins : Instr) (L : zLS) (S : List Value) (sh : zSh) (mi : zI) (mj : zJ) (mr : zR) : Option zOut :=
  match zpure ins S with
  | some S' => some (.inl (pc + len, L, S', sh, mi, mj, mr))
  | none => match zjump ins S with
    | some (S', off, tk) => if 0 ≤ (pc : Int) + off then some (.inl (if tk = true then ((pc : Int) + off).toNat else pc + len, L, S', sh, mi, mj, mr)) else none
    | none => match zloc ins L S with
      | some (L', S') => some (.inl (pc + len, L', S', sh, mi, mj, mr))
      | none => match zread c ins S sh mi mj mr with
        | some S' => some (.inl (pc + len, L, S', sh, mi, mj, mr))
        | none => match zwrite c init ins S sh mi mj mr with
          | some (S', sh', mi', mj', mr') => some (.inl (pc + len, L, S', sh', mi', mj', mr'))
          | none => match zretv rt ins S with
            | some v => some (.inr (.inl v))
            | none => match zinv c lv ins S sh with
              | some r => some (.inr (.inr r))
              | none => none
def zstep (k pc : Nat) (L : zLS) (S : List Value) (sh : zSh) (mi : zI) (mj : zJ) (mr : zR) : Option zOut := match zM[k]? with
  | some (y, b, _, rt, c, lv, _, _, _) => (match decode b pc with
    | .ok (ins, len) => if zlenOk ins len then zins c lv (y.name == "<init>") rt pc len ins L S sh mi mj mr else none
    | _ => none)
  | none => none
def zml (k : Nat) : Nat := match zM[k]? with
  | some (_, _, ml, _) => ml
  | none => 0
/-- so many instructions at most -/
def zex : Nat → Nat → Nat → zLS → List Value → zSh → zI → zJ → zR → Option zRes
  | 0, _, _, _, _, _, _, _, _ => none
  | n + 1, k, pc, L, S, sh, mi, mj, mr => match zstep k pc L S sh mi mj mr with
    | some (.inl (pc', L', S', sh', mi', mj', mr')) => zex n k pc' L' S' sh' mi' mj' mr'
    | some (.inr (.inl v)) => some (v, sh, mi, mj, mr)
    | some (.inr (.inr (k2, as, S'))) => (zex n k2 0 (zent (zml k2) as) [] sh mi mj mr).bind fun r => zex n k (pc + 3) L (r.1.toList ++ S') r.2.1 r.2.2.1 r.2.2.2.1 r.2.2.2.2
    | none => none
theorem zex_mono : ∀ (n k pc : Nat) (L : zLS) (S : List Value) (sh : zSh) (mi : zI) (mj : zJ) (mr : zR) (r : zRes), zex n k pc L S sh mi mj mr = some r → zex (n + 1) k pc L S sh mi mj mr = some r := by
  intro n
  induction n with
  | zero => intro k pc L S sh mi mj mr r h; simp [zex] at h
  | succ n ih =>
    intro k pc L S sh mi mj mr r h
    rw [zex] at h ⊢
    match hs : zstep k pc L S sh mi mj mr with
    | none => rw [hs] at h; simp at h
    | some (.inl (pc', L', S', sh', mi', mj', mr')) =>
      rw [hs] at h
      exact ih _ _ _ _ _ _ _ _ _ h
    | some (.inr (.inl v)) =>
      rw [hs] at h
      exact h
    | some (.inr (.inr (k2, as, S'))) =>
      rw [hs] at h
      simp only at h ⊢
      obtain ⟨q, h1, h2⟩ := Option.bind_eq_some_iff.mp h
      rw [ih _ _ _ _ _ _ _ _ _ h1]
      exact ih _ _ _ _ _ _ _ _ _ h2
theorem zex_le {n m k pc : Nat} {L : zLS} {S : List Value} {sh : zSh} {mi : zI} {mj : zJ} {mr : zR} {r : zRes} (hm : n ≤ m) (h : zex n k pc L S sh mi mj mr = some r) : zex m k pc L S sh mi mj mr = some r := by
  induction hm with
  | refl => exact h
  | step _ ih => exact zex_mono _ _ _ _ _ _ _ _ _ _ ih
/-- however many -/
noncomputable def zRun (k pc : Nat) (L : zLS) (S : List Value) (sh : zSh) (mi : zI) (mj : zJ) (mr : zR) : Option zRes :=
  Classical.epsilon fun q => (∃ n r, zex n k pc L S sh mi mj mr = some r ∧ q = some r) ∨ ((∀ n, zex n k pc L S sh mi mj mr = none) ∧ q = none)
theorem zRun_spec (k pc : Nat) (L : zLS) (S : List Value) (sh : zSh) (mi : zI) (mj : zJ) (mr : zR) : (∃ n r, zex n k pc L S sh mi mj mr = some r ∧ zRun k pc L S sh mi mj mr = some r) ∨ ((∀ n, zex n k pc L S sh mi mj mr = none) ∧ zRun k pc L S sh mi mj mr = none) := by
  unfold zRun
  refine Classical.epsilon_spec (p := fun q => (∃ n r, zex n k pc L S sh mi mj mr = some r ∧ q = some r) ∨ ((∀ n, zex n k pc L S sh mi mj mr = none) ∧ q = none)) ?_
  by_cases h : ∃ n r, zex n k pc L S sh mi mj mr = some r
  · obtain ⟨n, r, h⟩ := h
    exact ⟨some r, Or.inl ⟨n, r, h, rfl⟩⟩
  · refine ⟨none, Or.inr ⟨fun n => ?_, rfl⟩⟩
    cases hq : zex n k pc L S sh mi mj mr with
    | none => rfl
    | some r => exact absurd ⟨n, r, hq⟩ h
theorem zRun_of {n k pc : Nat} {L : zLS} {S : List Value} {sh : zSh} {mi : zI} {mj : zJ} {mr : zR} {r : zRes} (h : zex n k pc L S sh mi mj mr = some r) : zRun k pc L S sh mi mj mr = some r := by
  rcases zRun_spec k pc L S sh mi mj mr with ⟨m, r', h1, h2⟩ | ⟨h1, _⟩
  · have a := zex_le (Nat.le_max_left n m) h
    have b := zex_le (Nat.le_max_right n m) h1
    rw [a] at b
    rw [h2, ← b]
  · rw [h1 n] at h; cases h
theorem zRun_ex {k pc : Nat} {L : zLS} {S : List Value} {sh : zSh} {mi : zI} {mj : zJ} {mr : zR} {r : zRes} (h : zRun k pc L S sh mi mj mr = some r) : ∃ n, zex n k pc L S sh mi mj mr = some r := by
  rcases zRun_spec k pc L S sh mi mj mr with ⟨m, r', h1, h2⟩ | ⟨_, h2⟩
  · rw [h2] at h
    cases h
    exact ⟨m, h1⟩
  · rw [h2] at h; cases h
theorem zRun_none {k pc : Nat} {L : zLS} {S : List Value} {sh : zSh} {mi : zI} {mj : zJ} {mr : zR} (h : ∀ n, zex n k pc L S sh mi mj mr = none) : zRun k pc L S sh mi mj mr = none := by
  rcases zRun_spec k pc L S sh mi mj mr with ⟨m, r', h1, h2⟩ | ⟨_, h2⟩
  · rw [h m] at h1; cases h1
  · exact h2
noncomputable def zCall (k : Nat) (as : List Value) (sh : zSh) (mi : zI) (mj : zJ) (mr : zR) : Option zRes := zRun k 0 (zent (zml k) as) [] sh mi mj mr
theorem zRun_eq (k pc : Nat) (L : zLS) (S : List Value) (sh : zSh) (mi : zI) (mj : zJ) (mr : zR) : zRun k pc L S sh mi mj mr = (match zstep k pc L S sh mi mj mr with
    | some (.inl (pc', L', S', sh', mi', mj', mr')) => zRun k pc' L' S' sh' mi' mj' mr'
    | some (.inr (.inl v)) => some (v, sh, mi, mj, mr)
    | some (.inr (.inr (k2, as, S'))) => (zCall k2 as sh mi mj mr).bind fun r => zRun k (pc + 3) L (r.1.toList ++ S') r.2.1 r.2.2.1 r.2.2.2.1 r.2.2.2.2
    | none => none) := by
  match hs : zstep k pc L S sh mi mj mr with
  | none => exact zRun_none fun n => by cases n <;> simp [zex, hs]
  | some (.inl (pc', L', S', sh', mi', mj', mr')) =>
    simp only
    rcases zRun_spec k pc' L' S' sh' mi' mj' mr' with ⟨m, r', h1, h2⟩ | ⟨h1, h2⟩
    · rw [h2]
      exact zRun_of (n := m + 1) (by rw [zex, hs]; exact h1)
    · rw [h2]
      exact zRun_none fun n => by
        cases n with
        | zero => simp [zex]
        | succ n => rw [zex, hs]; exact h1 n
  | some (.inr (.inl v)) => exact zRun_of (n := 1) (by rw [zex, hs])
  | some (.inr (.inr (k2, as, S'))) =>
    simp only [zCall]
    rcases zRun_spec k2 0 (zent (zml k2) as) [] sh mi mj mr with ⟨m, q, h1, h2⟩ | ⟨h1, h2⟩
    · rw [h2]
      simp only [Option.bind_some]
      rcases zRun_spec k (pc + 3) L (q.1.toList ++ S') q.2.1 q.2.2.1 q.2.2.2.1 q.2.2.2.2 with ⟨m2, q2, h3, h4⟩ | ⟨h3, h4⟩
      · rw [h4]
        refine zRun_of (n := max m m2 + 1) ?_
        rw [zex, hs]
        simp only
        rw [zex_le (Nat.le_max_left m m2) h1]
        exact zex_le (Nat.le_max_right m m2) h3
      · rw [h4]
        refine zRun_none fun n => ?_
        cases n with
        | zero => simp [zex]
        | succ n =>
          rw [zex, hs]
          simp only
          cases hq : zex n k2 0 (zent (zml k2) as) [] sh mi mj mr with
          | none => rfl
          | some q' =>
            have a := zex_le (Nat.le_max_left n m) hq
            have b := zex_le (Nat.le_max_right n m) h1
            rw [a] at b
            cases b
            exact h3 n
    · rw [h2]
      refine zRun_none fun n => ?_
      cases n with
      | zero => simp [zex]
      | succ n =>
        rw [zex, hs]
        simp only
        rw [h1 n]
        rfl
