/-! A PURE MACHINE for the program: the same instructions over values, a list of cells and small numbers. Its addresses are places in the list of cells; .retAddr 0 stands for the script. No answer ('none') where the machine would throw by itself, or where something isn't in the program's way of writing. -/
abbrev px_L : Type := List (Option Value)
/-- the cells; how many cells were made that nobody holds (thrown objects); how many fields and elements were made in all; whether cells may still be made -/
abbrev px_H : Type := List va_E × Nat × Nat × Bool
def px_y (r : px_R) : MethodName := r.1
def px_b (r : px_R) : ByteArray := r.2.1
def px_mx (r : px_R) : Nat := r.2.2.1
def px_rt (r : px_R) : Option FieldType := r.2.2.2.1
def px_hh (r : px_R) : List (Nat × Nat × Nat × Nat) := r.2.2.2.2.1
def px_cl (r : px_R) : Nat := r.2.2.2.2.2.1
def px_fr (r : px_R) : Nat := r.2.2.2.2.2.2.1
def px_lo (r : px_R) : Nat := r.2.2.2.2.2.2.2.1
def px_hd (r : px_R) : Nat := r.2.2.2.2.2.2.2.2.1 / 16
def px_ar (r : px_R) : Nat := r.2.2.2.2.2.2.2.2.1 % 16
def px_co (r : px_R) : px_C := r.2.2.2.2.2.2.2.2.2
def px_at (C : px_C) (pc : Nat) : Option (ClassFile.Instr × Nat) := ((C[pc / 32]?).getD []).lookup pc
/-- an index within -/
def px_in (i : Int32) (n : Nat) : Bool := !(decide (i < 0) || decide (n ≤ i.toNatClampNeg))
/-- the instructions of the stack alone -/
def px_op (i : ClassFile.Instr) (st : List Value) : Option (List Value) := match i, st with
  | .iconst n, st => some (.int (Int32.ofInt n) :: st)
  | .bipush n, st => some (.int (Int8.ofInt n).toInt32 :: st)
  | .sipush n, st => some (.int (Int16.ofInt n).toInt32 :: st)
  | .lconst n, st => some (.long (Int64.ofNat (n : Nat)) :: st)
  | .iadd, .int y :: .int x :: st => some (.int (x + y) :: st)
  | .isub, .int y :: .int x :: st => some (.int (x - y) :: st)
  | .imul, .int y :: .int x :: st => some (.int (x * y) :: st)
  | .iand, .int y :: .int x :: st => some (.int (x &&& y) :: st)
  | .ixor, .int y :: .int x :: st => some (.int (x ^^^ y) :: st)
  | .idiv, .int y :: .int x :: st => if y = 0 then none else some (.int (x / y) :: st)
  | .irem, .int y :: .int x :: st => if y = 0 then none else some (.int (x - x / y * y) :: st)
  | .ineg, .int x :: st => some (.int (-x) :: st)
  | .ishr, .int y :: .int x :: st => some (.int (x >>> (y &&& 31)) :: st)
  | .iushr, .int y :: .int x :: st => some (.int (x.toUInt32 >>> (y.toUInt32 &&& Int32.toUInt32 31)).toInt32 :: st)
  | .land, .long y :: .long x :: st => some (.long (x &&& y) :: st)
  | .lor, .long y :: .long x :: st => some (.long (x ||| y) :: st)
  | .lshl, .int y :: .long x :: st => some (.long (x <<< (y.toInt64 &&& 63)) :: st)
  | .lshr, .int y :: .long x :: st => some (.long (x >>> (y.toInt64 &&& 63)) :: st)
  | .lushr, .int y :: .long x :: st => some (.long (x.toUInt64 >>> (y.toInt64.toUInt64 &&& Int64.toUInt64 63)).toInt64 :: st)
  | .i2l, .int x :: st => some (.long x.toInt64 :: st)
  | .l2i, .long x :: st => some (.int x.toInt32 :: st)
  | .i2b, .int x :: st => some (.int x.toInt8.toInt32 :: st)
  | .lcmp, .long y :: .long x :: st => some (.int (lg_cmp x y) :: st)
  | .dup, v :: st => if v.category = 1 then some (v :: v :: st) else none
  | .pop, v :: st => if v.category = 1 then some st else none
  | .dup2, v :: w :: st => if v.category = 1 ∧ w.category = 1 then some (v :: w :: v :: w :: st) else none
  | .i2d, .int x :: st => some (.double (FP.i2d x) :: st)
  | .i2f, .int x :: st => some (.float (FP.i2f x) :: st)
  | .ddiv, .double y :: .double x :: st => if FP.ddiv x y &&& 0x7fffffffffffffff ≤ 0x7ff0000000000000 then some (.double (FP.ddiv x y) :: st) else none
  | .fdiv, .float y :: .float x :: st => if FP.fdiv x y &&& 0x7fffffff ≤ 0x7f800000 then some (.float (FP.fdiv x y) :: st) else none
  | .f2d, .float x :: st => if FP.f2d x &&& 0x7fffffffffffffff ≤ 0x7ff0000000000000 then some (.double (FP.f2d x) :: st) else none
  | .dcmp op, .double y :: .double x :: st => some (.int (Op.cmpValue (FP.dcmp x y) op) :: st)
  | .fcmp op, .float y :: .float x :: st => some (.int (Op.cmpValue (FP.fcmp x y) op) :: st)
  | .fconst 0, st => some (.float FP.fconst0 :: st)
  | _, _ => none
/-- a place of the locals -/
def px_get (L : px_L) (i : Nat) : Option Value := (L[i]?).getD none
/-- no long or double stands just ahead of the place -/
def px_c2 (L : px_L) (i : Nat) : Bool := match i with
  | 0 => true
  | j + 1 => match (L[j]?).getD none with
    | some v => decide (v.category = 1)
    | none => true
def px_st1 (L : px_L) (i : Nat) (v : Value) : Option px_L := if i < L.length ∧ px_c2 L i = true ∧ v.category = 1 then some (L.set i (some v)) else none
def px_st2 (L : px_L) (i : Nat) (v : Value) : Option px_L := if i + 1 < L.length ∧ px_c2 L i = true ∧ v.category = 2 then some ((L.set i (some v)).set (i + 1) none) else none
/-- loads and stores -/
def px_ls (i : ClassFile.Instr) (L : px_L) (st : List Value) : Option (px_L × List Value) := match i, st with
  | .iload_n k, st => match px_get L k with | some (.int x) => some (L, .int x :: st) | _ => none
  | .iload k, st => match px_get L k with | some (.int x) => some (L, .int x :: st) | _ => none
  | .lload_n k, st => match px_get L k with | some (.long x) => some (L, .long x :: st) | _ => none
  | .lload k, st => match px_get L k with | some (.long x) => some (L, .long x :: st) | _ => none
  | .fload k, st => match px_get L k with | some (.float x) => some (L, .float x :: st) | _ => none
  | .dload k, st => match px_get L k with | some (.double x) => some (L, .double x :: st) | _ => none
  | .aload_n k, st => match px_get L k with | some (.ref x) => some (L, .ref x :: st) | some (.retAddr 0) => some (L, .retAddr 0 :: st) | _ => none
  | .aload k, st => match px_get L k with | some (.ref x) => some (L, .ref x :: st) | some (.retAddr 0) => some (L, .retAddr 0 :: st) | _ => none
  | .istore_n k, .int x :: st => (px_st1 L k (.int x)).map (fun L => (L, st))
  | .istore k, .int x :: st => (px_st1 L k (.int x)).map (fun L => (L, st))
  | .lstore_n k, .long x :: st => (px_st2 L k (.long x)).map (fun L => (L, st))
  | .lstore k, .long x :: st => (px_st2 L k (.long x)).map (fun L => (L, st))
  | .fstore k, .float x :: st => (px_st1 L k (.float x)).map (fun L => (L, st))
  | .dstore k, .double x :: st => (px_st2 L k (.double x)).map (fun L => (L, st))
  | .astore_n k, .ref x :: st => (px_st1 L k (.ref x)).map (fun L => (L, st))
  | .astore k, .ref x :: st => (px_st1 L k (.ref x)).map (fun L => (L, st))
  | .iinc k n, st => match px_get L k with | some (.int x) => (px_st1 L k (.int (x + Int32.ofInt n))).map (fun L => (L, st)) | _ => none
  | _, _ => none
def px_cond (c : ClassFile.Cond) (x y : Int32) : Bool := match c with
  | .eq => decide (x = y)
  | .ne => decide (x ≠ y)
  | .lt => decide (x < y)
  | .ge => decide (y ≤ x)
  | .gt => decide (y < x)
  | .le => decide (x ≤ y)
/-- jumps: where to, and the stack -/
def px_jp (i : ClassFile.Instr) (pc len : Nat) (st : List Value) : Option (Nat × List Value) := match i, st with
  | .goto o, st => some (((pc : Int) + o).toNat, st)
  | .ifCond c o, .int x :: st => some (if px_cond c x 0 then ((pc : Int) + o).toNat else pc + len, st)
  | .if_icmp c o, .int y :: .int x :: st => some (if px_cond c x y then ((pc : Int) + o).toNat else pc + len, st)
  | .tableswitch d lo hi offs, .int x :: st => if x.toInt < lo ∨ hi < x.toInt then some (((pc : Int) + d).toNat, st) else (offs[(x.toInt - lo).toNat]?).map (fun o => (((pc : Int) + o).toNat, st))
  | _, _ => none
/-- a jump goes to a place of the code -/
def px_jq (i : ClassFile.Instr) (pc : Nat) : Bool := match i with
  | .goto o => decide (0 ≤ (pc : Int) + o)
  | .ifCond _ o => decide (0 ≤ (pc : Int) + o)
  | .if_icmp _ o => decide (0 ≤ (pc : Int) + o)
  | .tableswitch d _ _ offs => decide (0 ≤ (pc : Int) + d) && offs.all (fun o => decide (0 ≤ (pc : Int) + o))
  | _ => true
/-- what may be stored in a field of a type -/
def px_fit (ty : FieldType) (v : Value) : Bool := match ty, v with
  | .int, .int _ => true
  | .long, .long _ => true
  | .boolean, .int x => decide (x = 0) || decide (x = 1)
  | .object _, .ref _ => true
  | .array _, .ref _ => true
  | _, _ => false
def px_ty (c k : Nat) : FieldType := match c with
  | 0 => tyX0 k
  | 1 => tyX2 k
  | 2 => tyX3 k
  | 3 => tyX4 k
  | 4 => tyX5 k
  | 5 => tyX6 k
  | 6 => tyX7 k
  | 7 => tyX9 k
  | _ => tyX10 k
def px_N (c : Nat) : Nat := match c with
  | 0 => 4
  | 1 => 8
  | 2 => 3
  | 3 => 10
  | 4 => 4
  | 5 => 9
  | 6 => 8
  | 7 => 9
  | _ => 32
def px_T (c : Nat) : u_T := match c with
  | 0 => TX0
  | 1 => TX2
  | 2 => TX3
  | 3 => TX4
  | 4 => TX5
  | 5 => TX6
  | 6 => TX7
  | 7 => TX9
  | _ => TX10
def px_new (c : Nat) : List Value := (List.range (px_N c)).map (fun k => defaultValue (px_ty c k))
/-- arrays of references: of which class -/
def px_qc (t : Nat) : Nat := match t with
  | 2 => 1
  | 3 => 6
  | _ => 4
/-- the instructions of the heap: 'ini' in a constructor, c the method's class; (L, xs) is the script -/
def px_hp (c : Nat) (ini : Bool) (L : Nat) (xs : Nat → Int32) (i : ClassFile.Instr) (st : List Value) (h : px_H) : Option (List Value × px_H) := match i, st with
  | .getfield x, .ref a :: st => match (pt_F c).lookup x, h.1[a]? with
    | some (ci, k, _), some (.inr (cj, fs)) => if cj = ci then (fs[k]?).map (fun v => (v :: st, h)) else none
    | _, _ => none
  | .putfield x, v :: .ref a :: st => match (pt_F c).lookup x, h.1[a]? with
    | some (ci, k, _), some (.inr (cj, fs)) => if cj = ci ∧ k < fs.length ∧ px_fit (px_ty ci k) v = true ∧ ((px_T ci k).2.2.2 = false ∨ (ini = true ∧ (px_T ci k).1 = pt_own c)) then some (st, (h.1.set a (.inr (ci, fs.set k v)), h.2)) else none
    | _, _ => none
  | .iaload, .int i :: .ref a :: st => match h.1[a]? with
    | some (.inl (0, n, .inl f)) => if px_in i n then some (.int (f i.toNatClampNeg) :: st, h) else none
    | _ => none
  | .iaload, .int i :: .retAddr 0 :: st => if px_in i L then some (.int (xs i.toNatClampNeg) :: st, h) else none
  | .arraylength, .retAddr 0 :: st => some (.int (Int32.ofNat L) :: st, h)
  | .baload, .int i :: .ref a :: st => match h.1[a]? with
    | some (.inl (1, n, .inl f)) => if px_in i n then some (.int (f i.toNatClampNeg) :: st, h) else none
    | _ => none
  | .laload, .int i :: .ref a :: st => match h.1[a]? with
    | some (.inl (5, n, .inr (.inl f))) => if px_in i n then some (.long (f i.toNatClampNeg) :: st, h) else none
    | _ => none
  | .daload, .int i :: .ref a :: st => match h.1[a]? with
    | some (.inl (6, n, .inr (.inr (.inr (.inl f))))) => if px_in i n then some (.double (f i.toNatClampNeg) :: st, h) else none
    | _ => none
  | .aaload, .int i :: .ref a :: st => match h.1[a]? with
    | some (.inl (t, n, .inr (.inr (.inr (.inr f))))) => if px_in i n ∧ 2 ≤ t ∧ t ≤ 4 then some (va_rf (f i.toNatClampNeg) :: st, h) else none
    | _ => none
  | .iastore, .int x :: .int i :: .ref a :: st => match h.1[a]? with
    | some (.inl (0, n, .inl f)) => if px_in i n then some (st, (h.1.set a (.inl (0, n, .inl (upd f i.toNatClampNeg x))), h.2)) else none
    | _ => none
  | .bastore, .int x :: .int i :: .ref a :: st => match h.1[a]? with
    | some (.inl (1, n, .inl f)) => if px_in i n then some (st, (h.1.set a (.inl (1, n, .inl (upd f i.toNatClampNeg (vp_nar .byte x)))), h.2)) else none
    | _ => none
  | .lastore, .long x :: .int i :: .ref a :: st => match h.1[a]? with
    | some (.inl (5, n, .inr (.inl f))) => if px_in i n then some (st, (h.1.set a (.inl (5, n, .inr (.inl (vp_updL f i.toNatClampNeg x)))), h.2)) else none
    | _ => none
  | .dastore, .double x :: .int i :: .ref a :: st => match h.1[a]? with
    | some (.inl (6, n, .inr (.inr (.inr (.inl f))))) => if px_in i n then some (st, (h.1.set a (.inl (6, n, .inr (.inr (.inr (.inl (vf_upd f i.toNatClampNeg x)))))), h.2)) else none
    | _ => none
  | .aastore, .ref v :: .int i :: .ref a :: st => match h.1[a]?, h.1[v]? with
    | some (.inl (t, n, .inr (.inr (.inr (.inr f))))), some (.inr (cv, _)) => if px_in i n ∧ 2 ≤ t ∧ t ≤ 4 ∧ cv = px_qc t then some (st, (h.1.set a (.inl (t, n, .inr (.inr (.inr (.inr (va_up f i.toNatClampNeg (some v))))))), h.2)) else none
    | _, _ => none
  | .new x, st => match (pt_N c).lookup x with
    | some (ci, _) => if h.2.2.2 = true then some (.ref h.1.length :: st, (h.1 ++ [.inr (ci, px_new ci)], h.2.1, h.2.2.1 + px_N ci, true)) else none
    | none => none
  | .newarray t, .int n :: st => if h.2.2.2 = true ∧ ¬ n < 0 ∧ n.toNatClampNeg ≤ 100000 then (match t with
    | .int => some (.ref h.1.length :: st, (h.1 ++ [.inl (0, n.toNatClampNeg, .inl (fun _ => 0))], h.2.1, h.2.2.1 + n.toNatClampNeg, true))
    | .byte => some (.ref h.1.length :: st, (h.1 ++ [.inl (1, n.toNatClampNeg, .inl (fun _ => 0))], h.2.1, h.2.2.1 + n.toNatClampNeg, true))
    | .long => some (.ref h.1.length :: st, (h.1 ++ [.inl (5, n.toNatClampNeg, .inr (.inl (fun _ => 0)))], h.2.1, h.2.2.1 + n.toNatClampNeg, true))
    | .double => some (.ref h.1.length :: st, (h.1 ++ [.inl (6, n.toNatClampNeg, .inr (.inr (.inr (.inl (fun _ => 0)))))], h.2.1, h.2.2.1 + n.toNatClampNeg, false))
    | _ => none) else none
  | .anewarray x, .int n :: st => match (pt_N c).lookup x with
    | some (ci, _) => if h.2.2.2 = true ∧ ¬ n < 0 ∧ n.toNatClampNeg ≤ 100000 then (match ci with
      | 1 => some (.ref h.1.length :: st, (h.1 ++ [.inl (2, n.toNatClampNeg, .inr (.inr (.inr (.inr (fun _ => none)))))], h.2.1, h.2.2.1 + n.toNatClampNeg, true))
      | 6 => some (.ref h.1.length :: st, (h.1 ++ [.inl (3, n.toNatClampNeg, .inr (.inr (.inr (.inr (fun _ => none)))))], h.2.1, h.2.2.1 + n.toNatClampNeg, true))
      | 4 => some (.ref h.1.length :: st, (h.1 ++ [.inl (4, n.toNatClampNeg, .inr (.inr (.inr (.inr (fun _ => none)))))], h.2.1, h.2.2.1 + n.toNatClampNeg, true))
      | _ => none) else none
    | none => none
  | .ldc x, st => match (pt_K c).lookup x with
    | some (.int v, _) => some (.int v :: st, h)
    | some (.float v, _) => some (.float v :: st, h)
    | _ => none
  | .ldc_w x, st => match (pt_K c).lookup x with
    | some (.int v, _) => some (.int v :: st, h)
    | some (.float v, _) => some (.float v :: st, h)
    | _ => none
  | .ldc2_w x, st => match (pt_K c).lookup x with
    | some (.long v, _) => some (.long v :: st, h)
    | _ => none
  | .invokespecial x, .ref _ :: st => match (pt_M c).lookup x with
    | some (5, _) => if (st.map fun v => v.category).sum ≤ 8 then some (st, h) else none
    | _ => none
  | .invokestatic x, .int n :: .int dp :: .ref a :: .int sp :: .ref a0 :: st => match (pt_M c).lookup x, h.1[a0]?, h.1[a]? with
    | some (6, _), some (.inl (0, n0, .inl f)), some (.inl (0, n1, .inl g)) => if ¬ sp < 0 ∧ ¬ dp < 0 ∧ ¬ n < 0 ∧ sp.toNatClampNeg + n.toNatClampNeg ≤ n0 ∧ dp.toNatClampNeg + n.toNatClampNeg ≤ n1 ∧ (st.map fun v => v.category).sum ≤ 8 then some (st, (h.1.set a (.inl (0, n1, .inl (va_cpy f g sp.toNatClampNeg dp.toNatClampNeg n.toNatClampNeg))), h.2)) else none
    | _, _, _ => none
  | _, _ => none
/-- answers -/
def px_ret (rt : Option FieldType) (i : ClassFile.Instr) (st : List Value) : Option (Option Value) := match i, st, rt with
  | .return_, [], none => some none
  | .ireturn, [.int v], some .int => some (some (.int v))
  | .ireturn, [.int v], some .boolean => if v = 0 ∨ v = 1 then some (some (.int v)) else none
  | .ireturn, [.int v], some .char => if v.toUInt32.toUInt16.toUInt32.toInt32 = v then some (some (.int v)) else none
  | .lreturn, [.long v], some .long => some (some (.long v))
  | .freturn, [.float v], some .float => some (some (.float v))
  | .dreturn, [.double v], some .double => some (some (.double v))
  | _, _, _ => none
/-- calls: the kind, the method, its arguments, the rest of the stack -/
def px_ca (c : Nat) (i : ClassFile.Instr) (st : List Value) (h : px_H) : Option (Nat × Nat × List Value × List Value) := match i with
  | .invokevirtual x => match (pt_M c).lookup x with
    | some (0, j, n, _) => match pt_mt[j]?, st.drop n with
      | some r, .ref b :: rest => match h.1[b]? with
        | some (.inr (ci, _)) => if ci = pt_ob (px_cl r) ∧ n ≤ st.length ∧ (rest.map fun v => v.category).sum ≤ 8 then some (0, j, .ref b :: (st.take n).reverse, rest) else none
        | _ => none
      | _, _ => none
    | _ => none
  | .invokestatic x => match (pt_M c).lookup x with
    | some (k, j, n, _) => if (k = 1 ∨ k = 3 ∨ k = 7) ∧ n ≤ st.length ∧ ((st.drop n).map fun v => v.category).sum ≤ 8 then some (k, j, (st.take n).reverse, st.drop n) else none
    | _ => none
  | .invokespecial x => match (pt_M c).lookup x with
    | some (k, j, n, _) => match st.drop n with
      | .ref b :: rest => if (k = 2 ∨ k = 4) ∧ n ≤ st.length ∧ (rest.map fun v => v.category).sum ≤ 8 then some (k, j, .ref b :: (st.take n).reverse, rest) else none
      | _ => none
    | _ => none
  | _ => none
/-- 'throw new E(text)' at this place: the class -/
def px_th (c : Nat) (C : px_C) (pc : Nat) (st : List Value) : Option String := match px_at C pc, px_at C (pc + 3), px_at C (pc + 4) with
  | some (.new ik, 3), some (.dup, 1), some (.ldc is, 2) => match px_at C (pc + 6), px_at C (pc + 9), (pt_T c).lookup is with
    | some (.invokespecial ic, 3), some (.athrow, 1), some (ik', ic', E, _) => if ik = ik' ∧ ic = ic' ∧ (st.map fun v => v.category).sum ≤ 8 then some E else none
    | _, _, _ => none
  | some (.new ik, 3), some (.dup, 1), some (.ldc_w is, 3) => match px_at C (pc + 7), px_at C (pc + 10), (pt_T c).lookup is with
    | some (.invokespecial ic, 3), some (.athrow, 1), some (ik', ic', E, _) => if ik = ik' ∧ ic = ic' ∧ (st.map fun v => v.category).sum ≤ 8 then some E else none
    | _, _, _ => none
  | _, _, _ => none
/-- the handler for E thrown at pc: where it is -/
def px_ha (c : Nat) (hh : List (Nat × Nat × Nat × Nat)) (pc : Nat) (E : String) : Option Nat := match hh with
  | [] => none
  | (lo, hi, t, x) :: hh => if lo ≤ pc ∧ pc < hi then (match (pt_E c).lookup x with
    | some (nm, _) => if nm = E then some t else px_ha c hh pc E
    | none => none) else px_ha c hh pc E
/-- a handler begins by laying the thrown object into a local, which nobody reads -/
def px_hs (C : px_C) (t : Nat) (L : px_L) : Option (Nat × px_L) := match px_at C t with
  | some (.astore k, len) => if k < L.length ∧ px_c2 L k = true then some (t + len, L.set k none) else none
  | some (.astore_n k, len) => if (k : Nat) < L.length ∧ px_c2 L k = true then some (t + len, L.set k none) else none
  | _ => none
def px_in0 (n : Nat) (As : List Value) : px_L := let l := As.flatMap (fun v => if v.category = 2 then [some v, none] else [some v]); l ++ List.replicate (n - l.length) none
/-- the run of method k from a place, with fuel: what it answers or throws, and the heap then -/
def px_ex (S : Nat) (xs : Nat → Int32) : Nat → Nat → Nat → px_L → List Value → px_H → Option ((Option Value ⊕ String) × px_H)
  | 0, _, _, _, _, _ => none
  | n + 1, k, pc, L, st, h => match pt_mt[k]? with
    | none => none
    | some r => match px_at (px_co r) pc with
      | none => none
      | some (i, len) => match px_op i st with
        | some st' => px_ex S xs n k (pc + len) L st' h
        | none => match px_ls i L st with
          | some (L', st') => px_ex S xs n k (pc + len) L' st' h
          | none => match px_jp i pc len st with
            | some (pc', st') => if px_jq i pc then px_ex S xs n k pc' L st' h else none
            | none => match px_ret (px_rt r) i st with
              | some v => some (.inl v, h)
              | none => match px_ca (px_cl r) i st h with
                | some (kd, j, As, rest) => match pt_mt[j]? with
                  | none => none
                  | some rj => if (px_in0 (px_mx rj) As).length ≠ px_mx rj then none else match px_ex S xs n j 0 (px_in0 (px_mx rj) As) [] h with
                    | none => none
                    | some (.inl v, h1) => px_ex S xs n k (pc + 3) L (v.toList ++ rest) h1
                    | some (.inr E, h1) => if ¬ (kd = 0 ∨ kd = 1 ∨ kd = 7) then none else match px_ha (px_cl r) (px_hh r) pc E with
                      | none => some (.inr E, h1)
                      | some t => match px_hs (px_co r) t L with
                        | none => none
                        | some (pc', L') => px_ex S xs n k pc' L' [] h1
                | none => match px_th (px_cl r) (px_co r) pc st with
                  | some E => if (px_hh r).isEmpty then some (.inr E, (h.1, h.2.1 + 1, h.2.2.1 + 6, false)) else none
                  | none => match px_hp (px_cl r) (decide ((px_y r).name = "<init>")) S xs i st h with
                    | some (st', h') => px_ex S xs n k (pc + len) L st' h'
                    | none => none
/-- the length of an instruction (a tableswitch apart) -/
def px_len (i : ClassFile.Instr) : Nat := match i with
  | .bipush _ => 2
  | .iload _ => 2
  | .lload _ => 2
  | .fload _ => 2
  | .dload _ => 2
  | .aload _ => 2
  | .istore _ => 2
  | .lstore _ => 2
  | .fstore _ => 2
  | .dstore _ => 2
  | .astore _ => 2
  | .newarray _ => 2
  | .ldc _ => 2
  | .sipush _ => 3
  | .iinc _ _ => 3
  | .goto _ => 3
  | .ifCond _ _ => 3
  | .if_icmp _ _ => 3
  | .getfield _ => 3
  | .putfield _ => 3
  | .invokevirtual _ => 3
  | .invokestatic _ => 3
  | .invokespecial _ => 3
  | .new _ => 3
  | .anewarray _ => 3
  | .ldc_w _ => 3
  | .ldc2_w _ => 3
  | _ => 1
/-! what is checked of the tables -/
def px_Cn (c : Nat) : String := match c with
  | 0 => RX0
  | 1 => RX2
  | 2 => RX3
  | 3 => RX4
  | 4 => RX5
  | 5 => RX6
  | 6 => RX7
  | 7 => RX9
  | _ => RX10
def px_wd (k : Nat) (w : Cond) : Bool := decide ((px_rls.getD (k / 64) [])[k % 64]? = some w)
def px_okF (c : Nat) (e : Nat × Nat × Nat × Nat) : Bool := decide (e.2.1 < 9) && decide (e.2.2.1 < px_N e.2.1) && px_wd e.2.2.2 (.fieldLink (pt_own c) e.1 (px_T e.2.1 e.2.2.1).1 (px_T e.2.1 e.2.2.1).2.1 (px_T e.2.1 e.2.2.1).2.2.1)
def px_okN (c : Nat) (e : Nat × Nat × Nat × Nat × Nat) : Bool := decide (e.2.1 < 9) && px_wd e.2.2.1 (.classLink (pt_own c) e.1 (px_Cn e.2.1)) && px_wd e.2.2.2.1 (.instantiable (px_Cn e.2.1) (px_N e.2.1)) && px_wd e.2.2.2.2 (.initialized (px_Cn e.2.1))
def px_okK (c : Nat) (e : Nat × Value × Nat) : Bool := match e.2.1 with
  | .int v => px_wd e.2.2 (.constant (pt_own c) e.1 v)
  | .long v => px_wd e.2.2 (.constantLong (pt_own c) e.1 v)
  | .float v => px_wd e.2.2 (.constantFloat (pt_own c) e.1 v)
  | _ => false
def px_okE (c : Nat) (e : Nat × String × Nat) : Bool := px_wd e.2.2 (.classLink (pt_own c) e.1 e.2.1)
def px_head (r : px_R) : Cond := if (px_hh r).isEmpty then .code (px_y r) (px_b r) (px_mx r) (px_rt r) else .codeWith (px_y r) (px_b r) (px_mx r) (px_rt r) (px_hh r)
def px_okY (r : px_R) (n : Nat) : Bool := decide (px_hd r ≠ 9999) && decide (px_ar r = n)
def px_okM (c : Nat) (e : Nat × Nat × Nat × Nat × List Nat) : Bool := match e with
  | (x, 5, _, _, [a, b, d]) => px_wd a (.methodLink (pt_own c) x objectInit) && px_wd b (.instanceMethod objectInit) && px_wd d (.code objectInit ⟨#[0xb1]⟩ 1 none)
  | (x, 6, _, _, [a, b, d, f]) => px_wd a (.methodLink (pt_own c) x arraycopyName) && px_wd b (.native arraycopyName) && px_wd d (.static arraycopyName) && px_wd f (.initialized "java/lang/System")
  | (x, 0, j, n, [a, b, d, f]) => match pt_mt[j]? with
    | some r => px_okY r n && (px_hh r).isEmpty && decide (pt_ob (px_cl r) < 9) && px_wd a (.methodLink (pt_own c) x (px_y r)) && px_wd b (.instanceMethod (px_y r)) && px_wd d (.selects (pt_own (px_cl r)) (px_y r) (px_y r)) && px_wd f (.initialized (pt_own (px_cl r)))
    | none => false
  | (x, 1, j, n, [a, b, d]) => match pt_mt[j]? with
    | some r => px_okY r n && (px_hh r).isEmpty && px_wd a (.methodLink (pt_own c) x (px_y r)) && px_wd b (.static (px_y r)) && px_wd d (.initialized (pt_own (px_cl r)))
    | none => false
  | (x, 7, j, n, [a, b, d]) => match pt_mt[j]? with
    | some r => px_okY r n && !(px_hh r).isEmpty && px_wd a (.methodLink (pt_own c) x (px_y r)) && px_wd b (.static (px_y r)) && px_wd d (.initialized (pt_own (px_cl r)))
    | none => false
  | (x, 2, j, n, [a, b, d]) => match pt_mt[j]? with
    | some r => px_okY r n && (px_hh r).isEmpty && decide ((px_y r).name = "<init>") && decide (px_rt r = none) && px_wd a (.methodLink (pt_own c) x (px_y r)) && px_wd b (.instanceMethod (px_y r)) && px_wd d (.initialized (pt_own (px_cl r)))
    | none => false
  | (x, 3, j, n, [b, d]) => match pt_mt[j]? with
    | some r => px_okY r n && (px_hh r).isEmpty && decide ((pt_own c, x, px_y r, "DateHem") ∈ px_nests) && px_wd b (.static (px_y r)) && px_wd d (.initialized (pt_own (px_cl r)))
    | none => false
  | (x, 4, j, n, [b, d]) => match pt_mt[j]? with
    | some r => px_okY r n && (px_hh r).isEmpty && decide ((px_y r).name = "<init>") && decide (px_rt r = none) && decide ((pt_own c, x, px_y r, "DateHem") ∈ px_nests) && px_wd b (.instanceMethod (px_y r)) && px_wd d (.initialized (pt_own (px_cl r)))
    | none => false
  | _ => false
def px_lenOk (i : ClassFile.Instr) (len : Nat) : Bool := match i with
  | .tableswitch _ _ _ _ => true
  | i => decide (len = px_len i)
/-- the room of what an instruction calls -/
def px_rk (r : px_R) (i : ClassFile.Instr) : Bool := match i with
  | .invokevirtual x | .invokestatic x | .invokespecial x => match (pt_M (px_cl r)).lookup x with
    | some (k, j, _) => if k = 5 then decide (1 ≤ px_fr r) && decide (20 ≤ px_lo r) else if k = 6 then decide (1 ≤ px_fr r) && decide (8 + (nativeFrameWords "java/lang/System" "arraycopy" 5 + 11) ≤ px_lo r) else match pt_mt[j]? with
      | some rj => decide (px_fr rj + 1 ≤ px_fr r) && decide (8 + (px_mx rj + 11) + px_lo rj ≤ px_lo r)
      | none => false
    | none => true
  | .new x => match (pt_E (px_cl r)).lookup x with
    | some _ => decide (6 ≤ px_fr r) && decide (90 ≤ px_lo r)
    | none => true
  | _ => true
def px_exs : List String := ["java/lang/IllegalStateException", "java/lang/IllegalArgumentException", "java/lang/IndexOutOfBoundsException"]
def px_sup : List String := ["java/lang/RuntimeException", "java/lang/Exception"]
def px_okE2 (e : Nat × String × Nat) : Bool := decide (e.1 ≠ 0) && decide (e.2.1 ∈ px_exs)
def px_icE (ic : Nat) (E : String) : Bool := decide ((ic, E) ∈ [(76, "java/lang/IllegalStateException"), (89, "java/lang/IllegalArgumentException"), (375, "java/lang/IndexOutOfBoundsException")])
def px_okT (c : Nat) (e : Nat × Nat × Nat × String × String) : Bool := decide (pt_own c = RX9) && px_icE e.2.2.1 e.2.2.2.1 && (match (pt_E c).lookup e.2.1 with
  | some q => decide (q.1 = e.2.2.2.1)
  | none => false)
def px_okR (r : px_R) : Bool := (px_hh r).all (fun w => ((pt_E (px_cl r)).lookup w.2.2.2).isSome) && (px_co r).all (fun c => c.all (fun q => px_lenOk q.2.1 q.2.2 && px_rk r q.2.1)) && plainFor (px_y r) && (decide ((px_y r).cls ≠ "java/lang/invoke/MethodHandle") && decide ((px_y r).cls ≠ "java/lang/invoke/VarHandle") && decide ((parseMethodDescriptor (px_y r).desc).map (fun d => d.parameters.length) = some (px_ar r)) && (px_wd (px_hd r) (px_head r) || decide (px_hd r = 9999))) && decide ((px_y r).cls = pt_own (px_cl r))
def px_sure (r : px_R) : Prop := (∀ c ∈ px_co r, ∀ q ∈ c, decode (px_b r) q.1 = .ok q.2) ∧ px_okR r = true
