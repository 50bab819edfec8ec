/-! the abstract machine: one step, runs -/
abbrev aK : Type := Nat × aL × List Value × aH
abbrev aR : Type := Option Value × aH
abbrev aX : Type := Nat × List Value × aK
abbrev aS : Type := aK ⊕ aR ⊕ aX
def am_cd (m : aM) (pc : Nat) : Option aI := m.2.2.2.2.2.lookup pc
def am_nx (np : Nat) (L : aL) (S : List Value) (h : aH) : Option aS := some (.inl (np, L, S, h))
def am_ld (L : aL) (i : Nat) : Option Value := L[i]?.join
/-- no long lies in the local ahead -/
def am_nl (L : aL) (i : Nat) : Bool := match i with
  | 0 => true
  | j + 1 => match L[j]? with
    | some (some v) => v.category == 1
    | _ => true
def am_ix {α : Type} (l : List α) (i : Int32) : Option α := if i < 0 then none else l[i.toNatClampNeg]?
/-- the class's three tables -/
def am_t0 : List Int32 := [1, 0, 0, 0, 2, 1, 0, 0, 2, 0, 0, 1, 0, 0, 2, 1, 0, 2, 0, 0, 0, 1, 0, 2, 0, 0, 0, 1, 0, 2, 1, 2, 0, 0, 0, 0, 1, 2, 0, 0, 0, 0, 1, 2, 0, 0, 0, 0, 1, 2, 2, 1, 0, 0, 0, 0, 2, 1, 0, 0, 0, 0, 2, 1, 0, 0, 0, 0, 2, 1, 2, 0, 1, 0, 0, 0, 2, 0, 1, 0, 0, 0, 2, 0, 1, 2, 0, 0, 1, 0, 0, 2, 0, 0, 1, 2, 0, 0, 0, 1, 1, 0, 0, 0, 0, 0, 1, 0, 0, 0, 0, 0, 1, 0, 0, 0, 0, 0, 1, 0, 0, 0, 0, 0, 1, 2, 0, 0, 0, 0, 0, 2, 0, 0, 0, 0, 0, 2, 0, 0, 0, 0, 0, 2, 0, 0, 0, 0, 0, 2, 0, 0, 0, 0, 0]
def am_t1 : List Int32 := [31, 6, 3, 1, 0, 10, 31, 7, 4, 2, 14, 11, 31, 8, 5, 17, 15, 12, 31, 9, 19, 18, 16, 13, 31]
def am_t2 : List Int32 := [0, 1, 8, 2, 3, 4, 5, 6, 7, 5, 8, 9, 10, 11, 12, 13, 8, 14, 15, 16, 18, 17, 18, 15, 19, 15]
def am_sta : List (List Int32) := [am_t0, am_t1, am_t2]
/-- the bytes of the class's text -/
def am_tx : List Int32 := [110, 49, 44, 49, 59, 110, 51, 44, 50, 59, 106, 51, 59, 109, 81, 85, 65, 75, 69, 82, 59, 109, 83, 76, 79, 85, 71, 72, 59, 109, 76, 65, 84, 69, 59]
def am_arr (h : aH) (a : Nat) : Option (Nat × List Int32) :=
  if a < 100000 then (match h[a]? with
    | some (.inl x) => some x
    | _ => none)
  else (am_sta[a - 100000]?).map (fun l => (0, l))
def am_b2 (i : Instr) (x y : Int32) : Option Int32 := match i with
  | .iadd => some (x + y)
  | .isub => some (x - y)
  | .imul => some (x * y)
  | .iand => some (x &&& y)
  | .ior => some (x ||| y)
  | .ixor => some (x ^^^ y)
  | .ishl => some (x <<< (y &&& 31))
  | .ishr => some (x >>> (y &&& 31))
  | .iushr => some (x.toUInt32 >>> (y.toUInt32 &&& Int32.toUInt32 31)).toInt32
  | .idiv => if y = 0 then none else some (x / y)
  | .irem => if y = 0 then none else some (x - x / y * y)
  | _ => none
def am_l2 (i : Instr) (x y : Int64) : Option Int64 := match i with
  | .ladd => some (x + y)
  | .lmul => some (x * y)
  | .land => some (x &&& y)
  | .lrem => if y = 0 then none else some (x - x / y * y)
  | _ => none
def am_c2 (c : ClassFile.Cond) (x y : Int32) : Bool := match c with
  | .eq => x == y
  | .ne => !(x == y)
  | .lt => decide (x < y)
  | .ge => decide (y ≤ x)
  | .gt => decide (y < x)
  | .le => decide (x ≤ y)
def am_tag (t : ArrayType) : Option Nat := match t with
  | .int => some 0
  | .char => some 1
  | .byte => some 2
  | _ => none
def am_sum (S : List Value) : Nat := (S.map fun v => v.category).sum
/-- the values with which objects begin -/
def am_df (ci : Nat) : List Value := match ci with
  | 0 => [.null, .null, .null, .int 0]
  | 1 => [.null, .null, .null, .int 0]
  | 2 => [.null, .int 0]
  | 3 => [.null, .null, .null, .null, .int 0, .int 0, .int 0]
  | 4 => [.null, .null, .int 0]
  | 5 => [.null, .null, .int 0, .int 0, .int 0]
  | 6 => [.null, .int 0]
  | 7 => [.null, .null, .null, .int 0, .null, .int 0]
  | _ => [.null, .null, .null, .null, .null, .null, .null, .null, .null]
def am_call (q : Nat × Nat × Nat × Nat × Nat) (np : Nat) (L : aL) (S : List Value) (h : aH) : Option aS :=
  let n := if q.2.2.2.1 = 1 ∨ q.2.2.2.1 = 4 ∨ q.2.2.2.1 = 9 ∨ q.2.2.2.1 = 10 then q.2.2.2.2 else q.2.2.2.2 + 1
  let as := (S.take n).reverse
  let rest := S.drop n
  if n ≤ S.length ∧ am_sum rest ≤ 8 then
    match q.2.2.2.1 with
    | 0 => match as with
      | .ref b :: _ => match h[b]? with
        | some (.inr (.inr (ci, _))) => if b < 100000 ∧ (am_tab[q.2.2.1]?).map (fun m => m.2.1) = some ci then some (.inr (.inr (q.2.2.1, as, np, L, rest, h))) else none
        | _ => none
      | _ => none
    | 1 => some (.inr (.inr (q.2.2.1, as, np, L, rest, h)))
    | 4 => some (.inr (.inr (q.2.2.1, as, np, L, rest, h)))
    | 2 => match as with
      | .ref _ :: _ => some (.inr (.inr (q.2.2.1, as, np, L, rest, h)))
      | _ => none
    | 5 => match as with
      | .ref _ :: _ => some (.inr (.inr (q.2.2.1, as, np, L, rest, h)))
      | _ => none
    | 6 => match as with
      | [.ref _] => am_nx np L rest h
      | _ => none
    | 7 => match as with
      | [.ref a] => if a = 100003 then am_nx np L (.int 35 :: rest) h else none
      | _ => none
    | 8 => match as with
      | [.ref a, .int i] => if a = 100003 then (match am_ix am_tx i with
          | some x => am_nx np L (.int x :: rest) h
          | none => none) else none
      | _ => none
    | 9 => match as with
      | [.int x, .int y] => am_nx np L (.int (if x < y then y else x) :: rest) h
      | _ => none
    | 10 => match as with
      | [.int x, .int y] => am_nx np L (.int (if y < x then y else x) :: rest) h
      | _ => none
    | _ => none
  else none
def am_put (m : aM) (q : Nat × Nat × Nat × Nat × FieldType × Bool) (np : Nat) (L : aL) (S : List Value) (h : aH) : Option aS := match S with
  | v :: .ref a :: S' => match h[a]? with
    | some (.inr (.inr (ci, fs))) => if a < 100000 ∧ ci = q.2.2.1 ∧ q.2.2.2.1 < fs.length ∧ narrow q.2.2.2.2.1 v = v ∧ fits q.2.2.2.2.1 v = true ∧ (q.2.2.2.2.2 = true → m.1.name = "<init>" ∧ q.1 = q.2.2.1) then am_nx np L S' (h.set a (.inr (.inr (ci, fs.set q.2.2.2.1 v)))) else none
    | _ => none
  | _ => none
def am_ast (t : Nat) (ty : FieldType) (np : Nat) (L : aL) (S : List Value) (h : aH) : Option aS := match S with
  | .int x :: .int i :: .ref a :: S' => match h[a]? with
    | some (.inl (t', l)) => if a < 100000 ∧ t' = t ∧ ¬ i < 0 ∧ i.toNatClampNeg < l.length then am_nx np L S' (h.set a (.inl (t, l.set i.toNatClampNeg (vp_nar ty x)))) else none
    | _ => none
  | _ => none
def am_ald (t : Nat) (np : Nat) (L : aL) (S : List Value) (h : aH) : Option aS := match S with
  | .int i :: .ref a :: S' => match am_arr h a with
    | some (t', l) => if t' = t then (match am_ix l i with
      | some x => am_nx np L (.int x :: S') h
      | none => none) else none
    | none => none
  | _ => none
def am_loadi (i np : Nat) (L : aL) (S : List Value) (h : aH) : Option aS := match am_ld L i with
  | some (.int x) => am_nx np L (.int x :: S) h
  | _ => none
def am_loadl (i np : Nat) (L : aL) (S : List Value) (h : aH) : Option aS := match am_ld L i with
  | some (.long x) => am_nx np L (.long x :: S) h
  | _ => none
def am_loada (i np : Nat) (L : aL) (S : List Value) (h : aH) : Option aS := match am_ld L i with
  | some (.ref x) => am_nx np L (.ref x :: S) h
  | _ => none
def am_stori (i np : Nat) (L : aL) (S : List Value) (h : aH) : Option aS := match S with
  | .int x :: S' => if i < L.length ∧ am_nl L i = true then am_nx np (L.set i (some (.int x))) S' h else none
  | _ => none
def am_storl (i np : Nat) (L : aL) (S : List Value) (h : aH) : Option aS := match S with
  | .long x :: S' => if i + 1 < L.length ∧ am_nl L i = true then am_nx np ((L.set i (some (.long x))).set (i + 1) none) S' h else none
  | _ => none
/-- a constant: numbers are nI k and -(nI k) -/
def am_kn (b : Nat) (n : Int) (r np : Nat) (L : aL) (S : List Value) (h : aH) : Option aS := match n with
  | .ofNat k => if k = r ∧ k < b then am_nx np L (.int (nI r) :: S) h else none
  | .negSucc k => if k + 1 = r ∧ k < b then am_nx np L (.int (-(nI r)) :: S) h else none
def am_iinc (i : Nat) (n : Int) (r np : Nat) (L : aL) (S : List Value) (h : aH) : Option aS := match am_ld L i with
  | some (.int x) => if am_nl L i = true then (match n with
    | .ofNat k => if k = r ∧ k < 128 then am_nx np (L.set i (some (.int (x + nI r)))) S h else none
    | .negSucc k => if k + 1 = r ∧ k < 128 then am_nx np (L.set i (some (.int (x - nI r)))) S h else none) else none
  | _ => none
def am_bin (i : Instr) (np : Nat) (L : aL) (S : List Value) (h : aH) : Option aS := match S with
  | .int y :: .int x :: S' => match am_b2 i x y with
    | some v => am_nx np L (.int v :: S') h
    | none => none
  | _ => none
def am_lin (i : Instr) (np : Nat) (L : aL) (S : List Value) (h : aH) : Option aS := match S with
  | .long y :: .long x :: S' => match am_l2 i x y with
    | some v => am_nx np L (.long v :: S') h
    | none => none
  | _ => none
def am_if (c : ClassFile.Cond) (np r : Nat) (L : aL) (S : List Value) (h : aH) : Option aS := match S with
  | .int x :: S' => am_nx (if am_c2 c x 0 then r else np) L S' h
  | _ => none
def am_icmp (c : ClassFile.Cond) (np r : Nat) (L : aL) (S : List Value) (h : aH) : Option aS := match S with
  | .int y :: .int x :: S' => am_nx (if am_c2 c x y then r else np) L S' h
  | _ => none
def am_jmp (pc : Nat) (off : Int) : Nat := ((pc : Int) + off).toNat
def am_tsw (pc : Nat) (d lo hi : Int) (offs : Array Int) (L : aL) (S : List Value) (h : aH) : Option aS := match S with
  | .int x :: S' => if x.toInt < lo ∨ hi < x.toInt then (if 0 ≤ (pc : Int) + d then am_nx (am_jmp pc d) L S' h else none)
    else match offs[(x.toInt - lo).toNat]? with
      | some off => if 0 ≤ (pc : Int) + off then am_nx (am_jmp pc off) L S' h else none
      | none => none
  | _ => none
def am_lsw (pc : Nat) (d : Int) (ps : Array (Int × Int)) (L : aL) (S : List Value) (h : aH) : Option aS := match S with
  | .int x :: S' => if (ps.toList.zip (ps.toList.drop 1)).all (fun (a, next) => a.1 < next.1) = true ∧ 0 ≤ (pc : Int) + Op.lookupswitch.offset ps.toList d x.toInt then am_nx (am_jmp pc (Op.lookupswitch.offset ps.toList d x.toInt)) L S' h else none
  | _ => none
def am_new (al : Bool) (r np : Nat) (L : aL) (S : List Value) (h : aH) : Option aS := match am_cs[r]? with
  | some q => if al = true ∧ h.length < 99999 then am_nx np L (.ref h.length :: S) (h ++ [.inr (.inr (q.2.2, am_df q.2.2))]) else none
  | none => none
def am_newa (al : Bool) (t : ArrayType) (np : Nat) (L : aL) (S : List Value) (h : aH) : Option aS := match S with
  | .int n :: S' => match am_tag t with
    | some g => if al = true ∧ h.length < 99999 ∧ ¬ n < 0 ∧ n.toNatClampNeg < 10000 then am_nx np L (.ref h.length :: S') (h ++ [.inl (g, List.replicate n.toNatClampNeg 0)]) else none
    | none => none
  | _ => none
def am_anew (al : Bool) (r np : Nat) (L : aL) (S : List Value) (h : aH) : Option aS := match S with
  | .int n :: S' => match am_cs[r]? with
    | some q => if al = true ∧ q.2.2 = 3 ∧ h.length < 99999 ∧ ¬ n < 0 ∧ n.toNatClampNeg < 10000 then am_nx np L (.ref h.length :: S') (h ++ [.inr (.inl (List.replicate n.toNatClampNeg none))]) else none
    | none => none
  | _ => none
def am_aald (np : Nat) (L : aL) (S : List Value) (h : aH) : Option aS := match S with
  | .int i :: .ref a :: S' => match h[a]? with
    | some (.inr (.inl l)) => match am_ix l i with
      | some (some x) => if a < 100000 then am_nx np L (.ref x :: S') h else none
      | _ => none
    | _ => none
  | _ => none
def am_aast (np : Nat) (L : aL) (S : List Value) (h : aH) : Option aS := match S with
  | .ref v :: .int i :: .ref a :: S' => match h[a]? with
    | some (.inr (.inl l)) => match h[v]? with
      | some (.inr (.inr (3, _))) => if a < 100000 ∧ v < 100000 ∧ ¬ i < 0 ∧ i.toNatClampNeg < l.length then am_nx np L S' (h.set a (.inr (.inl (l.set i.toNatClampNeg (some v))))) else none
      | _ => none
    | _ => none
  | _ => none
def am_get (q : Nat × Nat × Nat × Nat × FieldType × Bool) (np : Nat) (L : aL) (S : List Value) (h : aH) : Option aS := match S with
  | .ref a :: S' => match h[a]? with
    | some (.inr (.inr (ci, fs))) => match fs[q.2.2.2.1]? with
      | some v => if a < 100000 ∧ ci = q.2.2.1 then am_nx np L (v :: S') h else none
      | none => none
    | _ => none
  | _ => none
def am_ldc (i : Instr) (r np : Nat) (L : aL) (S : List Value) (h : aH) : Option aS := if r = 999 then am_nx np L (.ref 100003 :: S) h else match am_ks[r]? with
  | some (_, _, .inl v) => am_nx np L (.int v :: S) h
  | some (_, _, .inr v) => am_nx np L (.long v :: S) h
  | none => none
def am_un (i : Instr) (v : Value) : Option Value := match i, v with
  | .i2l, .int x => some (.long x.toInt64)
  | .l2i, .long x => some (.int x.toInt32)
  | .i2b, .int x => some (.int x.toInt8.toInt32)
  | .i2c, .int x => some (.int (x.toUInt32 % 65536).toInt32)
  | _, _ => none
def am_uno (i : Instr) (np : Nat) (L : aL) (S : List Value) (h : aH) : Option aS := match S with
  | v :: S' => match am_un i v with
    | some w => am_nx np L (w :: S') h
    | none => none
  | _ => none
def am_iret (m : aM) (S : List Value) (h : aH) : Option aS := match S with
  | [.int v] => match m.2.2.2.2.1 with
    | some ty => if narrow ty (.int v) = .int v then some (.inr (.inl (some (.int v), h))) else none
    | none => none
  | _ => none
def am_op (al : Bool) (m : aM) (i : Instr) (pc np r : Nat) (L : aL) (S : List Value) (h : aH) : Option aS := match i with
  | .iconst n => am_kn 128 n r np L S h
  | .bipush n => am_kn 128 n r np L S h
  | .sipush n => am_kn 10000 n r np L S h
  | .lconst n => am_nx np L (.long (Int64.ofNat n) :: S) h
  | .ldc _ => am_ldc i r np L S h
  | .ldc_w _ => am_ldc i r np L S h
  | .ldc2_w _ => am_ldc i r np L S h
  | .iload_n k => am_loadi k np L S h
  | .iload k => am_loadi k np L S h
  | .lload_n k => am_loadl k np L S h
  | .aload_n k => am_loada k np L S h
  | .aload k => am_loada k np L S h
  | .istore_n k => am_stori k np L S h
  | .istore k => am_stori k np L S h
  | .lstore_n k => am_storl k np L S h
  | .iinc k n => am_iinc k n r np L S h
  | .iadd => am_bin i np L S h
  | .isub => am_bin i np L S h
  | .imul => am_bin i np L S h
  | .iand => am_bin i np L S h
  | .ior => am_bin i np L S h
  | .ixor => am_bin i np L S h
  | .ishl => am_bin i np L S h
  | .ishr => am_bin i np L S h
  | .iushr => am_bin i np L S h
  | .idiv => am_bin i np L S h
  | .irem => am_bin i np L S h
  | .ladd => am_lin i np L S h
  | .lmul => am_lin i np L S h
  | .land => am_lin i np L S h
  | .lrem => am_lin i np L S h
  | .lshr => match S with
    | .int y :: .long x :: S' => am_nx np L (.long (x >>> (y.toInt64 &&& 63)) :: S') h
    | _ => none
  | .i2l => am_uno i np L S h
  | .l2i => am_uno i np L S h
  | .i2b => am_uno i np L S h
  | .i2c => am_uno i np L S h
  | .dup => match S with
    | v :: S' => if v.category = 1 then am_nx np L (v :: v :: S') h else none
    | _ => none
  | .dup2 => match S with
    | v :: w :: S' => if v.category = 1 ∧ w.category = 1 then am_nx np L (v :: w :: v :: w :: S') h else none
    | _ => none
  | .pop => match S with
    | v :: S' => if v.category = 1 then am_nx np L S' h else none
    | _ => none
  | .ifCond c _ => am_if c np r L S h
  | .if_icmp c _ => am_icmp c np r L S h
  | .goto _ => am_nx r L S h
  | .tableswitch d lo hi offs => am_tsw pc d lo hi offs L S h
  | .lookupswitch d ps => am_lsw pc d ps L S h
  | .iaload => am_ald 0 np L S h
  | .caload => am_ald 1 np L S h
  | .baload => am_ald 2 np L S h
  | .iastore => am_ast 0 .int np L S h
  | .castore => am_ast 1 .char np L S h
  | .bastore => am_ast 2 .byte np L S h
  | .aaload => am_aald np L S h
  | .aastore => am_aast np L S h
  | .arraylength => match S with
    | .ref a :: S' => match am_arr h a with
      | some (t, l) => if t < 3 then am_nx np L (.int (Int32.ofNat l.length) :: S') h else none
      | none => none
    | _ => none
  | .getfield _ => match am_fs[r]? with
    | some q => am_get q np L S h
    | none => none
  | .putfield _ => match am_fs[r]? with
    | some q => am_put m q np L S h
    | none => none
  | .getstatic _ => match am_ss[r]? with
    | some q => am_nx np L (.ref (100000 + q.2.2.1) :: S) h
    | none => none
  | .invokevirtual _ => match am_ms[r]? with
    | some q => am_call q np L S h
    | none => none
  | .invokestatic _ => match am_ms[r]? with
    | some q => am_call q np L S h
    | none => none
  | .invokespecial _ => match am_ms[r]? with
    | some q => am_call q np L S h
    | none => none
  | .new _ => am_new al r np L S h
  | .newarray t => am_newa al t np L S h
  | .anewarray _ => am_anew al r np L S h
  | .ireturn => am_iret m S h
  | .return_ => match S with
    | [] => match m.2.2.2.2.1 with
      | none => some (.inr (.inl (none, h)))
      | some _ => none
    | _ => none
  | _ => none
def am_stp (al : Bool) (m : aM) (k : aK) : Option aS := match am_cd m k.1 with
  | some (i, np, r) => am_op al m i k.1 np r k.2.1 k.2.2.1 k.2.2.2
  | none => none
def am_en (vs : List Value) : aL := vs.flatMap (fun v => if v.category = 2 then [some v, none] else [some v])
/-- a method's first locals -/
def am_ent (m : aM) (vs : List Value) : aL := am_en vs ++ List.replicate (m.2.2.2.1 - (am_en vs).length) none
def am_run (al : Bool) : Nat → Nat → aM → aK → Option aR
  | 0, _, _, _ => none
  | n + 1, d, m, k => match am_stp al m k with
    | none => none
    | some (.inl k') => am_run al n d m k'
    | some (.inr (.inl r)) => some r
    | some (.inr (.inr (c, as, k'))) => match d with
      | 0 => none
      | d' + 1 => match am_tab[c]? with
        | none => none
        | some m' => if (am_en as).length ≤ m'.2.2.2.1 then (match am_run al n d' m' (0, am_ent m' as, [], k'.2.2.2) with
          | none => none
          | some (v, h') => am_run al n (d' + 1) m (k'.1, k'.2.1, v.toList ++ k'.2.2.1, h')) else none
