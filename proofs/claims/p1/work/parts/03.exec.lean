/-! A RUN OF THE BYTECODE IN LISTS: a value '.ref k' is the k-th cell of the list, '.float u' the u-th unknown int, '.double u' an address that is no cell of the list -/
abbrev zE : Type := (Nat × Nat × List (Nat × Value)) ⊕ (Nat × List Value)
abbrev zL : Type := List (Nat × Value)
abbrev zN : Type := Nat × zL × List Value × List zE × Nat × Nat
abbrev zO : Type := Nat × Option Value × List zE × Nat × Nat
abbrev zF : Type := Option Int32 × List (Int × Int) × Nat × List (Option Int32)
def zcat : Value → Nat
  | .long _ => 2
  | _ => 1
def zisI : Value → Bool
  | .int _ => true
  | .float _ => true
  | _ => false
def zisR : Value → Bool
  | .ref _ => true
  | .null => true
  | .double _ => true
  | _ => false
def zisL : Value → Bool
  | .long _ => true
  | _ => false
def zdbl : Value → Bool
  | .double _ => true
  | _ => false
def zget : zL → Nat → Option Value
  | [], _ => none
  | q :: r, k => match Nat.beq q.1 k with
    | true => some q.2
    | false => zget r k
def zset (i : Nat) (v : Value) (ls : zL) : zL := (i, v) :: ls.filter (fun q => !(q.1 == i) && !(q.1 + 1 == i && zcat q.2 == 2))
def zset2 (i : Nat) (v : Value) (ls : zL) : zL := (i, v) :: ls.filter (fun q => !(q.1 == i) && (!(q.1 == i + 1) && !(q.1 + 1 == i && zcat q.2 == 2)))
def zload (f : Value → Bool) (k ip : Nat) (ls : zL) (st : List Value) (w : List zE) : Option zN := match zget ls k with
  | none => none
  | some v => match f v with
    | true => some (ip + 1, ls, v :: st, w, 0, 0)
    | false => none
def zstore (f : Value → Bool) (nL k ip : Nat) (ls : zL) (st : List Value) (w : List zE) : Option zN := match st with
  | v :: r => match f v && Nat.ble (k + 1) nL with
    | true => some (ip + 1, zset k v ls, r, w, 0, 0)
    | false => none
  | [] => none
def zstore2 (nL k ip : Nat) (ls : zL) (st : List Value) (w : List zE) : Option zN := match st with
  | v :: r => match zisL v && Nat.ble (k + 2) nL with
    | true => some (ip + 1, zset2 k v ls, r, w, 0, 0)
    | false => none
  | [] => none
def zpush (v : Value) (ip : Nat) (ls : zL) (st : List Value) (w : List zE) : Option zN := some (ip + 1, ls, v :: st, w, 0, 0)
/-- bounds of an int -/
def ziv (cf : zF) : Value → Option (Int × Int)
  | .int x => some (x.toInt, x.toInt)
  | .float u => cf.2.1[u.toNat]?
  | _ => none
def zcmpb (c : ClassFile.Cond) (l1 h1 l2 h2 : Int) : Option Bool := match c with
  | .lt => match decide (h1 < l2), decide (h2 ≤ l1) with
    | true, _ => some true
    | false, true => some false
    | _, _ => none
  | .ge => match decide (h2 ≤ l1), decide (h1 < l2) with
    | true, _ => some true
    | false, true => some false
    | _, _ => none
  | .gt => match decide (h2 < l1), decide (h1 ≤ l2) with
    | true, _ => some true
    | false, true => some false
    | _, _ => none
  | .le => match decide (h1 ≤ l2), decide (h2 < l1) with
    | true, _ => some true
    | false, true => some false
    | _, _ => none
  | .eq => match decide (l1 = h1) && (decide (h1 = l2) && decide (l2 = h2)), decide (h1 < l2) || decide (h2 < l1) with
    | true, _ => some true
    | false, true => some false
    | _, _ => none
  | .ne => match decide (l1 = h1) && (decide (h1 = l2) && decide (l2 = h2)), decide (h1 < l2) || decide (h2 < l1) with
    | true, _ => some false
    | false, true => some true
    | _, _ => none
def zcmp (cf : zF) (c : ClassFile.Cond) (a b : Value) : Option Bool := match ziv cf a, ziv cf b with
  | some p, some q => zcmpb c p.1 p.2 q.1 q.2
  | _, _ => none
def zbr (b : Option Bool) (ex : List Nat) (ip : Nat) (ls : zL) (st : List Value) (w : List zE) : Option zN := match b, ex with
  | some true, [t] => some (t, ls, st, w, 0, 0)
  | some false, _ => some (ip + 1, ls, st, w, 0, 0)
  | _, _ => none
def zpc (code : List zI) (ip : Nat) : Nat := match code[ip]? with
  | some e => e.2.1
  | none => 0
def zbin (f : Int32 → Int32 → Int32) (ip : Nat) (ls : zL) (st : List Value) (w : List zE) : Option zN := match st with
  | .int y :: .int x :: r => some (ip + 1, ls, .int (f x y) :: r, w, 0, 0)
  | _ => none
def zjump (b : Bool) (t : Option Nat) (off : Int) (code : List zI) (pc : Nat) (ls : zL) (st : List Value) (w : List zE) : Option zN := match t with
  | none => none
  | some t => match b && decide ((pc : Int) + off = (zpc code t : Int)) with
    | true => some (t, ls, st, w, 0, 0)
    | false => none
def zfty (T : u_T) (k : Nat) : FieldType := (parseFieldDescriptor (T k).2.2.1).getD .int
def zfit (ty : FieldType) : Value → Bool
  | .ref _ => match ty with
    | .object _ => true
    | .array _ => true
    | _ => false
  | .null => match ty with
    | .object _ => true
    | .array _ => true
    | _ => false
  | .long _ => match ty with
    | .long => true
    | _ => false
  | .int x => decide (narrow ty (.int x) = .int x) && fits ty (.int x)
  | _ => false
/-- a field of the object on the stack: its class, its fields -/
def zobj (w : List zE) (a ci : Nat) : Option (List Value) := match w[a]? with
  | some (.inr o) => match Nat.beq o.1 ci with
    | true => some o.2
    | false => none
  | _ => none
def zarr (w : List zE) (a ti : Nat) : Option (Nat × List (Nat × Value)) := match w[a]? with
  | some (.inl o) => match Nat.beq o.1 ti with
    | true => some o.2
    | false => none
  | _ => none
def zrd (d : Value) : List (Nat × Value) → Nat → Value
  | [], _ => d
  | q :: r, k => match Nat.beq q.1 k with
    | true => q.2
    | false => zrd d r k
def zdef (T : u_T) (N : Nat) : List Value := (List.range N).map (fun k => defaultValue (zfty T k))
def zplain : Value → Bool
  | .int _ => true
  | .long _ => true
  | .null => true
  | _ => false
/-- an index of a row of n -/
def zin (i : Int32) (n : Nat) : Bool := decide (0 ≤ i.toInt) && decide (i.toInt < (n : Int))
def zast (ti : Nat) (ip : Nat) (ls : zL) (st : List Value) (w : List zE) : Option zN := match st with
  | v :: .int i :: .ref a :: r => match zarr w a ti with
    | some o => match (if ti = 2 then zisL v else zisI v) && zin i o.1 with
      | true => some (ip + 1, ls, r, w.set a (.inl (ti, o.1, (i.toNatClampNeg, v) :: o.2)), 0, 0)
      | false => none
    | none => none
  | _ => none
def zsum : List Value → Nat
  | [] => 0
  | v :: r => zcat v + zsum r
def z_ldc (ex : List Nat) (ip : Nat) (ls : zL) (st : List Value) (w : List zE) : Option zN := match ex with
  | [_, v] => zpush (.int (Int32.ofNat v)) ip ls st w
  | _ => none
def z_dup (ip : Nat) (ls : zL) (st : List Value) (w : List zE) : Option zN := match st with
  | v :: r => match Nat.beq (zcat v) 1 with
    | true => some (ip + 1, ls, v :: v :: r, w, 0, 0)
    | false => none
  | [] => none
def z_pop (ip : Nat) (ls : zL) (st : List Value) (w : List zE) : Option zN := match st with
  | v :: r => match Nat.beq (zcat v) 1 with
    | true => some (ip + 1, ls, r, w, 0, 0)
    | false => none
  | [] => none
def z_iadd (ip : Nat) (ls : zL) (st : List Value) (w : List zE) : Option zN := match st with
  | .int y :: .int x :: r => some (ip + 1, ls, .int (x + y) :: r, w, 0, 0)
  | .int y :: .float u :: r => match decide (y = 1) && decide (u = 2) with
    | true => some (ip + 1, ls, .float 5 :: r, w, 0, 0)
    | false => none
  | _ => none
def z_iand (cf : zF) (ip : Nat) (ls : zL) (st : List Value) (w : List zE) : Option zN := match st with
  | .int y :: .int x :: r => some (ip + 1, ls, .int (x &&& y) :: r, w, 0, 0)
  | .int y :: .float u :: r => match decide (y = 31) && decide (u = 0) with
    | true => match cf.1 with
      | some v => some (ip + 1, ls, .int v :: r, w, 0, 0)
      | none => some (ip + 1, ls, .float 6 :: r, w, 0, 0)
    | false => none
  | _ => none
def z_iinc (nL i : Nat) (n : Int) (ip : Nat) (ls : zL) (st : List Value) (w : List zE) : Option zN := match zget ls i with
  | some (.int x) => match Nat.ble (i + 1) nL with
    | true => some (ip + 1, zset i (.int (x + Int32.ofInt n)) ls, st, w, 0, 0)
    | false => none
  | _ => none
def z_i2l (ip : Nat) (ls : zL) (st : List Value) (w : List zE) : Option zN := match st with
  | .int x :: r => some (ip + 1, ls, .long x.toInt64 :: r, w, 0, 0)
  | _ => none
def z_i2c (ip : Nat) (ls : zL) (st : List Value) (w : List zE) : Option zN := match st with
  | .int x :: r => some (ip + 1, ls, .int (x.toUInt32 % 65536).toInt32 :: r, w, 0, 0)
  | .float u :: r => match decide (u = 1) with
    | true => some (ip + 1, ls, .float 3 :: r, w, 0, 0)
    | false => match decide (u = 2) with
      | true => some (ip + 1, ls, .float 4 :: r, w, 0, 0)
      | false => none
  | _ => none
def z_lcmp (ip : Nat) (ls : zL) (st : List Value) (w : List zE) : Option zN := match st with
  | .long y :: .long x :: r => some (ip + 1, ls, .int (lg_cmp x y) :: r, w, 0, 0)
  | _ => none
def z_goto (ex : List Nat) (ls : zL) (st : List Value) (w : List zE) : Option zN := match ex with
  | [t] => some (t, ls, st, w, 0, 0)
  | _ => none
def z_icmp (cf : zF) (c : ClassFile.Cond) (ex : List Nat) (ip : Nat) (ls : zL) (st : List Value) (w : List zE) : Option zN := match st with
  | b :: a :: r => zbr (zcmp cf c a b) ex ip ls r w
  | _ => none
def z_if (cf : zF) (c : ClassFile.Cond) (ex : List Nat) (ip : Nat) (ls : zL) (st : List Value) (w : List zE) : Option zN := match st with
  | a :: r => zbr (zcmp cf c a (.int 0)) ex ip ls r w
  | _ => none
def z_ifnull (ex : List Nat) (ip : Nat) (ls : zL) (st : List Value) (w : List zE) : Option zN := match st with
  | .null :: r => zbr (some true) ex ip ls r w
  | .ref _ :: r => zbr (some false) ex ip ls r w
  | _ => none
def z_ifnonnull (ex : List Nat) (ip : Nat) (ls : zL) (st : List Value) (w : List zE) : Option zN := match st with
  | .null :: r => zbr (some false) ex ip ls r w
  | .ref _ :: r => zbr (some true) ex ip ls r w
  | _ => none
def z_tsw (cf : zF) (d lo hi : Int) (offs : Array Int) (code : List zI) (pc : Nat) (ex : List Nat) (ls : zL) (st : List Value) (w : List zE) : Option zN := match st with
  | .int x :: r => match decide (x.toInt < lo) || decide (hi < x.toInt) with
    | true => zjump true (ex[0]?) d code pc ls r w
    | false => match offs[(x.toInt - lo).toNat]? with
      | some off => zjump true (ex[(x.toInt - lo).toNat + 1]?) off code pc ls r w
      | none => none
  | .float u :: r => match cf.2.1[u.toNat]? with
    | some q => match decide (hi < q.1) with
      | true => zjump true (ex[0]?) d code pc ls r w
      | false => none
    | none => none
  | _ => none
def z_lsw (d : Int) (ps : Array (Int × Int)) (code : List zI) (pc : Nat) (ex : List Nat) (ls : zL) (st : List Value) (w : List zE) : Option zN := match st with
  | .int x :: r => zjump ((ps.toList.zip (ps.toList.drop 1)).all (fun (a, next) => a.1 < next.1)) (ex.find? (fun t => decide ((pc : Int) + Op.lookupswitch.offset ps.toList d x.toInt = (zpc code t : Int)))) (Op.lookupswitch.offset ps.toList d x.toInt) code pc ls r w
  | _ => none
def z_getf (ex : List Nat) (ip : Nat) (ls : zL) (st : List Value) (w : List zE) : Option zN := match ex, st with
  | ci :: k :: _, .ref a :: r => match zobj w a ci with
    | none => none
    | some fs => match fs[k]? with
      | some v => match zdbl v with
        | true => none
        | false => some (ip + 1, ls, v :: r, w, 0, 0)
      | none => none
  | _, _ => none
def z_putf (ex : List Nat) (ip : Nat) (ls : zL) (st : List Value) (w : List zE) : Option zN := match ex, st with
  | ci :: k :: _, v :: .ref a :: r => match zobj w a ci, zcl[ci]? with
    | some fs, some q => match zfit (zfty q.2.1 k) v && Nat.ble (k + 1) fs.length with
      | true => some (ip + 1, ls, r, w.set a (.inr (ci, fs.set k v)), 0, 0)
      | false => none
    | _, _ => none
  | _, _ => none
def z_new (ex : List Nat) (ip : Nat) (ls : zL) (st : List Value) (w : List zE) : Option zN := match ex with
  | [ci, _] => match zcl[ci]? with
    | some q => some (ip + 1, ls, .ref w.length :: st, w ++ [.inr (ci, zdef q.2.1 q.2.2)], 1, q.2.2)
    | none => none
  | _ => none
def z_newa (ti : Nat) (ip : Nat) (ls : zL) (st : List Value) (w : List zE) : Option zN := match st with
  | .int n :: r => match decide (0 ≤ n.toInt) && decide (n.toInt ≤ 60000) with
    | true => some (ip + 1, ls, .ref w.length :: r, w ++ [.inl (ti, n.toNatClampNeg, [])], 1, n.toNatClampNeg)
    | false => none
  | _ => none
def z_newai (ex : List Nat) (ip : Nat) (ls : zL) (st : List Value) (w : List zE) : Option zN := match ex with
  | [ti, _] => z_newa ti ip ls st w
  | _ => none
def z_alen (isL : Bool) (cf : zF) (ip : Nat) (ls : zL) (st : List Value) (w : List zE) : Option zN := match st with
  | .ref a :: r => match w[a]? with
    | some (.inl o) => match Nat.ble o.1 3 with
      | true => some (ip + 1, ls, .int (Int32.ofNat o.2.1) :: r, w, 0, 0)
      | false => none
    | _ => none
  | .double u :: r => match isL && decide (u = 0) with
    | true => some (ip + 1, ls, .int (Int32.ofNat cf.2.2.1) :: r, w, 0, 0)
    | false => none
  | _ => none
def z_iald (isL : Bool) (cf : zF) (ip : Nat) (ls : zL) (st : List Value) (w : List zE) : Option zN := match st with
  | .int i :: .ref a :: r => match zarr w a 0 with
    | some o => match zin i o.1, zrd (.int 0) o.2 i.toNatClampNeg with
      | true, .int x => some (ip + 1, ls, .int x :: r, w, 0, 0)
      | _, _ => none
    | none => none
  | .int i :: .double u :: r => match isL && (decide (u = 0) && (zin i cf.2.2.1 && decide (i.toInt < 3))) with
    | true => match cf.2.2.2[i.toNatClampNeg]? with
      | some (some v) => some (ip + 1, ls, .int v :: r, w, 0, 0)
      | _ => some (ip + 1, ls, .float (UInt32.ofNat i.toNatClampNeg) :: r, w, 0, 0)
    | false => none
  | _ => none
def z_lald (ip : Nat) (ls : zL) (st : List Value) (w : List zE) : Option zN := match st with
  | .int i :: .ref a :: r => match zarr w a 2 with
    | some o => match zin i o.1, zrd (.long 0) o.2 i.toNatClampNeg with
      | true, .long x => some (ip + 1, ls, .long x :: r, w, 0, 0)
      | _, _ => none
    | none => none
  | _ => none
def z_objI (ip : Nat) (ls : zL) (st : List Value) (w : List zE) : Option zN := match st with
  | .ref _ :: r => match Nat.ble (zsum r) 8 with
    | true => some (ip + 1, ls, r, w, 0, 0)
    | false => none
  | _ => none
def zstep (isL : Bool) (cf : zF) (nL : Nat) (code : List zI) (e : zI) (ip : Nat) (ls : zL) (st : List Value) (w : List zE) : Option zN := match e.1 with
  | .iload_n k => zload zisI k.val ip ls st w
  | .iload k => zload zisI k ip ls st w
  | .aload_n k => zload zisR k.val ip ls st w
  | .aload k => zload zisR k ip ls st w
  | .lload_n k => zload zisL k.val ip ls st w
  | .lload k => zload zisL k ip ls st w
  | .istore_n k => zstore zisI nL k.val ip ls st w
  | .istore k => zstore zisI nL k ip ls st w
  | .astore_n k => zstore zisR nL k.val ip ls st w
  | .astore k => zstore zisR nL k ip ls st w
  | .lstore_n k => zstore2 nL k.val ip ls st w
  | .lstore k => zstore2 nL k ip ls st w
  | .iconst n => zpush (.int (Int32.ofInt n)) ip ls st w
  | .lconst n => zpush (.long (Int64.ofNat n.val)) ip ls st w
  | .bipush n => zpush (.int (Int8.ofInt n).toInt32) ip ls st w
  | .sipush n => zpush (.int (Int16.ofInt n).toInt32) ip ls st w
  | .aconst_null => zpush .null ip ls st w
  | .ldc _ => z_ldc e.2.2.2 ip ls st w
  | .getstatic _ => zpush (.int 1) ip ls st w
  | .dup => z_dup ip ls st w
  | .pop => z_pop ip ls st w
  | .iadd => z_iadd ip ls st w
  | .isub => zbin (· - ·) ip ls st w
  | .imul => zbin (· * ·) ip ls st w
  | .iand => z_iand cf ip ls st w
  | .iinc i n => z_iinc nL i n ip ls st w
  | .i2l => z_i2l ip ls st w
  | .i2c => z_i2c ip ls st w
  | .lcmp => z_lcmp ip ls st w
  | .goto _ => z_goto e.2.2.2 ls st w
  | .if_icmp c _ => z_icmp cf c e.2.2.2 ip ls st w
  | .ifCond c _ => z_if cf c e.2.2.2 ip ls st w
  | .ifnull _ => z_ifnull e.2.2.2 ip ls st w
  | .ifnonnull _ => z_ifnonnull e.2.2.2 ip ls st w
  | .tableswitch d lo hi offs => z_tsw cf d lo hi offs code e.2.1 e.2.2.2 ls st w
  | .lookupswitch d ps => z_lsw d ps code e.2.1 e.2.2.2 ls st w
  | .getfield _ => z_getf e.2.2.2 ip ls st w
  | .putfield _ => z_putf e.2.2.2 ip ls st w
  | .new _ => z_new e.2.2.2 ip ls st w
  | .newarray _ => z_newai e.2.2.2 ip ls st w
  | .anewarray _ => z_newa 4 ip ls st w
  | .arraylength => z_alen isL cf ip ls st w
  | .iaload => z_iald isL cf ip ls st w
  | .laload => z_lald ip ls st w
  | .iastore => zast 0 ip ls st w
  | .castore => zast 1 ip ls st w
  | .lastore => zast 2 ip ls st w
  | .invokespecial _ => z_objI ip ls st w
  | _ => none
/-- 0: an end; 1: a call; else a step -/
def zkind (i : Instr) (ex : List Nat) : Nat := match i with
  | .ireturn => 0
  | .lreturn => 0
  | .areturn => 0
  | .return_ => 0
  | .new _ => match ex with
    | [_, _] => 2
    | _ => 0
  | .invokevirtual _ => 1
  | .invokestatic _ => 1
  | .invokespecial _ => match ex with
    | [_] => 2
    | _ => 1
  | _ => 2
def zhnd (E : Nat) : List Nat → Option Nat
  | a :: b :: r => match Nat.beq a E with
    | true => some b
    | false => zhnd E r
  | _ => none
/-- the arguments of a call, the deepest first, and what stays -/
def zcut (kind n : Nat) (st : List Value) : List Value × List Value := match kind with
  | 1 => ((st.take n).reverse, st.drop n)
  | _ => ((st.take (n + 1)).reverse, st.drop (n + 1))
def zcall (call : Nat → List Value → List zE → Option zO) (e : zI) (ip : Nat) (ls : zL) (st : List Value) (w : List zE) : Option zN := match e.2.2.2 with
  | mi :: _ :: _ :: hs => match zp[mi]? with
    | none => none
    | some M => match zcut M.2.2.2.2.2.1 M.2.2.2.2.2.2.1 st with
      | (av, rest) => match Nat.ble (zsum rest) 8 && !(av.any zdbl) with
        | false => none
        | true => match call mi av w with
          | none => none
          | some o => match Nat.ble w.length o.2.2.1.length with
            | false => none
            | true => match o.1 with
              | 0 => some (ip + 1, ls, o.2.1.toList ++ rest, o.2.2.1, o.2.2.2.1, o.2.2.2.2)
              | E + 1 => match zhnd E hs, ls.any (fun q => zdbl q.2) with
                | some t, false => some (t, ls, [.double 1], o.2.2.1, o.2.2.2.1, o.2.2.2.2)
                | _, _ => none
  | _ => none
def zloop (call : Nat → List Value → List zE → Option zO) (isL : Bool) (cf : zF) (nL : Nat) (code : List zI) : Nat → Nat → zL → List Value → List zE → Nat → Nat → Option zN
  | 0, _, _, _, _, _, _ => none
  | n + 1, ip, ls, st, w, dc, ds => match code[ip]? with
    | none => none
    | some e => match zkind e.1 e.2.2.2 with
      | 0 => some (ip, ls, st, w, dc, ds)
      | 1 => match zcall call e ip ls st w with
        | none => none
        | some q => zloop call isL cf nL code n q.1 q.2.1 q.2.2.1 q.2.2.2.1 (dc + q.2.2.2.2.1) (ds + q.2.2.2.2.2)
      | _ => match zstep isL cf nL code e ip ls st w with
        | none => none
        | some q => zloop call isL cf nL code n q.1 q.2.1 q.2.2.1 q.2.2.2.1 (dc + q.2.2.2.2.1) (ds + q.2.2.2.2.2)
def zargs : Nat → List Value → zL
  | _, [] => []
  | i, v :: r => (i, v) :: zargs (i + zcat v) r
def zout (ret : Option FieldType) (code : List zI) (q : zN) : Option zO := match code[q.1]? with
  | none => none
  | some e => match e.1, q.2.2.1 with
    | .ireturn, [.int x] => match ret with
      | some ty => match decide (narrow ty (.int x) = .int x) with
        | true => some (0, some (.int x), q.2.2.2.1, q.2.2.2.2.1, q.2.2.2.2.2)
        | false => none
      | none => none
    | .lreturn, [.long x] => match decide (ret = some .long) with
      | true => some (0, some (.long x), q.2.2.2.1, q.2.2.2.2.1, q.2.2.2.2.2)
      | false => none
    | .areturn, [v] => match ret, v with
      | some (.object _), .ref a => some (0, some (.ref a), q.2.2.2.1, q.2.2.2.2.1, q.2.2.2.2.2)
      | some (.object _), .null => some (0, some .null, q.2.2.2.1, q.2.2.2.2.1, q.2.2.2.2.2)
      | _, _ => none
    | .return_, [] => match decide (ret = none) with
      | true => some (0, none, q.2.2.2.1, q.2.2.2.2.1, q.2.2.2.2.2)
      | false => none
    | .new _, st => match e.2.2.2, Nat.ble (zsum st) 8 with
      | E :: _ :: _ :: _ :: _, true => some (E + 1, none, q.2.2.2.1, q.2.2.2.2.1 + 1, q.2.2.2.2.2 + 6)
      | _, _ => none
    | _, _ => none
def zrun (cf : zF) : Nat → Nat → List Value → List zE → Option zO
  | 0, _, _, _ => none
  | d + 1, mi, av, w => match zp[mi]? with
    | none => none
    | some M => match Nat.ble (zsum av) M.2.2.1 with
      | false => none
      | true => match zloop (zrun cf d) false cf M.2.2.1 M.2.2.2.2.2.2.2.2.2 3000 0 (zargs 0 av) [] w 0 0 with
        | none => none
        | some q => zout M.2.2.2.1 M.2.2.2.2.2.2.2.2.2 q
/-- the law: the script's length L, what is known of its ints; it must end with 1 -/
def zlaw (cf : zF) : Bool := match zloop (zrun cf 20) true cf 8 zM_law.2.2.2.2.2.2.2.2.2 3000 0 [(0, .double 0)] [] [] 0 0 with
  | none => false
  | some q => match zM_law.2.2.2.2.2.2.2.2.2[q.1]?, q.2.2.1 with
    | some e, [.int x] => decide (e.1 = .ireturn) && (decide (x = 1) && (decide (q.2.2.2.2.1 ≤ 600000) && decide (q.2.2.2.2.2 ≤ 7300000)))
    | _, _ => false
