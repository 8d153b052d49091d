/-! METHODS BY CONTRACT, at a bound on their depth -/
def zws (M : zM) : List Jvm.Cond := (match M.2.2.2.2.1 with
  | [] => Jvm.Cond.code M.1 M.2.1 M.2.2.1 M.2.2.2.1
  | hh => Jvm.Cond.codeWith M.1 M.2.1 M.2.2.1 M.2.2.2.1 hh) :: ztbl
def zcdchk (own nm : String) (cc : ByteArray) (code : List zI) : Bool := code.zipIdx.all (fun q => decide (q.1.1 = .nop) || zchk own nm cc code q.2 q.1)
def zctl : List (Nat × String × Nat) := [(13, "java/lang/IllegalStateException", 1131), (19, "java/lang/IndexOutOfBoundsException", 1219), (55, "java/lang/IllegalArgumentException", 1345)]
def zctok (ct : Nat) (nm : String) : Bool := zctl.any (fun r => decide (r.1 = ct) && (decide (r.2.1 = nm) && zwd r.2.2 (.classLink "MacrocosmLaw" ct nm)))
/-- the i-th row takes what is thrown at pc; those ahead don't -/
def zhrow (hh : List (Nat × Nat × Nat × Nat)) (pc E t i : Nat) : Bool := match zexn[E]?, (tableOf hh)[i]? with
  | some nm, some x => (covers x pc && (decide (x.catchType ≠ 0) && (decide (x.handlerPc = t) && (zctok x.catchType nm && decide (Jvm.Cond.castable nm nm ∈ zFw))))) && ((tableOf hh).take i).all (fun z => decide (covers z pc = false) || (decide (z.catchType ≠ 0) && zNcs.any (fun r => decide (r.1 = nm) && zctok z.catchType r.2)))
  | _, _ => false
def zhps (hh : List (Nat × Nat × Nat × Nat)) (code : List zI) (pc : Nat) : List Nat → Bool
  | a :: b :: r => (List.range hh.length).any (fun i => zhrow hh pc a (zpc code b) i) && zhps hh code pc r
  | _ => true
def zhchk (hh : List (Nat × Nat × Nat × Nat)) (own : String) (code : List zI) : Bool := code.all (fun e => match e.2.2.2 with
  | _ :: _ :: _ :: hs => (match e.1 with
    | .invokevirtual _ => zhps hh code e.2.1 hs && (decide (hs = []) || decide (own = "MacrocosmLaw"))
    | .invokestatic _ => decide (hs = [])
    | .invokespecial _ => decide (hs = [])
    | _ => true)
  | _ => true)
/-- how an invocation names its method -/
def zikchk (own : String) (code : List zI) : Bool := code.all (fun e => match e.1, e.2.2.2 with
  | .invokevirtual _, mi :: _ => (match zp[mi]? with
    | some M => decide (M.2.2.2.2.2.1 = 0) && (decide (M.2.2.2.2.1 = []) && (decide ((zcl[M.2.2.2.2.2.2.2.1]?).map (·.1) = some M.1.cls) && decide (M.2.2.2.2.2.2.2.1 ≠ 99)))
    | none => false)
  | .invokestatic _, mi :: _ => (match zp[mi]? with
    | some M => decide (M.2.2.2.2.2.1 = 1) && decide (M.1.cls = own)
    | none => false)
  | .invokespecial _, mi :: _ :: _ => (match zp[mi]? with
    | some M => decide (M.2.2.2.2.1 = []) && match M.2.2.2.2.2.1 with
      | 2 => decide (M.1.name = "<init>") && decide (M.2.2.2.1 = none)
      | 0 => decide (M.1.name ≠ "<init>") && match M.2.2.2.2.2.2.2.2.1 with
        | [_, _, _, j4, j5] => zwd j4 (.sameMethod M.1.cls M.1.cls M.1.name M.1.desc) && zwd j5 (.superclass own M.1.cls)
        | _ => false
      | _ => false
    | none => false)
  | _, _ => true)
def zmchk (M : zM) : Bool := match M.2.2.2.2.2.2.2.2.1 with
  | jc :: ji :: jk :: _ => zwd jc (match M.2.2.2.2.1 with
    | [] => .code M.1 M.2.1 M.2.2.1 M.2.2.2.1
    | hh => .codeWith M.1 M.2.1 M.2.2.1 M.2.2.2.1 hh) && (zwd ji (.initialized M.1.cls) && (zwd jk (match M.2.2.2.2.2.1 with
    | 1 => .static M.1
    | _ => .instanceMethod M.1) && (decide (M.1.cls ≠ "java/lang/invoke/MethodHandle") && (decide (M.1.cls ≠ "java/lang/invoke/VarHandle") && (decide ((parseMethodDescriptor M.1.desc).map (fun d => d.parameters.length) = some M.2.2.2.2.2.2.1) && (plainName M.1.cls && (decide (M.2.2.1 ≤ 60) && (decide (M.2.2.2.2.2.1 < 3) && (zcdchk M.1.cls M.1.name M.2.1 M.2.2.2.2.2.2.2.2.2 && (zhchk M.2.2.2.2.1 M.1.cls M.2.2.2.2.2.2.2.2.2 && zikchk M.1.cls M.2.2.2.2.2.2.2.2.2))))))))))
  | _ => false
