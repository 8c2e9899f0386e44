/-! the abstract machine: its references are places of a list of cells; what it does is computed -/
def iI (n : Int) : Int32 := Int32.ofInt n
def SC : Nat := 1000000
abbrev aC : Type := (Nat × Nat × ((Nat → Int32) ⊕ (Nat → Option Nat))) ⊕ (Nat × List Value)
abbrev aH : Type := List aC
abbrev hO (Hp : Type) : Type := (Hp → Nat → Nat → Nat → Option Value) × (Hp → Nat → Nat → Nat → Value → Option Hp) × (Hp → Nat → Nat → Int32 → Option Value) × (Hp → Nat → Nat → Int32 → Value → Option Hp) × (Hp → Nat → Option Int32) × (Hp → Nat → Option (Hp × Nat)) × (Hp → Nat → Int32 → Option (Hp × Nat))
abbrev pR : Type := Option (Nat × List Value × List Value)
def p_tg (pc : Nat) (off : Int) : Option Nat := if 0 ≤ (pc : Int) + off then some ((pc : Int) + off).toNat else none
def p_go (pc : Nat) (off : Int) (ls st : List Value) : pR := (p_tg pc off).map fun t => (t, ls, st)
def p_br (c : Bool) (pc : Nat) (off : Int) (ls st : List Value) : pR := (p_tg pc off).map fun t => (if c = true then t else pc + 3, ls, st)
def p_ld (ls : List Value) (j : Nat) (a : Bool) : Option Value := match ls[j]? with
  | some (.int x) => if a = true then none else some (.int x)
  | some (.ref c) => if a = true then some (.ref c) else none
  | some .null => if a = true then some .null else none
  | _ => none
def p_ok (v : Value) : Bool := match v with
  | .int _ => true
  | .ref _ => true
  | .null => true
  | _ => false
def p_push (len want pc : Nat) (ls st : List Value) (v : Option Value) : pR := if len = want then v.map (fun v => (pc + want, ls, v :: st)) else none
def p_sto (len want pc j : Nat) (ls st : List Value) (a : Bool) : pR := match st with
  | .int x :: r => if len = want ∧ a = false ∧ j < ls.length then some (pc + want, ls.set j (.int x), r) else none
  | .ref c :: r => if len = want ∧ a = true ∧ j < ls.length then some (pc + want, ls.set j (.ref c), r) else none
  | .null :: r => if len = want ∧ a = true ∧ j < ls.length then some (pc + want, ls.set j .null, r) else none
  | _ => none
def p_bin (len pc : Nat) (ls st : List Value) (f : Int32 → Int32 → Option Int32) : pR := match st with
  | .int y :: .int x :: r => if len = 1 then (f x y).map (fun z => (pc + 1, ls, .int z :: r)) else none
  | _ => none
def p_c1 (len pc : Nat) (ls st : List Value) (off : Int) (f : Int32 → Bool) : pR := match st with
  | .int x :: r => if len = 3 then p_br (f x) pc off ls r else none
  | _ => none
def p_c2 (len pc : Nat) (ls st : List Value) (off : Int) (f : Int32 → Int32 → Bool) : pR := match st with
  | .int y :: .int x :: r => if len = 3 then p_br (f x y) pc off ls r else none
  | _ => none
def p_nul (len pc : Nat) (ls st : List Value) (off : Int) (b : Bool) : pR := match st with
  | .ref _ :: r => if len = 3 then p_br b pc off ls r else none
  | .null :: r => if len = 3 then p_br (!b) pc off ls r else none
  | _ => none
def p_inc (len pc j : Nat) (n : Int) (ls st : List Value) : pR := match p_ld ls j false with
  | some (.int x) => if len = 3 ∧ j < ls.length then some (pc + 3, ls.set j (.int (x + Int32.ofInt n)), st) else none
  | _ => none
def p_dup (len pc : Nat) (ls st : List Value) : pR := match st with
  | v :: r => if len = 1 ∧ p_ok v = true then some (pc + 1, ls, v :: v :: r) else none
  | _ => none
def p_pop (len pc : Nat) (ls st : List Value) : pR := match st with
  | v :: r => if len = 1 ∧ p_ok v = true then some (pc + 1, ls, r) else none
  | _ => none
def p_dup2 (len pc : Nat) (ls st : List Value) : pR := match st with
  | v :: w :: r => if len = 1 ∧ p_ok v = true ∧ p_ok w = true then some (pc + 1, ls, v :: w :: v :: w :: r) else none
  | _ => none
def p_sw (pc : Nat) (ls st : List Value) (d lo hi : Int) (offs : Array Int) : pR := match st with
  | .int x :: r => if x.toInt < lo ∨ hi < x.toInt then p_go pc d ls r else match offs[(x.toInt - lo).toNat]? with
    | some off => p_go pc off ls r
    | none => none
  | _ => none
def pstep (o : Nat) (i : Instr) (len pc : Nat) (ls st : List Value) : pR := match i with
  | .iconst n => p_push len 1 pc ls st (some (.int (Int32.ofInt n)))
  | .bipush n => p_push len 2 pc ls st (some (.int (Int8.ofInt n).toInt32))
  | .sipush n => p_push len 3 pc ls st (some (.int (Int16.ofInt n).toInt32))
  | .ldc ix => p_push len 2 pc ls st ((kG ktb o ix).map (fun e => .int (Int32.ofNat e.1)))
  | .aconst_null => p_push len 1 pc ls st (some .null)
  | .iload_n j => p_push len 1 pc ls st (p_ld ls j.val false)
  | .iload j => p_push len 2 pc ls st (p_ld ls j false)
  | .aload_n j => p_push len 1 pc ls st (p_ld ls j.val true)
  | .aload j => p_push len 2 pc ls st (p_ld ls j true)
  | .istore_n j => p_sto len 1 pc j.val ls st false
  | .istore j => p_sto len 2 pc j ls st false
  | .astore_n j => p_sto len 1 pc j.val ls st true
  | .astore j => p_sto len 2 pc j ls st true
  | .iinc j n => p_inc len pc j n ls st
  | .iadd => p_bin len pc ls st (fun x y => some (x + y))
  | .isub => p_bin len pc ls st (fun x y => some (x - y))
  | .imul => p_bin len pc ls st (fun x y => some (x * y))
  | .idiv => p_bin len pc ls st (fun x y => if y = 0 then none else some (x / y))
  | .irem => p_bin len pc ls st (fun x y => if y = 0 then none else some (x - x / y * y))
  | .iand => p_bin len pc ls st (fun x y => some (x &&& y))
  | .ior => p_bin len pc ls st (fun x y => some (x ||| y))
  | .ixor => p_bin len pc ls st (fun x y => some (x ^^^ y))
  | .ishl => p_bin len pc ls st (fun x y => some (x <<< (y &&& 31)))
  | .ishr => p_bin len pc ls st (fun x y => some (x >>> (y &&& 31)))
  | .dup => p_dup len pc ls st
  | .dup2 => p_dup2 len pc ls st
  | .pop => p_pop len pc ls st
  | .goto off => if len = 3 then p_go pc off ls st else none
  | .ifCond op off => p_c1 len pc ls st off (fun x => match op with
    | .eq => decide (x = 0)
    | .ne => decide (¬ x = 0)
    | .lt => decide (x < 0)
    | .ge => decide (0 ≤ x)
    | .gt => decide (0 < x)
    | .le => decide (x ≤ 0))
  | .if_icmp op off => p_c2 len pc ls st off (fun x y => match op with
    | .eq => decide (x = y)
    | .ne => decide (¬ x = y)
    | .lt => decide (x < y)
    | .ge => decide (y ≤ x)
    | .gt => decide (y < x)
    | .le => decide (x ≤ y))
  | .ifnull off => p_nul len pc ls st off false
  | .ifnonnull off => p_nul len pc ls st off true
  | .tableswitch d lo hi offs => p_sw pc ls st d lo hi offs
  | _ => none
def hstep {Hp : Type} (o : hO Hp) (k : Nat) (i : Instr) (len : Nat) (st : List Value) (A : Hp) : Option (List Value × Hp) := match i with
  | .getfield ix => match st with
    | .ref c :: r => if len = 3 then (kG ftb (mO k) ix).bind (fun e => (o.1 A c e.1 e.2.1).map (fun v => (v :: r, A))) else none
    | _ => none
  | .putfield ix => match st with
    | v :: .ref c :: r => if len = 3 then (kG ftb (mO k) ix).bind (fun e => if (cTf e.1 e.2.1).2.2.2 = false ∨ (mF k = 2 ∧ mO k = e.1 ∧ e.2.2.1 = 0) then (o.2.1 A c e.1 e.2.1 v).map (fun A' => (r, A')) else none) else none
    | _ => none
  | .iaload => match st with
    | .int j :: .ref c :: r => if len = 1 then (o.2.2.1 A c 0 j).map (fun v => (v :: r, A)) else none
    | _ => none
  | .baload => match st with
    | .int j :: .ref c :: r => if len = 1 then (o.2.2.1 A c 1 j).map (fun v => (v :: r, A)) else none
    | _ => none
  | .aaload => match st with
    | .int j :: .ref c :: r => if len = 1 then (o.2.2.1 A c 2 j).map (fun v => (v :: r, A)) else none
    | _ => none
  | .iastore => match st with
    | .int x :: .int j :: .ref c :: r => if len = 1 then (o.2.2.2.1 A c 0 j (.int x)).map (fun A' => (r, A')) else none
    | _ => none
  | .bastore => match st with
    | .int x :: .int j :: .ref c :: r => if len = 1 then (o.2.2.2.1 A c 1 j (.int x)).map (fun A' => (r, A')) else none
    | _ => none
  | .aastore => match st with
    | .ref x :: .int j :: .ref c :: r => if len = 1 then (o.2.2.2.1 A c 2 j (.ref x)).map (fun A' => (r, A')) else none
    | _ => none
  | .arraylength => match st with
    | .ref c :: r => if len = 1 then (o.2.2.2.2.1 A c).map (fun v => (.int v :: r, A)) else none
    | _ => none
  | .new ix => if len = 3 then (kG ntb (mO k) ix).bind (fun e => (o.2.2.2.2.2.1 A e.1).map (fun q => (.ref q.2 :: st, q.1))) else none
  | .newarray ty => match st with
    | .int n :: r => if len = 2 ∧ ty = .int then (o.2.2.2.2.2.2 A 0 n).map (fun q => (.ref q.2 :: r, q.1)) else if len = 2 ∧ ty = .boolean then (o.2.2.2.2.2.2 A 1 n).map (fun q => (.ref q.2 :: r, q.1)) else none
    | _ => none
  | .anewarray ix => match st with
    | .int n :: r => if len = 3 then (kG ntb (mO k) ix).bind (fun e => if e.1 = 2 then (o.2.2.2.2.2.2 A 2 n).map (fun q => (.ref q.2 :: r, q.1)) else if e.1 = 0 then (o.2.2.2.2.2.2 A 3 n).map (fun q => (.ref q.2 :: r, q.1)) else none) else none
    | _ => none
  | _ => none
def jstep (o d : Nat) (i : Instr) (len : Nat) (st : List Value) : Option (List Value) := if d = 0 ∨ ¬ len = 3 ∨ 8 < st.length then none else match i with
  | .invokestatic ix => (kG jtb o ix).bind (fun e => match st with
    | .int y :: r => if e.1 = 2 then (if r.length ≤ 4 then some (.int (if 0 ≤ y then y else 0 - y) :: r) else none) else (match r with
      | .int x :: r => if r.length ≤ 4 then (if e.1 = 0 then some (.int (if y < x then y else x) :: r) else some (.int (if x < y then y else x) :: r)) else none
      | _ => none)
    | _ => none)
  | .invokespecial ix => (kG otb o ix).bind (fun _ => match st with
    | .ref _ :: r => if r.length ≤ 4 then some r else none
    | _ => none)
  | _ => none
def c_n (k : Nat) : Nat := mA k + (if mF k = 1 then 0 else 1)
def c_kind (i : Instr) : Option (Nat × Nat) := match i with
  | .invokevirtual ix => some (ix, 0)
  | .invokestatic ix => some (ix, 1)
  | .invokespecial ix => some (ix, 2)
  | _ => none
def c_rec {Hp : Type} (o : hO Hp) (k : Nat) (a : List Value) (A : Hp) : Bool := if mF k = 1 then true else match a with
  | .ref c :: _ => (o.1 A c (mO k) 0).isSome
  | _ => false
/-- a call: the method, its arguments, what stays on the stack -/
def cstep {Hp : Type} (o : hO Hp) (k : Nat) (i : Instr) (len : Nat) (st : List Value) (A : Hp) : Option (Nat × List Value × List Value) :=
  (c_kind i).bind (fun q => (kG ctb (mO k) q.1).bind (fun e => if len = 3 ∧ mF e.1 = q.2 ∧ c_n e.1 ≤ st.length ∧ (st.drop (c_n e.1)).length ≤ 4 ∧ (st.take (c_n e.1)).all p_ok = true ∧ c_rec o e.1 (st.take (c_n e.1)).reverse A = true then some (e.1, (st.take (c_n e.1)).reverse, st.drop (c_n e.1)) else none))
def r_obj (o : Option FieldType) : Bool := match o with
  | some (.object _) => true
  | _ => false
def rstep (k : Nat) (i : Instr) (len : Nat) (st : List Value) : Option (Option Value) := match i with
  | .ireturn => match st with
    | [.int x] => if len = 1 ∧ (mR k = some .int ∨ (mR k = some .boolean ∧ (x = 0 ∨ x = 1))) then some (some (.int x)) else none
    | _ => none
  | .areturn => match st with
    | [.ref c] => if len = 1 ∧ r_obj (mR k) = true then some (some (.ref c)) else none
    | [.null] => if len = 1 ∧ r_obj (mR k) = true then some (some .null) else none
    | _ => none
  | .return_ => match st with
    | [] => if len = 1 ∧ mR k = none then some none else none
    | _ => none
  | _ => none
def c_ent (k : Nat) (a : List Value) : List Value := a ++ List.replicate (mL k - a.length) (.retAddr 0)
def ex {Hp : Type} (o : hO Hp) : Nat → Nat → Nat → Nat → List Value → List Value → Hp → Option (Option Value × Hp)
  | _, 0, _, _, _, _, _ => none
  | d, n + 1, k, pc, ls, st, A => match decode (mC k) pc with
    | .error _ => none
    | .ok il => match pstep (mO k) il.1 il.2 pc ls st with
      | some q => ex o d n k q.1 q.2.1 q.2.2 A
      | none => match hstep o k il.1 il.2 st A with
        | some q => ex o d n k (pc + il.2) ls q.1 q.2
        | none => match jstep (mO k) d il.1 il.2 st with
          | some s => ex o d n k (pc + 3) ls s A
          | none => match d, cstep o k il.1 il.2 st A with
            | d' + 1, some q => (match ex o d' n q.1 0 (c_ent q.1 q.2.1) [] A with
              | some z => ex o (d' + 1) n k (pc + 3) ls (z.1.toList ++ q.2.2) z.2
              | none => none)
            | _, _ => (rstep k il.1 il.2 st).map (fun v => (v, A))
/-- the machine's cells -/
def g1 (A : aH) (c ci s : Nat) : Option Value := match A[c]? with
  | some (.inr (ci', fs)) => if ci' = ci ∧ ¬ c = SC then fs[s]? else none
  | _ => none
def f_ok (ty : FieldType) (v : Value) : Bool := match ty, v with
  | .int, .int _ => true
  | .boolean, .int x => decide (x = 0) || decide (x = 1)
  | .object _, .ref _ => true
  | .array _, .ref _ => true
  | _, _ => false
def f1 (A : aH) (c ci s : Nat) (v : Value) : Option aH := match A[c]? with
  | some (.inr (ci', fs)) => if ci' = ci ∧ ¬ c = SC ∧ s < fs.length ∧ f_ok (cTy ci s) v = true then some (A.set c (.inr (ci', fs.set s v))) else none
  | _ => none
def i_in (j : Int32) (n : Nat) : Prop := ¬ (j < 0 ∨ n ≤ j.toNatClampNeg)
def l1 (L : Nat) (xs : Nat → Int32) (A : aH) (c t : Nat) (j : Int32) : Option Value := if c = SC then (if t = 0 ∧ ¬ (j < 0 ∨ L ≤ j.toNatClampNeg) then some (.int (xs j.toNatClampNeg)) else none) else match A[c]? with
  | some (.inl (t', n, .inl f)) => if t' = t ∧ t < 2 ∧ ¬ (j < 0 ∨ n ≤ j.toNatClampNeg) then some (.int (f j.toNatClampNeg)) else none
  | some (.inl (t', n, .inr f)) => if t = 2 ∧ 2 ≤ t' ∧ t' < 4 ∧ ¬ (j < 0 ∨ n ≤ j.toNatClampNeg) then some (va_rf (f j.toNatClampNeg)) else none
  | _ => none
def s1 (A : aH) (c t : Nat) (j : Int32) (v : Value) : Option aH := match A[c]?, v with
  | some (.inl (t', n, .inl f)), .int x => if t' = t ∧ ¬ c = SC ∧ t < 2 ∧ (t = 1 → x = 0 ∨ x = 1) ∧ ¬ (j < 0 ∨ n ≤ j.toNatClampNeg) then some (A.set c (.inl (t', n, .inl (upd f j.toNatClampNeg x)))) else none
  | some (.inl (t', n, .inr f)), .ref x => if t = 2 ∧ ¬ c = SC ∧ ¬ x = SC ∧ ¬ (j < 0 ∨ n ≤ j.toNatClampNeg) then (match A[x]? with
    | some (.inr (ci, _)) => if (t' = 2 ∧ ci = 2) ∨ (t' = 3 ∧ ci = 0) then some (A.set c (.inl (t', n, .inr (va_up f j.toNatClampNeg (some x))))) else none
    | _ => none) else none
  | _, _ => none
def n1 (L : Nat) (A : aH) (c : Nat) : Option Int32 := if c = SC then some (nI L) else match A[c]? with
  | some (.inl (t, n, _)) => if t < 4 then some (nI n) else none
  | _ => none
def d_f (ty : FieldType) : Value := match ty with
  | .int => .int 0
  | .boolean => .int 0
  | _ => .null
def w1 (A : aH) (ci : Nat) : Option (aH × Nat) := if ci < 6 ∧ ¬ A.length = SC then some (A ++ [.inr (ci, (List.range (cNn ci)).map (fun s => d_f (cTy ci s)))], A.length) else none
def a1 (A : aH) (t : Nat) (n : Int32) : Option (aH × Nat) := if n < 0 ∨ 1000000 < n.toNatClampNeg ∨ A.length = SC then none else if t < 2 then some (A ++ [.inl (t, n.toNatClampNeg, .inl (fun _ => 0))], A.length) else if t < 4 then some (A ++ [.inl (t, n.toNatClampNeg, .inr (fun _ => none))], A.length) else none
def o1 (L : Nat) (xs : Nat → Int32) : hO aH := (g1, f1, l1 L xs, s1, n1 L, w1, a1)
