/-! THE PLAIN MACHINE: a small interpreter over resolved instructions and a flat store; 04 shows that what it computes the JVM does. -/
abbrev xC : Type := (Nat → Nat → Option Nat) × (Nat → Int32 → Option Nat) × List (Nat × Int32)
abbrev xM : Type := (Nat → Nat → Int32) × (Nat → Int32 → Int32) × (Nat → Nat → Int64) × (Nat → Int32 → Int64) × xC
abbrev xA : Type := Instr ⊕ (Value ⊕ (Nat × List Nat))
abbrev xL : Type := List (Option Value)
/-- what is read alone: the script's length and ints, the literals' signs -/
abbrev xE : Type := (Int32 × (Int32 → Int32)) × List (List Nat)
abbrev xMeth : Type := Nat × Nat × List xA
def xu {α : Type} (f : Nat → Nat → α) (c k : Nat) (v : α) : Nat → Nat → α := fun a b => if a = c ∧ b = k then v else f a b
def xv {α : Type} (f : Nat → Int32 → α) (c : Nat) (k : Int32) (v : α) : Nat → Int32 → α := fun a b => if a = c ∧ b = k then v else f a b
def xw {α β : Type} (f : Nat → β → α) (c : Nat) (v : α) : Nat → β → α := fun a b => if a = c then v else f a b
def xSCR : Nat := 2000
def xSTR : Nat := 3000
/-- a local is set; a long whose second half lay there is no more -/
def xclr (L : xL) (i : Nat) : xL := match i with
  | 0 => L
  | j + 1 => match L[j]? with
    | some (some w) => if w.category = 2 then L.set j none else L
    | _ => L
def xset (L : xL) (i : Nat) (v : Value) : xL := (xclr L i).set i (some v)
def xset2 (L : xL) (i : Nat) (v : Value) : xL := (xset L i v).set (i + 1) none
def xpure (ins : Instr) (L : xL) (st : List Value) : Option (xL × List Value) :=
  match ins, st with
  | .iload i, st => match L[i]? with
    | some (some (.int x)) => some (L, .int x :: st)
    | _ => none
  | .lload i, st => match L[i]? with
    | some (some (.long x)) => some (L, .long x :: st)
    | _ => none
  | .aload i, st => match L[i]? with
    | some (some (.ref x)) => some (L, .ref x :: st)
    | _ => none
  | .istore i, .int x :: r => if i < L.length then some (xset L i (.int x), r) else none
  | .astore i, .ref x :: r => if i < L.length then some (xset L i (.ref x), r) else none
  | .lstore i, .long x :: r => if i + 1 < L.length then some (xset2 L i (.long x), r) else none
  | .iadd, .int y :: .int x :: r => some (L, .int (x + y) :: r)
  | .isub, .int y :: .int x :: r => some (L, .int (x - y) :: r)
  | .imul, .int y :: .int x :: r => some (L, .int (x * y) :: r)
  | .iand, .int y :: .int x :: r => some (L, .int (x &&& y) :: r)
  | .ior, .int y :: .int x :: r => some (L, .int (x ||| y) :: r)
  | .ixor, .int y :: .int x :: r => some (L, .int (x ^^^ y) :: r)
  | .idiv, .int y :: .int x :: r => if y = 0 then none else some (L, .int (x / y) :: r)
  | .irem, .int y :: .int x :: r => if y = 0 then none else some (L, .int (x - x / y * y) :: r)
  | .ineg, .int x :: r => some (L, .int (-x) :: r)
  | .ishl, .int y :: .int x :: r => some (L, .int (x <<< (y &&& 31)) :: r)
  | .ishr, .int y :: .int x :: r => some (L, .int (x >>> (y &&& 31)) :: r)
  | .iushr, .int y :: .int x :: r => some (L, .int ((x.toUInt32 >>> (y.toUInt32 &&& Int32.toUInt32 31)).toInt32) :: r)
  | .i2l, .int x :: r => some (L, .long x.toInt64 :: r)
  | .i2c, .int x :: r => some (L, .int (x.toUInt32 % 65536).toInt32 :: r)
  | .l2i, .long x :: r => some (L, .int x.toInt32 :: r)
  | .ladd, .long y :: .long x :: r => some (L, .long (x + y) :: r)
  | .lsub, .long y :: .long x :: r => some (L, .long (x - y) :: r)
  | .lmul, .long y :: .long x :: r => some (L, .long (x * y) :: r)
  | .land, .long y :: .long x :: r => some (L, .long (x &&& y) :: r)
  | .lor, .long y :: .long x :: r => some (L, .long (x ||| y) :: r)
  | .ldiv, .long y :: .long x :: r => if y = 0 then none else some (L, .long (x / y) :: r)
  | .lrem, .long y :: .long x :: r => if y = 0 then none else some (L, .long (x - x / y * y) :: r)
  | .lshl, .int y :: .long x :: r => some (L, .long (x <<< (y.toInt64 &&& 63)) :: r)
  | .lshr, .int y :: .long x :: r => some (L, .long (x >>> (y.toInt64 &&& 63)) :: r)
  | .lushr, .int y :: .long x :: r => some (L, .long ((x.toUInt64 >>> (y.toInt64.toUInt64 &&& Int64.toUInt64 63)).toInt64) :: r)
  | .lcmp, .long y :: .long x :: r => some (L, .int (lg_cmp x y) :: r)
  | .dup, .int x :: r => some (L, .int x :: .int x :: r)
  | .dup, .ref x :: r => some (L, .ref x :: .ref x :: r)
  | .pop, .int _ :: r => some (L, r)
  | .dup2, .int x :: .ref y :: r => some (L, .int x :: .ref y :: .int x :: .ref y :: r)
  | _, _ => none
/-- jumps -/
def xswi (lo : Nat) (dflt : Nat) (ts : List Nat) (x : Int32) : Nat :=
  if x.toInt < (lo : Int) - 100 then dflt else ts.getD (x.toInt - ((lo : Int) - 100)).toNat dflt
def xjmp (op : Nat) (a : List Nat) (ix : Nat) (st : List Value) : Option (Nat × List Value) :=
  match op, a, st with
  | 10, [t], st => some (t, st)
  | 11, [t], .int x :: r => some (if x = 0 then t else ix + 1, r)
  | 12, [t], .int x :: r => some (if ¬ x = 0 then t else ix + 1, r)
  | 13, [t], .int x :: r => some (if x < 0 then t else ix + 1, r)
  | 14, [t], .int x :: r => some (if 0 ≤ x then t else ix + 1, r)
  | 15, [t], .int x :: r => some (if 0 < x then t else ix + 1, r)
  | 16, [t], .int x :: r => some (if x ≤ 0 then t else ix + 1, r)
  | 21, [t], .int y :: .int x :: r => some (if x = y then t else ix + 1, r)
  | 22, [t], .int y :: .int x :: r => some (if ¬ x = y then t else ix + 1, r)
  | 23, [t], .int y :: .int x :: r => some (if x < y then t else ix + 1, r)
  | 24, [t], .int y :: .int x :: r => some (if y ≤ x then t else ix + 1, r)
  | 25, [t], .int y :: .int x :: r => some (if y < x then t else ix + 1, r)
  | 26, [t], .int y :: .int x :: r => some (if x ≤ y then t else ix + 1, r)
  | 27, lo :: d :: ts, .int x :: r => some (xswi lo d ts x, r)
  | _, _, _ => none
/-- the answer of a method: 90 an int, 91 a boolean, 92 a char -/
def xret (ai : xA) (st : List Value) : Option (Option Value) :=
  match ai, st with
  | .inl .return_, [] => some none
  | .inl .ireturn, [.int x] => some (some (.int x))
  | .inl .lreturn, [.long x] => some (some (.long x))
  | .inr (.inr (91, [])), [.int x] => if x = 0 ∨ x = 1 then some (some (.int x)) else none
  | .inr (.inr (92, [])), [.int x] => if 0 ≤ x ∧ x < 65536 then some (some (.int x)) else none
  | _, _ => none
/-- a call: the method's number; the receiver's class, where it has one -/
def xcallee (ai : xA) : Option (Nat × Option Nat) :=
  match ai with
  | .inr (.inr (40, [k])) => some (k, none)
  | .inr (.inr (41, [k, ci])) => some (k, some ci)
  | _ => none
def xis (S : List (Nat × Int32)) (c kind : Nat) : Bool := match S[c]? with
  | some (k, _) => k == kind
  | none => false
def xin (S : List (Nat × Int32)) (c kind : Nat) (i : Int32) : Bool := match S[c]? with
  | some (k, n) => k == kind && decide (0 ≤ i) && decide (i < n)
  | none => false
def xvp (r : Option Nat) : Value := match r with
  | none => .null
  | some j => .ref j
def xhI (ins : Instr) (E : xE) (st : List Value) (M : xM) : Option (List Value × xM) :=
  match ins, st, M with
  | .iaload, .int i :: .ref c :: r, (F, I, G, J, P, Q, S) =>
    if c = xSCR then (if 0 ≤ i ∧ i < E.1.1 then some (.int (E.1.2 i) :: r, F, I, G, J, P, Q, S) else none)
    else if xin S c 0 i then some (.int (I c i) :: r, F, I, G, J, P, Q, S) else none
  | .baload, .int i :: .ref c :: r, (F, I, G, J, P, Q, S) => if xin S c 3 i then some (.int (I c i) :: r, F, I, G, J, P, Q, S) else none
  | .caload, .int i :: .ref c :: r, (F, I, G, J, P, Q, S) => if xin S c 2 i then some (.int (I c i) :: r, F, I, G, J, P, Q, S) else none
  | .laload, .int i :: .ref c :: r, (F, I, G, J, P, Q, S) => if xin S c 1 i then some (.long (J c i) :: r, F, I, G, J, P, Q, S) else none
  | .aaload, .int i :: .ref c :: r, (F, I, G, J, P, Q, S) => if xin S c 4 i ∨ xin S c 5 i ∨ xin S c 6 i then some (xvp (Q c i) :: r, F, I, G, J, P, Q, S) else none
  | .iastore, .int x :: .int i :: .ref c :: r, (F, I, G, J, P, Q, S) => if xin S c 0 i then some (r, F, xv I c i x, G, J, P, Q, S) else none
  | .bastore, .int x :: .int i :: .ref c :: r, (F, I, G, J, P, Q, S) => if xin S c 3 i ∧ (x = 0 ∨ x = 1) then some (r, F, xv I c i x, G, J, P, Q, S) else none
  | .castore, .int x :: .int i :: .ref c :: r, (F, I, G, J, P, Q, S) => if xin S c 2 i ∧ 0 ≤ x ∧ x < 65536 then some (r, F, xv I c i x, G, J, P, Q, S) else none
  | .lastore, .long x :: .int i :: .ref c :: r, (F, I, G, J, P, Q, S) => if xin S c 1 i then some (r, F, I, G, xv J c i x, P, Q, S) else none
  | .aastore, .ref x :: .int i :: .ref c :: r, (F, I, G, J, P, Q, S) =>
    if (xin S c 4 i ∧ xis S x 16) ∨ (xin S c 5 i ∧ xis S x 17) then some (r, F, I, G, J, P, xv Q c i (some x), S) else none
  | .arraylength, .ref c :: r, (F, I, G, J, P, Q, S) =>
    if c = xSCR then some (.int E.1.1 :: r, F, I, G, J, P, Q, S)
    else match S[c]? with
    | some (k, n) => if k < 10 then some (.int n :: r, F, I, G, J, P, Q, S) else none
    | none => none
  | _, _, _ => none
def xrests (lose sits bows what : Int32) : Option Int32 :=
  let gain : Bool → Bool → Int32 := fun a b => if a then (if b then -lose else sits) else if b then bows else 0
  let ok : Bool → Bool → Bool := fun a b => decide (gain (!a) b ≤ gain a b) && decide (gain (!b) a ≤ gain b a)
  let within : Int32 → Bool := fun v => decide (0 ≤ v) && decide (v ≤ 9)
  let ps : List Int32 := (if ok false false then [0] else []) ++ (if ok false true then [1] else []) ++ (if ok true false then [2] else []) ++ (if ok true true then [3] else [])
  if within lose && within sits && within bows then
    if what = -1 then some (nI ps.length) else if what < 0 then none else ps[what.toNatClampNeg]?
  else none
def xhO (pr : Bool) (op : Nat) (a : List Nat) (E : xE) (st : List Value) (M : xM) : Option (List Value × xM) :=
  match op, a, st, M with
  | 1, [ci, k], .ref c :: r, (F, I, G, J, P, Q, S) => if xis S c (10 + ci) then some (.int (F c k) :: r, F, I, G, J, P, Q, S) else none
  | 2, [ci, k], .ref c :: r, (F, I, G, J, P, Q, S) => if xis S c (10 + ci) then some (.long (G c k) :: r, F, I, G, J, P, Q, S) else none
  | 3, [ci, k], .ref c :: r, (F, I, G, J, P, Q, S) => if xis S c (10 + ci) then some (xvp (P c k) :: r, F, I, G, J, P, Q, S) else none
  | 4, [ci, k], .int x :: .ref c :: r, (F, I, G, J, P, Q, S) => if xis S c (10 + ci) then some (r, xu F c k x, I, G, J, P, Q, S) else none
  | 5, [ci, k], .long x :: .ref c :: r, (F, I, G, J, P, Q, S) => if xis S c (10 + ci) then some (r, F, I, xu G c k x, J, P, Q, S) else none
  | 6, [ci, k], .ref x :: .ref c :: r, (F, I, G, J, P, Q, S) => if xis S c (10 + ci) ∧ x < S.length then some (r, F, I, G, J, xu P c k (some x), Q, S) else none
  | 7, [ci, k], .int x :: .ref c :: r, (F, I, G, J, P, Q, S) => if xis S c (10 + ci) ∧ (x = 0 ∨ x = 1) then some (r, xu F c k x, I, G, J, P, Q, S) else none
  | 50, [ci], r, (F, I, G, J, P, Q, S) => if S.length < 900 then some (.ref S.length :: r, xw F S.length 0, I, xw G S.length 0, J, xw P S.length none, Q, S ++ [(10 + ci, 0)]) else none
  | 51, [k], .int n :: r, (F, I, G, J, P, Q, S) => if S.length < 900 ∧ 0 ≤ n ∧ n < 5000 ∧ k < 4 then some (.ref S.length :: r, F, xw I S.length 0, G, xw J S.length 0, P, Q, S ++ [(k, n)]) else none
  | 52, [k], .int n :: r, (F, I, G, J, P, Q, S) => if S.length < 900 ∧ 0 ≤ n ∧ n < 5000 ∧ 4 ≤ k ∧ k < 6 then some (.ref S.length :: r, F, I, G, J, P, xw Q S.length none, S ++ [(k, n)]) else none
  | 53, [], .int m :: .int n :: r, (F, I, G, J, P, Q, S) => if S.length < 900 ∧ n = 5 ∧ m = 7 then
      some (.ref S.length :: r, F, (fun a b => if S.length < a ∧ a < S.length + 6 then 0 else I a b), G, J, P, (fun a b => if a = S.length then (if 0 ≤ b ∧ b < 5 then some (S.length + 1 + b.toNatClampNeg) else none) else Q a b), S ++ [(6, 5), (0, 7), (0, 7), (0, 7), (0, 7), (0, 7)]) else none
  | 60, [], .int y :: .int x :: r, M => some (.int (if x < y then y else x) :: r, M)
  | 61, [], .int y :: .int x :: r, M => some (.int (if y < x then y else x) :: r, M)
  | 62, [], .int x :: r, M => some (.int (if 0 ≤ x then x else 0 - x) :: r, M)
  | 63, [], .ref j :: r, M => if xSTR ≤ j then match E.2[j - xSTR]? with
      | some t => some (.int (nI t.length) :: r, M)
      | none => none else none
  | 64, [], .int i :: .ref j :: r, M => if xSTR ≤ j ∧ 0 ≤ i then match E.2[j - xSTR]? with
      | some t => match t[i.toNatClampNeg]? with
        | some ch => some (.int (nI ch) :: r, M)
        | none => none
      | none => none else none
  | 65, [], .int ch :: .ref j :: r, M => if xSTR ≤ j then match E.2[j - xSTR]? with
      | some t => some (.int (match t.findIdx? (fun c => nI c == ch) with
        | some q => nI q
        | none => -1) :: r, M)
      | none => none else none
  | 66, [], .ref o :: .int p3 :: .int p2 :: .int p1 :: .int p0 :: .ref c :: r, (F, I, G, J, P, Q, S) =>
    if pr ∧ xis S c 21 ∧ xin S o 1 0 ∧ 0 ≤ F 999 0 ∧ F 999 0 < 900 then match xrests p0 p1 p2 p3 with
      | none => some (.int 1 :: r, xu F 999 0 (F 999 0 + 1), I, G, J, P, Q, S)
      | some v => some (.int 0 :: r, xu F 999 0 (F 999 0 + 1), I, G, xv J o 0 v.toInt64, P, Q, S) else none
  | 67, [], .ref c :: r, (F, I, G, J, P, Q, S) => if c < S.length then some (r, F, I, G, J, P, Q, S) else none
  | _, _, _, _ => none
def xinc (op : Nat) (a : List Nat) (L : xL) : Option xL :=
  match op, a with
  | 80, [i] => match L[i]? with
    | some (some (.int x)) => some (L.set i (some (.int (x + 1))))
    | _ => none
  | 81, [i] => match L[i]? with
    | some (some (.int x)) => some (L.set i (some (.int (x + -1))))
    | _ => none
  | 82, [i] => match L[i]? with
    | some (some (.int x)) => some (L.set i (some (.int (x + -8))))
    | _ => none
  | 83, [i] => match L[i]? with
    | some (some (.int x)) => some (L.set i (some (.int (x + 7))))
    | _ => none
  | _, _ => none
def xwt (st : List Value) : Nat := (st.map fun v => v.category).sum
def xstep (pr : Bool) (E : xE) (ai : xA) (ix : Nat) (L : xL) (st : List Value) (M : xM) : Option (Nat × xL × List Value × xM) :=
  match ai with
  | .inr (.inl v) => some (ix + 1, L, v :: st, M)
  | .inl ins => match xpure ins L st with
    | some (L', st') => some (ix + 1, L', st', M)
    | none => match xhI ins E st M with
      | some (st', M') => some (ix + 1, L, st', M')
      | none => none
  | .inr (.inr (op, a)) => match xjmp op a ix st with
    | some (t, st') => some (t, L, st', M)
    | none => match xinc op a L with
      | some L' => some (ix + 1, L', st, M)
      | none => if xwt st ≤ 9 ∨ op < 60 then match xhO pr op a E st M with
        | some (st', M') => some (ix + 1, L, st', M')
        | none => none
        else none
def xent (args : List Value) (nL : Nat) : xL :=
  let l := args.flatMap fun v => if v.category = 2 then [some v, none] else [some v]
  l ++ List.replicate (nL - l.length) none
def xrecv (rc : Option Nat) (args : List Value) (M : xM) : Bool := match rc, args with
  | none, _ => true
  | some ci, .ref c :: _ => xis M.2.2.2.2.2.2 c (10 + ci)
  | _, _ => false
def xrun (MT : List xMeth) (pr : Bool) (E : xE) : Nat → Nat → List xA → Nat → xL → List Value → xM → Option (Option Value × xM)
  | 0, _, _, _, _, _, _ => none
  | n + 1, d, K, ix, L, st, M => match K[ix]? with
    | none => none
    | some ai => match xret ai st with
      | some r => some (r, M)
      | none => match xcallee ai with
        | some (k, rc) => match d, MT[k]? with
          | d' + 1, some q =>
            if q.1 ≤ st.length ∧ xwt (st.drop q.1) ≤ 8 ∧ xwt (st.take q.1).reverse ≤ q.2.1 ∧ xrecv rc (st.take q.1).reverse M = true then
              match xrun MT pr E n d' q.2.2 0 (xent (st.take q.1).reverse q.2.1) [] M with
              | some (r, M') => xrun MT pr E n d K (ix + 1) L (r.toList ++ st.drop q.1) M'
              | none => none
            else none
          | _, _ => none
        | none => match xstep pr E ai ix L st M with
          | some (ix', L', st', M') => xrun MT pr E n d K ix' L' st' M'
          | none => none
