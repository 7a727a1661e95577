/-! EVERY METHOD'S RESOLVED CODE AGAINST ITS BYTES -/
/-- a field's kind: 0 int, 1 boolean, 2 long, 3 a reference -/
def xfk (ci k : Nat) : Nat := let d := (xT ci k).2.2.1; if d = "I" then 0 else if d = "Z" then 1 else if d = "J" then 2 else 3
def xanyF (cc : ByteArray) (o pc pc1 ci k : Nat) (i : Nat → Instr) : Bool := xFl.any fun q => q.1 == o && (q.2.2.1 == ci && (q.2.2.2 == k && xdec cc pc (i q.2.1) 3 pc1))
def xfin (o ci k : Nat) (init : Bool) : Bool := !(xT ci k).2.2.2 || (init && decide ((xT ci k).1 = xRn o))
def xanyC (l : List (Nat × Nat × Nat × Nat)) (cc : ByteArray) (o pc pc1 k kind : Nat) (i : Nat → Instr) : Bool := l.any fun q => q.1 == o && (q.2.2.1 == k && (q.2.2.2 == kind && xdec cc pc (i q.2.1) 3 pc1))
def xany3 (l : List (Nat × Nat × Nat)) (cc : ByteArray) (o pc pc1 k : Nat) (i : Nat → Instr) : Bool := l.any fun q => q.1 == o && (q.2.2 == k && xdec cc pc (i q.2.1) 3 pc1)
def xrelO (cc : ByteArray) (pcs : List Nat) (o : Nat) (init : Bool) (ret : Option FieldType) (pc pc1 op : Nat) (a : List Nat) : Bool :=
  match op, a with
  | 1, [ci, k] => decide (ci < 13) && (decide (k < xN ci) && (decide (xfk ci k ≤ 1) && xanyF cc o pc pc1 ci k .getfield))
  | 2, [ci, k] => decide (ci < 13) && (decide (k < xN ci) && (decide (xfk ci k = 2) && xanyF cc o pc pc1 ci k .getfield))
  | 3, [ci, k] => decide (ci < 13) && (decide (k < xN ci) && (decide (xfk ci k = 3) && xanyF cc o pc pc1 ci k .getfield))
  | 4, [ci, k] => decide (ci < 13) && (decide (k < xN ci) && (decide (xfk ci k = 0) && (xfin o ci k init && xanyF cc o pc pc1 ci k .putfield)))
  | 5, [ci, k] => decide (ci < 13) && (decide (k < xN ci) && (decide (xfk ci k = 2) && (xfin o ci k init && xanyF cc o pc pc1 ci k .putfield)))
  | 6, [ci, k] => decide (ci < 13) && (decide (k < xN ci) && (decide (xfk ci k = 3) && (xfin o ci k init && xanyF cc o pc pc1 ci k .putfield)))
  | 7, [ci, k] => decide (ci < 13) && (decide (k < xN ci) && (decide (xfk ci k = 1) && (xfin o ci k init && xanyF cc o pc pc1 ci k .putfield)))
  | 40, [k] => xanyC xCl cc o pc pc1 k 0 .invokestatic
  | 41, [k, ci] => decide (ci < 13) && (decide (xR ci = (xYn k).cls) && (xanyC xCl cc o pc pc1 k 1 .invokevirtual || xanyC xCl cc o pc pc1 k 2 .invokespecial || xanyC xNl cc o pc pc1 k 3 .invokespecial))
  | 50, [ci] => decide (ci < 13) && xany3 xOl cc o pc pc1 ci .new
  | 51, [k] => (decide (k = 0) && xdec cc pc (.newarray .int) 2 pc1) || (decide (k = 1) && xdec cc pc (.newarray .long) 2 pc1) || (decide (k = 2) && xdec cc pc (.newarray .char) 2 pc1) || (decide (k = 3) && xdec cc pc (.newarray .boolean) 2 pc1)
  | 52, [k] => (decide (k = 4) && xany3 xOl cc o pc pc1 6 .anewarray) || (decide (k = 5) && xany3 xOl cc o pc pc1 7 .anewarray)
  | 53, [] => decide (o = 0) && xdec cc pc (.multianewarray 18 2) 4 pc1
  | 60, [] => xany3 xAl cc o pc pc1 0 .invokestatic
  | 61, [] => xany3 xAl cc o pc pc1 1 .invokestatic
  | 62, [] => xany3 xAl cc o pc pc1 2 .invokestatic
  | 63, [] => xany3 xGl cc o pc pc1 0 .invokevirtual
  | 64, [] => xany3 xGl cc o pc pc1 1 .invokevirtual
  | 65, [] => xany3 xGl cc o pc pc1 2 .invokevirtual
  | 66, [] => decide (o = 15) && xdec cc pc (.invokestatic 168) 3 pc1
  | 67, [] => xBl.any fun q => q.1 == o && xdec cc pc (.invokespecial q.2) 3 pc1
  | 80, [i] => xdec cc pc (.iinc i 1) 3 pc1
  | 81, [i] => xdec cc pc (.iinc i (-1)) 3 pc1
  | 82, [i] => xdec cc pc (.iinc i (-8)) 3 pc1
  | 83, [i] => xdec cc pc (.iinc i 7) 3 pc1
  | 91, [] => decide (ret = some .boolean) && xdec cc pc .ireturn 1 pc1
  | 92, [] => decide (ret = some .char) && xdec cc pc .ireturn 1 pc1
  | op, a => xrelJ cc pcs pc pc1 op a
def xrelV (cc : ByteArray) (o pc pc1 : Nat) (v : Value) : Bool := match v with
  | .int v => xdec cc pc (.iconst v.toInt) 1 pc1 || (decide ((Int8.ofInt v.toInt).toInt32 = v) && xdec cc pc (.bipush v.toInt) 2 pc1) || (decide ((Int16.ofInt v.toInt).toInt32 = v) && xdec cc pc (.sipush v.toInt) 3 pc1)
    || (xKl.any fun q => q.1.1 == o && (decide (q.2 = v) && (xdec cc pc (.ldc q.1.2) 2 pc1 || xdec cc pc (.ldc_w q.1.2) 3 pc1)))
  | .long v => (decide (v = 0) && xdec cc pc (.lconst 0) 1 pc1) || (decide (v = 1) && xdec cc pc (.lconst 1) 1 pc1) || (xJl.any fun q => q.1.1 == o && (decide (q.2 = v) && xdec cc pc (.ldc2_w q.1.2) 3 pc1))
  | .ref j => xSl.any fun q => q.1.1 == o && (xSTR + q.2 == j && xdec cc pc (.ldc q.1.2) 2 pc1)
  | _ => false
def xrel (cc : ByteArray) (pcs : List Nat) (o : Nat) (init : Bool) (ret : Option FieldType) (pc pc1 : Nat) (ai : xA) : Bool := match ai with
  | .inr (.inl v) => xrelV cc o pc pc1 v
  | .inr (.inr (op, a)) => xrelO cc pcs o init ret pc pc1 op a
  | .inl .return_ => decide (ret = none) && xdec cc pc .return_ 1 pc1
  | .inl .ireturn => decide (ret = some .int) && xdec cc pc .ireturn 1 pc1
  | .inl .lreturn => decide (ret = some .long) && xdec cc pc .lreturn 1 pc1
  | .inl ins => xrelP cc pc pc1 ins
def xokL (cc : ByteArray) (pcs : List Nat) (o : Nat) (init : Bool) (ret : Option FieldType) : Nat → List xA → Bool
  | _, [] => true
  | ix, ai :: K => xrel cc pcs o init ret (pcs.getD ix 0) (pcs.getD (ix + 1) 0) ai && xokL cc pcs o init ret (ix + 1) K
theorem xokL_spec {cc : ByteArray} {pcs : List Nat} {o : Nat} {init : Bool} {ret : Option FieldType} : ∀ {K : List xA} {i ix : Nat} {ai : xA}, xokL cc pcs o init ret i K = true → K[ix]? = some ai → xrel cc pcs o init ret (pcs.getD (i + ix) 0) (pcs.getD (i + ix + 1) 0) ai = true
  | [], _, _, _, _, h => by simp at h
  | a :: K, i, 0, ai, h, hk => by
    simp only [xokL, Bool.and_eq_true] at h
    cases hk
    exact h.1
  | a :: K, i, ix + 1, ai, h, hk => by
    simp only [xokL, Bool.and_eq_true] at h
    have := xokL_spec (ix := ix) (ai := ai) h.2 (by simpa using hk)
    rwa [show i + 1 + ix = i + (ix + 1) by omega] at this
/-- a real method's code holds, and it begins at 0 -/
def xok (r : xReal) : Bool := xokL (rB r) (rPcs r) (rOwn r) (decide (rKind r = 2)) (rRet r) 0 (rK r) && (rPcs r).head? == some 0
