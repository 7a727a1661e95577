/-! HOW RESOLVED CODE STANDS TO BYTES -/
def xR (ci : Nat) : String := match ci with
  | 0 => RX0
  | 1 => RX1
  | 2 => RX2
  | 3 => RX3
  | 4 => RX4
  | 5 => RX5
  | 6 => RX6
  | 7 => RX7
  | 8 => RX8
  | 9 => RX9
  | 10 => RX10
  | 11 => RX11
  | _ => RX12
def xT (ci : Nat) : u_T := match ci with
  | 0 => TX0
  | 1 => TX1
  | 2 => TX2
  | 3 => TX3
  | 4 => TX4
  | 5 => TX5
  | 6 => TX6
  | 7 => TX7
  | 8 => TX8
  | 9 => TX9
  | 10 => TX10
  | 11 => TX11
  | _ => TX12
def xN (ci : Nat) : Nat := match ci with
  | 0 => 2
  | 1 => 4
  | 2 => 12
  | 3 => 2
  | 4 => 3
  | 5 => 6
  | 6 => 7
  | 7 => 4
  | 8 => 3
  | 9 => 2
  | 10 => 7
  | 11 => 11
  | _ => 35
theorem xcl_at {ci : Nat} (h : ci < 13) : vwCl[ci]? = some (xR ci, xT ci, xN ci) := by
  rcases (show ci = 0 ∨ ci = 1 ∨ ci = 2 ∨ ci = 3 ∨ ci = 4 ∨ ci = 5 ∨ ci = 6 ∨ ci = 7 ∨ ci = 8 ∨ ci = 9 ∨ ci = 10 ∨ ci = 11 ∨ ci = 12 by omega) with rfl | rfl | rfl | rfl | rfl | rfl | rfl | rfl | rfl | rfl | rfl | rfl | rfl <;> rfl
/-- the classes that have code: 0 to 12, then Integer, Arrays, the law -/
def xRn (o : Nat) : String := if o < 13 then xR o else if o = 13 then RJ6 else if o = 14 then RJ7 else RL
abbrev xReal : Type := (MethodName × ByteArray × Option FieldType) × (Nat × Nat) × (Nat × Nat) × List xA × List Nat
abbrev rY (r : xReal) : MethodName := r.1.1
abbrev rB (r : xReal) : ByteArray := r.1.2.1
abbrev rRet (r : xReal) : Option FieldType := r.1.2.2
abbrev rOwn (r : xReal) : Nat := r.2.1.1
abbrev rKind (r : xReal) : Nat := r.2.1.2
abbrev rArgs (r : xReal) : Nat := r.2.2.1.1
abbrev rMaxL (r : xReal) : Nat := r.2.2.1.2
abbrev rK (r : xReal) : List xA := r.2.2.2.1
abbrev rPcs (r : xReal) : List Nat := r.2.2.2.2
def xMw (r : xReal) : List Cond := .code (rY r) (rB r) (rMaxL r) (rRet r) :: .initialized (rY r).cls :: (if rKind r = 0 then [.static (rY r)] else if rKind r = 1 then [.instanceMethod (rY r), .selects (rY r).cls (rY r) (rY r)] else [.instanceMethod (rY r)])
def xMd (r : xReal) : Bool := plainName (rY r).cls && decide ((rY r).cls ≠ "java/lang/invoke/MethodHandle") && decide ((rY r).cls ≠ "java/lang/invoke/VarHandle") && decide ((parseMethodDescriptor (rY r).desc).map (fun d => d.parameters.length) = some (rArgs r - (if rKind r = 0 then 0 else 1))) && decide (rOwn r < 15) && decide (xRn (rOwn r) = (rY r).cls) && decide ((rKind r = 2) = ((rY r).name = "<init>")) && (rKind r == 0 || decide (1 ≤ rArgs r)) && decide (rMaxL r ≤ 20) && (decide (rKind r = 2) == false || decide (rRet r = none))
/-- what stands at pc, where the resolved code has ai and goes on at pc1 -/
def xdec (cc : ByteArray) (pc : Nat) (i : Instr) (n : Nat) (pc1 : Nat) : Bool := decide (decode cc pc = .ok (i, n)) && (pc1 == pc + n)
theorem xdec_spec {cc : ByteArray} {pc n pc1 : Nat} {i : Instr} (h : xdec cc pc i n pc1 = true) : decode cc pc = .ok (i, n) ∧ pc1 = pc + n := by
  simpa [xdec] using h
def xrelP (cc : ByteArray) (pc pc1 : Nat) (i : Instr) : Bool := match i with
  | .iload k => (if h : k < 4 then xdec cc pc (.iload_n ⟨k, h⟩) 1 pc1 else false) || xdec cc pc (.iload k) 2 pc1
  | .lload k => (if h : k < 4 then xdec cc pc (.lload_n ⟨k, h⟩) 1 pc1 else false) || xdec cc pc (.lload k) 2 pc1
  | .aload k => (if h : k < 4 then xdec cc pc (.aload_n ⟨k, h⟩) 1 pc1 else false) || xdec cc pc (.aload k) 2 pc1
  | .istore k => (if h : k < 4 then xdec cc pc (.istore_n ⟨k, h⟩) 1 pc1 else false) || xdec cc pc (.istore k) 2 pc1
  | .lstore k => (if h : k < 4 then xdec cc pc (.lstore_n ⟨k, h⟩) 1 pc1 else false) || xdec cc pc (.lstore k) 2 pc1
  | .astore k => (if h : k < 4 then xdec cc pc (.astore_n ⟨k, h⟩) 1 pc1 else false) || xdec cc pc (.astore k) 2 pc1
  | i => xdec cc pc i 1 pc1
def xrelJ (cc : ByteArray) (pcs : List Nat) (pc pc1 : Nat) (op : Nat) (a : List Nat) : Bool := match op, a with
  | 10, [t] => xdec cc pc (.goto ((pcs.getD t 0 : Int) - pc)) 3 pc1
  | 11, [t] => xdec cc pc (.ifCond .eq ((pcs.getD t 0 : Int) - pc)) 3 pc1
  | 12, [t] => xdec cc pc (.ifCond .ne ((pcs.getD t 0 : Int) - pc)) 3 pc1
  | 13, [t] => xdec cc pc (.ifCond .lt ((pcs.getD t 0 : Int) - pc)) 3 pc1
  | 14, [t] => xdec cc pc (.ifCond .ge ((pcs.getD t 0 : Int) - pc)) 3 pc1
  | 15, [t] => xdec cc pc (.ifCond .gt ((pcs.getD t 0 : Int) - pc)) 3 pc1
  | 16, [t] => xdec cc pc (.ifCond .le ((pcs.getD t 0 : Int) - pc)) 3 pc1
  | 21, [t] => xdec cc pc (.if_icmp .eq ((pcs.getD t 0 : Int) - pc)) 3 pc1
  | 22, [t] => xdec cc pc (.if_icmp .ne ((pcs.getD t 0 : Int) - pc)) 3 pc1
  | 23, [t] => xdec cc pc (.if_icmp .lt ((pcs.getD t 0 : Int) - pc)) 3 pc1
  | 24, [t] => xdec cc pc (.if_icmp .ge ((pcs.getD t 0 : Int) - pc)) 3 pc1
  | 25, [t] => xdec cc pc (.if_icmp .gt ((pcs.getD t 0 : Int) - pc)) 3 pc1
  | 26, [t] => xdec cc pc (.if_icmp .le ((pcs.getD t 0 : Int) - pc)) 3 pc1
  | 27, lo :: dd :: ts => xdec cc pc (.tableswitch ((pcs.getD dd 0 : Int) - pc) ((lo : Int) - 100) ((lo : Int) - 100 + ts.length - 1) (ts.map (fun t => (pcs.getD t 0 : Int) - pc)).toArray) (pc1 - pc) pc1
  | _, _ => false
