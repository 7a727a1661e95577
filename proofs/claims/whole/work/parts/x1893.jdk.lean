/-! JDK MEMBERS OF TEXTS: contracts over one text of byte signs -/
def jN : Nat → Prop := fun _ => False
def txS (a d : Nat) (tx : List Nat) (U : State) (H : Heap) : Prop :=
  va_O "java/lang/String" a jN U H ∧ va_OF "java/lang/String" "coder" "B" (.int 0) a jN U H ∧ va_OF "java/lang/String" "value" "[B" (.ref d) a jN U H ∧ va_T .byte d tx.length (fun j => .int (nI (tx.getD j 0))) jN U H ∧ ((∀ j, tx.getD j 0 < 128) ∧ tx.length < 1000) ∧ va_Z "java/lang/String" "COMPACT_STRINGS" "Z" (.int 1) jN U H ∧ va_Zq "jdk/internal/util/Preconditions" "SIOOBE_FORMATTER" "Ljava/util/function/BiFunction;" jN U H
theorem txS.warm {a d : Nat} {tx : List Nat} {u U : State} {H : Heap} (hvm : u.vm.Alike U.vm) (h : txS a d tx u H) : txS a d tx U H := by
  obtain ⟨h1, h2, h3, h4, h5, h6, h7⟩ := h
  exact ⟨h1.moved hvm, h2.moved hvm, h3.moved hvm, h4.moved hvm, h5, h6.moved hvm, h7.moved hvm⟩
theorem txS.of {E : xE} {ad : Nat → Nat} {A : Nat → Prop} {U : State} {H : Heap} (h : xSx E ad A U H) {t : Nat} {tx : List Nat} (ht : E.2[t]? = some tx) : ∃ d, txS (ad (xSTR + t)) d tx U H := by
  obtain ⟨⟨adV, h1⟩, z1, z2, -⟩ := h.nar (B := jN) (fun q hq _ => hq.elim)
  obtain ⟨a1, a2, a3, a4, a5⟩ := h1 t tx ht
  exact ⟨adV t, a1, a2, a3, a4, a5, z1, z2⟩
def jQ (v : Option Value) : Array Value → State → Outcome → State → Prop := fun _ st oc t => oc = .returned v ∧ t.heap = st.heap
def jRoom (f k : Nat) : Room := { frames := f, cells := 0, slots := 0, locals := k }
def jPc (a d : Nat) (tx : List Nat) (as : List Value) : Array Value → State → Prop := va_Pc as (fun U => txS a d tx U U.heap)
theorem jPc_blind {a d : Nat} {tx : List Nat} {as : List Value} : FrameBlind (jPc a d tx as) := by
  intro v U g mk h
  obtain ⟨h1, h2⟩ := h
  exact ⟨h1, txS.warm (u := U) (U := U.calling g mk v) (Vm.Alike.refl U.vm) h2⟩
def jMet (l : Launch) (y : MethodName) (b : ByteArray) (n : Nat) (ret : Option FieldType) (f k : Nat) (a d : Nat) (tx : List Nat) (as : List Value) (v : Option Value) : Prop :=
  Met l y (.code y b n ret :: xGW) (jRoom f k) (jPc a d tx as) (jQ v) 0 0 jN
def jAt (p : Program) (s : State) (m : MethodId) (args : Array Value) (meth : Method) (c : Code) (cls : String) (b : ByteArray) (n : Nat) (ret : Option FieldType) (a d : Nat) (tx : List Nat) : Prop :=
  p.tables.exec = Jvm.exec ∧ c.code = b ∧ meth.sig.returnType = ret ∧ meth.locks = false ∧ c.maxLocals = n ∧ s.vm.findClass cls = some m.cls ∧ (∀ w ∈ xGW, w.before args s = true) ∧ txS a d tx s s.heap
theorem jMet.of {l : Launch} {y : MethodName} {b : ByteArray} {n : Nat} {ret : Option FieldType} {f k : Nat} {a d : Nat} {tx : List Nat} {as : List Value} {v : Option Value} (hy : plainName y.cls = true) (hn : (lg_sl as).length ≤ n)
    (body : ∀ (p : Program) (e : Env) (s : State) (m : MethodId) (below : List Frame) (meth : Method) (c : Code) (ls : Array Slot), jAt p s m as.toArray meth c y.cls b n ret a d tx → lv_has ls n (lv_args 0 as) → W p l e (jRoom f k) s m as.toArray below meth c s.heap [] 0 0 (MQ below (jQ v) as.toArray s 0 0 jN) (F0 m 0 ls [])) : jMet l y b n ret f k a d tx as v := by
  refine Met.ofW (cc := b) (maxL := n) (ret := ret) hy rfl ?_
  intro p e s m args0 below meth c s₁ B hml hv
  obtain ⟨rfl, hT⟩ := hv
  have hts := atoms_spec (ws := .code y b n ret :: xGW) B.pre
  have hl0 := lv_entry as (n := n) hn
  rw [lg_entry_eq]
  generalize (lg_sl as ++ List.replicate (n - (lg_sl as).length) Slot.unset).toArray = ls at hl0 ⊢
  exact body p e s m below meth c ls ⟨B.exec, B.bytes, B.returns, B.notSynchronized, hml, findClass_of_methodNamed B.named, fun w hw => hts w (List.mem_cons_of_mem _ hw), hT⟩ hl0
section JC
variable {p : Program} {l : Launch} {e : Env} {R : Room} {s : State} {m : MethodId} {args : Array Value} {below : List Frame} {meth : Method} {c : Code} {H : Heap} {locs : List Loc} {cells slots : Nat} {Q : State → Prop}
variable {cc b : ByteArray} {ls : Array Slot} {a d pc : Nat} {tx : List Nat}
theorem jret {cls : String} {n : Nat} {ret : Option FieldType} {t : FieldType} {x : Int32} (J : jAt p s m args meth c cls b n ret a d tx) (hret : ret = some t) (hn : narrow t (.int x) = .int x) (hd : decode b pc = .ok (.ireturn, 1)) :
    W p l e R s m args below meth c s.heap [] 0 0 (MQ below (jQ (some (.int x))) args s 0 0 jN) (F0 m pc ls [.int x]) :=
  W.zret J.1 J.2.1 (J.2.2.1.trans hret) hn (fun t ht _ => ⟨rfl, ht⟩) (fun q hq => by cases hq) hd J.2.2.2.1
theorem jvret {cls : String} {n : Nat} (J : jAt p s m args meth c cls b n none a d tx) (hd : decode b pc = .ok (.return_, 1)) :
    W p l e R s m args below meth c s.heap [] 0 0 (MQ below (jQ none) args s 0 0 jN) (F0 m pc ls []) :=
  W.vret J.1 J.2.1 J.2.2.1 (fun t ht _ => ⟨rfl, ht⟩) (fun q hq => by cases hq) hd J.2.2.2.1
theorem j_go {v : Option Value} {arr : Array Value} {st0 rest : List Value} (hr : va_Run p l e R s m args below meth c H locs cells slots 0 0 (F0 m pc ls st0) rest (jQ v arr) jN) (k : W p l e R s m args below meth c H locs cells slots Q (F0 m (pc + 3) ls (v.toList ++ rest))) : W p l e R s m args below meth c H locs cells slots Q (F0 m pc ls st0) := by
  intro T hT X
  obtain ⟨v', st₀, t, T', L, h0, X', hL, e1, e2, ⟨hv, hz⟩, st⟩ := hr T hT X
  cases hv
  have hL0 : L = [] := by
    cases L with
    | nil => rfl
    | cons q L => exact (hL q List.mem_cons_self).elim
  subst hL0
  rw [List.append_nil] at X'
  obtain ⟨t2, a1, b1⟩ := k T' (by rw [e1, hz, h0]) X'
  exact ⟨t2, st t2 a1, b1⟩
theorem j_good {y : MethodName} {n : Nat} {ret : Option FieldType} (w4 : Cond.code y b n ret ∈ lw_tbl) : GoodIn xGW (.code y b n ret :: xGW) := by
  intro w hw
  rcases List.mem_cons.mp hw with rfl | hw
  · exact ⟨xGW_in w4 rfl, good_of_word rfl⟩
  · exact ⟨hw, good_of_word (List.mem_filter.mp hw).2⟩
/-- a call of a text's own method -/
theorem j_callV {own : String} {idx n nL f k : Nat} {y : MethodName} {ret : Option FieldType} {as rest : List Value} {v : Option Value} (hx : p.tables.exec = Jvm.exec) (hb : c.code = cc) (hml : c.maxLocals = nL) (hls : ls.size = nL) (hown : s.vm.findClass own = some m.cls) (hts : ∀ w ∈ xGW, w.before args s = true)
    (hM : jMet l y b n ret f k a d tx (.ref a :: as) v) (hS : txS a d tx s H) (w : Cond.methodLink own idx y ∈ lw_tbl ∧ Cond.instanceMethod y ∈ lw_tbl ∧ Cond.selects "java/lang/String" y y ∈ lw_tbl ∧ Cond.code y b n ret ∈ lw_tbl ∧ Cond.initialized y.cls ∈ lw_tbl)
    (hd : y.cls ≠ "java/lang/invoke/MethodHandle" ∧ y.cls ≠ "java/lang/invoke/VarHandle" ∧ (parseMethodDescriptor y.desc).map (fun d => d.parameters.length) = some as.length) (hR : f + 1 ≤ R.frames ∧ 8 + (n + 11) + k ≤ R.locals) (hc : cells ≤ R.cells ∧ slots ≤ R.slots) (hwt : (rest.map fun v => v.category).sum ≤ 8) (hdg : decode cc pc = .ok (.invokevirtual idx, 3))
    (kk : W p l e R s m args below meth c H locs cells slots Q (F0 m (pc + 3) ls (v.toList ++ rest))) : W p l e R s m args below meth c H locs cells slots Q (F0 m pc ls (as.reverse ++ .ref a :: rest)) := by
  have cw := callB_of (R := R) (own := own) (index := idx) as.length hts (j_good w.2.2.2.1) (ws := .code y b n ret :: xGW) (rm := jRoom f k) (mc := 0) (ms := 0) rfl rfl rfl (hts _ (xGW_in w.2.2.2.2 rfl)) (hts _ (xGW_in w.1 rfl)) hd hR
  obtain ⟨cell, q1, q2, q3, q4⟩ := hS.1
  exact j_go (va_runV (C := "java/lang/String") (b := a) (As := as) (rest := rest) ⟨hx, hb, hml, hown, hts⟩ hM ⟨cw, hts _ (xGW_in w.2.1 rfl), hts _ (xGW_in w.2.2.1 rfl)⟩ ⟨jPc_blind, ⟨cell, q1, q2, q3⟩, fun U hU hW => ⟨rfl, by show txS a d tx U U.heap; rw [hU]; exact hS.warm hW.alike⟩⟩ rfl rfl hls rfl (by show 2 * 0 + _ ≤ 8; omega) hdg hc) kk
theorem j_callS {own : String} {idx n nL f k : Nat} {y : MethodName} {ret : Option FieldType} {as rest : List Value} {v : Option Value} (hx : p.tables.exec = Jvm.exec) (hb : c.code = cc) (hml : c.maxLocals = nL) (hls : ls.size = nL) (hown : s.vm.findClass own = some m.cls) (hts : ∀ w ∈ xGW, w.before args s = true)
    (hM : jMet l y b n ret f k a d tx as v) (hS : txS a d tx s H) (w : Cond.methodLink own idx y ∈ lw_tbl ∧ Cond.static y ∈ lw_tbl ∧ Cond.code y b n ret ∈ lw_tbl ∧ Cond.initialized y.cls ∈ lw_tbl)
    (hd : y.cls ≠ "java/lang/invoke/MethodHandle" ∧ y.cls ≠ "java/lang/invoke/VarHandle" ∧ (parseMethodDescriptor y.desc).map (fun d => d.parameters.length) = some as.length) (hR : f + 1 ≤ R.frames ∧ 8 + (n + 11) + k ≤ R.locals) (hc : cells ≤ R.cells ∧ slots ≤ R.slots) (hwt : (rest.map fun v => v.category).sum ≤ 8) (hdg : decode cc pc = .ok (.invokestatic idx, 3))
    (kk : W p l e R s m args below meth c H locs cells slots Q (F0 m (pc + 3) ls (v.toList ++ rest))) : W p l e R s m args below meth c H locs cells slots Q (F0 m pc ls (as.reverse ++ rest)) := by
  have cw := callB_of (R := R) (own := own) (index := idx) as.length hts (j_good w.2.2.1) (ws := .code y b n ret :: xGW) (rm := jRoom f k) (mc := 0) (ms := 0) rfl rfl rfl (hts _ (xGW_in w.2.2.2 rfl)) (hts _ (xGW_in w.1 rfl)) hd hR
  exact j_go (va_runS (As := as) (rest := rest) ⟨hx, hb, hml, hown, hts⟩ hM ⟨cw, hts _ (xGW_in w.2.1 rfl)⟩ ⟨jPc_blind, fun U hU hW => ⟨rfl, by show txS a d tx U U.heap; rw [hU]; exact hS.warm hW.alike⟩⟩ rfl rfl hls rfl (by show 2 * 0 + _ ≤ 8; omega) hdg hc) kk
end JC
