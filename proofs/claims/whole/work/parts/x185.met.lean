/-! CONTRACTS OUT OF THE WALK -/
theorem va_AOA.moved {t : FieldType} {u U : State} (hvm : u.vm.Alike U.vm) (h : va_AOA t u) : va_AOA t U := by
  have hfc : ∀ n, U.vm.findClass n = u.vm.findClass n := fun n => hvm.findClass n none
  have hfi : ∀ comp : ClassId, (U.vm.classes.findIdx? fun (x : Class) => match x.kind with | .array component _ => component == comp | _ => false) = (u.vm.classes.findIdx? fun (x : Class) => match x.kind with | .array component _ => component == comp | _ => false) := by
    intro comp
    have e1 := va_idx_bare U.vm comp
    have e2 := va_idx_bare u.vm comp
    rw [hvm.bare_eq] at e1
    exact e1.symm.trans e2
  unfold va_AOA Cond.before Cond.holds at h ⊢
  simp only [Cond.value] at h ⊢
  rw [hfc]
  cases h1 : u.vm.findClass (FieldType.array t).toString with
  | none => rw [h1] at h; simp at h
  | some comp =>
    rw [h1] at h
    simp only [Option.bind_some] at h ⊢
    have h2 := hfi comp
    generalize h3 : (u.vm.classes.findIdx? fun (x : Class) => match x.kind with | .array component _ => component == comp | _ => false) = r at h2
    have h4 : ((r.bind fun c => (u.vm.classes[c]?).map fun (k : Class) => match k.kind with | .array _ ty => decide (ty = FieldType.array t) && decide (u.vm.findClass ("[" ++ (FieldType.array t).toString) = some c) | _ => false) == some true) = true := by
      rw [← h3]
      exact h
    have h5 : ((r.bind fun c => (U.vm.classes[c]?).map fun (k : Class) => match k.kind with | .array _ ty => decide (ty = FieldType.array t) && decide (U.vm.findClass ("[" ++ (FieldType.array t).toString) = some c) | _ => false) == some true) = true := by
      cases r with
      | none => simp at h4
      | some c =>
        simp only [Option.bind_some] at h4 ⊢
        cases h6 : u.vm.classes[c]? with
        | none => rw [h6] at h4; simp at h4
        | some k =>
          obtain ⟨k', hk', he⟩ := hvm.2.2 _ _ h6
          rw [h6] at h4
          rw [hk']
          simp only [Option.map_some] at h4 ⊢
          rw [he, hfc]
          exact h4
    rw [← h2] at h5
    exact h5
theorem xEV_warm {E : xE} {ad : Nat → Nat} {A : Nat → Prop} {s U : State} {H : Heap} (hW : s.WarmedH U.vm) (h : xEV E ad A s H) : xEV E ad A U H := by
  obtain ⟨⟨⟨L, xs, hX, h2⟩, h8⟩, h3, h4, h5, h6, h7⟩ := h
  exact ⟨⟨⟨L, xs, hX.moved hW.alike, h2⟩, h8.warm hW.alike⟩, fun q hq => va_Nw.warmM hW (h3 q hq), h4.moved hW.alike, h5.moved hW.alike, h6.moved hW.alike, fun q hq => (h7 q hq).warm hW⟩
theorem xEV_kept {E : xE} {ad : Nat → Nat} {A : Nat → Prop} {U : State} {H H1 : Heap} (hz : H.size ≤ H1.size) (hq : ∀ q : Nat, q < H.size → ¬ A q → H1[q]? = H[q]?) (h : xEV E ad A U H) : xEV E ad A U H1 := by
  obtain ⟨⟨⟨L, xs, hX, h1, h2, h2'⟩, h8⟩, h3⟩ := h
  exact ⟨⟨⟨L, xs, hX.kept (hq _ h1 h2), Nat.lt_of_lt_of_le h1 hz, h2, h2'⟩, h8.kept hq⟩, h3⟩
theorem xEV_narrow {E : xE} {ad : Nat → Nat} {A B : Nat → Prop} {U : State} {H : Heap} (hAB : ∀ q, B q → q < H.size → A q) (h : xEV E ad A U H) : xEV E ad B U H := by
  obtain ⟨⟨⟨L, xs, hX, h1, h2, h2'⟩, h8⟩, h3⟩ := h
  exact ⟨⟨⟨L, xs, hX, h1, fun q => h2 (hAB _ q h1), h2'⟩, h8.nar hAB⟩, h3⟩
theorem xEV_ag {E : xE} {n : Nat} {ad ad' : Nat → Nat} {A : Nat → Prop} {U : State} {H : Heap} (ha : xagree n ad ad') (h : xEV E ad A U H) : xEV E ad' A U H := by
  have e1 : ad' xSCR = ad xSCR := ha _ (Or.inr (by decide))
  have e2 : ∀ t, ad' (xSTR + t) = ad (xSTR + t) := fun t => ha _ (Or.inr (by unfold xSTR; omega))
  obtain ⟨h1, h3, h4, h5, h6, h7⟩ := h
  exact ⟨⟨by rw [e1]; exact h1.1, h1.2.ag e2⟩, h3, h4, h5, h6, fun q hq => by rw [e2]; exact h7 q hq⟩
/-- a method's contract, of the whole store -/
def xPc (D : va_G) (ty : Nat → ClassId) (ad : Nat → Nat) (E : xE) (M : xM) (sz : Nat) (args : List Value) : Array Value → State → Prop :=
  va_Pc (args.map (xval ad)) (fun U => U.heap.size = sz ∧ va_P D vwCl (xwld ty ad M) U.heap ∧ va_K D vwCl (xTys ty) U ∧ va_D (fun _ => True) (xwld ty ad M) ∧ xEV E ad (va_A (xwld ty ad M) sz) U U.heap)
def xQc (D : va_G) (ty : Nat → ClassId) (ad : Nat → Nat) (M M' : xM) (sz : Nat) (v : Option Value) : Array Value → State → Outcome → State → Prop := fun _ st oc t =>
  (∃ ad', oc = .returned (v.map (xval ad')) ∧ xagree (mS M).length ad ad' ∧ va_P D vwCl (xwld ty ad' M') t.heap ∧ va_D (va_A (xwld ty ad M) sz) (xwld ty ad' M') ∧ xwf M' ∧ (∀ w, v = some w → xok1 (mS M').length w)) ∧ va_F (va_A (xwld ty ad M) sz) st t
theorem xPc_blind {D : va_G} {ty : Nat → ClassId} {ad : Nat → Nat} {E : xE} {M : xM} {sz : Nat} {args : List Value} : FrameBlind (xPc D ty ad E M sz args) := by
  intro a U g mk h
  obtain ⟨h1, h2, h3, h4, h5, h6⟩ := h
  refine ⟨h1, h2, h3, va_K.moved (u := U) (U := U.calling g mk a) (Vm.Alike.refl U.vm) h4, h5, ?_⟩
  exact xEV_warm (s := U) (U := U.calling g mk a) (State.WarmedH.refl U) h6
theorem xWsY_good (r r2 : xReal) (h : ∀ w ∈ xMw r2, w ∈ lw_tbl) : GoodIn (xWsY r) (xWsY r2) := by
  intro w hw
  rcases List.mem_cons.mp hw with rfl | hw
  · exact ⟨List.mem_cons_of_mem _ (xGW_in (h _ (by unfold xMw; exact List.mem_cons_self)) rfl), good_of_word rfl⟩
  · exact ⟨List.mem_cons_of_mem _ hw, good_of_word (List.mem_filter.mp hw).2⟩
theorem xent_mem {ad : Nat → Nat} : ∀ (args : List Value) (i j : Nat) (v : Value) (r : Nat), ((args.flatMap fun v => if v.category = 2 then [some v, none] else [some v]) ++ List.replicate r none)[j]? = some (some v) → (i + j, xval ad v) ∈ lv_args i (args.map (xval ad))
  | [], i, j, v, r, h => by
    simp only [List.flatMap_nil, List.nil_append] at h
    rw [List.getElem?_replicate] at h
    split at h <;> simp at h
  | a :: as, i, j, v, r, h => by
    rw [List.flatMap_cons, List.append_assoc] at h
    rw [List.map_cons, lv_args, xval_cat]
    by_cases hc : a.category = 2
    · rw [if_pos hc] at h
      rw [if_pos hc]
      match j, h with
      | 0, h => simp at h; subst h; exact List.mem_cons_self
      | 1, h => simp at h
      | j + 2, h =>
        have := xent_mem (ad := ad) as (i + 2) j v r (by simpa using h)
        rw [show i + 2 + j = i + (j + 2) by omega] at this
        exact List.mem_cons_of_mem _ this
    · rw [if_neg hc] at h
      rw [if_neg hc]
      match j, h with
      | 0, h => simp at h; subst h; exact List.mem_cons_self
      | j + 1, h =>
        have := xent_mem (ad := ad) as (i + 1) j v r (by simpa using h)
        rw [show i + 1 + j = i + (j + 1) by omega] at this
        exact List.mem_cons_of_mem _ this
theorem xent_sub {ad : Nat → Nat} {args : List Value} {nL : Nat} : ∀ q ∈ xlv ad (xent args nL), q ∈ lv_args 0 (args.map (xval ad)) := by
  rintro ⟨j, w⟩ hq
  obtain ⟨v, h1, rfl⟩ := xlv_mem.mp hq
  have := xent_mem (ad := ad) args 0 j v _ h1
  rwa [Nat.zero_add] at this
theorem xcat12 (v : Value) : v.category = 1 ∨ v.category = 2 := lv_cat v
theorem xflat_len : ∀ args : List Value, (args.flatMap fun v => if v.category = 2 then [some v, none] else [some v]).length = xwt args
  | [] => rfl
  | a :: as => by
    rw [List.flatMap_cons, List.length_append, xflat_len as]
    unfold xwt
    rw [List.map_cons, List.sum_cons]
    rcases xcat12 a with h | h
    · rw [if_neg (by omega), h]; rfl
    · rw [if_pos h, h]; rfl
theorem xent_len {args : List Value} {nL : Nat} (h : xwt args ≤ nL) : (xent args nL).length = nL := by
  unfold xent
  dsimp only
  rw [List.length_append, List.length_replicate, xflat_len]
  omega
theorem lg_sl_len : ∀ args : List Value, (lg_sl args).length = xwt args
  | [] => rfl
  | a :: as => by
    have e1 : lg_sl (a :: as) = (if a.category = 2 then [.val a, .second] else [.val a]) ++ lg_sl as := by unfold lg_sl; rw [List.flatMap_cons]
    rw [e1, List.length_append, lg_sl_len as]
    unfold xwt
    rw [List.map_cons, List.sum_cons]
    rcases xcat12 a with h | h
    · rw [if_neg (by omega), h]; rfl
    · rw [if_pos h, h]; rfl
theorem xwt_vals {ad : Nat → Nat} (args : List Value) : xwt (args.map (xval ad)) = xwt args := xwt_map args
theorem xRT_md {r : xReal} (h : r ∈ xRT) : plainName (rY r).cls = true ∧ (rY r).cls ≠ "java/lang/invoke/MethodHandle" ∧ (rY r).cls ≠ "java/lang/invoke/VarHandle" ∧ (parseMethodDescriptor (rY r).desc).map (fun d => d.parameters.length) = some (rArgs r - (if rKind r = 0 then 0 else 1)) ∧ rOwn r < 15 ∧ xRn (rOwn r) = (rY r).cls ∧ ((rKind r = 2) = ((rY r).name = "<init>")) ∧ (rKind r = 0 ∨ 1 ≤ rArgs r) ∧ rMaxL r ≤ 20 ∧ (rKind r = 2 → rRet r = none) := by
  have h1 := (xRT_in r h).2
  unfold xMd at h1
  simp only [Bool.and_eq_true, Bool.or_eq_true, decide_eq_true_eq, beq_iff_eq] at h1
  obtain ⟨⟨⟨⟨⟨⟨⟨⟨⟨a1, a2⟩, a3⟩, a4⟩, a5⟩, a6⟩, a7⟩, a8⟩, a9⟩, a10⟩ := h1
  refine ⟨a1, a2, a3, a4, a5, a6, a7, a8, a9, fun h2 => ?_⟩
  rcases a10 with h3 | h3
  · simp [h2] at h3
  · exact h3
/-- a method's contract out of the walk of its body -/
theorem met_of_walk {l : Launch} {pr : Bool} {E : xE} {n : Nat} (hw : xWalk l pr E n) (hck : ∀ r ∈ xRT, xok r = true) {r : xReal} (hr : r ∈ xRT) {D : va_G} {ty : Nat → ClassId} {ad : Nat → Nat} {d : Nat} {args : List Value} {M M' : xM} {v : Option Value} (sz : Nat)
    (hrun : xrun xMT pr E n d (rK r) 0 (xent args (rMaxL r)) [] M = some (v, M')) (hwf : xwf M) (hoka : xokS1 (mS M).length args) (hwa : xwt args ≤ rMaxL r) :
    Met l (rY r) (xWsY r) (xRoom pr d (xcs M' - xcs M) (xss M' - xss M)) (xPc D ty ad E M sz args) (xQc D ty ad M M' sz v) (xcs M' - xcs M) (xss M' - xss M) (va_A (xwld ty ad M) sz) := by
  obtain ⟨hpl, -, -, -, -, hro, hri, -, -, -⟩ := xRT_md hr
  have hmw := (xRT_in r hr).1
  have hg := xrun_mono2 _ _ _ _ _ _ _ _ _ hwf.1 hrun
  refine Met.ofW (cc := rB r) (maxL := rMaxL r) (ret := rRet r) hpl rfl ?_
  intro p e s m args0 below meth c s₁ B hml hv
  obtain ⟨rfl, hsz, hP, hK, hD0, hEV⟩ := hv
  have hts := atoms_spec (ws := xWsY r) B.pre
  have hown : s.vm.findClass (xRn (rOwn r)) = some m.cls := by rw [hro]; exact findClass_of_methodNamed B.named
  have hlocks := B.notSynchronized
  have hname : meth.name = (rY r).name := (name_of_methodNamed B.named B.method).1
  subst hsz
  have hD := hD0.self (sz := s.heap.size)
  have hX : xCtx p s m ((args.map (xval ad)).toArray) c (rB r) (rOwn r) D ty := ⟨B.exec, B.bytes, hown, fun w hw => hts w (List.mem_cons_of_mem _ hw), hK⟩
  have hA : ∀ q : Nat, s.heap.size ≤ q → va_A (xwld ty ad M) s.heap.size q := fun q h => Or.inr h
  have hl0 := lv_entry (args.map (xval ad)) (n := rMaxL r) (by rw [lg_sl_len, xwt_vals]; exact hwa)
  rw [lg_entry_eq]
  generalize (lg_sl (args.map (xval ad)) ++ List.replicate (rMaxL r - (lg_sl (args.map (xval ad))).length) Slot.unset).toArray = ls at hl0 ⊢
  have hok0 := hck r hr
  unfold xok at hok0
  simp only [Bool.and_eq_true, beq_iff_eq] at hok0
  have hp0 : (rPcs r).getD 0 0 = 0 := by
    cases hh : rPcs r with
    | nil => rfl
    | cons x xs => rw [hh] at hok0; simp at hok0; simp [hok0.2]
  have hLok : xokL1 (mS M).length (xent args (rMaxL r)) := by
    intro i w hw2
    have h3 : ∀ (as : List Value), (∀ v ∈ as, xok1 (mS M).length v) → ∀ (i : Nat) (w : Value) (k : Nat), ((as.flatMap fun v => if v.category = 2 then [some v, none] else [some v]) ++ List.replicate k none)[i]? = some (some w) → xok1 (mS M).length w := by
      intro as has i w k hi
      have h4 := List.mem_of_getElem? hi
      rcases List.mem_append.mp h4 with h5 | h5
      · obtain ⟨v0, hv0, h6⟩ := List.mem_flatMap.mp h5
        split at h6
        · simp at h6; rw [h6]; exact has v0 hv0
        · simp at h6; rw [h6]; exact has v0 hv0
      · have := List.eq_of_mem_replicate h5
        cases this
    exact h3 args hoka i w _ hw2
  have key := hw p e (xRoom pr d (xcs M' - xcs M) (xss M' - xss M)) s m ((args.map (xval ad)).toArray) below meth c s.heap [] 0 0 (MQ below (xQc D ty ad M M' s.heap.size v) ((args.map (xval ad)).toArray) s (xcs M' - xcs M) (xss M' - xss M) (va_A (xwld ty ad M) s.heap.size)) (rB r) (rOwn r) D ty ad (va_A (xwld ty ad M) s.heap.size) ls (rPcs r) (decide (rKind r = 2)) (rRet r) (rK r) d 0 (rMaxL r) (xent args (rMaxL r)) [] M M' v hX hml
    (fun ix ai hk => by have := xokL_spec (i := 0) hok0.1 hk; rwa [Nat.zero_add] at this)
    (fun h => by have h2 := of_decide_eq_true h; rw [hri] at h2; rw [hname, h2])
    hrun ⟨hP, hD, va_S.rf, hwf⟩ hA hEV hLok (fun v hv => by cases hv) (lv_weak hl0 xent_sub) (xent_len hwa)
    (Nat.le_refl _) (Nat.le_refl _) (by show 0 + _ ≤ xcs M' - xcs M + _; omega) (by show 0 + _ ≤ xss M' - xss M + _; omega)
    (fun H1 locs1 ad' ls' pc' cells' slots' hW1 hag hc1 hs1 hret hokv => by
      have ec : cells' = xcs M' - xcs M := by omega
      have es : slots' = xss M' - xss M := by omega
      subst ec
      subst es
      obtain ⟨hP1, hD1, hS1, hwf1⟩ := hW1
      have hq : ∀ t : State, t.heap = H1 → s.WarmedH t.vm → xQc D ty ad M M' s.heap.size v ((args.map (xval ad)).toArray) s (.returned (v.map (xval ad'))) t := fun t ht hWt =>
        ⟨⟨ad', rfl, hag, by rw [ht]; exact hP1, hD1, hwf1, hokv⟩, hS1.F ht⟩
      match v, hret, hq with
      | none, hret, hq => exact W.vret B.exec B.bytes (B.returns.trans hret.1) hq hS1.2.2 hret.2
      | some (.int x), hret, hq =>
        obtain ⟨hd, t, ht, hn⟩ := hret
        exact W.zret B.exec B.bytes (B.returns.trans ht) hn hq hS1.2.2 hd
      | some (.long x), hret, hq => exact W.lret B.exec B.bytes (B.returns.trans hret.1) hq hS1.2.2 hret.2)
  rw [hp0] at key
  exact key
