/-! NEW CELLS -/
theorem va_RA_uniq {U : State} {a b : ClassId} {t : FieldType} (h1 : va_RA U a t) (h2 : va_RA U b t) : a = b := by
  cases t with
  | object C =>
    obtain ⟨_, _, -, -, -, h1⟩ := h1
    obtain ⟨_, _, -, -, -, h2⟩ := h2
    exact Option.some.inj (h1.symm.trans h2)
  | _ => exact Option.some.inj (Eq.symm (show U.vm.findClass _ = some a from h1) |>.trans (show U.vm.findClass _ = some b from h2))
theorem va_K_cut {D : va_G} {cl : List vw_C} {tys : List (ClassId × FieldType)} {cA : ClassId} {t : FieldType} {U : State} (h : va_K D cl (tys ++ [(cA, t)]) U) {k : Nat} {c0 : ClassId} (hk : tys[k]? = some (c0, t)) : cA = c0 := by
  have hl : k < tys.length := (List.getElem?_eq_some_iff.mp hk).1
  have h1 := (h.2 k (c0, t) (by rw [List.getElem?_append_left hl]; exact hk)).2
  have h2 := (h.2 tys.length (cA, t) (by rw [List.getElem?_append_right (Nat.le_refl _), Nat.sub_self]; rfl)).2
  exact va_RA_uniq h2 h1
theorem xup_ne {ad : Nat → Nat} {n q j : Nat} (h : j ≠ n) : va_up ad n q j = ad j := by unfold va_up; rw [if_neg h]
theorem ne_of1 {j n : Nat} (hn : n < 1000) (h : j < n ∨ 2000 ≤ j) : j ≠ n := by omega
theorem ne_of2 {j n : Nat} (hn : n < 1000) (h : j < n ∨ 1000 ≤ j) : j ≠ n := by omega
theorem lt_of1 {j n : Nat} (h : j < n ∨ 2000 ≤ j) : j < n + 1 ∨ 2000 ≤ j := by omega
theorem xval_up {ad : Nat → Nat} {n q : Nat} {v : Value} (hn : n < 1000) (h : xok1 n v) : xval (va_up ad n q) v = xval ad v := by
  cases v with
  | ref j => show Value.ref _ = Value.ref _; rw [xup_ne (ne_of1 hn (h j rfl))]
  | _ => rfl
theorem xvals_up {ad : Nat → Nat} {n q : Nat} {st : List Value} (hn : n < 1000) (h : xokS1 n st) : st.map (xval (va_up ad n q)) = st.map (xval ad) := by
  apply List.map_congr_left
  intro v hv
  exact xval_up hn (h v hv)
theorem opt_up {ad : Nat → Nat} {n q : Nat} {r : Option Nat} (h : ∀ j, r = some j → j < n) : r.map (va_up ad n q) = r.map ad := by
  cases r with
  | none => rfl
  | some j => simp only [Option.map_some]; rw [xup_ne (Nat.ne_of_lt (h j rfl))]
/-- old cells under new addresses -/
theorem xcell_up {ty : Nat → ClassId} {ad : Nat → Nat} {M M' : xM} {n q b : Nat} {sh : Nat × Int32} (hF : mF M' b = mF M b) (hI : mI M' b = mI M b) (hG : mG M' b = mG M b) (hJ : mJ M' b = mJ M b) (hP : mP M' b = mP M b) (hQ : mQ M' b = mQ M b)
    (hp : ∀ (k j : Nat), mP M b k = some j → j < n) (hq : ∀ (i : Int32) (j : Nat), mQ M b i = some j → j < n) : xcell ty (va_up ad n q) M' b sh = xcell ty ad M b sh := by
  have e1 : xcont (va_up ad n q) M' b = xcont ad M b := by
    funext k
    unfold xcont
    rw [hI, hJ, hQ]
    have e0 : (fun i => (mQ M b i).map (va_up ad n q)) = (fun i => (mQ M b i).map ad) := by funext i; exact opt_up (hq i)
    rw [e0]
  have e2 : xfv (va_up ad n q) M' b = xfv ad M b := by
    funext ci k
    unfold xfv
    rw [hF, hG, hP, opt_up (hp k)]
  unfold xcell
  rw [e1, e2]
theorem xwld_app {ty : Nat → ClassId} {ad : Nat → Nat} {M M' : xM} {q : Nat} {sh : Nat × Int32} (hS : mS M' = mS M ++ [sh]) (ho : ∀ b, b < (mS M).length → ∀ sh', xcell ty (va_up ad (mS M).length q) M' b sh' = xcell ty ad M b sh') : xwld ty (va_up ad (mS M).length q) M' = xwld ty ad M ++ [(q, xcell ty (va_up ad (mS M).length q) M' (mS M).length sh)] := by
  apply List.ext_getElem?
  intro b
  have hlen : (xwld ty ad M).length = (mS M).length := by unfold xwld; rw [List.length_mapIdx]
  rw [xwld_get, hS]
  by_cases hb : b < (mS M).length
  · rw [List.getElem?_append_left hb, List.getElem?_append_left (by omega), xwld_get]
    cases (mS M)[b]? with
    | none => rfl
    | some sh' => simp only [Option.map_some]; rw [ho b hb, xup_ne (Nat.ne_of_lt hb)]
  · rw [List.getElem?_append_right (by omega), List.getElem?_append_right (by omega), hlen]
    by_cases hb2 : b = (mS M).length
    · subst hb2
      rw [Nat.sub_self]
      simp [va_up]
    · rw [List.getElem?_eq_none (by simp; omega), List.getElem?_eq_none (by simp; omega)]
      rfl
theorem xsz_app {S : List (Nat × Int32)} {q : Nat × Int32} : xsz (S ++ [q]) = xsz S + xsz1 q := by unfold xsz; simp
theorem xwf_new {M M' : xM} {sh : Nat × Int32} (hw : xwf M) (hl : (mS M).length < 900) (hS : mS M' = mS M ++ [sh]) (hP : ∀ (c k j : Nat), mP M' c k = some j → mP M c k = some j) (hQ : ∀ (c : Nat) (i : Int32) (j : Nat), mQ M' c i = some j → mQ M c i = some j) (hsh : sh.1 < 10 → 0 ≤ sh.2 ∧ sh.2 < 5000 ∧ sh.1 < 7) : xwf M' := by
  have hlen : (mS M').length = (mS M).length + 1 := by rw [hS]; simp
  refine ⟨by omega, fun c k j h => ?_, fun c i j h => ?_, fun c q h hq => ?_⟩
  · have := hw.2.1 c k j (hP c k j h); omega
  · have := hw.2.2.1 c i j (hQ c i j h); omega
  · rw [hS] at h
    by_cases hc : c < (mS M).length
    · rw [List.getElem?_append_left hc] at h
      exact hw.2.2.2 c q h hq
    · rw [List.getElem?_append_right (by omega)] at h
      by_cases hc2 : c = (mS M).length
      · subst hc2
        rw [Nat.sub_self] at h
        cases h
        exact hsh hq
      · rw [List.getElem?_eq_none (by simp; omega)] at h
        cases h
theorem xw_at {α β : Type} {f : Nat → β → α} {c : Nat} {v : α} {b : β} : xw f c v c b = v := by unfold xw; rw [if_pos rfl]
theorem xw_other {α β : Type} {f : Nat → β → α} {c d : Nat} {v : α} (h : d ≠ c) : xw f c v d = f d := by funext b; unfold xw; rw [if_neg h]
theorem xw_none {β : Type} {f : Nat → β → Option Nat} {c d : Nat} {b : β} {j : Nat} (h : xw f c none d b = some j) : f d b = some j := by
  unfold xw at h
  split at h
  · cases h
  · exact h
/-- what a step with new cells leaves -/
def xCont (p : Program) (l : Launch) (e : Env) (R : Room) (s : State) (m : MethodId) (args : Array Value) (below : List Frame) (meth : Method) (c : Code) (cells slots : Nat) (Q : State → Prop) (D : va_G) (ty : Nat → ClassId) (ad : Nat → Nat) (A : Nat → Prop) (ls : Array Slot) (pc1 : Nat) (M : xM) (st' : List Value) (M' : xM) : Prop :=
  ∀ (H1 : Heap) (locs1 : List Loc) (ad' : Nat → Nat) (cells' slots' : Nat), xAt D ty ad' A M' s.heap H1 locs1 → (∀ j, (j < (mS M).length ∨ 1000 ≤ j) → ad' j = ad j) → cells' + xcs M = cells + xcs M' → slots' + xss M = slots + xss M' → (∃ S2, mS M' = mS M ++ S2) → xokS1 (mS M').length st' → W p l e R s m args below meth c H1 locs1 cells' slots' Q (F0 m pc1 ls (st'.map (xval ad')))
theorem xis_lt {S : List (Nat × Int32)} {c k : Nat} (h : xis S c k = true) : c < S.length := by
  obtain ⟨n, hn⟩ := xis_spec h
  exact (List.getElem?_eq_some_iff.mp hn).1
section SN
variable {p : Program} {l : Launch} {e : Env} {R : Room} {s : State} {m : MethodId} {args : Array Value} {below : List Frame} {meth : Method} {c : Code} {H : Heap} {locs : List Loc} {cells slots : Nat} {Q : State → Prop}
variable {cc : ByteArray} {o pc pc1 : Nat} {D : va_G} {ty : Nat → ClassId} {ad : Nat → Nat} {A : Nat → Prop} {ls : Array Slot} {E : xE}
theorem xany3_spec {lst : List (Nat × Nat × Nat)} {k : Nat} {i : Nat → Instr} (h : xany3 lst cc o pc pc1 k i = true) : ∃ idx, (o, idx, k) ∈ lst ∧ decode cc pc = .ok (i idx, 3) ∧ pc1 = pc + 3 := by
  obtain ⟨⟨a, idx, b⟩, hm, h2⟩ := List.any_eq_true.mp h
  simp only [Bool.and_eq_true, beq_iff_eq] at h2
  obtain ⟨rfl, rfl, h3⟩ := h2
  exact ⟨idx, hm, xdec_spec h3⟩
theorem xIl_mem {ci : Nat} (h : ci < 13) : ci ∈ xIl ∧ ci ∈ xZl := by
  rcases (show ci = 0 ∨ ci = 1 ∨ ci = 2 ∨ ci = 3 ∨ ci = 4 ∨ ci = 5 ∨ ci = 6 ∨ ci = 7 ∨ ci = 8 ∨ ci = 9 ∨ ci = 10 ∨ ci = 11 ∨ ci = 12 by omega) with rfl | rfl | rfl | rfl | rfl | rfl | rfl | rfl | rfl | rfl | rfl | rfl | rfl <;> decide
theorem xdef_at {ad : Nat → Nat} {M : xM} {n ci : Nat} (hci : ci < 13) (hF : ∀ k, mF M n k = 0) (hG : ∀ k, mG M n k = 0) (hP : ∀ k, mP M n k = none) : ∀ j, j < xN ci → defaultValue (xTyf ci j) = vp_V ((List.range (xN ci)).map (xfv ad M n ci)) j := by
  intro j hj
  have e1 : vp_V ((List.range (xN ci)).map (xfv ad M n ci)) j = xfv ad M n ci j := by
    unfold vp_V
    rw [List.getD_eq_getElem?_getD, xfs_at hj]
    rfl
  rw [e1]
  rcases xfk_cases ci j with ⟨h1, h2⟩ | ⟨h1, h2⟩ | ⟨h1, h2⟩ | h1
  · rw [xTyf_I hci hj h1]
    unfold xfv
    rw [if_neg (by omega), if_neg (by omega), hF]
    rfl
  · rw [xTyf_Z hci hj h1]
    unfold xfv
    rw [if_neg (by omega), if_neg (by omega), hF]
    rfl
  · rw [xTyf_J hci hj h1]
    unfold xfv
    rw [if_pos h1, hG]
    rfl
  · have h3 := xref_ty hci hj h1
    unfold xfv
    rw [if_neg (by omega), if_pos h1, hP]
    cases hq : xTyf ci j with
    | object C => rfl
    | array t => rfl
    | _ => rw [hq] at h3; cases h3
theorem s_new {ci : Nat} {F : Nat → Nat → Int32} {I : Nat → Int32 → Int32} {G : Nat → Nat → Int64} {J : Nat → Int32 → Int64} {P : Nat → Nat → Option Nat} {Q0 : Nat → Int32 → Option Nat} {S : List (Nat × Int32)} {st : List Value}
    (X : xCtx p s m args c cc o D ty) (hW : xAt D ty ad A (F, I, G, J, P, Q0, S) s.heap H locs) (hA : ∀ q, s.heap.size ≤ q → A q) (hok : xokS1 S.length st) (hci : ci < 13) (hl : xany3 xOl cc o pc pc1 ci .new = true) (hS : S.length < 900)
    (hR : cells + 1 ≤ R.cells ∧ slots + xN ci ≤ R.slots)
    (k : xCont p l e R s m args below meth c cells slots Q D ty ad A ls pc1 (F, I, G, J, P, Q0, S) (.ref S.length :: st) (xw F S.length 0, I, xw G S.length 0, J, xw P S.length none, Q0, S ++ [(10 + ci, 0)])) : W p l e R s m args below meth c H locs cells slots Q (F0 m pc ls (st.map (xval ad))) := by
  obtain ⟨hx, hb, hown, hts, hK⟩ := X
  obtain ⟨hP, hD, hSS, hwf⟩ := hW
  obtain ⟨idx, hm, hd, rfl⟩ := xany3_spec hl
  refine va_new (own := xRn o) (C := xR ci) (T := xT ci) (N := xN ci) (ci := ci) (fs := (List.range (xN ci)).map (xfv ad (xw F S.length 0, I, xw G S.length 0, J, xw P S.length none, Q0, S ++ [(10 + ci, 0)]) S.length ci)) hx hb hts (xlay_in hci) (xTyf ci) (xty_ok hci) hown (hts _ (xGW_in (xOl_in _ hm) rfl)) (hts _ (xGW_in (xIl_in _ (xIl_mem hci).1) rfl)) (hts _ (xGW_in (xZl_in _ (xIl_mem hci).2) rfl)) hK hP hD hSS hA (xcl_at hci) (xdef_at hci (fun _ => xw_at) (fun _ => xw_at) (fun _ => xw_at)) hR.1 hR.2 hd (fun q H1 hP1 hD1 hS1 => ?_)
  have hwf' : xwf (xw F S.length 0, I, xw G S.length 0, J, xw P S.length none, Q0, S ++ [(10 + ci, 0)]) := xwf_new hwf hS rfl (fun c0 k0 j h => xw_none h) (fun c0 i j h => h) (fun h => by dsimp only at h; omega)
  have e1 : xwld ty (va_up ad S.length q) (xw F S.length 0, I, xw G S.length 0, J, xw P S.length none, Q0, S ++ [(10 + ci, 0)]) = xwld ty ad (F, I, G, J, P, Q0, S) ++ [(q, .inr (ci, (List.range (xN ci)).map (xfv ad (xw F S.length 0, I, xw G S.length 0, J, xw P S.length none, Q0, S ++ [(10 + ci, 0)]) S.length ci)))] := by
    rw [xwld_app (M := (F, I, G, J, P, Q0, S)) (M' := (xw F S.length 0, I, xw G S.length 0, J, xw P S.length none, Q0, S ++ [(10 + ci, 0)])) rfl (fun b hb2 sh' => xcell_up (xw_other (Nat.ne_of_lt hb2)) rfl (xw_other (Nat.ne_of_lt hb2)) rfl (xw_other (Nat.ne_of_lt hb2)) rfl (fun k0 j h => hwf.2.1 b k0 j h) (fun i j h => hwf.2.2.1 b i j h)), xcell_obj]
    have ee : xfv (va_up ad S.length q) (xw F S.length 0, I, xw G S.length 0, J, xw P S.length none, Q0, S ++ [(10 + ci, 0)]) S.length ci = xfv ad (xw F S.length 0, I, xw G S.length 0, J, xw P S.length none, Q0, S ++ [(10 + ci, 0)]) S.length ci := by
      funext k0
      have e2 : mP (xw F S.length 0, I, xw G S.length 0, J, xw P S.length none, Q0, S ++ [(10 + ci, 0)]) S.length k0 = none := xw_at
      unfold xfv
      rw [e2]
      rfl
    exact congrArg (fun f => xwld ty ad (F, I, G, J, P, Q0, S) ++ [(q, Sum.inr (ci, (List.range (xN ci)).map f))]) ee
  rw [← e1] at hP1 hD1
  have hgh : xgh (xw F S.length 0, I, xw G S.length 0, J, xw P S.length none, Q0, S ++ [(10 + ci, 0)]) = xgh (F, I, G, J, P, Q0, S) := by
    unfold xgh
    show (xw F S.length 0 999 0).toNatClampNeg = (F 999 0).toNatClampNeg
    rw [xw_other (by omega)]
  have hk := k H1 locs (va_up ad S.length q) (cells + 1) (slots + xN ci) ⟨hP1, hD1, hS1, hwf'⟩ (fun j hj => xup_ne (ne_of2 (n := S.length) (by omega) hj)) (by unfold xcs; rw [hgh]; show cells + 1 + (S.length + _) = cells + ((S ++ [(10 + ci, (0 : Int32))]).length + _); rw [List.length_append, List.length_singleton]; omega) (by unfold xss; rw [hgh]; show slots + xN ci + (xsz S + _) = slots + (xsz (S ++ [(10 + ci, 0)]) + _); rw [xsz_app]; unfold xsz1; rw [if_neg (by simp)]; simp; omega) ⟨_, rfl⟩ (fun v hv => by
      rcases List.mem_cons.mp hv with rfl | h
      · intro j hj
        cases hj
        exact Or.inl (by show S.length < (S ++ [_]).length; simp)
      · intro j hj
        show j < (S ++ [_]).length ∨ _
        rw [List.length_append]
        exact lt_of1 (hok v h j hj))
  have e3 : (Value.ref S.length :: st).map (xval (va_up ad S.length q)) = .ref q :: st.map (xval ad) := by
    rw [List.map_cons, xvals_up (by omega) hok]
    show Value.ref (va_up ad S.length q S.length) :: _ = _
    unfold va_up
    rw [if_pos rfl]
  rw [e3] at hk
  exact hk
theorem s_newa {kk : Nat} {n : Int32} {F : Nat → Nat → Int32} {I : Nat → Int32 → Int32} {G : Nat → Nat → Int64} {J : Nat → Int32 → Int64} {P : Nat → Nat → Option Nat} {Q0 : Nat → Int32 → Option Nat} {S : List (Nat × Int32)} {st : List Value} {t : FieldType} {at0 : ArrayType}
    (X : xCtx p s m args c cc o D ty) (hW : xAt D ty ad A (F, I, G, J, P, Q0, S) s.heap H locs) (hA : ∀ q, s.heap.size ≤ q → A q) (hok : xokS1 S.length st) (hk4 : kk < 4) (ht : (xTys ty)[kk]? = some (ty kk, t)) (hat : newarray.typeOf at0 = t) (hw : Cond.arrayClass t ∈ lw_tbl) (hcb : componentBytes t ≤ 8)
    (hl : xdec cc pc (.newarray at0) 2 pc1 = true) (hS : S.length < 900) (h0 : 0 ≤ n) (h1 : n < 5000)
    (hdv : ∀ (cA : ClassId) (M : xM) (cx : Nat), (∀ i, mI M cx i = 0) → (∀ i, mJ M cx i = 0) → vp_cell cA (n.toNatClampNeg, xcont ad M cx kk) = arrV cA n.toNatClampNeg (fun _ => defaultValue t))
    (hR : cells + 1 ≤ R.cells ∧ slots + n.toNatClampNeg ≤ R.slots)
    (k : xCont p l e R s m args below meth c cells slots Q D ty ad A ls pc1 (F, I, G, J, P, Q0, S) (.ref S.length :: st) (F, xw I S.length 0, G, xw J S.length 0, P, Q0, S ++ [(kk, n)])) : W p l e R s m args below meth c H locs cells slots Q (F0 m pc ls (.int n :: st.map (xval ad))) := by
  obtain ⟨hx, hb, hown, hts, hK⟩ := X
  obtain ⟨hP, hD, hSS, hwf⟩ := hW
  obtain ⟨hd, rfl⟩ := xdec_spec hl
  subst hat
  have hn5 : n.toNatClampNeg < 5000 := by
    obtain ⟨j, hj, rfl⟩ := nI_of (x := n) (by grind)
    rw [nI_clamp hj]
    exact (nI_ltI (b := 5000) hj (by omega)).mp h1
  refine va_newa (a0 := (n.toNatClampNeg, xcont ad (F, xw I S.length 0, G, xw J S.length 0, P, Q0, S ++ [(kk, n)]) S.length kk)) hx hb (hts _ (xGW_in hw rfl)) rfl hK hP hD hSS hA (fun cA => hdv cA _ _ (fun _ => xw_at) (fun _ => xw_at)) (by grind) rfl (by
    have := Nat.mul_le_mul (Nat.le_of_lt hn5) hcb
    omega) hR.1 hR.2 hd (fun q cA H1 hK1 hP1 hD1 hS1 => ?_)
  have hcA := va_K_cut hK1 ht
  subst hcA
  have hwf' : xwf (F, xw I S.length 0, G, xw J S.length 0, P, Q0, S ++ [(kk, n)]) := xwf_new hwf hS rfl (fun c0 k0 j h => h) (fun c0 i j h => h) (fun h => ⟨h0, h1, by dsimp only; omega⟩)
  have e1 : xwld ty (va_up ad S.length q) (F, xw I S.length 0, G, xw J S.length 0, P, Q0, S ++ [(kk, n)]) = xwld ty ad (F, I, G, J, P, Q0, S) ++ [(q, .inl (ty kk, n.toNatClampNeg, xcont ad (F, xw I S.length 0, G, xw J S.length 0, P, Q0, S ++ [(kk, n)]) S.length kk))] := by
    rw [xwld_app (M := (F, I, G, J, P, Q0, S)) (M' := (F, xw I S.length 0, G, xw J S.length 0, P, Q0, S ++ [(kk, n)])) rfl (fun b hb2 sh' => xcell_up rfl (xw_other (Nat.ne_of_lt hb2)) rfl (xw_other (Nat.ne_of_lt hb2)) rfl rfl (fun k0 j h => hwf.2.1 b k0 j h) (fun i j h => hwf.2.2.1 b i j h)), xcell_arr (by omega)]
    have ee : xcont (va_up ad S.length q) (F, xw I S.length 0, G, xw J S.length 0, P, Q0, S ++ [(kk, n)]) S.length kk = xcont ad (F, xw I S.length 0, G, xw J S.length 0, P, Q0, S ++ [(kk, n)]) S.length kk := by
      unfold xcont
      split
      · rfl
      · rfl
    exact congrArg (fun f => xwld ty ad (F, I, G, J, P, Q0, S) ++ [(q, Sum.inl (ty kk, n.toNatClampNeg, f))]) ee
  rw [← e1] at hP1 hD1
  have hk := k H1 locs (va_up ad S.length q) (cells + 1) (slots + n.toNatClampNeg) ⟨hP1, hD1, hS1, hwf'⟩ (fun j hj => xup_ne (ne_of2 (n := S.length) (by omega) hj)) (by show cells + 1 + (S.length + 4 * (F 999 0).toNatClampNeg) = cells + ((S ++ [(kk, n)]).length + 4 * (F 999 0).toNatClampNeg); rw [List.length_append, List.length_singleton]; omega) (by show slots + n.toNatClampNeg + (xsz S + 64 * (F 999 0).toNatClampNeg) = slots + (xsz (S ++ [(kk, n)]) + 64 * (F 999 0).toNatClampNeg); rw [xsz_app]; unfold xsz1; rw [if_pos (by show kk < 10; omega)]; dsimp only; omega) ⟨_, rfl⟩ (fun v hv => by
      rcases List.mem_cons.mp hv with rfl | h
      · intro j hj
        cases hj
        exact Or.inl (by show S.length < (S ++ [_]).length; simp)
      · intro j hj
        show j < (S ++ [_]).length ∨ _
        rw [List.length_append]
        exact lt_of1 (hok v h j hj))
  have e3 : (Value.ref S.length :: st).map (xval (va_up ad S.length q)) = .ref q :: st.map (xval ad) := by
    rw [List.map_cons, xvals_up (by omega) hok]
    show Value.ref (va_up ad S.length q S.length) :: _ = _
    unfold va_up
    rw [if_pos rfl]
  rw [e3] at hk
  exact hk
theorem s_newq {kk ci : Nat} {n : Int32} {F : Nat → Nat → Int32} {I : Nat → Int32 → Int32} {G : Nat → Nat → Int64} {J : Nat → Int32 → Int64} {P : Nat → Nat → Option Nat} {Q0 : Nat → Int32 → Option Nat} {S : List (Nat × Int32)} {st : List Value}
    (X : xCtx p s m args c cc o D ty) (hAO : va_AO (xR ci) s) (hW : xAt D ty ad A (F, I, G, J, P, Q0, S) s.heap H locs) (hA : ∀ q, s.heap.size ≤ q → A q) (hok : xokS1 S.length st) (hk4 : kk = 4 ∨ kk = 5) (ht : (xTys ty)[kk]? = some (ty kk, .object (xR ci)))
    (hl : xany3 xOl cc o pc pc1 ci .anewarray = true) (hS : S.length < 900) (h0 : 0 ≤ n) (h1 : n < 5000)
    (hR : cells + 1 ≤ R.cells ∧ slots + n.toNatClampNeg ≤ R.slots)
    (k : xCont p l e R s m args below meth c cells slots Q D ty ad A ls pc1 (F, I, G, J, P, Q0, S) (.ref S.length :: st) (F, I, G, J, P, xw Q0 S.length none, S ++ [(kk, n)])) : W p l e R s m args below meth c H locs cells slots Q (F0 m pc ls (.int n :: st.map (xval ad))) := by
  obtain ⟨hx, hb, hown, hts, hK⟩ := X
  obtain ⟨hP, hD, hSS, hwf⟩ := hW
  obtain ⟨idx, hm, hd, rfl⟩ := xany3_spec hl
  have hn5 : n.toNatClampNeg < 5000 := by
    obtain ⟨j, hj, rfl⟩ := nI_of (x := n) (by grind)
    rw [nI_clamp hj]
    exact (nI_ltI (b := 5000) hj (by omega)).mp h1
  refine va_newq (own := xRn o) (C := xR ci) hx hb hown (hts _ (xGW_in (xOl_in _ hm) rfl)) hAO hK hP hD hSS hA (by grind) rfl (by omega) hR.1 hR.2 hd (fun q cA H1 hK1 hP1 hD1 hS1 => ?_)
  have hcA := va_K_cut hK1 ht
  subst hcA
  have hwf' : xwf (F, I, G, J, P, xw Q0 S.length none, S ++ [(kk, n)]) := xwf_new hwf hS rfl (fun c0 k0 j h => h) (fun c0 i j h => xw_none h) (fun h => ⟨h0, h1, by dsimp only; omega⟩)
  have e1 : xwld ty (va_up ad S.length q) (F, I, G, J, P, xw Q0 S.length none, S ++ [(kk, n)]) = xwld ty ad (F, I, G, J, P, Q0, S) ++ [(q, .inl (ty kk, n.toNatClampNeg, .inr (.inr (.inr (.inr (fun _ => none))))))] := by
    rw [xwld_app (M := (F, I, G, J, P, Q0, S)) (M' := (F, I, G, J, P, xw Q0 S.length none, S ++ [(kk, n)])) rfl (fun b hb2 sh' => xcell_up rfl rfl rfl rfl rfl (xw_other (Nat.ne_of_lt hb2)) (fun k0 j h => hwf.2.1 b k0 j h) (fun i j h => hwf.2.2.1 b i j h)), xcell_arr (by omega)]
    have ee : xcont (va_up ad S.length q) (F, I, G, J, P, xw Q0 S.length none, S ++ [(kk, n)]) S.length kk = .inr (.inr (.inr (.inr (fun _ => none)))) := by
      have e0 : (xfn none (fun i => (xw Q0 S.length none S.length i).map (va_up ad S.length q)) : Nat → Option Nat) = fun _ => none := by
        funext j
        unfold xfn
        dsimp only
        rw [xw_at]
        split <;> rfl
      rcases hk4 with rfl | rfl
      · show Sum.inr (Sum.inr (Sum.inr (Sum.inr (xfn none (fun i => (xw Q0 S.length none S.length i).map (va_up ad S.length q)))))) = _
        rw [e0]
      · show Sum.inr (Sum.inr (Sum.inr (Sum.inr (xfn none (fun i => (xw Q0 S.length none S.length i).map (va_up ad S.length q)))))) = _
        rw [e0]
    exact congrArg (fun f => xwld ty ad (F, I, G, J, P, Q0, S) ++ [(q, Sum.inl (ty kk, n.toNatClampNeg, f))]) ee
  rw [← e1] at hP1 hD1
  have hk := k H1 locs (va_up ad S.length q) (cells + 1) (slots + n.toNatClampNeg) ⟨hP1, hD1, hS1, hwf'⟩ (fun j hj => xup_ne (ne_of2 (n := S.length) (by omega) hj)) (by show cells + 1 + (S.length + 4 * (F 999 0).toNatClampNeg) = cells + ((S ++ [(kk, n)]).length + 4 * (F 999 0).toNatClampNeg); rw [List.length_append, List.length_singleton]; omega) (by show slots + n.toNatClampNeg + (xsz S + 64 * (F 999 0).toNatClampNeg) = slots + (xsz (S ++ [(kk, n)]) + 64 * (F 999 0).toNatClampNeg); rw [xsz_app]; unfold xsz1; rw [if_pos (by show kk < 10; omega)]; dsimp only; omega) ⟨_, rfl⟩ (fun v hv => by
      rcases List.mem_cons.mp hv with rfl | h
      · intro j hj
        cases hj
        exact Or.inl (by show S.length < (S ++ [_]).length; simp)
      · intro j hj
        show j < (S ++ [_]).length ∨ _
        rw [List.length_append]
        exact lt_of1 (hok v h j hj))
  have e3 : (Value.ref S.length :: st).map (xval (va_up ad S.length q)) = .ref q :: st.map (xval ad) := by
    rw [List.map_cons, xvals_up (by omega) hok]
    show Value.ref (va_up ad S.length q S.length) :: _ = _
    unfold va_up
    rw [if_pos rfl]
  rw [e3] at hk
  exact hk
end SN
