/-! THE RESOLVED INSTRUCTIONS, arm by arm -/
theorem xwt_map {ad : Nat → Nat} (st : List Value) : ((st.map (xval ad)).map fun v => v.category).sum = xwt st := by
  unfold xwt
  rw [List.map_map]
  congr 1
  exact List.map_congr_left (fun v _ => xval_cat ad v)
theorem xu_gh {F : Nat → Nat → Int32} {cx k : Nat} {x : Int32} {S : List (Nat × Int32)} {kk : Nat} (hl : S.length ≤ 950) (h : xis S cx kk = true) : xu F cx k x 999 0 = F 999 0 := by
  have h1 := xis_lt h
  rw [xu_other (show 999 ≠ cx by omega)]
theorem xval_xvp {ad : Nat → Nat} (r : Option Nat) : xval ad (xvp r) = va_rf (r.map ad) := by cases r <;> rfl
section SO
variable {p : Program} {l : Launch} {e : Env} {R : Room} {s : State} {m : MethodId} {args : Array Value} {below : List Frame} {meth : Method} {c : Code} {H : Heap} {locs : List Loc} {cells slots : Nat} {Q : State → Prop}
variable {cc : ByteArray} {o pc pc1 : Nat} {D : va_G} {ty : Nat → ClassId} {ad : Nat → Nat} {A : Nat → Prop} {ls : Array Slot} {E : xE}
theorem xCont.same {M M' : xM} {st' : List Value} (k : xCont p l e R s m args below meth c cells slots Q D ty ad A ls pc1 M st' M') (hS : mS M' = mS M) (hG : xgh M' = xgh M) {H1 : Heap} {locs1 : List Loc} (hW : xAt D ty ad A M' s.heap H1 locs1) (hok : xokS1 (mS M).length st') : W p l e R s m args below meth c H1 locs1 cells slots Q (F0 m pc1 ls (st'.map (xval ad))) :=
  k H1 locs1 ad cells slots hW (fun _ _ => rfl) (by unfold xcs; rw [hS, hG]) (by unfold xss; rw [hS, hG]) ⟨[], by rw [hS, List.append_nil]⟩ (by rw [hS]; exact hok)
set_option maxHeartbeats 4000000 in
theorem s_hO {pr : Bool} {op : Nat} {a : List Nat} {pcs : List Nat} {init : Bool} {ret : Option FieldType} {st st' : List Value} {M M' : xM} (X : xCtx p s m args c cc o D ty) (hml : c.maxLocals = ls.size) (hin : init = true → meth.name = "<init>") (hE : xEV E ad A s s.heap) (hrel : xrelO cc pcs o init ret pc pc1 op a = true) (hp : xhO pr op a E st M = some (st', M')) (hnp : ¬ (op = 63 ∨ op = 64 ∨ op = 65 ∨ op = 66)) (hmn : ¬ op = 53)
    (hW : xAt D ty ad A M s.heap H locs) (hA : ∀ q, s.heap.size ≤ q → A q) (hok : xokS1 (mS M).length st) (hwt : xwt st ≤ 9 ∨ op < 60) (hR0 : 1 ≤ R.frames ∧ 30 ≤ R.locals ∧ cells ≤ R.cells ∧ slots ≤ R.slots) (hR : cells + xcs M' ≤ R.cells + xcs M ∧ slots + xss M' ≤ R.slots + xss M)
    (k : xCont p l e R s m args below meth c cells slots Q D ty ad A ls pc1 M st' M') : W p l e R s m args below meth c H locs cells slots Q (F0 m pc ls (st.map (xval ad))) := by
  unfold xhO at hp
  split at hp
  case h_1 =>
    rename_i ci k0 cx r F I G J P Q0 S
    simp only [xrelO, Bool.and_eq_true, decide_eq_true_eq] at hrel
    obtain ⟨hci, hk0, hkd, hl⟩ := hrel
    have hr : xokS1 S.length r := fun v hv => hok v (List.mem_cons_of_mem _ (hv))
    split at hp
    · rename_i hi
      cases hp
      obtain ⟨n, hn⟩ := xis_spec hi
      refine s_get X hW hci hk0 hl hn ?_
      have hk := xCont.same k rfl rfl hW (fun v hv => by
        rcases List.mem_cons.mp hv with rfl | h
        · exact xok1_int
        · exact hr v h)
      rw [List.map_cons] at hk
      have e1 : xfv ad (F, I, G, J, P, Q0, S) cx ci k0 = .int (F cx k0) := by
        unfold xfv
        rw [if_neg (by omega), if_neg (by omega)]
      rw [e1]
      exact hk
    · cases hp
  case h_2 =>
    rename_i ci k0 cx r F I G J P Q0 S
    simp only [xrelO, Bool.and_eq_true, decide_eq_true_eq] at hrel
    obtain ⟨hci, hk0, hkd, hl⟩ := hrel
    have hr : xokS1 S.length r := fun v hv => hok v (List.mem_cons_of_mem _ (hv))
    split at hp
    · rename_i hi
      cases hp
      obtain ⟨n, hn⟩ := xis_spec hi
      refine s_get X hW hci hk0 hl hn ?_
      have hk := xCont.same k rfl rfl hW (fun v hv => by
        rcases List.mem_cons.mp hv with rfl | h
        · exact xok1_long
        · exact hr v h)
      rw [List.map_cons] at hk
      have e1 : xfv ad (F, I, G, J, P, Q0, S) cx ci k0 = .long (G cx k0) := by
        unfold xfv
        rw [if_pos hkd]
      rw [e1]
      exact hk
    · cases hp
  case h_3 =>
    rename_i ci k0 cx r F I G J P Q0 S
    simp only [xrelO, Bool.and_eq_true, decide_eq_true_eq] at hrel
    obtain ⟨hci, hk0, hkd, hl⟩ := hrel
    have hr : xokS1 S.length r := fun v hv => hok v (List.mem_cons_of_mem _ (hv))
    split at hp
    · rename_i hi
      cases hp
      obtain ⟨n, hn⟩ := xis_spec hi
      refine s_get X hW hci hk0 hl hn ?_
      have hk := xCont.same k rfl rfl hW (fun v hv => by
        rcases List.mem_cons.mp hv with rfl | h
        · intro j hj
          cases hq : P cx k0 with
          | none => rw [hq] at hj; cases hj
          | some j2 => rw [hq] at hj; cases hj; exact Or.inl (hW.2.2.2.2.1 cx k0 _ hq)
        · exact hr v h)
      rw [List.map_cons] at hk
      have e1 : xfv ad (F, I, G, J, P, Q0, S) cx ci k0 = xval ad (xvp (P cx k0)) := by
        unfold xfv
        rw [if_neg (by omega), if_pos hkd, xval_xvp]
      rw [e1]
      exact hk
    · cases hp
  case h_4 =>
    rename_i ci k0 x cx r F I G J P Q0 S
    simp only [xrelO, Bool.and_eq_true, decide_eq_true_eq] at hrel
    obtain ⟨hci, hk0, hkd, hf, hl⟩ := hrel
    have hr : xokS1 S.length r := fun v hv => hok v (List.mem_cons_of_mem _ (List.mem_cons_of_mem _ (hv)))
    split at hp
    · rename_i hi
      cases hp
      obtain ⟨n, hn⟩ := xis_spec hi
      have hG1 : xgh (xu F cx k0 x, I, G, J, P, Q0, S) = xgh (F, I, G, J, P, Q0, S) := by
        show (xu F cx k0 x 999 0).toNatClampNeg = (F 999 0).toNatClampNeg
        rw [xu_gh hW.2.2.2.1 hi]
      refine s_put (M' := (xu F cx k0 x, I, G, J, P, Q0, S)) (v := .int x) X hin hW hci hk0 hf hl hn (by rw [xTyf_I hci hk0 hkd]; rfl) (by rw [xTyf_I hci hk0 hkd]; rfl) rfl ⟨hW.2.2.2.1, hW.2.2.2.2.1, hW.2.2.2.2.2.1, hW.2.2.2.2.2.2⟩ (by
        unfold xfv
        rw [if_neg (by omega), if_neg (by omega)]; show Value.int (xu F cx k0 x cx k0) = _; unfold xu; rw [if_pos ⟨rfl, rfl⟩]) (fun j hj => by
        unfold xfv
        show (if _ then _ else if _ then _ else Value.int (xu F cx k0 x cx j)) = _; unfold xu; rw [if_neg (c := cx = cx ∧ j = k0) (fun q => hj q.2)]) (fun b q hb => xcell_objF (xu_other hb) rfl rfl) (fun H1 locs1 hW1 => ?_)
      exact xCont.same k rfl hG1 hW1 hr
    · cases hp
  case h_5 =>
    rename_i ci k0 x cx r F I G J P Q0 S
    simp only [xrelO, Bool.and_eq_true, decide_eq_true_eq] at hrel
    obtain ⟨hci, hk0, hkd, hf, hl⟩ := hrel
    have hr : xokS1 S.length r := fun v hv => hok v (List.mem_cons_of_mem _ (List.mem_cons_of_mem _ (hv)))
    split at hp
    · rename_i hi
      cases hp
      obtain ⟨n, hn⟩ := xis_spec hi
      have hG1 : xgh (F, I, xu G cx k0 x, J, P, Q0, S) = xgh (F, I, G, J, P, Q0, S) := by
        show (F 999 0).toNatClampNeg = (F 999 0).toNatClampNeg
        rfl
      refine s_put (M' := (F, I, xu G cx k0 x, J, P, Q0, S)) (v := .long x) X hin hW hci hk0 hf hl hn (by rw [xTyf_J hci hk0 hkd]; rfl) (by rw [xTyf_J hci hk0 hkd]; rfl) rfl ⟨hW.2.2.2.1, hW.2.2.2.2.1, hW.2.2.2.2.2.1, hW.2.2.2.2.2.2⟩ (by
        unfold xfv
        rw [if_pos hkd]; show Value.long (xu G cx k0 x cx k0) = _; unfold xu; rw [if_pos ⟨rfl, rfl⟩]) (fun j hj => by
        unfold xfv
        show (if _ then Value.long (xu G cx k0 x cx j) else _) = _; unfold xu; rw [if_neg (c := cx = cx ∧ j = k0) (fun q => hj q.2)]) (fun b q hb => xcell_objF rfl (xu_other hb) rfl) (fun H1 locs1 hW1 => ?_)
      exact xCont.same k rfl hG1 hW1 hr
    · cases hp
  case h_6 =>
    rename_i ci k0 x cx r F I G J P Q0 S
    simp only [xrelO, Bool.and_eq_true, decide_eq_true_eq] at hrel
    obtain ⟨hci, hk0, hkd, hf, hl⟩ := hrel
    have hr : xokS1 S.length r := fun v hv => hok v (List.mem_cons_of_mem _ (List.mem_cons_of_mem _ (hv)))
    split at hp
    · rename_i hi
      cases hp
      obtain ⟨n, hn⟩ := xis_spec hi.1
      have hrt := xref_ty hci hk0 hkd
      have hwf6 : xwf (F, I, G, J, xu P cx k0 (some x), Q0, S) := by
        refine ⟨hW.2.2.2.1, fun c0 k1 j0 h0 => ?_, hW.2.2.2.2.2.1, hW.2.2.2.2.2.2⟩
        have h0 : xu P cx k0 (some x) c0 k1 = some j0 := h0
        unfold xu at h0
        split at h0
        · cases h0; exact hi.2
        · exact hW.2.2.2.2.1 c0 k1 j0 h0
      have hG1 : xgh (F, I, G, J, xu P cx k0 (some x), Q0, S) = xgh (F, I, G, J, P, Q0, S) := by
        show (F 999 0).toNatClampNeg = (F 999 0).toNatClampNeg
        rfl
      refine s_put (M' := (F, I, G, J, xu P cx k0 (some x), Q0, S)) (v := .ref (ad x)) X hin hW hci hk0 hf hl hn (by revert hrt; cases xTyf ci k0 <;> intro h <;> first | rfl | cases h) (by revert hrt; cases xTyf ci k0 <;> intro h <;> first | rfl | cases h) rfl hwf6 (by
        unfold xfv
        rw [if_neg (by omega), if_pos hkd]; show va_rf ((xu P cx k0 (some x) cx k0).map ad) = _; unfold xu; rw [if_pos ⟨rfl, rfl⟩]; rfl) (fun j hj => by
        unfold xfv
        show (if _ then _ else if _ then va_rf ((xu P cx k0 (some x) cx j).map ad) else _) = _; unfold xu; rw [if_neg (c := cx = cx ∧ j = k0) (fun q => hj q.2)]) (fun b q hb => xcell_objF rfl rfl (xu_other hb)) (fun H1 locs1 hW1 => ?_)
      exact xCont.same k rfl hG1 hW1 hr
    · cases hp
  case h_7 =>
    rename_i ci k0 x cx r F I G J P Q0 S
    simp only [xrelO, Bool.and_eq_true, decide_eq_true_eq] at hrel
    obtain ⟨hci, hk0, hkd, hf, hl⟩ := hrel
    have hr : xokS1 S.length r := fun v hv => hok v (List.mem_cons_of_mem _ (List.mem_cons_of_mem _ (hv)))
    split at hp
    · rename_i hi
      cases hp
      obtain ⟨n, hn⟩ := xis_spec hi.1
      have hG1 : xgh (xu F cx k0 x, I, G, J, P, Q0, S) = xgh (F, I, G, J, P, Q0, S) := by
        show (xu F cx k0 x 999 0).toNatClampNeg = (F 999 0).toNatClampNeg
        rw [xu_gh hW.2.2.2.1 hi.1]
      refine s_put (M' := (xu F cx k0 x, I, G, J, P, Q0, S)) (v := .int x) X hin hW hci hk0 hf hl hn (by rw [xTyf_Z hci hk0 hkd]; rcases hi.2 with rfl | rfl <;> rfl) (by rw [xTyf_Z hci hk0 hkd]; rcases hi.2 with rfl | rfl <;> rfl) rfl ⟨hW.2.2.2.1, hW.2.2.2.2.1, hW.2.2.2.2.2.1, hW.2.2.2.2.2.2⟩ (by
        unfold xfv
        rw [if_neg (by omega), if_neg (by omega)]; show Value.int (xu F cx k0 x cx k0) = _; unfold xu; rw [if_pos ⟨rfl, rfl⟩]) (fun j hj => by
        unfold xfv
        show (if _ then _ else if _ then _ else Value.int (xu F cx k0 x cx j)) = _; unfold xu; rw [if_neg (c := cx = cx ∧ j = k0) (fun q => hj q.2)]) (fun b q hb => xcell_objF (xu_other hb) rfl rfl) (fun H1 locs1 hW1 => ?_)
      exact xCont.same k rfl hG1 hW1 hr
    · cases hp
  case h_8 =>
    rename_i ci F I G J P Q0 S
    simp only [xrelO, Bool.and_eq_true, decide_eq_true_eq] at hrel
    split at hp
    · rename_i hi
      cases hp
      refine s_new X hW hA hok hrel.1 hrel.2 hi ⟨?_, ?_⟩ k
      · have h1 : cells + ((S ++ [(10 + ci, (0 : Int32))]).length + 4 * (xw F S.length 0 999 0).toNatClampNeg) ≤ R.cells + (S.length + 4 * (F 999 0).toNatClampNeg) := hR.1
        rw [xw_other (by omega)] at h1
        rw [List.length_append, List.length_singleton] at h1
        omega
      · have h1 : slots + (xsz (S ++ [(10 + ci, (0 : Int32))]) + 64 * (xw F S.length 0 999 0).toNatClampNeg) ≤ R.slots + (xsz S + 64 * (F 999 0).toNatClampNeg) := hR.2
        rw [xw_other (by omega)] at h1
        rw [xsz_app] at h1
        unfold xsz1 at h1
        rw [if_neg (by simp), Nat.add_sub_cancel_left] at h1
        omega
    · cases hp
  case h_9 =>
    rename_i kk n r F I G J P Q0 S
    have hr : xokS1 S.length r := fun v hv => hok v (List.mem_cons_of_mem _ hv)
    split at hp
    · rename_i hi
      cases hp
      obtain ⟨hS9, h0, h1, hk4⟩ := hi
      have hRR : cells + 1 ≤ R.cells ∧ slots + n.toNatClampNeg ≤ R.slots := by
        refine ⟨?_, ?_⟩
        · have h1 : cells + ((S ++ [(kk, n)]).length + 4 * (F 999 0).toNatClampNeg) ≤ R.cells + (S.length + 4 * (F 999 0).toNatClampNeg) := hR.1
          rw [List.length_append, List.length_singleton] at h1
          omega
        · have h1 : slots + (xsz (S ++ [(kk, n)]) + 64 * (F 999 0).toNatClampNeg) ≤ R.slots + (xsz S + 64 * (F 999 0).toNatClampNeg) := hR.2
          rw [xsz_app] at h1
          unfold xsz1 at h1
          rw [if_pos (by show kk < 10; omega)] at h1
          dsimp only at h1
          omega
      have hzI : ∀ (M : xM) (cx : Nat), (∀ i, mI M cx i = 0) → xfn 0 (mI M cx) = fun _ => 0 := fun M cx h => by
        funext j
        unfold xfn
        split
        · exact h _
        · rfl
      have hzJ : ∀ (M : xM) (cx : Nat), (∀ i, mJ M cx i = 0) → xfn 0 (mJ M cx) = fun _ => 0 := fun M cx h => by
        funext j
        unfold xfn
        split
        · exact h _
        · rfl
      simp only [xrelO, Bool.or_eq_true, Bool.and_eq_true, decide_eq_true_eq] at hrel
      rcases hrel with ((⟨rfl, hl⟩ | ⟨rfl, hl⟩) | ⟨rfl, hl⟩) | ⟨rfl, hl⟩
      · exact s_newa (t := .int) X hW hA hr hk4 rfl rfl arc_int (by decide) hl hS9 h0 h1 (fun cA M cx hI hJ => by rw [xcont_i (Or.inl rfl), hzI M cx hI]; rfl) hRR k
      · exact s_newa (t := .long) X hW hA hr hk4 rfl rfl arc_long (by decide) hl hS9 h0 h1 (fun cA M cx hI hJ => by rw [show xcont ad M cx 1 = .inr (.inl (xfn 0 (mJ M cx))) from rfl, hzJ M cx hJ]; rfl) hRR k
      · exact s_newa (t := .char) X hW hA hr hk4 rfl rfl arc_char (by decide) hl hS9 h0 h1 (fun cA M cx hI hJ => by rw [xcont_i (Or.inr (Or.inl rfl)), hzI M cx hI]; rfl) hRR k
      · exact s_newa (t := .boolean) X hW hA hr hk4 rfl rfl arc_boolean (by decide) hl hS9 h0 h1 (fun cA M cx hI hJ => by rw [xcont_i (Or.inr (Or.inr rfl)), hzI M cx hI]; rfl) hRR k
    · cases hp
  case h_10 =>
    rename_i kk n r F I G J P Q0 S
    have hr : xokS1 S.length r := fun v hv => hok v (List.mem_cons_of_mem _ hv)
    split at hp
    · rename_i hi
      cases hp
      obtain ⟨hS9, h0, h1, hk4, hk6⟩ := hi
      have hRR : cells + 1 ≤ R.cells ∧ slots + n.toNatClampNeg ≤ R.slots := by
        refine ⟨?_, ?_⟩
        · have h1 : cells + ((S ++ [(kk, n)]).length + 4 * (F 999 0).toNatClampNeg) ≤ R.cells + (S.length + 4 * (F 999 0).toNatClampNeg) := hR.1
          rw [List.length_append, List.length_singleton] at h1
          omega
        · have h1 : slots + (xsz (S ++ [(kk, n)]) + 64 * (F 999 0).toNatClampNeg) ≤ R.slots + (xsz S + 64 * (F 999 0).toNatClampNeg) := hR.2
          rw [xsz_app] at h1
          unfold xsz1 at h1
          rw [if_pos (by show kk < 10; omega)] at h1
          dsimp only at h1
          omega
      simp only [xrelO, Bool.or_eq_true, Bool.and_eq_true, decide_eq_true_eq] at hrel
      rcases hrel with ⟨rfl, hl⟩ | ⟨rfl, hl⟩
      · exact s_newq (ci := 6) X hE.2.2.1 hW hA hr (Or.inl rfl) rfl hl hS9 h0 h1 hRR k
      · exact s_newq (ci := 7) X hE.2.2.2.1 hW hA hr (Or.inr rfl) rfl hl hS9 h0 h1 hRR k
    · cases hp
  case h_11 => exact absurd rfl hmn
  case h_12 =>
    rename_i y x r
    have hr : xokS1 (mS M).length r := fun v hv => hok v (List.mem_cons_of_mem _ (List.mem_cons_of_mem _ hv))
    cases hp
    obtain ⟨idx, hm, hd, rfl⟩ := xany3_spec hrel
    have hwr : xwt (.int y :: .int x :: r) ≤ 9 := hwt.resolve_right (by decide)
    have hw2 : ((r.map (xval ad)).map fun v => v.category).sum + 13 ≤ R.locals := by
      have e1 : ((r.map (xval ad)).map fun v => v.category).sum = xwt r := by
        unfold xwt
        rw [List.map_map]
        congr 1
        exact List.map_congr_left (fun v _ => xval_cat ad v)
      have e2 : xwt (.int y :: .int x :: r) = 2 + xwt r := by simp [xwt, Value.category]; try omega
      omega
    have hk := xCont.same k rfl rfl hW (fun v hv => by
      rcases List.mem_cons.mp hv with rfl | h
      · exact xok1_int
      · exact hr v h)
    exact va_mmax (own := xRn o) X.1 X.2.1 hml X.2.2.1 (X.2.2.2.1 _ (xGW_in (xAl_in _ hm) rfl)) (X.2.2.2.1 _ (xGW_in (mth_max _ (by simp)) rfl)) (X.2.2.2.1 _ (xGW_in (mth_max _ (by simp)) rfl)) (X.2.2.2.1 _ (xGW_in (mth_max _ (by simp)) rfl)) hR0.1 hw2 hR0.2.2.1 hR0.2.2.2 hd hk
  case h_13 =>
    rename_i y x r
    have hr : xokS1 (mS M).length r := fun v hv => hok v (List.mem_cons_of_mem _ (List.mem_cons_of_mem _ hv))
    cases hp
    obtain ⟨idx, hm, hd, rfl⟩ := xany3_spec hrel
    have hwr : xwt (.int y :: .int x :: r) ≤ 9 := hwt.resolve_right (by decide)
    have hw2 : ((r.map (xval ad)).map fun v => v.category).sum + 13 ≤ R.locals := by
      have e1 : ((r.map (xval ad)).map fun v => v.category).sum = xwt r := by
        unfold xwt
        rw [List.map_map]
        congr 1
        exact List.map_congr_left (fun v _ => xval_cat ad v)
      have e2 : xwt (.int y :: .int x :: r) = 2 + xwt r := by simp [xwt, Value.category]; try omega
      omega
    have hk := xCont.same k rfl rfl hW (fun v hv => by
      rcases List.mem_cons.mp hv with rfl | h
      · exact xok1_int
      · exact hr v h)
    exact va_mmin (own := xRn o) X.1 X.2.1 hml X.2.2.1 (X.2.2.2.1 _ (xGW_in (xAl_in _ hm) rfl)) (X.2.2.2.1 _ (xGW_in (mth_min _ (by simp)) rfl)) (X.2.2.2.1 _ (xGW_in (mth_min _ (by simp)) rfl)) (X.2.2.2.1 _ (xGW_in (mth_min _ (by simp)) rfl)) hR0.1 hw2 hR0.2.2.1 hR0.2.2.2 hd hk
  case h_14 =>
    rename_i x r
    have hr : xokS1 (mS M).length r := fun v hv => hok v (List.mem_cons_of_mem _ hv)
    cases hp
    obtain ⟨idx, hm, hd, rfl⟩ := xany3_spec hrel
    have hwr : xwt (.int x :: r) ≤ 9 := hwt.resolve_right (by decide)
    have hw2 : ((r.map (xval ad)).map fun v => v.category).sum + 13 ≤ R.locals := by
      have e1 : ((r.map (xval ad)).map fun v => v.category).sum = xwt r := by
        unfold xwt
        rw [List.map_map]
        congr 1
        exact List.map_congr_left (fun v _ => xval_cat ad v)
      have e2 : xwt (.int x :: r) = 1 + xwt r := by simp [xwt, Value.category]; try omega
      omega
    have hk := xCont.same k rfl rfl hW (fun v hv => by
      rcases List.mem_cons.mp hv with rfl | h
      · exact xok1_int
      · exact hr v h)
    exact va_mabs (own := xRn o) X.1 X.2.1 hml X.2.2.1 (X.2.2.2.1 _ (xGW_in (xAl_in _ hm) rfl)) (X.2.2.2.1 _ (xGW_in (mth_abs _ (by simp)) rfl)) (X.2.2.2.1 _ (xGW_in (mth_abs _ (by simp)) rfl)) (X.2.2.2.1 _ (xGW_in (mth_abs _ (by simp)) rfl)) hR0.1 hw2 hR0.2.2.1 hR0.2.2.2 hd hk
  case h_15 => exact absurd (Or.inl rfl) hnp
  case h_16 => exact absurd (Or.inr (Or.inl rfl)) hnp
  case h_17 => exact absurd (Or.inr (Or.inr (Or.inl rfl))) hnp
  case h_18 => exact absurd (Or.inr (Or.inr (Or.inr rfl))) hnp
  case h_19 =>
    rename_i cx r F I G J P Q0 S
    have hr : xokS1 S.length r := fun v hv => hok v (List.mem_cons_of_mem _ hv)
    split at hp
    · rename_i hi
      cases hp
      obtain ⟨⟨a1, idx⟩, hm, h2⟩ := List.any_eq_true.mp hrel
      simp only [Bool.and_eq_true, beq_iff_eq] at h2
      obtain ⟨rfl, h3⟩ := h2
      obtain ⟨hd, rfl⟩ := xdec_spec h3
      have hk := xCont.same k rfl rfl hW hr
      have e2 : xwt (Value.ref cx :: st') = 1 + xwt st' := by simp [xwt, Value.category]
      have hwt : xwt (Value.ref cx :: st') ≤ 9 := hwt.resolve_right (by decide)
      have e3 : 2 * (F0 m pc ls ((Value.ref cx :: st').map (xval ad))).monitorRoom + ((st'.map (xval ad)).map fun v => v.category).sum + 12 ≤ R.locals := by
        rw [xwt_map]
        show 2 * 0 + _ + 12 ≤ _
        omega
      exact W.objInit (own := xRn a1) X.1 X.2.1 X.2.2.1 (X.2.2.2.1 _ (xGW_in (xBl_in _ hm) rfl)) (X.2.2.2.1 _ (xGW_in (obi_in _ (by simp)) rfl)) (X.2.2.2.1 _ (xGW_in (obi_in _ (by simp)) rfl)) rfl hml.symm rfl hd hR0.1 e3 hk
    · cases hp
  case h_20 => cases hp
end SO
