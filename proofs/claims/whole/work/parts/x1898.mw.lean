/-! NEW CELLS, MANY AT ONCE; new int[5][7] -/
theorem arrV_ext {c : ClassId} {N : Nat} {f g : Nat → Value} (h : ∀ j, j < N → f j = g j) : arrV c N f = arrV c N g := by
  unfold arrV
  have e : (Array.ofFn (n := N) fun j => f j.val) = Array.ofFn (n := N) fun j => g j.val := congrArg _ (funext fun j => h j.val j.isLt)
  rw [e]
theorem mnO_arr (c : ClassId) (N z : Nat) : ∀ i, mnO c N z i = arrV c N (fun j => va_rf (if j < i then some (z + 1 + j) else none))
  | 0 => by
    show ({ cls := c, slots := Array.replicate N .null, vm := .none } : Cell) = _
    rw [arrV_new]
    exact arrV_ext (fun j _ => by rw [if_neg (by omega)]; rfl)
  | i + 1 => by
    show (mnO c N z i).setSlot i (.ref (z + 1 + i)) = _
    rw [mnO_arr c N z i, arrV_store]
    refine arrV_ext (fun j _ => ?_)
    unfold updV
    by_cases e : j = i
    · subst e
      rw [if_pos rfl, if_pos (by omega)]
      rfl
    · rw [if_neg e]
      dsimp only
      by_cases h : j < i
      · rw [if_pos h, if_pos (by omega)]
      · rw [if_neg h, if_neg (by omega)]
theorem xAt_many {D : va_G} {ty : Nat → ClassId} {ad ad' : Nat → Nat} {A : Nat → Prop} {M M' : xM} {H0 H H1 : Heap} {locs : List Loc} {S2 : List (Nat × Int32)} (hW : xAt D ty ad A M H0 H locs) (hA : ∀ q, H0.size ≤ q → A q) (hS : mS M' = mS M ++ S2)
    (ho : ∀ b, b < (mS M).length → ∀ sh, xcell ty ad' M' b sh = xcell ty ad M b sh) (ha1 : ∀ b, b < (mS M).length → ad' b = ad b) (ha2 : ∀ i, i < S2.length → ad' ((mS M).length + i) = H.size + i) (hsz : H.size ≤ H1.size) (hold : ∀ a : Nat, a < H.size → H1[a]? = H[a]?)
    (hnew : ∀ (i : Nat) (sh : Nat × Int32), S2[i]? = some sh → va_at D vwCl (H.size + i, xcell ty ad' M' ((mS M).length + i) sh) H1) (hwf : xwf M') : xAt D ty ad' A M' H0 H1 locs := by
  obtain ⟨hP, hD, hSS, hwf0⟩ := hW
  have key : ∀ (k : Nat) (q : Nat × va_E), (xwld ty ad' M')[k]? = some q → ((xwld ty ad M)[k]? = some q ∧ k < (mS M).length) ∨ ∃ i sh, S2[i]? = some sh ∧ k = (mS M).length + i ∧ q = (H.size + i, xcell ty ad' M' ((mS M).length + i) sh) := by
    intro k q hk
    rw [xwld_get, hS] at hk
    by_cases h : k < (mS M).length
    · rw [List.getElem?_append_left h] at hk
      refine Or.inl ⟨?_, h⟩
      rw [xwld_get]
      cases hh : (mS M)[k]? with
      | none => rw [hh] at hk; cases hk
      | some sh =>
        rw [hh] at hk
        simp only [Option.map_some] at hk ⊢
        rw [ho k h, ha1 k h] at hk
        exact hk
    · rw [List.getElem?_append_right (by omega)] at hk
      cases hh : S2[k - (mS M).length]? with
      | none => rw [hh] at hk; cases hk
      | some sh =>
        rw [hh] at hk
        simp only [Option.map_some] at hk
        have hl : k - (mS M).length < S2.length := (List.getElem?_eq_some_iff.mp hh).1
        refine Or.inr ⟨k - (mS M).length, sh, hh, by omega, ?_⟩
        have e := ha2 _ hl
        rw [show (mS M).length + (k - (mS M).length) = k by omega] at e ⊢
        rw [← e]
        exact (Option.some.inj hk).symm
  refine ⟨fun k q hk => ?_, ⟨fun i j x y hi hj hxy => ?_, fun k q hk => ?_⟩, ⟨Nat.le_trans hSS.1 hsz, fun q h1 h2 => (hold q (Nat.lt_of_lt_of_le h1 hSS.1)).trans (hSS.2.1 q h1 h2), hSS.2.2⟩, hwf⟩
  · rcases key k q hk with ⟨h, -⟩ | ⟨i, sh, h1, -, rfl⟩
    · exact (hP k q h).kept (hold _ (hP k q h).lt)
    · exact hnew i sh h1
  · rcases key i x hi with ⟨h, h0⟩ | ⟨i1, sh, h1, h2, rfl⟩
    · rcases key j y hj with ⟨h', -⟩ | ⟨j1, sh, h1, h2, rfl⟩
      · exact hD.1 i j x y h h' hxy
      · have := (hP i x h).lt
        dsimp only at hxy
        omega
    · rcases key j y hj with ⟨h', -⟩ | ⟨j1, sh', h1', h2', rfl⟩
      · have := (hP j y h').lt
        dsimp only at hxy
        omega
      · dsimp only at hxy
        omega
  · rcases key k q hk with ⟨h, -⟩ | ⟨i, sh, h1, -, rfl⟩
    · exact hD.2 k q h
    · exact hA _ (by have := hSS.1; dsimp only; omega)
def mnIm (n : Nat) (I : Nat → Int32 → Int32) : Nat → Int32 → Int32 := fun a b => if n < a ∧ a < n + 6 then 0 else I a b
def mnQm (n : Nat) (Q : Nat → Int32 → Option Nat) : Nat → Int32 → Option Nat := fun a b => if a = n then (if 0 ≤ b ∧ b < 5 then some (n + 1 + b.toNatClampNeg) else none) else Q a b
def mnS2 : List (Nat × Int32) := [(6, 5), (0, 7), (0, 7), (0, 7), (0, 7), (0, 7)]
def mnAd (ad : Nat → Nat) (n h : Nat) : Nat → Nat := fun j => if n ≤ j ∧ j < n + 6 then h + (j - n) else ad j
theorem mnS2_at {i : Nat} {sh : Nat × Int32} (h : mnS2[i]? = some sh) : (i = 0 ∧ sh = (6, 5)) ∨ (1 ≤ i ∧ i < 6 ∧ sh = (0, 7)) := by
  match i, h with
  | 0, h => cases h; exact Or.inl ⟨rfl, rfl⟩
  | 1, h => cases h; exact Or.inr ⟨by omega, by omega, rfl⟩
  | 2, h => cases h; exact Or.inr ⟨by omega, by omega, rfl⟩
  | 3, h => cases h; exact Or.inr ⟨by omega, by omega, rfl⟩
  | 4, h => cases h; exact Or.inr ⟨by omega, by omega, rfl⟩
  | 5, h => cases h; exact Or.inr ⟨by omega, by omega, rfl⟩
  | i + 6, h => simp [mnS2] at h
theorem clamp5 {b : Int32} (h : 0 ≤ b ∧ b < 5) : b.toNatClampNeg < 5 := by
  obtain ⟨j, hj, rfl⟩ := nI_of (x := b) (by grind)
  rw [nI_clamp hj]
  exact (nI_ltI (b := 5) hj (by omega)).mp h.2
section SMN
variable {p : Program} {l : Launch} {e : Env} {R : Room} {s : State} {m : MethodId} {args : Array Value} {below : List Frame} {meth : Method} {c : Code} {H : Heap} {locs : List Loc} {cells slots : Nat} {Q : State → Prop}
variable {cc : ByteArray} {o pc pc1 : Nat} {D : va_G} {ty : Nat → ClassId} {ad : Nat → Nat} {A : Nat → Prop} {ls : Array Slot} {E : xE}
theorem s_mna {F : Nat → Nat → Int32} {I : Nat → Int32 → Int32} {G : Nat → Nat → Int64} {J : Nat → Int32 → Int64} {P : Nat → Nat → Option Nat} {Q0 : Nat → Int32 → Option Nat} {S : List (Nat × Int32)} {st : List Value}
    (X : xCtx p s m args c cc o D ty) (hE : xEV E ad A s s.heap) (hW : xAt D ty ad A (F, I, G, J, P, Q0, S) s.heap H locs) (hA : ∀ q, s.heap.size ≤ q → A q) (hok : xokS1 S.length st) (ho : o = 0) (hl : xdec cc pc (.multianewarray 18 2) 4 pc1 = true) (hS : S.length < 900) (hR : cells + 6 ≤ R.cells ∧ slots + 40 ≤ R.slots)
    (k : xCont p l e R s m args below meth c cells slots Q D ty ad A ls pc1 (F, I, G, J, P, Q0, S) (.ref S.length :: st) (F, mnIm S.length I, G, J, P, mnQm S.length Q0, S ++ mnS2)) : W p l e R s m args below meth c H locs cells slots Q (F0 m pc ls (.int 7 :: .int 5 :: st.map (xval ad))) := by
  obtain ⟨hx, hb, hown, hts, hK⟩ := X
  subst ho
  obtain ⟨hd, rfl⟩ := xdec_spec hl
  have e5 : (5 : Int32).toNatClampNeg = 5 := by decide
  have e7 : (7 : Int32).toNatClampNeg = 7 := by decide
  have r6 : s.vm.findClass "[[I" = some (ty 6) := (hK.2 6 _ rfl).2
  have r0 : s.vm.findClass "[I" = some (ty 0) := (hK.2 0 _ rfl).2
  have w1 : (Cond.classLink (xRn 0) 18 "[[I").before args s = true := hts _ (xGW_in (by decide +kernel) rfl)
  have w2 : (Cond.arrayClass .int).before args s = true := hts _ (xGW_in (by decide +kernel) rfl)
  intro T hT Xs
  obtain ⟨vm₁, cA, fA, hArr, X', step⟩ := mn_step Xs hx (own := xRn 0) (index := 18) (cy := ty 0) hown w1 (va_AOA.use hE.2.2.2.2.1) w2 r0 (g := F0 m pc ls (.int 7 :: .int 5 :: st.map (xval ad))) rfl (by rw [hb]; exact hd) (n := 5) (k := 7) (rest := st.map (xval ad)) rfl (by decide) (by decide) (by decide) (by decide) (by rw [e5]; omega) (by rw [e5, e7]; omega)
  cases r6.symm.trans fA
  rw [e5, e7] at X' step
  generalize hF : mnF (T.setVm vm₁) (ty 6) (ty 0) 5 7 5 = T1 at X' step
  have hTh : (T.setVm vm₁).heap = H := hT
  obtain ⟨f1, f2, -, -⟩ := mnF_sh (T.setVm vm₁) (ty 6) (ty 0) 5 7 5
  rw [hF, hTh] at f1 f2
  have hold : ∀ x : Nat, x < H.size → T1.heap[x]? = H[x]? := fun x hx2 => by
    have := mnF_old (T.setVm vm₁) (ty 6) (ty 0) 5 7 (a := x) (by rw [hTh]; exact hx2) 5
    rw [hF, hTh] at this
    exact this
  have hrow : ∀ j : Nat, j < 5 → T1.heap[H.size + 1 + j]? = some (mnI (ty 0) 7) := fun j hj => by
    have := mnF_in (T.setVm vm₁) (ty 6) (ty 0) 5 7 5 j hj
    rw [hF, hTh] at this
    exact this
  have hwf := hW.2.2.2
  have a1 : ∀ j, (j < S.length ∨ 1000 ≤ j) → mnAd ad S.length H.size j = ad j := fun j hj => by
    unfold mnAd
    rw [if_neg (by omega)]
  have a2 : ∀ i, i < 6 → mnAd ad S.length H.size (S.length + i) = H.size + i := fun i hi => by
    unfold mnAd
    rw [if_pos (by omega)]
    omega
  have hwf' : xwf (F, mnIm S.length I, G, J, P, mnQm S.length Q0, S ++ mnS2) := by
    have hlen : (S ++ mnS2).length = S.length + 6 := by rw [List.length_append]; rfl
    refine ⟨by show (S ++ mnS2).length ≤ 950; omega, fun c0 k0 j h => ?_, fun c0 i j h => ?_, fun c0 sh h hq => ?_⟩
    · show j < (S ++ mnS2).length
      have := hwf.2.1 c0 k0 j h
      have : j < S.length := this
      omega
    · show j < (S ++ mnS2).length
      have h : mnQm S.length Q0 c0 i = some j := h
      unfold mnQm at h
      split at h
      · split at h
        · rename_i hi
          cases h
          have := clamp5 hi
          omega
        · cases h
      · have : j < S.length := hwf.2.2.1 c0 i j h
        omega
    · have h : (S ++ mnS2)[c0]? = some sh := h
      by_cases hc : c0 < S.length
      · rw [List.getElem?_append_left hc] at h
        exact hwf.2.2.2 c0 sh h hq
      · rw [List.getElem?_append_right (by omega)] at h
        rcases mnS2_at h with ⟨-, rfl⟩ | ⟨-, -, rfl⟩
        · exact ⟨by decide, by decide, by decide⟩
        · exact ⟨by decide, by decide, by decide⟩
  have hW1 : xAt D ty (mnAd ad S.length H.size) A (F, mnIm S.length I, G, J, P, mnQm S.length Q0, S ++ mnS2) s.heap T1.heap locs := by
    refine xAt_many (S2 := mnS2) hW hA rfl (fun b hb2 sh => ?_) (fun b hb2 => a1 b (Or.inl hb2)) (fun i hi => a2 i hi) (by rw [f1]; omega) hold (fun i sh hi => ?_) hwf'
    · have hb2 : b < S.length := hb2
      have eI : mnIm S.length I b = I b := by funext i; unfold mnIm; rw [if_neg (by omega)]
      have eQ : mnQm S.length Q0 b = Q0 b := by funext i; unfold mnQm; rw [if_neg (by omega)]
      have op : ∀ {r : Option Nat}, (∀ j, r = some j → j < S.length) → r.map (mnAd ad S.length H.size) = r.map ad := fun {r} h => by
        cases r with
        | none => rfl
        | some j => simp only [Option.map_some]; rw [a1 j (Or.inl (h j rfl))]
      have e1 : xcont (mnAd ad S.length H.size) (F, mnIm S.length I, G, J, P, mnQm S.length Q0, S ++ mnS2) b = xcont ad (F, I, G, J, P, Q0, S) b := by
        funext kk
        unfold xcont
        show (if kk = 1 then _ else if kk < 4 then Sum.inl (xfn 0 (mnIm S.length I b)) else Sum.inr (Sum.inr (Sum.inr (Sum.inr (xfn none (fun i => (mnQm S.length Q0 b i).map (mnAd ad S.length H.size))))))) = _
        rw [eI, eQ]
        have e0 : (fun i => (Q0 b i).map (mnAd ad S.length H.size)) = (fun i => (Q0 b i).map ad) := by funext i; exact op (fun j hj => hwf.2.2.1 b i j hj)
        rw [e0]
      have e2 : xfv (mnAd ad S.length H.size) (F, mnIm S.length I, G, J, P, mnQm S.length Q0, S ++ mnS2) b = xfv ad (F, I, G, J, P, Q0, S) b := by
        funext ci kk
        unfold xfv
        show (if xfk ci kk = 2 then _ else if xfk ci kk = 3 then va_rf ((P b kk).map (mnAd ad S.length H.size)) else _) = _
        rw [op (fun j hj => hwf.2.1 b kk j hj)]
      unfold xcell
      rw [e1, e2]
    · rcases mnS2_at hi with ⟨rfl, rfl⟩ | ⟨hi1, hi6, rfl⟩
      · rw [xcell_arr (by decide)]
        show T1.heap[H.size + 0]? = some (vp_cell (ty 6) (_, _))
        rw [Nat.add_zero, f2, mnO_arr]
        refine congrArg some ?_
        show _ = arrV (ty 6) (5 : Int32).toNatClampNeg (fun j => va_rf (xfn none (fun i => (mnQm S.length Q0 (S.length + 0) i).map (mnAd ad S.length H.size)) j))
        rw [e5]
        refine arrV_ext (fun j hj => ?_)
        unfold xfn
        rw [if_pos hj, if_pos (show j < 2147483648 by omega)]
        unfold mnQm
        dsimp only
        rw [if_pos (by omega), if_pos ⟨nI_pos' (by omega), (nI_ltI (b := 5) (by omega) (by omega)).mpr hj⟩, nI_clamp (by omega)]
        simp only [Option.map_some]
        have := a2 (1 + j) (by omega)
        rw [show S.length + 1 + j = S.length + (1 + j) by omega, this, show H.size + (1 + j) = H.size + 1 + j by omega]
      · rw [xcell_arr (by decide)]
        show T1.heap[H.size + i]? = some (vp_cell (ty 0) (_, _))
        have := hrow (i - 1) (by omega)
        rw [show H.size + 1 + (i - 1) = H.size + i by omega] at this
        rw [this]
        refine congrArg some ?_
        show mnI (ty 0) 7 = arrV (ty 0) (7 : Int32).toNatClampNeg (fun j => .int (xfn 0 (mnIm S.length I (S.length + i)) j))
        rw [e7]
        unfold mnI
        rw [arrV_new]
        refine arrV_ext (fun j hj => ?_)
        unfold xfn
        rw [if_pos (show j < 2147483648 by omega)]
        unfold mnIm
        rw [if_pos (by omega)]
  have hk := k T1.heap locs (mnAd ad S.length H.size) (cells + 1 + 5) (slots + 5 + 5 * 7) hW1 a1 (by show cells + 1 + 5 + (S.length + 4 * (F 999 0).toNatClampNeg) = cells + ((S ++ mnS2).length + 4 * (F 999 0).toNatClampNeg); rw [List.length_append]; show _ = cells + (S.length + 6 + _); omega) (by
      have e : xsz (S ++ mnS2) = xsz S + 40 := by unfold xsz; rw [List.map_append, List.sum_append]; rfl
      show slots + 5 + 5 * 7 + (xsz S + 64 * (F 999 0).toNatClampNeg) = slots + (xsz (S ++ mnS2) + 64 * (F 999 0).toNatClampNeg)
      rw [e]
      omega) ⟨_, rfl⟩ (fun v hv => by
      rcases List.mem_cons.mp hv with rfl | h
      · intro j hj
        cases hj
        exact Or.inl (by show S.length < (S ++ mnS2).length; rw [List.length_append]; show _ < S.length + 6; omega)
      · intro j hj
        show j < (S ++ mnS2).length ∨ _
        rw [List.length_append]
        rcases hok v h j hj with h1 | h1
        · exact Or.inl (Nat.lt_of_lt_of_le h1 (Nat.le_add_right _ _))
        · exact Or.inr h1)
  have e3 : (Value.ref S.length :: st).map (xval (mnAd ad S.length H.size)) = .ref T.heap.size :: st.map (xval ad) := by
    rw [List.map_cons, hT]
    have e4 : st.map (xval (mnAd ad S.length H.size)) = st.map (xval ad) := List.map_congr_left fun v hv => by
      cases v with
      | ref j => exact congrArg Value.ref (a1 j (by rcases hok _ hv j rfl with h | h; exact Or.inl h; exact Or.inr (Nat.le_trans (by decide) h)))
      | _ => rfl
    rw [e4]
    have := a2 0 (by omega)
    exact congrArg (fun z => Value.ref z :: st.map (xval ad)) this
  rw [e3] at hk
  obtain ⟨t, b1, b2⟩ := hk T1 rfl X'
  exact ⟨t, step t b1, b2⟩
end SMN
