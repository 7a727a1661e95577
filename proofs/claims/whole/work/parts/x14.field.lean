/-! FIELDS -/
def xsz1 (q : Nat × Int32) : Nat := if q.1 < 10 then q.2.toNatClampNeg else xN (q.1 - 10)
def xsz (S : List (Nat × Int32)) : Nat := (S.map xsz1).sum
def xcs (M : xM) : Nat := (mS M).length + 4 * xgh M
def xss (M : xM) : Nat := xsz (mS M) + 64 * xgh M
theorem xlay_in {ci : Nat} (h : ci < 13) : ∀ w ∈ u_ws (xR ci) (xT ci) (xN ci), w ∈ xGW := by
  rcases (show ci = 0 ∨ ci = 1 ∨ ci = 2 ∨ ci = 3 ∨ ci = 4 ∨ ci = 5 ∨ ci = 6 ∨ ci = 7 ∨ ci = 8 ∨ ci = 9 ∨ ci = 10 ∨ ci = 11 ∨ ci = 12 by omega) with rfl | rfl | rfl | rfl | rfl | rfl | rfl | rfl | rfl | rfl | rfl | rfl | rfl
  · exact fun w hw => xGW_in (lay_X0 w hw) (List.all_eq_true.mp layg_X0 w hw)
  · exact fun w hw => xGW_in (lay_X1 w hw) (List.all_eq_true.mp layg_X1 w hw)
  · exact fun w hw => xGW_in (lay_X2 w hw) (List.all_eq_true.mp layg_X2 w hw)
  · exact fun w hw => xGW_in (lay_X3 w hw) (List.all_eq_true.mp layg_X3 w hw)
  · exact fun w hw => xGW_in (lay_X4 w hw) (List.all_eq_true.mp layg_X4 w hw)
  · exact fun w hw => xGW_in (lay_X5 w hw) (List.all_eq_true.mp layg_X5 w hw)
  · exact fun w hw => xGW_in (lay_X6 w hw) (List.all_eq_true.mp layg_X6 w hw)
  · exact fun w hw => xGW_in (lay_X7 w hw) (List.all_eq_true.mp layg_X7 w hw)
  · exact fun w hw => xGW_in (lay_X8 w hw) (List.all_eq_true.mp layg_X8 w hw)
  · exact fun w hw => xGW_in (lay_X9 w hw) (List.all_eq_true.mp layg_X9 w hw)
  · exact fun w hw => xGW_in (lay_X10 w hw) (List.all_eq_true.mp layg_X10 w hw)
  · exact fun w hw => xGW_in (lay_X11 w hw) (List.all_eq_true.mp layg_X11 w hw)
  · exact fun w hw => xGW_in (lay_X12 w hw) (List.all_eq_true.mp layg_X12 w hw)
theorem xanyF_spec {cc : ByteArray} {o pc pc1 ci k : Nat} {i : Nat → Instr} (h : xanyF cc o pc pc1 ci k i = true) : ∃ idx, (o, idx, ci, k) ∈ xFl ∧ decode cc pc = .ok (i idx, 3) ∧ pc1 = pc + 3 := by
  obtain ⟨⟨a, idx, b, c⟩, hm, h2⟩ := List.any_eq_true.mp h
  simp only [Bool.and_eq_true, beq_iff_eq] at h2
  obtain ⟨rfl, rfl, rfl, h3⟩ := h2
  exact ⟨idx, hm, xdec_spec h3⟩
theorem xfs_set {ad : Nat → Nat} {M M' : xM} {c ci k : Nat} {v : Value} (hk : k < xN ci) (hv : xfv ad M' c ci k = v) (ho : ∀ j, j ≠ k → xfv ad M' c ci j = xfv ad M c ci j) : ((List.range (xN ci)).map (xfv ad M c ci)).set k v = (List.range (xN ci)).map (xfv ad M' c ci) := by
  apply List.ext_getElem?
  intro b
  rw [List.getElem?_set]
  by_cases hb : k = b
  · subst hb
    rw [if_pos rfl, if_pos (by simpa using hk), xfs_at hk, hv]
  · rw [if_neg hb, List.getElem?_map, List.getElem?_map]
    by_cases hq : b < xN ci
    · rw [List.getElem?_range hq]
      simp only [Option.map_some]
      rw [ho b (fun e => hb e.symm)]
    · rw [List.getElem?_eq_none (by simpa using hq)]
      rfl
section SF
variable {p : Program} {l : Launch} {e : Env} {R : Room} {s : State} {m : MethodId} {args : Array Value} {below : List Frame} {meth : Method} {c : Code} {H : Heap} {locs : List Loc} {cells slots : Nat} {Q : State → Prop}
variable {cc : ByteArray} {o pc pc1 : Nat} {D : va_G} {ty : Nat → ClassId} {ad : Nat → Nat} {A : Nat → Prop} {ls : Array Slot} {E : xE}
/-- reading a field -/
theorem s_get {ci k cx : Nat} {M : xM} {rest : List Value} {n : Int32} (X : xCtx p s m args c cc o D ty) (hW : xAt D ty ad A M s.heap H locs) (hci : ci < 13) (hk : k < xN ci) (hl : xanyF cc o pc pc1 ci k .getfield = true) (hn : (mS M)[cx]? = some (10 + ci, n))
    (kk : W p l e R s m args below meth c H locs cells slots Q (F0 m pc1 ls (xfv ad M cx ci k :: rest))) : W p l e R s m args below meth c H locs cells slots Q (F0 m pc ls (.ref (ad cx) :: rest)) := by
  obtain ⟨hx, hb, hown, hts, hK⟩ := X
  obtain ⟨hP, hD, hS, hwf⟩ := hW
  obtain ⟨idx, hm, hd, rfl⟩ := xanyF_spec hl
  have ha := xwld_at (ty := ty) (ad := ad) hn
  rw [xcell_obj] at ha
  exact va_get (own := xRn o) (ref := (xT ci k).1) (C := xR ci) (T := xT ci) (N := xN ci) (ci := ci) hx hb hts (xlay_in hci) hown hK hP cx ha (xcl_at hci) k hk (hts _ (xGW_in (xFl_in _ hm) rfl)) (fun _ h => h) (xfs_at hk) hd kk
/-- writing a field -/
theorem s_put {ci k cx : Nat} {M M' : xM} {rest : List Value} {n : Int32} {v : Value} {init : Bool} (X : xCtx p s m args c cc o D ty) (hin : init = true → meth.name = "<init>") (hW : xAt D ty ad A M s.heap H locs) (hci : ci < 13) (hk : k < xN ci) (hf : xfin o ci k init = true) (hl : xanyF cc o pc pc1 ci k .putfield = true) (hn : (mS M)[cx]? = some (10 + ci, n))
    (hnar : narrow (xTyf ci k) v = v) (hfit : fits (xTyf ci k) v = true) (hS' : mS M' = mS M) (hw' : xwf M') (hv : xfv ad M' cx ci k = v) (ho : ∀ j, j ≠ k → xfv ad M' cx ci j = xfv ad M cx ci j) (hoc : ∀ b q, b ≠ cx → xcell ty ad M' b q = xcell ty ad M b q)
    (kk : ∀ (H1 : Heap) (locs1 : List Loc), xAt D ty ad A M' s.heap H1 locs1 → W p l e R s m args below meth c H1 locs1 cells slots Q (F0 m pc1 ls rest)) : W p l e R s m args below meth c H locs cells slots Q (F0 m pc ls (v :: .ref (ad cx) :: rest)) := by
  obtain ⟨hx, hb, hown, hts, hK⟩ := X
  obtain ⟨hP, hD, hS, hwf⟩ := hW
  obtain ⟨idx, hm, hd, rfl⟩ := xanyF_spec hl
  have ha := xwld_at (ty := ty) (ad := ad) hn
  rw [xcell_obj] at ha
  have e1 : (xwld ty ad M).set cx (ad cx, .inr (ci, ((List.range (xN ci)).map (xfv ad M cx ci)).set k v)) = xwld ty ad M' := by
    rw [← xwld_set hS' hn hoc, xcell_obj, xfs_set hk hv ho]
  have hlen : k < ((List.range (xN ci)).map (xfv ad M cx ci)).length := by simpa using hk
  unfold xfin at hf
  cases hfin : (xT ci k).2.2.2 with
  | false =>
    exact va_put (own := xRn o) (ref := (xT ci k).1) (C := xR ci) (T := xT ci) (N := xN ci) (ci := ci) hx hb hts (xlay_in hci) (xTyf ci) (xty_ok hci) (xnm_ok hci) hown hK hP hD hS cx ha (xcl_at hci) k hk (hts _ (xGW_in (xFl_in _ hm) rfl)) (fun _ h => h) hfin (xty_ok hci k hk) hnar hfit hlen hd (fun H1 locs1 hP1 hD1 hS1 => kk H1 locs1 ⟨e1 ▸ hP1, e1 ▸ hD1, hS1, hw'⟩)
  | true =>
    rw [hfin] at hf
    simp only [Bool.not_true, Bool.false_or, Bool.and_eq_true, decide_eq_true_eq] at hf
    exact va_putF (own := xRn o) (ref := (xT ci k).1) (C := xR ci) (T := xT ci) (N := xN ci) (ci := ci) hx hb hts (xlay_in hci) (xTyf ci) (xty_ok hci) (xnm_ok hci) hown hK hP hD hS cx ha (xcl_at hci) k hk (hts _ (xGW_in (xFl_in _ hm) rfl)) (fun _ h => h) hfin (hin hf.1) hf.2 (xty_ok hci k hk) hnar hfit hlen hd (fun H1 locs1 hP1 hD1 hS1 => kk H1 locs1 ⟨e1 ▸ hP1, e1 ▸ hD1, hS1, hw'⟩)
end SF
theorem xTyf_I {ci k : Nat} (hci : ci < 13) (hk : k < xN ci) (h : xfk ci k = 0) : xTyf ci k = .int := by
  have h1 := xty_ok hci k hk
  rcases xfk_cases ci k with ⟨-, h2⟩ | ⟨h3, -⟩ | ⟨h3, -⟩ | h3
  · rw [h2] at h1
    exact (Option.some.inj ((show parseFieldDescriptor "I" = some .int by decide +kernel).symm.trans h1)).symm
  · omega
  · omega
  · omega
theorem xTyf_Z {ci k : Nat} (hci : ci < 13) (hk : k < xN ci) (h : xfk ci k = 1) : xTyf ci k = .boolean := by
  have h1 := xty_ok hci k hk
  rcases xfk_cases ci k with ⟨h3, -⟩ | ⟨-, h2⟩ | ⟨h3, -⟩ | h3
  · omega
  · rw [h2] at h1
    exact (Option.some.inj ((show parseFieldDescriptor "Z" = some .boolean by decide +kernel).symm.trans h1)).symm
  · omega
  · omega
theorem xTyf_J {ci k : Nat} (hci : ci < 13) (hk : k < xN ci) (h : xfk ci k = 2) : xTyf ci k = .long := by
  have h1 := xty_ok hci k hk
  rcases xfk_cases ci k with ⟨h3, -⟩ | ⟨h3, -⟩ | ⟨-, h2⟩ | h3
  · omega
  · omega
  · rw [h2] at h1
    exact (Option.some.inj ((show parseFieldDescriptor "J" = some .long by decide +kernel).symm.trans h1)).symm
  · omega
