def va_AOA (t : FieldType) (U : State) : Prop := (Cond.arrayOver (.array t)).before #[] U = true
theorem va_AOA.use {t : FieldType} {A : Array Value} {U : State} (h : va_AOA t U) : (Cond.arrayOver (.array t)).before A U = true := h
def xLen : List Nat := xTX.map List.length
def xByt : List (List Int32) := xTX.map (fun t => t.map nI)
def xScr (E : xE) (b : Nat) (A : Nat → Prop) (U : State) (H : Heap) : Prop := ∃ (L : Nat) (xs : Nat → Int32), va_X b L xs U H ∧ b < H.size ∧ ¬ A b ∧ L < 2147483648 ∧ nI L = E.1.1 ∧ ∀ j, j < L → xs j = E.1.2 (nI j)
def xCtx (p : Program) (s : State) (m : MethodId) (args : Array Value) (c : Code) (cc : ByteArray) (o : Nat) (D : va_G) (ty : Nat → ClassId) : Prop := p.tables.exec = Jvm.exec ∧ c.code = cc ∧ s.vm.findClass (xRn o) = some m.cls ∧ (∀ w ∈ xGW, w.before args s = true) ∧ va_K D vwCl (xTys ty) s
/-- a world at a point -/
def xAt (D : va_G) (ty : Nat → ClassId) (ad : Nat → Nat) (A : Nat → Prop) (M : xM) (H0 H : Heap) (locs : List Loc) : Prop := va_P D vwCl (xwld ty ad M) H ∧ va_D A (xwld ty ad M) ∧ va_S A H0 H locs ∧ xwf M
theorem vp_nar_bool {x : Int32} (h : x = 0 ∨ x = 1) : vp_nar .boolean x = x := by rcases h with rfl | rfl <;> decide
theorem vp_nar_char' {x : Int32} (h0 : 0 ≤ x) (h1 : x < 65536) : vp_nar .char x = x := by
  obtain ⟨j, hj, rfl⟩ := nI_of (x := x) (by grind)
  have h2 : j < 65536 := (nI_ltI (b := 65536) hj (by omega)).mp h1
  unfold vp_nar
  rw [(pk_charN h2).1]
theorem xcell_arrI {ty : Nat → ClassId} {ad : Nat → Nat} {F : Nat → Nat → Int32} {I I' : Nat → Int32 → Int32} {G : Nat → Nat → Int64} {J J' : Nat → Int32 → Int64} {P : Nat → Nat → Option Nat} {Q Q' : Nat → Int32 → Option Nat} {S : List (Nat × Int32)} {b : Nat} {q : Nat × Int32} (hI : I' b = I b) (hJ : J' b = J b) (hQ : Q' b = Q b) : xcell ty ad (F, I', G, J', P, Q', S) b q = xcell ty ad (F, I, G, J, P, Q, S) b q := by
  have h1 : xcont ad (F, I', G, J', P, Q', S) b = xcont ad (F, I, G, J, P, Q, S) b := by
    funext k
    unfold xcont
    rw [show mI (F, I', G, J', P, Q', S) b = mI (F, I, G, J, P, Q, S) b from hI, show mJ (F, I', G, J', P, Q', S) b = mJ (F, I, G, J, P, Q, S) b from hJ, show mQ (F, I', G, J', P, Q', S) b = mQ (F, I, G, J, P, Q, S) b from hQ]
  unfold xcell
  rw [h1]
  rfl
theorem xcell_objF {ty : Nat → ClassId} {ad : Nat → Nat} {F F' : Nat → Nat → Int32} {I : Nat → Int32 → Int32} {G G' : Nat → Nat → Int64} {J : Nat → Int32 → Int64} {P P' : Nat → Nat → Option Nat} {Q : Nat → Int32 → Option Nat} {S : List (Nat × Int32)} {b : Nat} {q : Nat × Int32} (hF : F' b = F b) (hG : G' b = G b) (hP : P' b = P b) : xcell ty ad (F', I, G', J, P', Q, S) b q = xcell ty ad (F, I, G, J, P, Q, S) b q := by
  have e : xfv ad (F', I, G', J, P', Q, S) b = xfv ad (F, I, G, J, P, Q, S) b := by
    funext ci k
    unfold xfv
    rw [show mF (F', I, G', J, P', Q, S) b = mF (F, I, G, J, P, Q, S) b from hF, show mG (F', I, G', J, P', Q, S) b = mG (F, I, G, J, P, Q, S) b from hG, show mP (F', I, G', J, P', Q, S) b = mP (F, I, G, J, P, Q, S) b from hP]
  unfold xcell
  rw [e]
  rfl
section SH
variable {p : Program} {l : Launch} {e : Env} {R : Room} {s : State} {m : MethodId} {args : Array Value} {below : List Frame} {meth : Method} {c : Code} {H : Heap} {locs : List Loc} {cells slots : Nat} {Q : State → Prop}
variable {cc : ByteArray} {o pc pc1 : Nat} {D : va_G} {ty : Nat → ClassId} {ad : Nat → Nat} {A : Nat → Prop} {ls : Array Slot} {E : xE}
/-- an array of ints, of chars, of booleans -/
theorem xcont_i {M : xM} {k cx : Nat} (h : k = 0 ∨ k = 2 ∨ k = 3) : xcont ad M cx k = .inl (xfn 0 (mI M cx)) := by
  unfold xcont
  rcases h with rfl | rfl | rfl <;> rfl
set_option maxHeartbeats 4000000 in
theorem s_hI {ins : Instr} {st st' : List Value} {M M' : xM} (X : xCtx p s m args c cc o D ty) (hE : xScr E (ad xSCR) A s s.heap) (hrel : xrelP cc pc pc1 ins = true) (hp : xhI ins E st M = some (st', M')) (hW : xAt D ty ad A M s.heap H locs) (hok : xokS1 (mS M).length st)
    (k : ∀ (H1 : Heap) (locs1 : List Loc), xAt D ty ad A M' s.heap H1 locs1 → mS M' = mS M → xokS1 (mS M).length st' → W p l e R s m args below meth c H1 locs1 cells slots Q (F0 m pc1 ls (st'.map (xval ad)))) : W p l e R s m args below meth c H locs cells slots Q (F0 m pc ls (st.map (xval ad))) := by
  obtain ⟨hx, hb, hown, hts, hK⟩ := X
  obtain ⟨hP, hD, hS, hwf⟩ := hW
  unfold xhI at hp
  split at hp
  case h_1 =>
    rename_i i cx r F I G J P Q0 S
    obtain ⟨hd, rfl⟩ := xdec_spec (n := 1) hrel
    have hr : xokS1 S.length r := fun v hv => hok v (List.mem_cons_of_mem _ (List.mem_cons_of_mem _ hv))
    split at hp
    · rename_i hc
      subst hc
      split at hp
      · rename_i hi
        cases hp
        obtain ⟨L, xs, hX, hbl, hbA, hL, hL2, hxs⟩ := hE
        rw [← hL2] at hi
        obtain ⟨j, hj, rfl⟩ := nI_of (x := i) (by grind)
        have hjL : j < L := (nI_ltI hj hL).mp hi.2
        refine va_sld hx hb hX hbl hbA hS (vp_in_nI hjL hL) hd ?_
        rw [nI_clamp hj, hxs j hjL]
        exact k H locs ⟨hP, hD, hS, hwf⟩ rfl (fun v hv => by
          rcases List.mem_cons.mp hv with rfl | h
          · exact xok1_int
          · exact hr v h)
      · cases hp
    · split at hp
      · rename_i hi
        cases hp
        obtain ⟨n, hn, h0, h1⟩ := xin_spec hi
        have ha := xwld_at (ty := ty) (ad := ad) (M := (F, I, G, J, P, Q0, S)) hn
        rw [xcell_arr (by omega), xcont_i (Or.inl rfl)] at ha
        refine va_iald hx hb hK hP cx 0 ha rfl (xin_vp h0 h1) hd ?_
        rw [xfn_at h0]
        exact k H locs ⟨hP, hD, hS, hwf⟩ rfl (fun v hv => by
          rcases List.mem_cons.mp hv with rfl | h
          · exact xok1_int
          · exact hr v h)
      · cases hp
  case h_2 =>
    rename_i i cx r F I G J P Q0 S
    obtain ⟨hd, rfl⟩ := xdec_spec (n := 1) hrel
    have hr : xokS1 S.length r := fun v hv => hok v (List.mem_cons_of_mem _ (List.mem_cons_of_mem _ hv))
    split at hp
    · rename_i hi
      cases hp
      obtain ⟨n, hn, h0, h1⟩ := xin_spec hi
      have ha := xwld_at (ty := ty) (ad := ad) (M := (F, I, G, J, P, Q0, S)) hn
      rw [xcell_arr (by omega), xcont_i (Or.inr (Or.inr rfl))] at ha
      refine va_zald hx hb hK hP cx 3 ha rfl (xin_vp h0 h1) hd ?_
      rw [xfn_at h0]
      exact k H locs ⟨hP, hD, hS, hwf⟩ rfl (fun v hv => by
        rcases List.mem_cons.mp hv with rfl | h
        · exact xok1_int
        · exact hr v h)
    · cases hp
  case h_3 =>
    rename_i i cx r F I G J P Q0 S
    obtain ⟨hd, rfl⟩ := xdec_spec (n := 1) hrel
    have hr : xokS1 S.length r := fun v hv => hok v (List.mem_cons_of_mem _ (List.mem_cons_of_mem _ hv))
    split at hp
    · rename_i hi
      cases hp
      obtain ⟨n, hn, h0, h1⟩ := xin_spec hi
      have ha := xwld_at (ty := ty) (ad := ad) (M := (F, I, G, J, P, Q0, S)) hn
      rw [xcell_arr (by omega), xcont_i (Or.inr (Or.inl rfl))] at ha
      refine va_cald hx hb hK hP cx 2 ha rfl (xin_vp h0 h1) hd ?_
      rw [xfn_at h0]
      exact k H locs ⟨hP, hD, hS, hwf⟩ rfl (fun v hv => by
        rcases List.mem_cons.mp hv with rfl | h
        · exact xok1_int
        · exact hr v h)
    · cases hp
  case h_4 =>
    rename_i i cx r F I G J P Q0 S
    obtain ⟨hd, rfl⟩ := xdec_spec (n := 1) hrel
    have hr : xokS1 S.length r := fun v hv => hok v (List.mem_cons_of_mem _ (List.mem_cons_of_mem _ hv))
    split at hp
    · rename_i hi
      cases hp
      obtain ⟨n, hn, h0, h1⟩ := xin_spec hi
      have ha := xwld_at (ty := ty) (ad := ad) (M := (F, I, G, J, P, Q0, S)) hn
      rw [xcell_arr (by omega)] at ha
      refine va_lald hx hb hK hP cx 1 (f := xfn 0 (J cx)) ha rfl (xin_vp h0 h1) hd ?_
      rw [xfn_at h0]
      exact k H locs ⟨hP, hD, hS, hwf⟩ rfl (fun v hv => by
        rcases List.mem_cons.mp hv with rfl | h
        · exact xok1_long
        · exact hr v h)
    · cases hp
  case h_5 =>
    rename_i i cx r F I G J P Q0 S
    obtain ⟨hd, rfl⟩ := xdec_spec (n := 1) hrel
    have hr : xokS1 S.length r := fun v hv => hok v (List.mem_cons_of_mem _ (List.mem_cons_of_mem _ hv))
    split at hp
    · rename_i hi
      cases hp
      have hrv : xokS1 S.length (xvp (Q0 cx i) :: r) := fun v hv => by
        rcases List.mem_cons.mp hv with rfl | h
        · intro j hj
          cases hq : Q0 cx i with
          | none => rw [hq] at hj; cases hj
          | some j' => rw [hq] at hj; cases hj; exact Or.inl (hwf.2.2.1 cx i _ hq)
        · exact hr v h
      have hk := k H locs ⟨hP, hD, hS, hwf⟩ rfl hrv
      have e2 : xval ad (xvp (Q0 cx i)) = va_rf ((Q0 cx i).map ad) := by cases Q0 cx i <;> rfl
      have hk : W p l e R s m args below meth c H locs cells slots Q (F0 m (pc + 1) ls (va_rf (xfn none (fun i => (Q0 cx i).map ad) i.toNatClampNeg) :: r.map (xval ad))) := by
        rw [xfn_at (show (0 : Int32) ≤ i by rcases hi with h | h | h <;> (obtain ⟨n, hn, h0, h1⟩ := xin_spec h; exact h0)), ← e2]
        exact hk
      rcases hi with h | h | h
      · obtain ⟨n, hn, h0, h1⟩ := xin_spec h
        have ha := xwld_at (ty := ty) (ad := ad) (M := (F, I, G, J, P, Q0, S)) hn
        rw [xcell_arr (by omega)] at ha
        exact va_aldq hx hb hK hP cx 4 (f := xfn none (fun i => (Q0 cx i).map ad)) ha rfl (xin_vp h0 h1) hd hk
      · obtain ⟨n, hn, h0, h1⟩ := xin_spec h
        have ha := xwld_at (ty := ty) (ad := ad) (M := (F, I, G, J, P, Q0, S)) hn
        rw [xcell_arr (by omega)] at ha
        exact va_aldq hx hb hK hP cx 5 (f := xfn none (fun i => (Q0 cx i).map ad)) ha rfl (xin_vp h0 h1) hd hk
      · obtain ⟨n, hn, h0, h1⟩ := xin_spec h
        have ha := xwld_at (ty := ty) (ad := ad) (M := (F, I, G, J, P, Q0, S)) hn
        rw [xcell_arr (by omega)] at ha
        have hlt : i.toNatClampNeg < n.toNatClampNeg := Nat.not_le.mp fun q => (xin_vp h0 h1) (Or.inr q)
        exact W.aald (v := va_rf (xfn none (fun i => (Q0 cx i).map ad) i.toNatClampNeg)) (ty := .array .int) hx hb (hP cx _ ha) ((hK.2 6 _ rfl).1 n.toNatClampNeg (fun j => va_rf (xfn none (fun i => (Q0 cx i).map ad) j))) rfl (fun q => by cases q) (by show ¬ (i < 0 ∨ (arrV _ _ _).slots.size ≤ _); rw [arrV_size]; exact xin_vp h0 h1) (by show (arrV _ _ _).slots[_]? = _; rw [arrV_read _ _ hlt]) rfl rfl hd hk
    · cases hp
  case h_6 =>
    rename_i x i cx r F I G J P Q0 S
    obtain ⟨hd, rfl⟩ := xdec_spec (n := 1) hrel
    have hr : xokS1 S.length r := fun v hv => hok v (List.mem_cons_of_mem _ (List.mem_cons_of_mem _ (List.mem_cons_of_mem _ hv)))
    split at hp
    · rename_i hi
      cases hp
      obtain ⟨n, hn, h0, h1⟩ := xin_spec hi
      have ha := xwld_at (ty := ty) (ad := ad) (M := (F, I, G, J, P, Q0, S)) hn
      rw [xcell_arr (by omega), xcont_i (Or.inl rfl)] at ha
      refine va_iast hx hb hK hP hD hS cx 0 ha rfl (xin_vp h0 h1) hd (fun H1 locs1 hP1 hD1 hS1 => ?_)
      have e1 : (xwld ty ad (F, I, G, J, P, Q0, S)).set cx (ad cx, .inl (ty 0, n.toNatClampNeg, .inl (upd (xfn 0 (I cx)) i.toNatClampNeg x))) = xwld ty ad (F, xv I cx i x, G, J, P, Q0, S) := by
        rw [← xwld_set (M := (F, I, G, J, P, Q0, S)) (M' := (F, xv I cx i x, G, J, P, Q0, S)) rfl hn (fun b q hb2 => xcell_arrI (xv_other hb2) rfl rfl), xcell_arr (by omega), xcont_i (Or.inl rfl), ← xfn_upd h0]
        rfl
      exact k H1 locs1 ⟨e1 ▸ hP1, e1 ▸ hD1, hS1, hwf⟩ rfl hr
    · cases hp
  case h_7 =>
    rename_i x i cx r F I G J P Q0 S
    obtain ⟨hd, rfl⟩ := xdec_spec (n := 1) hrel
    have hr : xokS1 S.length r := fun v hv => hok v (List.mem_cons_of_mem _ (List.mem_cons_of_mem _ (List.mem_cons_of_mem _ hv)))
    split at hp
    · rename_i hi
      cases hp
      obtain ⟨n, hn, h0, h1⟩ := xin_spec hi.1
      have ha := xwld_at (ty := ty) (ad := ad) (M := (F, I, G, J, P, Q0, S)) hn
      rw [xcell_arr (by omega), xcont_i (Or.inr (Or.inr rfl))] at ha
      refine va_zast hx hb hK hP hD hS cx 3 ha rfl (xin_vp h0 h1) hd (fun H1 locs1 hP1 hD1 hS1 => ?_)
      rw [vp_nar_bool hi.2] at hP1 hD1
      have e1 : (xwld ty ad (F, I, G, J, P, Q0, S)).set cx (ad cx, .inl (ty 3, n.toNatClampNeg, .inl (upd (xfn 0 (I cx)) i.toNatClampNeg x))) = xwld ty ad (F, xv I cx i x, G, J, P, Q0, S) := by
        rw [← xwld_set (M := (F, I, G, J, P, Q0, S)) (M' := (F, xv I cx i x, G, J, P, Q0, S)) rfl hn (fun b q hb2 => xcell_arrI (xv_other hb2) rfl rfl), xcell_arr (by omega), xcont_i (Or.inr (Or.inr rfl)), ← xfn_upd h0]
        rfl
      exact k H1 locs1 ⟨e1 ▸ hP1, e1 ▸ hD1, hS1, hwf⟩ rfl hr
    · cases hp
  case h_8 =>
    rename_i x i cx r F I G J P Q0 S
    obtain ⟨hd, rfl⟩ := xdec_spec (n := 1) hrel
    have hr : xokS1 S.length r := fun v hv => hok v (List.mem_cons_of_mem _ (List.mem_cons_of_mem _ (List.mem_cons_of_mem _ hv)))
    split at hp
    · rename_i hi
      cases hp
      obtain ⟨n, hn, h0, h1⟩ := xin_spec hi.1
      have ha := xwld_at (ty := ty) (ad := ad) (M := (F, I, G, J, P, Q0, S)) hn
      rw [xcell_arr (by omega), xcont_i (Or.inr (Or.inl rfl))] at ha
      refine va_cast hx hb hK hP hD hS cx 2 ha rfl (xin_vp h0 h1) hd (fun H1 locs1 hP1 hD1 hS1 => ?_)
      rw [vp_nar_char' hi.2.1 hi.2.2] at hP1 hD1
      have e1 : (xwld ty ad (F, I, G, J, P, Q0, S)).set cx (ad cx, .inl (ty 2, n.toNatClampNeg, .inl (upd (xfn 0 (I cx)) i.toNatClampNeg x))) = xwld ty ad (F, xv I cx i x, G, J, P, Q0, S) := by
        rw [← xwld_set (M := (F, I, G, J, P, Q0, S)) (M' := (F, xv I cx i x, G, J, P, Q0, S)) rfl hn (fun b q hb2 => xcell_arrI (xv_other hb2) rfl rfl), xcell_arr (by omega), xcont_i (Or.inr (Or.inl rfl)), ← xfn_upd h0]
        rfl
      exact k H1 locs1 ⟨e1 ▸ hP1, e1 ▸ hD1, hS1, hwf⟩ rfl hr
    · cases hp
  case h_9 =>
    rename_i x i cx r F I G J P Q0 S
    obtain ⟨hd, rfl⟩ := xdec_spec (n := 1) hrel
    have hr : xokS1 S.length r := fun v hv => hok v (List.mem_cons_of_mem _ (List.mem_cons_of_mem _ (List.mem_cons_of_mem _ hv)))
    split at hp
    · rename_i hi
      cases hp
      obtain ⟨n, hn, h0, h1⟩ := xin_spec hi
      have ha := xwld_at (ty := ty) (ad := ad) (M := (F, I, G, J, P, Q0, S)) hn
      rw [xcell_arr (by omega)] at ha
      refine va_last hx hb hK hP hD hS cx 1 (f := xfn 0 (J cx)) ha rfl (xin_vp h0 h1) hd (fun H1 locs1 hP1 hD1 hS1 => ?_)
      have e0 : xcont ad (F, I, G, xv J cx i x, P, Q0, S) cx 1 = .inr (.inl (vp_updL (xfn 0 (J cx)) i.toNatClampNeg x)) := by
        show Sum.inr (Sum.inl (xfn 0 (xv J cx i x cx))) = _
        rw [← xfn_upd h0]
        rfl
      have e1 : (xwld ty ad (F, I, G, J, P, Q0, S)).set cx (ad cx, .inl (ty 1, n.toNatClampNeg, .inr (.inl (vp_updL (xfn 0 (J cx)) i.toNatClampNeg x)))) = xwld ty ad (F, I, G, xv J cx i x, P, Q0, S) := by
        rw [← xwld_set (M := (F, I, G, J, P, Q0, S)) (M' := (F, I, G, xv J cx i x, P, Q0, S)) rfl hn (fun b q hb2 => xcell_arrI rfl (xv_other hb2) rfl), xcell_arr (by omega), e0]
      exact k H1 locs1 ⟨e1 ▸ hP1, e1 ▸ hD1, hS1, hwf⟩ rfl hr
    · cases hp
  case h_10 =>
    rename_i x i cx r F I G J P Q0 S
    obtain ⟨hd, rfl⟩ := xdec_spec (n := 1) hrel
    have hr : xokS1 S.length r := fun v hv => hok v (List.mem_cons_of_mem _ (List.mem_cons_of_mem _ (List.mem_cons_of_mem _ hv)))
    split at hp
    · rename_i hi
      cases hp
      have hx2 : x < S.length := by
        rcases hi with h | h <;> (obtain ⟨n, hn⟩ := xis_spec h.2; exact (List.getElem?_eq_some_iff.mp hn).1)
      have hwf' : xwf (F, I, G, J, P, xv Q0 cx i (some x), S) := ⟨hwf.1, hwf.2.1, fun c0 i0 j0 h0 => by
        have h0 : xv Q0 cx i (some x) c0 i0 = some j0 := h0
        unfold xv at h0
        split at h0
        · cases h0; exact hx2
        · exact hwf.2.2.1 c0 i0 j0 h0, hwf.2.2.2⟩
      have e0 : ∀ kk, (kk = 4 ∨ kk = 5) → 0 ≤ i → xcont ad (F, I, G, J, P, xv Q0 cx i (some x), S) cx kk = .inr (.inr (.inr (.inr (va_up (xfn none (fun i => (Q0 cx i).map ad)) i.toNatClampNeg (some (ad x)))))) := by
        intro kk hkk h0
        have e3 : (fun i' => (xv Q0 cx i (some x) cx i').map ad) = (fun i' => xv (fun a b => (Q0 a b).map ad) cx i (some (ad x)) cx i') := by
          funext i'
          unfold xv
          split <;> rfl
        rcases hkk with rfl | rfl
        · show Sum.inr (Sum.inr (Sum.inr (Sum.inr (xfn none (fun i' => (xv Q0 cx i (some x) cx i').map ad))))) = _
          rw [e3]
          rw [show (fun i' => xv (fun a b => (Q0 a b).map ad) cx i (some (ad x)) cx i') = xv (fun a b => (Q0 a b).map ad) cx i (some (ad x)) cx from rfl, ← xfn_upd h0]
          rfl
        · show Sum.inr (Sum.inr (Sum.inr (Sum.inr (xfn none (fun i' => (xv Q0 cx i (some x) cx i').map ad))))) = _
          rw [e3]
          rw [show (fun i' => xv (fun a b => (Q0 a b).map ad) cx i (some (ad x)) cx i') = xv (fun a b => (Q0 a b).map ad) cx i (some (ad x)) cx from rfl, ← xfn_upd h0]
          rfl
      rcases hi with h | h
      · obtain ⟨n, hn, h0, h1⟩ := xin_spec h.1
        obtain ⟨n2, hn2⟩ := xis_spec h.2
        have ha := xwld_at (ty := ty) (ad := ad) (M := (F, I, G, J, P, Q0, S)) hn
        rw [xcell_arr (by omega)] at ha
        have hv := xwld_at (ty := ty) (ad := ad) (M := (F, I, G, J, P, Q0, S)) hn2
        rw [show (16 : Nat) = 10 + 6 from rfl, xcell_obj] at hv
        refine va_astq hx hb hK hP hD hS cx 4 x 6 (r := (xR 6, xT 6, xN 6)) (f := xfn none (fun i => (Q0 cx i).map ad)) ha rfl hv (xcl_at (by omega)) (xin_vp h0 h1) hd (fun H1 locs1 hP1 hD1 hS1 => ?_)
        have e1 : (xwld ty ad (F, I, G, J, P, Q0, S)).set cx (ad cx, .inl (ty 4, n.toNatClampNeg, .inr (.inr (.inr (.inr (va_up (xfn none (fun i => (Q0 cx i).map ad)) i.toNatClampNeg (some (ad x)))))))) = xwld ty ad (F, I, G, J, P, xv Q0 cx i (some x), S) := by
          rw [← xwld_set (M := (F, I, G, J, P, Q0, S)) (M' := (F, I, G, J, P, xv Q0 cx i (some x), S)) rfl hn (fun b q hb2 => xcell_arrI rfl rfl (xv_other hb2)), xcell_arr (by omega), e0 4 (Or.inl rfl) h0]
        exact k H1 locs1 ⟨e1 ▸ hP1, e1 ▸ hD1, hS1, hwf'⟩ rfl hr
      · obtain ⟨n, hn, h0, h1⟩ := xin_spec h.1
        obtain ⟨n2, hn2⟩ := xis_spec h.2
        have ha := xwld_at (ty := ty) (ad := ad) (M := (F, I, G, J, P, Q0, S)) hn
        rw [xcell_arr (by omega)] at ha
        have hv := xwld_at (ty := ty) (ad := ad) (M := (F, I, G, J, P, Q0, S)) hn2
        rw [show (17 : Nat) = 10 + 7 from rfl, xcell_obj] at hv
        refine va_astq hx hb hK hP hD hS cx 5 x 7 (r := (xR 7, xT 7, xN 7)) (f := xfn none (fun i => (Q0 cx i).map ad)) ha rfl hv (xcl_at (by omega)) (xin_vp h0 h1) hd (fun H1 locs1 hP1 hD1 hS1 => ?_)
        have e1 : (xwld ty ad (F, I, G, J, P, Q0, S)).set cx (ad cx, .inl (ty 5, n.toNatClampNeg, .inr (.inr (.inr (.inr (va_up (xfn none (fun i => (Q0 cx i).map ad)) i.toNatClampNeg (some (ad x)))))))) = xwld ty ad (F, I, G, J, P, xv Q0 cx i (some x), S) := by
          rw [← xwld_set (M := (F, I, G, J, P, Q0, S)) (M' := (F, I, G, J, P, xv Q0 cx i (some x), S)) rfl hn (fun b q hb2 => xcell_arrI rfl rfl (xv_other hb2)), xcell_arr (by omega), e0 5 (Or.inr rfl) h0]
        exact k H1 locs1 ⟨e1 ▸ hP1, e1 ▸ hD1, hS1, hwf'⟩ rfl hr
    · cases hp
  case h_11 =>
    rename_i cx r F I G J P Q0 S
    obtain ⟨hd, rfl⟩ := xdec_spec (n := 1) hrel
    have hr : xokS1 S.length r := fun v hv => hok v (List.mem_cons_of_mem _ hv)
    have hri : ∀ z : Int32, xokS1 S.length (.int z :: r) := fun z v hv => by
      rcases List.mem_cons.mp hv with rfl | h
      · exact xok1_int
      · exact hr v h
    split at hp
    · rename_i hc
      subst hc
      cases hp
      obtain ⟨L, xs, hX, hbl, hbA, hL, hL2, hxs⟩ := hE
      refine va_slen hx hb hX hbl hbA hS hd ?_
      have hk := k H locs ⟨hP, hD, hS, hwf⟩ rfl (hri _)
      rw [← hL2] at hk
      exact hk
    · split at hp
      · rename_i kk n hn
        split at hp
        · rename_i hkk
          cases hp
          have ha := xwld_at (ty := ty) (ad := ad) (M := (F, I, G, J, P, Q0, S)) hn
          rw [xcell_arr hkk] at ha
          have h0 := hwf.2.2.2 _ _ hn hkk
          have hk := k H locs ⟨hP, hD, hS, hwf⟩ rfl (hri n)
          have hk7 : kk < 7 := h0.2.2
          have e0 : Int32.ofNat n.toNatClampNeg = n := nI_back h0.1
          rcases (show kk = 0 ∨ kk = 1 ∨ kk = 2 ∨ kk = 3 ∨ kk = 4 ∨ kk = 5 ∨ kk = 6 by omega) with rfl | rfl | rfl | rfl | rfl | rfl | rfl
          · exact va_alen hx hb hK hP cx 0 ha rfl e0 hd hk
          · exact va_alen hx hb hK hP cx 1 ha rfl e0 hd hk
          · exact va_alen hx hb hK hP cx 2 ha rfl e0 hd hk
          · exact va_alen hx hb hK hP cx 3 ha rfl e0 hd hk
          · exact va_alen hx hb hK hP cx 4 ha rfl e0 hd hk
          · exact va_alen hx hb hK hP cx 5 ha rfl e0 hd hk
          · exact va_alen hx hb hK hP cx 6 ha rfl e0 hd hk
        · cases hp
      · cases hp
  case h_12 => cases hp
end SH
